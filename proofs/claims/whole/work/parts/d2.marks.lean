/-! ===== the marked rows: the array of names, the text of the words, String.charAt ===== -/
def exT : String := "worthburn soundpricewake sleepidle call repayhour at   for  to   by   if   then else end  or   and  not  who  now  on   depthdreamwhom task noiseowed "
/-- what lies outside the two objects' cells -/
def exE (t a v : Nat) (A : Nat → Prop) (U : State) (H : Heap) : Prop :=
  bc_N U ∧ (va_Z "SleptFor" "NAMES_OF" "[I" (.ref t) A U H ∧ va_T .int t 4 (fun j => .int (z_nm.getD j 0)) A U H) ∧ (vk_R "SleptFor$Reader" 173 exT a U ∧ vk_S 1 [150] [z_ws] (fun _ => a) (fun _ => v) A U H) ∧ va_Z "java/lang/String" "COMPACT_STRINGS" "Z" (.int 1) A U H ∧ va_Zq "jdk/internal/util/Preconditions" "SIOOBE_FORMATTER" "Ljava/util/function/BiFunction;" A U H
theorem exE_X (t a v : Nat) (A : Nat → Prop) : gx_X (exE t a v A) A := by
  refine ⟨fun U V H hv h => ?_, fun U V H H1 hW hz hk h => ?_⟩
  · obtain ⟨h1, ⟨h2, h3⟩, ⟨h4, h5⟩, h6, h7⟩ := h
    have hA : U.vm.Alike V.vm := by rw [hv]; exact Vm.Alike.refl _
    exact ⟨bc_N_same hv.symm h1, ⟨va_Z.moved hA h2, va_T.moved hA h3⟩, ⟨vk_R.same hv h4, vk_S.moved hA h5⟩, va_Z.moved hA h6, va_Zq.moved hA h7⟩
  · obtain ⟨h1, ⟨h2, h3⟩, ⟨h4, h5⟩, h6, h7⟩ := h
    have hA : U.vm.Alike V.vm := hW.alike
    exact ⟨bc_N_warm hW h1, ⟨(va_Z.moved hA h2).kept hk, (va_T.moved hA h3).kept hk⟩, ⟨vk_R.warm hW h4, (vk_S.moved hA h5).kept hk⟩, (va_Z.moved hA h6).kept hk, (va_Zq.moved hA h7).kept hk⟩
theorem exE_narrow {t a v : Nat} {A B : Nat → Prop} {U : State} {H : Heap} (hAB : ∀ q, B q → A q) (h : exE t a v A U H) : exE t a v B U H := by
  obtain ⟨h1, ⟨h2, h3⟩, ⟨h4, h5⟩, h6, h7⟩ := h
  exact ⟨h1, ⟨h2.narrow hAB, h3.narrow hAB⟩, ⟨h4, h5.narrow hAB⟩, h6.narrow hAB, h7.narrow hAB⟩
/-! contracts of methods that leave the heap as it is -/
def jd_P (E : State → Heap → Prop) (as : List Value) : Array Value → State → Prop := va_Pc as (fun U => E U U.heap)
def jd_Q (r : Option Value) : Array Value → State → Outcome → State → Prop := fun _ st oc t => oc = .returned r ∧ t.heap = st.heap
theorem jd_bl {E : State → Heap → Prop} {A : Nat → Prop} {as : List Value} (hE : gx_X E A) : FrameBlind (jd_P E as) := fun a U g mk q => by
  obtain ⟨q0, q1⟩ := q
  exact ⟨q0, hE.1 U (U.calling g mk a) _ rfl q1⟩
theorem jd_call {p : Program} {l : Launch} {e : Env} {R : Room} {s : State} {m : MethodId} {args : Array Value} {below : List Frame} {meth : Method} {c : Code} {H : Heap} {locs : List Loc} {Q : State → Prop} {pc : Nat} {ls : Array Slot} {rest st0 : List Value} {a : Array Value} {r : Option Value} {cs sl : Nat}
    (hr : va_Run p l e R s m args below meth c H locs cs sl 0 0 (F0 m pc ls st0) rest (jd_Q r a) (fun _ => False)) (kk : W p l e R s m args below meth c H locs cs sl Q (F0 m (pc + 3) ls (r.toList ++ rest))) : W p l e R s m args below meth c H locs cs sl Q (F0 m pc ls st0) := by
  intro T hT X
  obtain ⟨v, st₀, t, T', Lc, h0, X', hL, e1, e2, ⟨hv, hp⟩, st⟩ := hr T hT X
  cases hv
  have hn : Lc = [] := List.eq_nil_iff_forall_not_mem.mpr (fun q hq => hL q hq)
  subst hn
  rw [List.append_nil] at X'
  obtain ⟨t2, a1, b1⟩ := kk T' (by rw [e1, hp, h0]) X'
  exact ⟨t2, st t2 a1, b1⟩
theorem jd_good {y : MethodName} {b : ByteArray} {mL : Nat} {rt : Option FieldType} (hm : Cond.code y b mL rt ∈ tbG) : GoodIn tbG (gx_wd tbG (y, b, mL, rt)) := fun w hw => by
  rcases List.mem_cons.mp hw with rfl | h
  · exact ⟨hm, good_of_word (tbG_good _ hm)⟩
  · exact ⟨h, good_of_word (tbG_good _ h)⟩
theorem jd_tt : gx_X (fun _ _ => True) (fun _ => False) := ⟨fun _ _ _ _ _ => trivial, fun _ _ _ _ _ _ _ _ => trivial⟩
theorem jd_pcN (l : Launch) {i k : Int32} (h0 : ¬ i < 0) (h1 : i < k) : Met l ⟨"jdk/internal/util/Preconditions","checkIndex","(IILjava/util/function/BiFunction;)I"⟩ (gx_wd tbG (⟨"jdk/internal/util/Preconditions","checkIndex","(IILjava/util/function/BiFunction;)I"⟩, prog_21_method_11_code, 3, (Option.some FieldType.int))) { frames := 0, cells := 0, slots := 0, locals := 0 } (jd_P (fun _ _ => True) [.int i, .int k, .null]) (jd_Q (some (.int i))) 0 0 (fun _ => False) := by
  refine Met.ofW (cc := prog_21_method_11_code) (maxL := 3) (ret := (Option.some FieldType.int)) (by decide +kernel) rfl ?_
  intro p e s m args below meth c s₁ B hml hv
  obtain ⟨rfl, hE⟩ := hv
  have hx := B.exec
  have hb := B.bytes
  have hr := B.returns
  have hlocks := B.notSynchronized
  have hts0 := atoms_spec (ws := gx_wd tbG (⟨"jdk/internal/util/Preconditions","checkIndex","(IILjava/util/function/BiFunction;)I"⟩, prog_21_method_11_code, 3, (Option.some FieldType.int))) B.pre
  have hts : ∀ w ∈ tbG, w.before _ s = true := fun w hw => hts0 w (List.mem_cons_of_mem _ hw)
  have hown : s.vm.findClass "jdk/internal/util/Preconditions" = some m.cls := findClass_of_methodNamed B.named
  rw [lg_entry_eq]
  have hl := lv_entry ([.int i, .int k, .null]) (n := 3) (Nat.le_of_ble_eq_true rfl)
  generalize (lg_sl ([.int i, .int k, .null]) ++ List.replicate (3 - (lg_sl ([.int i, .int k, .null])).length) Slot.unset).toArray = ls at hl ⊢
  have hl : lv_has ls 3 [(0, .int i), (1, .int k), (2, .null)] := hl
  refine lv_iload_n hx hb (k := 0) (i := 0) (by decide +kernel) rfl (lv_at hl 0 rfl) ?_
  refine lv_if_lt hx hb (off := 8) (tgt := 9) (by decide +kernel) rfl (fun z => absurd z h0) (fun _ => ?_)
  refine lv_iload_n hx hb (k := 0) (i := 0) (by decide +kernel) rfl (lv_at hl 0 rfl) ?_
  refine lv_iload_n hx hb (k := 1) (i := 1) (by decide +kernel) rfl (lv_at hl 1 rfl) ?_
  refine lv_icmp_lt hx hb (off := 10) (tgt := 16) (by decide +kernel) rfl (fun _ => ?_) (fun z => absurd h1 z)
  refine lv_iload_n hx hb (k := 0) (i := 0) (by decide +kernel) rfl (lv_at hl 0 rfl) ?_
  exact W.iret hx hb hr (fun t ht hW => ⟨rfl, ht⟩) (fun q hq => by cases hq) (by decide +kernel)
theorem jd_pcR (l : Launch) {i k : Int32} {z : Nat} (h0 : ¬ i < 0) (h1 : i < k) : Met l ⟨"jdk/internal/util/Preconditions","checkIndex","(IILjava/util/function/BiFunction;)I"⟩ (gx_wd tbG (⟨"jdk/internal/util/Preconditions","checkIndex","(IILjava/util/function/BiFunction;)I"⟩, prog_21_method_11_code, 3, (Option.some FieldType.int))) { frames := 0, cells := 0, slots := 0, locals := 0 } (jd_P (fun _ _ => True) [.int i, .int k, .ref z]) (jd_Q (some (.int i))) 0 0 (fun _ => False) := by
  refine Met.ofW (cc := prog_21_method_11_code) (maxL := 3) (ret := (Option.some FieldType.int)) (by decide +kernel) rfl ?_
  intro p e s m args below meth c s₁ B hml hv
  obtain ⟨rfl, hE⟩ := hv
  have hx := B.exec
  have hb := B.bytes
  have hr := B.returns
  have hlocks := B.notSynchronized
  have hts0 := atoms_spec (ws := gx_wd tbG (⟨"jdk/internal/util/Preconditions","checkIndex","(IILjava/util/function/BiFunction;)I"⟩, prog_21_method_11_code, 3, (Option.some FieldType.int))) B.pre
  have hts : ∀ w ∈ tbG, w.before _ s = true := fun w hw => hts0 w (List.mem_cons_of_mem _ hw)
  have hown : s.vm.findClass "jdk/internal/util/Preconditions" = some m.cls := findClass_of_methodNamed B.named
  rw [lg_entry_eq]
  have hl := lv_entry ([.int i, .int k, .ref z]) (n := 3) (Nat.le_of_ble_eq_true rfl)
  generalize (lg_sl ([.int i, .int k, .ref z]) ++ List.replicate (3 - (lg_sl ([.int i, .int k, .ref z])).length) Slot.unset).toArray = ls at hl ⊢
  have hl : lv_has ls 3 [(0, .int i), (1, .int k), (2, .ref z)] := hl
  refine lv_iload_n hx hb (k := 0) (i := 0) (by decide +kernel) rfl (lv_at hl 0 rfl) ?_
  refine lv_if_lt hx hb (off := 8) (tgt := 9) (by decide +kernel) rfl (fun z => absurd z h0) (fun _ => ?_)
  refine lv_iload_n hx hb (k := 0) (i := 0) (by decide +kernel) rfl (lv_at hl 0 rfl) ?_
  refine lv_iload_n hx hb (k := 1) (i := 1) (by decide +kernel) rfl (lv_at hl 1 rfl) ?_
  refine lv_icmp_lt hx hb (off := 10) (tgt := 16) (by decide +kernel) rfl (fun _ => ?_) (fun z => absurd h1 z)
  refine lv_iload_n hx hb (k := 0) (i := 0) (by decide +kernel) rfl (lv_at hl 0 rfl) ?_
  exact W.iret hx hb hr (fun t ht hW => ⟨rfl, ht⟩) (fun q hq => by cases hq) (by decide +kernel)
theorem jd_ci (l : Launch) {t a v : Nat} {A : Nat → Prop} {i k : Int32} (h0 : ¬ i < 0) (h1 : i < k) : Met l ⟨"java/lang/String","checkIndex","(II)V"⟩ (gx_wd tbG (⟨"java/lang/String","checkIndex","(II)V"⟩, prog_17_method_155_code, 2, (Option.none : Option FieldType))) { frames := 1, cells := 0, slots := 0, locals := 22 } (jd_P (exE t a v A) [.int i, .int k]) (jd_Q (none)) 0 0 (fun _ => False) := by
  refine Met.ofW (cc := prog_17_method_155_code) (maxL := 2) (ret := (Option.none : Option FieldType)) (by decide +kernel) rfl ?_
  intro p e s m args below meth c s₁ B hml hv
  obtain ⟨rfl, hE⟩ := hv
  have hx := B.exec
  have hb := B.bytes
  have hr := B.returns
  have hlocks := B.notSynchronized
  have hts0 := atoms_spec (ws := gx_wd tbG (⟨"java/lang/String","checkIndex","(II)V"⟩, prog_17_method_155_code, 2, (Option.none : Option FieldType))) B.pre
  have hts : ∀ w ∈ tbG, w.before _ s = true := fun w hw => hts0 w (List.mem_cons_of_mem _ hw)
  have hown : s.vm.findClass "java/lang/String" = some m.cls := findClass_of_methodNamed B.named
  rw [lg_entry_eq]
  have hl := lv_entry ([.int i, .int k]) (n := 2) (Nat.le_of_ble_eq_true rfl)
  generalize (lg_sl ([.int i, .int k]) ++ List.replicate (2 - (lg_sl ([.int i, .int k])).length) Slot.unset).toArray = ls at hl ⊢
  have hl : lv_has ls 2 [(0, .int i), (1, .int k)] := hl
  refine lv_iload_n hx hb (k := 0) (i := 0) (by decide +kernel) rfl (lv_at hl 0 rfl) ?_
  refine lv_iload_n hx hb (k := 1) (i := 1) (by decide +kernel) rfl (lv_at hl 1 rfl) ?_
  have hS : va_S A s.heap s.heap [] := va_S.rf
  rcases hE.2.2.2.2 with hZ | ⟨z, hZ⟩
  · refine va_gets hx hb hZ hS hown (hts _ (tb_m (i := 4) (j := 12) rfl rfl rfl)) (fun _ h => h) (by decide +kernel) ?_
    refine jd_call (va_runS (index := 1059) (As := [.int i, .int k, .null]) (rest := []) ⟨hx, hb, hml, hown, hts⟩ (jd_pcN l h0 h1) ⟨callB_of 3 hts (jd_good (tb_m (i := 4) (j := 16) rfl rfl rfl)) rfl rfl rfl (hts _ (tb_m (i := 1) (j := 19) rfl rfl rfl)) (hts _ (tb_m (i := 4) (j := 14) rfl rfl rfl)) ⟨by decide +kernel, by decide +kernel, by decide +kernel⟩ ⟨by decide, by decide⟩, hts _ (tb_m (i := 4) (j := 15) rfl rfl rfl)⟩ ⟨jd_bl jd_tt, fun U hU hW => ⟨rfl, trivial⟩⟩ rfl rfl hl.1 rfl (lv_room (Nat.le_of_ble_eq_true rfl)) (show decode prog_17_method_155_code 5 = .ok (.invokestatic 1059, 3) by decide +kernel) ⟨Nat.le_refl _, Nat.le_refl _⟩) ?_
    refine lv_pop hx hb (by decide +kernel) rfl ?_
    exact W.vret hx hb hr (fun t ht hW => ⟨rfl, ht⟩) (fun q hq => by cases hq) (by decide +kernel)
  · refine va_gets hx hb hZ hS hown (hts _ (tb_m (i := 4) (j := 12) rfl rfl rfl)) (fun _ h => h) (by decide +kernel) ?_
    refine jd_call (va_runS (index := 1059) (As := [.int i, .int k, .ref z]) (rest := []) ⟨hx, hb, hml, hown, hts⟩ (jd_pcR l h0 h1) ⟨callB_of 3 hts (jd_good (tb_m (i := 4) (j := 16) rfl rfl rfl)) rfl rfl rfl (hts _ (tb_m (i := 1) (j := 19) rfl rfl rfl)) (hts _ (tb_m (i := 4) (j := 14) rfl rfl rfl)) ⟨by decide +kernel, by decide +kernel, by decide +kernel⟩ ⟨by decide, by decide⟩, hts _ (tb_m (i := 4) (j := 15) rfl rfl rfl)⟩ ⟨jd_bl jd_tt, fun U hU hW => ⟨rfl, trivial⟩⟩ rfl rfl hl.1 rfl (lv_room (Nat.le_of_ble_eq_true rfl)) (show decode prog_17_method_155_code 5 = .ok (.invokestatic 1059, 3) by decide +kernel) ⟨Nat.le_refl _, Nat.le_refl _⟩) ?_
    refine lv_pop hx hb (by decide +kernel) rfl ?_
    exact W.vret hx hb hr (fun t ht hW => ⟨rfl, ht⟩) (fun q hq => by cases hq) (by decide +kernel)
theorem ws_c : ∀ j, j < 150 → ((z_ws.getD j 0 &&& 255).toUInt32 % 65536).toInt32 = z_ws.getD j 0 := by decide +kernel
theorem ws_n : ∀ j, j < 150 → narrow .char (.int (z_ws.getD j 0)) = .int (z_ws.getD j 0) := by decide +kernel
theorem jd_lc (l : Launch) {t a v : Nat} {A : Nat → Prop} {j : Nat} (hj : j < 150) : Met l ⟨"java/lang/StringLatin1","charAt","([BI)C"⟩ (gx_wd tbG (⟨"java/lang/StringLatin1","charAt","([BI)C"⟩, prog_18_method_2_code, 2, (Option.some FieldType.char))) { frames := 2, cells := 0, slots := 0, locals := 43 } (jd_P (exE t a v A) [.ref v, .int (nI j)]) (jd_Q (some (.int (z_ws.getD j 0)))) 0 0 (fun _ => False) := by
  refine Met.ofW (cc := prog_18_method_2_code) (maxL := 2) (ret := (Option.some FieldType.char)) (by decide +kernel) rfl ?_
  intro p e s m args below meth c s₁ B hml hv
  obtain ⟨rfl, hE⟩ := hv
  have hx := B.exec
  have hb := B.bytes
  have hr := B.returns
  have hlocks := B.notSynchronized
  have hts0 := atoms_spec (ws := gx_wd tbG (⟨"java/lang/StringLatin1","charAt","([BI)C"⟩, prog_18_method_2_code, 2, (Option.some FieldType.char))) B.pre
  have hts : ∀ w ∈ tbG, w.before _ s = true := fun w hw => hts0 w (List.mem_cons_of_mem _ hw)
  have hown : s.vm.findClass "java/lang/StringLatin1" = some m.cls := findClass_of_methodNamed B.named
  rw [lg_entry_eq]
  have hl := lv_entry ([.ref v, .int (nI j)]) (n := 2) (Nat.le_of_ble_eq_true rfl)
  generalize (lg_sl ([.ref v, .int (nI j)]) ++ List.replicate (2 - (lg_sl ([.ref v, .int (nI j)])).length) Slot.unset).toArray = ls at hl ⊢
  have hl : lv_has ls 2 [(0, .ref v), (1, .int (nI j))] := hl
  have hS : va_S A s.heap s.heap [] := va_S.rf
  have hT := (hE.2.2.1.2.1 0 (by decide)).2.2.2
  have hT : va_T .byte v 150 (fun j => .int (z_ws.getD j 0)) A s s.heap := hT
  have hin : vp_in (nI j) 150 := vp_in_nI hj (by decide)
  refine lv_iload_n hx hb (k := 1) (i := 1) (by decide +kernel) rfl (lv_at hl 1 rfl) ?_
  refine lv_aload_n hx hb (k := 0) (i := 0) (by decide +kernel) rfl (lv_at hl 0 rfl) ?_
  refine va_tlen hx hb hT hS (v := nI 150) rfl (by decide +kernel) ?_
  refine jd_call (va_runS (index := 9) (As := [.int (nI j), .int (nI 150)]) (rest := []) ⟨hx, hb, hml, hown, hts⟩ (jd_ci l (t := t) (a := a) (v := v) (A := A) (nI_pos (by omega)) (nI_lt hj (by decide))) ⟨callB_of 2 hts (jd_good (tb_m (i := 4) (j := 11) rfl rfl rfl)) rfl rfl rfl (hts _ (tb_m (i := 1) (j := 17) rfl rfl rfl)) (hts _ (tb_m (i := 4) (j := 9) rfl rfl rfl)) ⟨by decide +kernel, by decide +kernel, by decide +kernel⟩ ⟨by decide, by decide⟩, hts _ (tb_m (i := 4) (j := 10) rfl rfl rfl)⟩ ⟨jd_bl (exE_X t a v A), fun U hU hW => ⟨rfl, by show exE t a v A U U.heap; rw [hU]; exact (exE_X t a v A).2 s U s.heap s.heap hW (Nat.le_refl _) (fun _ _ _ => rfl) hE⟩⟩ rfl rfl hl.1 rfl (lv_room (Nat.le_of_ble_eq_true rfl)) (show decode prog_18_method_2_code 3 = .ok (.invokestatic 9, 3) by decide +kernel) ⟨Nat.le_refl _, Nat.le_refl _⟩) ?_
  refine lv_aload_n hx hb (k := 0) (i := 0) (by decide +kernel) rfl (lv_at hl 0 rfl) ?_
  refine lv_iload_n hx hb (k := 1) (i := 1) (by decide +kernel) rfl (lv_at hl 1 rfl) ?_
  refine va_tb hx hb hT hS hin (v := .int (z_ws.getD j 0)) (by rw [nI_clamp (by omega)]) (by decide +kernel) ?_
  refine lv_sipush hx hb (n := 255) (v := 255) (by decide +kernel) (by decide +kernel) ?_
  refine lv_iand hx hb (by decide +kernel) ?_
  refine lv_i2c hx hb (by decide +kernel) (ws_c j hj) ?_
  exact W.zret hx hb hr (ws_n j hj) (fun t ht hW => ⟨rfl, ht⟩) (fun q hq => by cases hq) (by decide +kernel)
theorem jd_il (l : Launch) {t a v : Nat} {A : Nat → Prop} : Met l ⟨"java/lang/String","isLatin1","()Z"⟩ (gx_wd tbG (⟨"java/lang/String","isLatin1","()Z"⟩, prog_17_method_154_code, 1, (Option.some FieldType.boolean))) { frames := 0, cells := 0, slots := 0, locals := 0 } (jd_P (exE t a v A) [.ref a]) (jd_Q (some (.int 1))) 0 0 (fun _ => False) := by
  refine Met.ofW (cc := prog_17_method_154_code) (maxL := 1) (ret := (Option.some FieldType.boolean)) (by decide +kernel) rfl ?_
  intro p e s m args below meth c s₁ B hml hv
  obtain ⟨rfl, hE⟩ := hv
  have hx := B.exec
  have hb := B.bytes
  have hr := B.returns
  have hlocks := B.notSynchronized
  have hts0 := atoms_spec (ws := gx_wd tbG (⟨"java/lang/String","isLatin1","()Z"⟩, prog_17_method_154_code, 1, (Option.some FieldType.boolean))) B.pre
  have hts : ∀ w ∈ tbG, w.before _ s = true := fun w hw => hts0 w (List.mem_cons_of_mem _ hw)
  have hown : s.vm.findClass "java/lang/String" = some m.cls := findClass_of_methodNamed B.named
  rw [lg_entry_eq]
  have hl := lv_entry ([.ref a]) (n := 1) (Nat.le_of_ble_eq_true rfl)
  generalize (lg_sl ([.ref a]) ++ List.replicate (1 - (lg_sl ([.ref a])).length) Slot.unset).toArray = ls at hl ⊢
  have hl : lv_has ls 1 [(0, .ref a)] := hl
  have hS : va_S A s.heap s.heap [] := va_S.rf
  have hO := hE.2.2.1.2.1 0 (by decide)
  refine va_gets hx hb hE.2.2.2.1 hS hown (hts _ (tb_m (i := 4) (j := 4) rfl rfl rfl)) (fun _ h => h) (by decide +kernel) ?_
  refine lv_if_eq hx hb (off := 14) (tgt := 17) (by decide +kernel) rfl (fun z => absurd z (by decide)) (fun _ => ?_)
  refine lv_aload_n hx hb (k := 0) (i := 0) (by decide +kernel) rfl (lv_at hl 0 rfl) ?_
  refine vk_getf hx hb hO.2.1 hS hown (hts _ (tb_m (i := 8) (j := 223) rfl rfl rfl)) (fun _ h => h) (by decide +kernel) ?_
  refine lv_if_ne hx hb (off := 7) (tgt := 17) (by decide +kernel) rfl (fun z => absurd rfl z) (fun _ => ?_)
  refine lv_iconst hx hb (n := 1) (v := 1) (by decide +kernel) (by decide +kernel) ?_
  refine lv_goto hx hb (off := 4) (tgt := 18) (by decide +kernel) rfl ?_
  exact W.zret hx hb hr rfl (fun t ht hW => ⟨rfl, ht⟩) (fun q hq => by cases hq) (by decide +kernel)
theorem jd_ca (l : Launch) {t a v : Nat} {A : Nat → Prop} {j : Nat} (hj : j < 150) : Met l ⟨"java/lang/String","charAt","(I)C"⟩ (gx_wd tbG (⟨"java/lang/String","charAt","(I)C"⟩, prog_17_method_56_code, 2, (Option.some FieldType.char))) { frames := 3, cells := 0, slots := 0, locals := 64 } (jd_P (exE t a v A) [.ref a, .int (nI j)]) (jd_Q (some (.int (z_ws.getD j 0)))) 0 0 (fun _ => False) := by
  refine Met.ofW (cc := prog_17_method_56_code) (maxL := 2) (ret := (Option.some FieldType.char)) (by decide +kernel) rfl ?_
  intro p e s m args below meth c s₁ B hml hv
  obtain ⟨rfl, hE⟩ := hv
  have hx := B.exec
  have hb := B.bytes
  have hr := B.returns
  have hlocks := B.notSynchronized
  have hts0 := atoms_spec (ws := gx_wd tbG (⟨"java/lang/String","charAt","(I)C"⟩, prog_17_method_56_code, 2, (Option.some FieldType.char))) B.pre
  have hts : ∀ w ∈ tbG, w.before _ s = true := fun w hw => hts0 w (List.mem_cons_of_mem _ hw)
  have hown : s.vm.findClass "java/lang/String" = some m.cls := findClass_of_methodNamed B.named
  rw [lg_entry_eq]
  have hl := lv_entry ([.ref a, .int (nI j)]) (n := 2) (Nat.le_of_ble_eq_true rfl)
  generalize (lg_sl ([.ref a, .int (nI j)]) ++ List.replicate (2 - (lg_sl ([.ref a, .int (nI j)])).length) Slot.unset).toArray = ls at hl ⊢
  have hl : lv_has ls 2 [(0, .ref a), (1, .int (nI j))] := hl
  have hS : va_S A s.heap s.heap [] := va_S.rf
  have hO := hE.2.2.1.2.1 0 (by decide)
  have hE' : ∀ U : State, U.heap = s.heap → s.WarmedH U.vm → exE t a v A U U.heap := fun U hU hW => by show exE t a v A U U.heap; rw [hU]; exact (exE_X t a v A).2 s U s.heap s.heap hW (Nat.le_refl _) (fun _ _ _ => rfl) hE
  refine lv_aload_n hx hb (k := 0) (i := 0) (by decide +kernel) rfl (lv_at hl 0 rfl) ?_
  refine jd_call (va_runV (index := 492) (C := "java/lang/String") (As := []) (rest := []) ⟨hx, hb, hml, hown, hts⟩ (jd_il l (t := t) (a := a) (v := v) (A := A)) ⟨callB_of 0 hts (jd_good (tb_m (i := 4) (j := 3) rfl rfl rfl)) rfl rfl rfl (hts _ (tb_m (i := 1) (j := 17) rfl rfl rfl)) (hts _ (tb_m (i := 4) (j := 0) rfl rfl rfl)) ⟨by decide +kernel, by decide +kernel, by decide +kernel⟩ ⟨by decide, by decide⟩, hts _ (tb_m (i := 4) (j := 1) rfl rfl rfl), hts _ (tb_m (i := 4) (j := 2) rfl rfl rfl)⟩ ⟨jd_bl (exE_X t a v A), ?_, fun U hU hW => ⟨rfl, hE' U hU hW⟩⟩ rfl rfl hl.1 rfl (lv_room (Nat.le_of_ble_eq_true rfl)) (show decode prog_17_method_56_code 1 = .ok (.invokevirtual 492, 3) by decide +kernel) ⟨Nat.le_refl _, Nat.le_refl _⟩) ?_
  · obtain ⟨cell, c1, c2, c3, -⟩ := hO.1
    exact ⟨cell, c1, c2, c3⟩
  refine lv_if_eq hx hb (off := 12) (tgt := 16) (by decide +kernel) rfl (fun z => absurd z (by decide)) (fun _ => ?_)
  refine lv_aload_n hx hb (k := 0) (i := 0) (by decide +kernel) rfl (lv_at hl 0 rfl) ?_
  refine vk_getf hx hb hO.2.2.1 hS hown (hts _ (tb_m (i := 8) (j := 224) rfl rfl rfl)) (fun _ h => h) (by decide +kernel) ?_
  refine lv_iload_n hx hb (k := 1) (i := 1) (by decide +kernel) rfl (lv_at hl 1 rfl) ?_
  refine jd_call (va_runS (index := 495) (As := [.ref v, .int (nI j)]) (rest := []) ⟨hx, hb, hml, hown, hts⟩ (jd_lc l (t := t) (a := a) (v := v) (A := A) hj) ⟨callB_of 2 hts (jd_good (tb_m (i := 4) (j := 8) rfl rfl rfl)) rfl rfl rfl (hts _ (tb_m (i := 1) (j := 18) rfl rfl rfl)) (hts _ (tb_m (i := 4) (j := 6) rfl rfl rfl)) ⟨by decide +kernel, by decide +kernel, by decide +kernel⟩ ⟨by decide, by decide⟩, hts _ (tb_m (i := 4) (j := 7) rfl rfl rfl)⟩ ⟨jd_bl (exE_X t a v A), fun U hU hW => ⟨rfl, hE' U hU hW⟩⟩ rfl rfl hl.1 rfl (lv_room (Nat.le_of_ble_eq_true rfl)) (show decode prog_17_method_56_code 12 = .ok (.invokestatic 495, 3) by decide +kernel) ⟨Nat.le_refl _, Nat.le_refl _⟩) ?_
  exact W.zret hx hb hr (ws_n j hj) (fun t ht hW => ⟨rfl, ht⟩) (fun q hq => by cases hq) (by decide +kernel)
def mkf_ (mi : Nat) : Nat → List gx_I → List (Nat × Nat × gx_I)
  | _, [] => []
  | i, x :: t => match x.2.2.1 with
    | .retAddr _ => (mi, i, x) :: mkf_ mi (i + 1) t
    | _ => mkf_ mi (i + 1) t
def mk_a : Nat → List (List gx_I) → List (Nat × Nat × gx_I)
  | _, [] => []
  | mi, t :: ts => mkf_ mi 0 t ++ mk_a (mi + 1) ts
theorem mkf_in {mi : Nat} : ∀ (T : List gx_I) (b i : Nat) (pc : Nat) (ins : Instr) (a : Nat) (tg ps : List Nat), T[i]? = some (pc, ins, Value.retAddr a, tg, ps) → (mi, b + i, pc, ins, Value.retAddr a, tg, ps) ∈ mkf_ mi b T := by
  intro T
  induction T with
  | nil => intro b i pc ins a tg ps h; simp at h
  | cons x t ih =>
    intro b i pc ins a tg ps h
    cases i with
    | zero =>
      simp at h
      subst h
      exact List.mem_cons_self
    | succ i =>
      have h2 := ih (b + 1) i pc ins a tg ps (by simpa using h)
      rw [show b + 1 + i = b + (i + 1) by omega] at h2
      rw [mkf_]
      split
      · exact List.mem_cons_of_mem _ h2
      · exact h2
theorem mk_a_in : ∀ (Ts : List (List gx_I)) (b mi i : Nat) (T : List gx_I) (pc : Nat) (ins : Instr) (a : Nat) (tg ps : List Nat), Ts[mi]? = some T → T[i]? = some (pc, ins, Value.retAddr a, tg, ps) → (b + mi, i, pc, ins, Value.retAddr a, tg, ps) ∈ mk_a b Ts := by
  intro Ts
  induction Ts with
  | nil => intro b mi i T pc ins a tg ps h; simp at h
  | cons T0 ts ih =>
    intro b mi i T pc ins a tg ps h hi
    cases mi with
    | zero =>
      simp at h
      subst h
      have h2 := mkf_in (mi := b) T0 0 i pc ins a tg ps hi
      rw [Nat.zero_add] at h2
      exact List.mem_append_left _ h2
    | succ mi =>
      have h2 := ih (b + 1) mi i T pc ins a tg ps (by simpa using h) hi
      rw [show b + 1 + mi = b + (mi + 1) by omega] at h2
      exact List.mem_append_right _ h2
set_option maxRecDepth 1000000 in
theorem mk_all : mk_a 0 ttL = [(82, 7, 15, .getstatic 132, .retAddr 0, [1000, 0], []), (82, 10, 22, .iaload, .retAddr 0, [1001, 2], []), (92, 26, 44, .ldc 173, .retAddr 0, [1002, 0], []), (92, 32, 52, .invokevirtual 175, .retAddr 0, [1003, 2], [])] := rfl
set_option maxRecDepth 100000 in
theorem tt_none {mi : Nat} (h : 271 ≤ mi) : TT0 mi = [] := by
  have e : gx_nth ttL mi = none := by
    rw [gx_nth_eq]
    exact List.getElem?_eq_none (by show 271 ≤ mi; exact h)
  rw [TT0, e]
theorem mk_Sp {d mj : Nat} {as : List Value} {σ σ1 : gx_R} {r : Option Value} (hm : 1000 ≤ mj) (h : gx_Em lay0 TT0 mt0 z_Sp d mj as σ r σ1) : z_Sp mj as σ r σ1 := by
  cases d with
  | zero => exact h.elim
  | succ d =>
    rcases h with ⟨-, h⟩ | h
    · rw [tt_none (by omega)] at h
      exact (h (fun _ _ _ _ => False) (fun i ls st σ x o P o' y hx => by rw [gx_nth_eq] at hx; simp at hx) (fun _ _ _ _ _ _ z => z)).elim
    · exact h
theorem mk_inv {C : gx_C} {mj n : Nat} {o o' : List gx_O} {i : Nat} {ls st : List Value} {σ : gx_R} {P : List Prop} {y : gx_S} (h : gx_mk C [mj, n] o i ls st σ = some (P, o', y)) (hP : gx_all P) : ∃ r σ1, (n ≤ st.length ∧ gx_ok8 (st.drop n) = true) ∧ C mj ((st.take n).reverse) σ r σ1 ∧ y = .inl (i + 1, ls, r.toList ++ st.drop n, σ1) := by
  cases o with
  | nil => cases h
  | cons x o => cases x with
    | inl b => cases h
    | inr q =>
      obtain ⟨r, σ1⟩ := q
      have h : (bif Nat.ble n st.length && gx_ok8 (st.drop n) then some ([C mj ((st.take n).reverse) σ r σ1], o, (.inl (i + 1, ls, r.toList ++ st.drop n, σ1) : gx_S)) else none) = some (P, o', y) := h
      cases hb : (Nat.ble n st.length && gx_ok8 (st.drop n)) with
      | false => rw [hb] at h; cases h
      | true =>
        rw [hb] at h
        simp only [cond_true, Option.some.injEq, Prod.mk.injEq] at h
        obtain ⟨rfl, rfl, rfl⟩ := h
        simp only [Bool.and_eq_true] at hb
        exact ⟨r, σ1, ⟨Nat.le_of_ble_eq_true hb.1, hb.2⟩, hP.1, rfl⟩
set_option maxHeartbeats 4000000 in
set_option maxRecDepth 100000 in
theorem xt_ok {G : Nat → ClassId} {L : Nat → Nat} {D : va_G} {t a v : Nat} {A : Nat → Prop} {l : Launch} (hL0 : L 200 = t) (hL1 : L 201 = a) : gx_Xt lay0 NC0 G L D cl0 (exE t a v A) A tbG TT0 mt0 z_Sp l := by
  intro d mi p e s m args below meth c Q r σ' hAt hC pc ins x tg ps o o' i ls st σ P y hT hm hP hn
  have hin : (mi, i, pc, ins, Value.retAddr x, tg, ps) ∈ mk_a 0 ttL := by
    cases hz : gx_nth ttL mi with
    | none => rw [TT0, hz, gx_nth_eq] at hT; simp at hT
    | some T =>
      rw [TT0, hz, gx_nth_eq] at hT
      have h2 := mk_a_in ttL 0 mi i T pc ins x tg ps (by rw [← gx_nth_eq]; exact hz) hT
      rw [Nat.zero_add] at h2
      exact h2
  rw [mk_all] at hin
  simp only [List.mem_cons, List.not_mem_nil, or_false, Prod.mk.injEq] at hin
  rcases hin with ⟨rfl, rfl, rfl, rfl, -, rfl, rfl⟩ | ⟨rfl, rfl, rfl, rfl, -, rfl, rfl⟩ | ⟨rfl, rfl, rfl, rfl, -, rfl, rfl⟩ | ⟨rfl, rfl, rfl, rfl, -, rfl, rfl⟩
  · obtain ⟨r1, σ1, -, hc, rfl⟩ := mk_inv hm hP
    obtain ⟨rfl, hs⟩ := mk_Sp (by omega) hc
    have hr1 : r1 = some (.ref 200) := by
      rcases hs with ⟨-, -, h⟩ | ⟨h, -⟩ | ⟨h, -⟩ | ⟨h, -⟩
      · exact h
      · exact absurd h (by decide)
      · exact absurd h (by decide)
      · exact absurd h (by decide)
    subst hr1
    intro H locs lsA hl hW hS
    obtain ⟨hx, hb, hml, hown, hts, hK, hD, hr, hlocks, hEx, hE0⟩ := hAt
    have hb : c.code = prog_8_method_14_code := hb
    have hown : s.vm.findClass "SleptFor$Reader" = some m.cls := hown
    have hk := hn H locs lsA hl hW hS
    have e1 : gx_pc (TT0 82) 7 = 15 := rfl
    have e2 : gx_pc (TT0 82) (7 + 1) = 18 := rfl
    rw [e2] at hk
    rw [e1]
    have hk : W p l e (gx_rm (d + 1)) s m args below meth c H locs 0 0 Q (F0 m (15 + 3) lsA (.ref (L 200) :: st.map (gx_v L))) := hk
    rw [hL0] at hk
    exact va_getsN (C := "SleptFor") (ref := "SleptFor") (host := "SleptFor") hx hb hE0.2.1.1 hS hown (va_Nw.use rfl (hE0.1.1 _ (nest_m (j := 8) rfl))) (fun _ h => h) (by decide +kernel) hk
  · obtain ⟨r1, σ1, ⟨hlen, -⟩, hc, rfl⟩ := mk_inv hm hP
    obtain ⟨rfl, hs⟩ := mk_Sp (by omega) hc
    rcases hs with ⟨h, -⟩ | ⟨-, j, has, hj, rfl⟩ | ⟨h, -⟩ | ⟨h, -⟩
    · exact absurd h (by decide)
    · rcases st with _ | ⟨x1, _ | ⟨x2, rest⟩⟩
      · simp at hlen
      · simp at hlen
      simp at has
      obtain ⟨rfl, rfl⟩ := has
      intro H locs lsA hl hW hS
      obtain ⟨hx, hb, hml, hown, hts, hK, hD, hr, hlocks, hEx, hE0⟩ := hAt
      have hb : c.code = prog_8_method_14_code := hb
      have hk := hn H locs lsA hl hW hS
      have e1 : gx_pc (TT0 82) 10 = 22 := rfl
      have e2 : gx_pc (TT0 82) (10 + 1) = 23 := rfl
      rw [e2] at hk
      rw [e1]
      have hk : W p l e (gx_rm (d + 1)) s m args below meth c H locs 0 0 Q (F0 m (22 + 1) lsA (.int (z_nmAt j) :: rest.map (gx_v L))) := hk
      show W p l e (gx_rm (d + 1)) s m args below meth c H locs 0 0 Q (F0 m 22 lsA (.int j :: .ref (L 200) :: rest.map (gx_v L)))
      rw [hL0]
      exact va_ti hx hb hE0.2.1.2 hS hj (v := .int (z_nmAt j)) rfl (by decide +kernel) hk
    · exact absurd h (by decide)
    · exact absurd h (by decide)
  · obtain ⟨r1, σ1, -, hc, rfl⟩ := mk_inv hm hP
    obtain ⟨rfl, hs⟩ := mk_Sp (by omega) hc
    have hr1 : r1 = some (.ref 201) := by
      rcases hs with ⟨h, -⟩ | ⟨h, -⟩ | ⟨-, -, h⟩ | ⟨h, -⟩
      · exact absurd h (by decide)
      · exact absurd h (by decide)
      · exact h
      · exact absurd h (by decide)
    subst hr1
    intro H locs lsA hl hW hS
    obtain ⟨hx, hb, hml, hown, hts, hK, hD, hr, hlocks, hEx, hE0⟩ := hAt
    have hb : c.code = prog_8_method_24_code := hb
    have hown : s.vm.findClass "SleptFor$Reader" = some m.cls := hown
    have hk := hn H locs lsA hl hW hS
    have e1 : gx_pc (TT0 92) 26 = 44 := rfl
    have e2 : gx_pc (TT0 92) (26 + 1) = 46 := rfl
    rw [e2] at hk
    rw [e1]
    have hk : W p l e (gx_rm (d + 1)) s m args below meth c H locs 0 0 Q (F0 m (44 + 2) lsA (.ref (L 201) :: st.map (gx_v L))) := hk
    rw [hL1] at hk
    exact va_ldcS hx hb hown hE0.2.2.1.1 (by decide +kernel) hk
  · obtain ⟨r1, σ1, ⟨hlen, h8⟩, hc, rfl⟩ := mk_inv hm hP
    cases d with
    | zero => exact hc.elim
    | succ d =>
    obtain ⟨rfl, hs⟩ := mk_Sp (by omega) hc
    rcases hs with ⟨h, -⟩ | ⟨h, -⟩ | ⟨h, -⟩ | ⟨-, j, has, hj, rfl⟩
    · exact absurd h (by decide)
    · exact absurd h (by decide)
    · exact absurd h (by decide)
    · rcases st with _ | ⟨x1, _ | ⟨x2, rest⟩⟩
      · simp at hlen
      · simp at hlen
      simp at has
      obtain ⟨rfl, rfl⟩ := has
      obtain ⟨j, hj2, rfl⟩ := vp_in_of hj (by decide)
      intro H locs lsA hl hW hS
      obtain ⟨hx, hb, hml, hown, hts, hK, hD, hr, hlocks, hEx, hE0⟩ := hAt
      have hb : c.code = prog_8_method_24_code := hb
      have hml : c.maxLocals = 6 := hml
      have hown : s.vm.findClass "SleptFor$Reader" = some m.cls := hown
      have hk := hn H locs lsA hl hW hS
      have e1 : gx_pc (TT0 92) 32 = 52 := rfl
      have e2 : gx_pc (TT0 92) (32 + 1) = 55 := rfl
      rw [e2] at hk
      rw [e1]
      have hk : W p l e (gx_rm (d + 1 + 1)) s m args below meth c H locs 0 0 Q (F0 m (52 + 3) lsA (.int (z_chAt (nI j)) :: rest.map (gx_v L))) := hk
      have ez : z_chAt (nI j) = z_ws.getD j 0 := by
        rw [z_chAt, nI_clamp (by omega)]
      rw [ez] at hk
      show W p l e (gx_rm (d + 1 + 1)) s m args below meth c H locs 0 0 Q (F0 m 52 lsA (.int (nI j) :: .ref (L 201) :: rest.map (gx_v L)))
      rw [hL1]
      have hO := hE0.2.2.1.2.1 0 (by decide)
      have h8 : ((rest.map (gx_v L)).map fun v => v.category).sum ≤ 8 := by
        have h9 : (rest.map Value.category).sum ≤ 8 := Nat.le_of_ble_eq_true h8
        simpa [List.map_map, Function.comp_def, gx_v_cat] using h9
      refine jd_call (r := some (.int (z_ws.getD j 0))) (va_runV (index := 175) (C := "java/lang/String") (As := [.int (nI j)]) (rest := rest.map (gx_v L)) ⟨hx, hb, hml, hown, hts⟩ (jd_ca l (t := t) (a := a) (v := v) (A := A) hj2) ⟨callB_of 1 hts (jd_good (tb_m (i := 3) (j := 239) rfl rfl rfl)) rfl rfl rfl (hts _ (tb_m (i := 1) (j := 17) rfl rfl rfl)) (hts _ (tb_m (i := 3) (j := 236) rfl rfl rfl)) ⟨by decide +kernel, by decide +kernel, by decide +kernel⟩ ⟨by show 3 + 1 ≤ d + 1 + 1 + 4; omega, by show 8 + (2 + 11) + 64 ≤ 60 * (d + 1 + 1) + 200; omega⟩, hts _ (tb_m (i := 3) (j := 237) rfl rfl rfl), hts _ (tb_m (i := 3) (j := 238) rfl rfl rfl)⟩ ⟨jd_bl (exE_X t a v A), ?_, fun U hU hWm => ⟨rfl, by show exE t a v A U U.heap; rw [hU]; exact hEx.2 s U s.heap H hWm hS.1 hS.2.1 hE0⟩⟩ rfl rfl hl.1 rfl (lv_room h8) (show decode prog_8_method_24_code 52 = .ok (.invokevirtual 175, 3) by decide +kernel) ⟨Nat.le_refl _, Nat.le_refl _⟩) hk
      obtain ⟨cell, c1, c2, c3, -⟩ := hO.1.kept hS.2.1
      exact ⟨cell, c1, c2, c3⟩
