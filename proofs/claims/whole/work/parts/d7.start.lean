/-! ===== from the law's entry to its end ===== -/
theorem cl0_in : ∀ (ci : Nat) (C : String) (F : u_T) (N : Nat), cl0[ci]? = some (C, F, N) → Cond.instantiable C N ∈ tbG := by
  intro ci C F N h
  have hlt : ci < 13 := (List.getElem?_eq_some_iff.mp h).1
  by_cases h0 : ci = 0
  · subst h0; cases h; exact (tb_m (i := 2) (j := 66) rfl rfl rfl)
  by_cases h1 : ci = 1
  · subst h1; cases h; exact (tb_m (i := 1) (j := 36) rfl rfl rfl)
  by_cases h2 : ci = 2
  · subst h2; cases h; exact (tb_m (i := 2) (j := 47) rfl rfl rfl)
  by_cases h3 : ci = 3
  · subst h3; cases h; exact (tb_m (i := 1) (j := 84) rfl rfl rfl)
  by_cases h4 : ci = 4
  · subst h4; cases h; exact (tb_m (i := 2) (j := 99) rfl rfl rfl)
  by_cases h5 : ci = 5
  · subst h5; cases h; exact (tb_m (i := 2) (j := 187) rfl rfl rfl)
  by_cases h6 : ci = 6
  · subst h6; cases h; exact (tb_m (i := 1) (j := 192) rfl rfl rfl)
  by_cases h7 : ci = 7
  · subst h7; cases h; exact (tb_m (i := 2) (j := 155) rfl rfl rfl)
  by_cases h8 : ci = 8
  · subst h8; cases h; exact (tb_m (i := 1) (j := 141) rfl rfl rfl)
  by_cases h9 : ci = 9
  · subst h9; cases h; exact (tb_m (i := 1) (j := 198) rfl rfl rfl)
  by_cases h10 : ci = 10
  · subst h10; cases h; exact (tb_m (i := 1) (j := 30) rfl rfl rfl)
  by_cases h11 : ci = 11
  · subst h11; cases h; exact (tb_m (i := 1) (j := 22) rfl rfl rfl)
  by_cases h12 : ci = 12
  · subst h12; cases h; exact (tb_m (i := 5) (j := 206) rfl rfl rfl)
  omega
theorem arr_K {args : Array Value} {s : State} {ty : FieldType} (hty : ∀ C, ty ≠ .object C) (h : (Cond.arrayClass ty).before args s = true) : ∃ cA, ArrOfT s cA ty ∧ va_RA s cA ty := by
  obtain ⟨cA, k, comp, h1, h2, h3⟩ := Cond.arrayClass_spec h
  refine ⟨cA, fun n z => ⟨(fun k h => by cases h), k, h2, comp, h3⟩, ?_⟩
  cases ty with
  | object C => exact absurd rfl (hty C)
  | _ => exact h1
theorem arr_KT {args : Array Value} {s : State} {C : String} (h : (Cond.arrayOver (.object C)).before args s = true) : ∃ cA, ArrOfT s cA (.object C) ∧ va_RA s cA (.object C) := by
  obtain ⟨comp, cA, k, h1, h2, h3, h4, h5⟩ := Cond.arrayOver_spec h
  exact ⟨cA, fun n z => ⟨(fun k h => by cases h), k, h3, comp, h4⟩, k, comp, h3, h4, h1, h5⟩
theorem world_0 {args : Array Value} {s : State} (hts : ∀ w ∈ tbG, w.before args s = true) (hT : (Cond.arrayOver (.object "SleptFor$Text")).before args s = true) (c0 : ClassId) : ∃ (D : va_G) (G : Nat → ClassId), va_K D cl0 (gx_ty G) s := by
  have hk : ∀ c : Nat, ∃ z : ClassId × (Nat → Nat), ∀ q : vw_C, cl0[c]? = some q → u_Kn s q.1 q.2.1 q.2.2 z.1 z.2 := by
    intro c
    cases hq : cl0[c]? with
    | none => exact ⟨(c0, fun _ => 0), fun q h => by cases h⟩
    | some q =>
      obtain ⟨C, F, N⟩ := q
      obtain ⟨cC, iS, h⟩ := u_known (C := C) (T := F) (N := N) (n := N) hts (cl0_ok c C F N hq).1 (hts _ (cl0_in c C F N hq))
      exact ⟨(cC, iS), fun q h' => by cases h'; exact h⟩
  obtain ⟨f, hf⟩ := Classical.axiomOfChoice hk
  obtain ⟨g0, a0, b0⟩ := arr_K (ty := .int) (fun C h => by cases h) (hts _ (tb_m (i := 1) (j := 82) rfl rfl rfl))
  obtain ⟨g1, a1, b1⟩ := arr_K (ty := .byte) (fun C h => by cases h) (hts _ (tb_m (i := 4) (j := 130) rfl rfl rfl))
  obtain ⟨g2, a2, b2⟩ := arr_K (ty := .long) (fun C h => by cases h) (hts _ (tb_m (i := 6) (j := 174) rfl rfl rfl))
  obtain ⟨g3, a3, b3⟩ := arr_KT (C := "SleptFor$Text") hT
  refine ⟨(fun c => (f c).1, fun c => (f c).2), fun j => ([g0, g1, g2, g3] : List ClassId).getD j g0, fun c q hq => hf c q hq, fun k q hk => ?_⟩
  match k, hk with
  | 0, hk => cases hk; exact ⟨a0, b0⟩
  | 1, hk => cases hk; exact ⟨a1, b1⟩
  | 2, hk => cases hk; exact ⟨a2, b2⟩
  | 3, hk => cases hk; exact ⟨a3, b3⟩
  | k + 4, hk => simp [gx_ty] at hk
theorem ao_in : Cond.arrayOver (.object "SleptFor$Text") ∈ lw_tbs.flatten := List.mem_flatten.mpr ⟨_, List.mem_of_getElem? (i := 1) (by rw [← gx_nth_eq]; rfl), List.mem_of_getElem? (i := 190) (by rw [← gx_nth_eq]; rfl)⟩
theorem nest_in : ∀ w ∈ nestL, w ∈ lw_tbs.flatten := by
  intro w hw
  simp only [nestL, List.mem_cons, List.not_mem_nil, or_false] at hw
  rcases hw with rfl | rfl | rfl | rfl | rfl | rfl | rfl | rfl | rfl
  · exact List.mem_flatten.mpr ⟨_, List.mem_of_getElem? (i := 1) (by rw [← gx_nth_eq]; rfl), List.mem_of_getElem? (i := 31) (by rw [← gx_nth_eq]; rfl)⟩
  · exact List.mem_flatten.mpr ⟨_, List.mem_of_getElem? (i := 1) (by rw [← gx_nth_eq]; rfl), List.mem_of_getElem? (i := 37) (by rw [← gx_nth_eq]; rfl)⟩
  · exact List.mem_flatten.mpr ⟨_, List.mem_of_getElem? (i := 1) (by rw [← gx_nth_eq]; rfl), List.mem_of_getElem? (i := 85) (by rw [← gx_nth_eq]; rfl)⟩
  · exact List.mem_flatten.mpr ⟨_, List.mem_of_getElem? (i := 1) (by rw [← gx_nth_eq]; rfl), List.mem_of_getElem? (i := 142) (by rw [← gx_nth_eq]; rfl)⟩
  · exact List.mem_flatten.mpr ⟨_, List.mem_of_getElem? (i := 1) (by rw [← gx_nth_eq]; rfl), List.mem_of_getElem? (i := 199) (by rw [← gx_nth_eq]; rfl)⟩
  · exact List.mem_flatten.mpr ⟨_, List.mem_of_getElem? (i := 2) (by rw [← gx_nth_eq]; rfl), List.mem_of_getElem? (i := 97) (by rw [← gx_nth_eq]; rfl)⟩
  · exact List.mem_flatten.mpr ⟨_, List.mem_of_getElem? (i := 2) (by rw [← gx_nth_eq]; rfl), List.mem_of_getElem? (i := 156) (by rw [← gx_nth_eq]; rfl)⟩
  · exact List.mem_flatten.mpr ⟨_, List.mem_of_getElem? (i := 2) (by rw [← gx_nth_eq]; rfl), List.mem_of_getElem? (i := 211) (by rw [← gx_nth_eq]; rfl)⟩
  · exact List.mem_flatten.mpr ⟨_, List.mem_of_getElem? (i := 4) (by rw [← gx_nth_eq]; rfl), List.mem_of_getElem? (i := 91) (by rw [← gx_nth_eq]; rfl)⟩
theorem flat_n {args : Array Value} {s : State} (h : (Jvm.Cond.and given_1 narrow_1).before args s = true) : ∀ w ∈ flatC narrow_1, w.before args s = true := fun w hw => flat_of_before _ h w (by
  show w ∈ flatC given_1 ++ flatC narrow_1
  exact List.mem_append_right _ hw)
set_option maxRecDepth 1000000 in
theorem nm_el : ∀ j, j < 4 → (Cond.eq (.elem (Term.static "SleptFor" "NAMES_OF" "[I") (.int (Int32.ofNat j))) (.int (z_nm.getD j 0))) ∈ flatC narrow_1 := by decide +kernel
set_option maxRecDepth 1000000 in
theorem ws_el0 : ∀ j, j < 150 → gx_nth (flatC narrow_1) (18 + j) = some (Cond.eq (.elem (Term.field (Term.string "SleptFor$Reader" 173) "java/lang/String" "value" "[B") (.int (Int32.ofNat j))) (.int (z_ws.getD j 0))) := by decide +kernel
theorem ws_el : ∀ j, j < 150 → (Cond.eq (.elem (Term.field (Term.string "SleptFor$Reader" 173) "java/lang/String" "value" "[B") (.int (Int32.ofNat j))) (.int (z_ws.getD j 0))) ∈ flatC narrow_1 := fun j hj => List.mem_of_getElem? (i := 18 + j) (by rw [← gx_nth_eq]; exact ws_el0 j hj)
set_option maxHeartbeats 4000000 in
set_option maxRecDepth 1000000 in
theorem start_E {args : Array Value} {s : State} (hts : ∀ w ∈ lw_tbl, w.before args s = true) (hg : (Jvm.Cond.and given_1 narrow_1).before args s = true) {A : Nat → Prop} (hA : ∀ a : Nat, a < s.heap.size → ¬ A a) : ∃ t a v, exE t a v A s s.heap := by
  have hn := flat_n hg
  have htG : ∀ w ∈ tbG, w.before args s = true := fun w hw => hts w (tbG_in w hw)
  obtain ⟨t, ht, hT⟩ := va_Tof (f := fun j => .int (z_nm.getD j 0)) (A := A) (tm := (Term.static "SleptFor" "NAMES_OF" "[I")) (ty := .int) (N := 4) (by decide) (hn _ (by decide +kernel)) (va_eqt (hn _ (by decide +kernel))) (fun j hj => va_eqt (hn _ (nm_el j hj))) hA
  have x1 := hn (Cond.exactly (Term.string "SleptFor$Reader" 173) "java/lang/String") (by decide +kernel)
  have x2 := hn (Cond.eq (.field (Term.string "SleptFor$Reader" 173) "java/lang/String" "coder" "B") (.int 0)) (by decide +kernel)
  have x3 := hn (Cond.arrayOf (Term.field (Term.string "SleptFor$Reader" 173) "java/lang/String" "value" "[B") .byte) (by decide +kernel)
  have x4 := hn (Cond.eq (.length (Term.field (Term.string "SleptFor$Reader" 173) "java/lang/String" "value" "[B")) (.int (Int32.ofNat 150))) (by decide +kernel)
  obtain ⟨adK, adV, hS, hev⟩ := vk_Sof (N := 1) (tm := fun _ => (Term.string "SleptFor$Reader" 173)) (len := [150]) (byt := [z_ws]) (A := A) (args := args) (s := s) (fun i hi => by
    obtain rfl : i = 0 := (by omega)
    decide) (fun i hi => x1) (fun i hi => x2) (fun i hi => x3) (fun i hi => by
    obtain rfl : i = 0 := (by omega)
    exact x4) (fun i hi j hj => by
    obtain rfl : i = 0 := (by omega)
    exact hn _ (ws_el j hj)) (fun i j hi hj hij => by omega) hA
  refine ⟨t, adK 0, adV 0, ⟨fun w hw => va_Nw.of (nest_on w hw) (hts w (lw_tbs_in w (nest_in w hw))), va_AO.of (hts _ (lw_tbs_in _ ao_in))⟩, ⟨va_Zref (hts _ (lw_tbs_in _ (List.mem_flatten.mpr ⟨_, List.mem_of_getElem? (i := 4) (by rw [← gx_nth_eq]; rfl), List.mem_of_getElem? (i := 92) (by rw [← gx_nth_eq]; rfl)⟩))) (htG _ (tb_m (i := 1) (j := 1) rfl rfl rfl)) ht hA, hT⟩, ⟨vk_R.of (hts _ (lw_tbs_in _ (List.mem_flatten.mpr ⟨_, List.mem_of_getElem? (i := 3) (by rw [← gx_nth_eq]; rfl), List.mem_of_getElem? (i := 235) (by rw [← gx_nth_eq]; rfl)⟩))) (hev 0 (by decide)), ?_⟩, va_Zof (hts _ (lw_tbs_in _ (List.mem_flatten.mpr ⟨_, List.mem_of_getElem? (i := 4) (by rw [← gx_nth_eq]; rfl), List.mem_of_getElem? (i := 5) (by rw [← gx_nth_eq]; rfl)⟩))) (htG _ (tb_m (i := 1) (j := 17) rfl rfl rfl)) (va_eqt (hn _ (by decide +kernel))) hA, va_Zqof (hts _ (lw_tbs_in _ (List.mem_flatten.mpr ⟨_, List.mem_of_getElem? (i := 4) (by rw [← gx_nth_eq]; rfl), List.mem_of_getElem? (i := 13) (by rw [← gx_nth_eq]; rfl)⟩))) (htG _ (tb_m (i := 1) (j := 19) rfl rfl rfl)) (hn _ (by decide +kernel)) hA⟩
  refine ⟨fun i hi => ?_, fun i j hi hj _ => by omega⟩
  have : i = 0 := by omega
  subst this
  exact hS.1 0 (by decide)
theorem bc_ast {G : Nat → ClassId} {D : va_G} {cl : List vw_C} {tb : List Cond} {A : Nat → Prop} {own : String} {cc : ByteArray} {nL : Nat} {p : Program} {l : Launch} {e : Env} {R : Room} {s : State} {m : MethodId} {args : Array Value} {below : List Frame} {meth : Method} {c : Code} {Q : State → Prop} {ls : Array Slot} {cs sl : Nat} {ws : va_W} {pc : Nat} {st : List Value} (B : bc_At G D cl tb A own cc nL p s m args meth c) {k : Fin 4} {i n x : Nat} {lv lv' : List (Nat × Value)} (hd : decode cc pc = .ok (.astore_n k, 1)) (hi : (k : Nat) = i) (h : lv_has ls n lv) (hn : i < n) (hl : (i, Value.ref x) :: lv.filter (fun q => !(q.1 == i) && !(q.1 + 1 == i && q.2.category == 2)) = lv') (kk : ∀ ls' : Array Slot, lv_has ls' n lv' → bc_W D cl A p l e R s m args below meth c Q ls' cs sl ws (pc + 1) st) : bc_W D cl A p l e R s m args below meth c Q ls cs sl ws pc (.ref x :: st) := fun H locs h1 h2 h3 => lv_astore_n B.1 B.2.1 hd hi h hn hl (fun ls' hh => kk ls' hh H locs h1 h2 h3)
theorem lw_cl_at {T : List gx_I} : ∀ {u : List gx_I} {b i : Nat} {pc : Nat} {ins : Instr} {v : Value} {tg ps : List Nat}, lw_cl T b u = true → u[i]? = some (pc, ins, v, tg, ps) → gx_rt ins = false ∧ ∀ a, v = .retAddr a → lw_ck pc (gx_pc T (b + i + 1)) tg = true := by
  intro u
  induction u with
  | nil => intro b i pc ins v tg ps _ h; simp at h
  | cons x t ih =>
    intro b i pc ins v tg ps h hi
    obtain ⟨pc0, ins0, v0, tg0, ps0⟩ := x
    simp only [lw_cl, Bool.and_eq_true, Bool.not_eq_true'] at h
    cases i with
    | zero =>
      simp at hi
      obtain ⟨rfl, rfl, rfl, rfl, rfl⟩ := hi
      refine ⟨h.1.2, fun a e => ?_⟩
      subst e
      exact h.1.1
    | succ i =>
      have h2 := ih (b := b + 1) h.2 (i := i) (by simpa using hi)
      rwa [show b + 1 + i + 1 = b + (i + 1) + 1 by omega] at h2
set_option maxHeartbeats 4000000 in
set_option maxRecDepth 100000 in
theorem lw_step {G : Nat → ClassId} {L : Nat → Nat} {D : va_G} {t a v b Ls : Nat} {xs : Nat → Int32} {A : Nat → Prop} {p : Program} {l : Launch} {e : Env} {s : State} {m : MethodId} {args : Array Value} {below : List Frame} {meth : Method} {c : Code} {cs sl : Nat} {Q : State → Prop} (hL0 : L 200 = t) (hL1 : L 201 = a) (hL2 : L 202 = b) (hc : cs ≤ room_1.cells) (hs : sl ≤ room_1.slots) (hAt : gx_At lay0 NC0 G L D cl0 (exE t a v A) A tbG 4 (nm1 14) code ret p s m args meth c) (hX : va_X b Ls xs s s.heap) (hbl : b < s.heap.size) (hbA : ¬ A b) (hLs : Ls ≤ 3072) :
    lw_cz (CL Ls xs) (gx_W lay0 NC0 G L D cl0 A 4 TL p l e room_1 s m args below meth c cs sl Q) := by
  intro i ls st σ x o P o' i' ls' st' σ1 hT hst hP hk
  obtain ⟨pc, ins, vv, tg, ps⟩ := x
  have hrow := lw_cl_at lcl_TL (by rw [← gx_nth_eq]; exact hT)
  rw [Nat.zero_add] at hrow
  obtain ⟨hrt, hmk⟩ := hrow
  have hD := hAt.2.2.2.2.2.2.1
  have hXt := xt_ok (G := G) (L := L) (D := D) (t := t) (a := a) (v := v) (A := A) (l := l) hL0 hL1
  have hC : ∀ mj as σ r1 σ1, mj ≤ 999 → CL Ls xs mj as σ r1 σ1 → Met l (mt0 mj).1 (gx_wd tbG (mt0 mj)) (gx_rm 200) (gx_P lay0 NC0 G L D cl0 (exE t a v A) as σ) (gx_Q lay0 NC0 G L D cl0 A r1 σ1) 0 0 A := by
    intro mj as σ r1 σ1 hmj h
    rcases h with h | ⟨-, ⟨h, -⟩ | ⟨h, -⟩⟩
    · exact gx_met cl0_ok K0_ok tbG_good lay0_lt hD (exE_X t a v A) ok0 hXt (fun mi as σ r σ' h => by obtain ⟨-, h⟩ := h; omega) 200 mj as σ r1 σ1 hmj h
    · omega
    · omega
  have hck := gx_okl_at okl_TL (i := i) (x := (pc, ins, vv, tg, ps)) (by rw [← gx_nth_eq]; exact hT)
  rw [Nat.zero_add] at hck
  refine gx_step (r := none) (σ' := σ) (d := 200) (by show 200 + 1 + 4 ≤ 2048; omega) (by show 60 * (200 + 1) + 200 ≤ 84000; omega) hc hs hAt cl0_ok K1_ok tbG_good lay0_lt hC ?_ hT hck (fun h => by rw [hrt] at h; cases h) hst hP hk
  intro pc2 ins2 a2 tg2 ps2 o2 o2' i2 ls2 st2 σ2 P2 y2 hT2 hm2 hP2 hn2
  have hrow2 := lw_cl_at lcl_TL (by rw [← gx_nth_eq]; exact hT2)
  rw [Nat.zero_add] at hrow2
  have hck2 := hrow2.2 a2 rfl
  obtain ⟨hx, hb, hml, hown, hts, hK, -, hr, hlocks, hEx, hE0⟩ := hAt
  unfold lw_ck at hck2
  split at hck2
  · exact absurd hm2 (by simp [gx_mk])
  · obtain ⟨r1, σ3, ⟨hlen, -⟩, hcc, rfl⟩ := mk_inv hm2 hP2
    rcases hcc with h | ⟨rfl, ⟨-, has, rfl⟩ | ⟨h, -⟩⟩
    · obtain ⟨-, h⟩ := mk_Sp (by omega) h
      omega
    · rcases st2 with _ | ⟨x1, rest⟩
      · simp at hlen
      simp at has
      subst has
      simp only [Bool.and_eq_true] at hck2
      obtain ⟨dn, hdg, hdn⟩ := gx_ckd_ok hck2.1
      obtain rfl := hdn rfl
      intro H locs lsA hl hW hS
      have hk := hn2 H locs lsA hl hW hS
      have e1 : gx_pc TL i2 = pc2 := by simp only [gx_pc, hT2]
      rw [e1]
      rw [Nat.eq_of_beq_eq_true hck2.2] at hk
      have hk : W p l e room_1 s m args below meth c H locs cs sl Q (F0 m (pc2 + 1) lsA (.int (nI Ls) :: rest.map (gx_v L))) := hk
      show W p l e room_1 s m args below meth c H locs cs sl Q (F0 m pc2 lsA (.ref (L 202) :: rest.map (gx_v L)))
      rw [hL2]
      exact va_slen hx hb hX hbl hbA hS hdg hk
    · exact absurd h (by decide)
  · obtain ⟨r1, σ3, ⟨hlen, -⟩, hcc, rfl⟩ := mk_inv hm2 hP2
    rcases hcc with h | ⟨rfl, ⟨h, -⟩ | ⟨-, j, has, hj, rfl⟩⟩
    · obtain ⟨-, h⟩ := mk_Sp (by omega) h
      omega
    · exact absurd h (by decide)
    · rcases st2 with _ | ⟨x1, _ | ⟨x2, rest⟩⟩
      · simp at hlen
      · simp at hlen
      simp at has
      obtain ⟨rfl, rfl⟩ := has
      simp only [Bool.and_eq_true] at hck2
      obtain ⟨dn, hdg, hdn⟩ := gx_ckd_ok hck2.1
      obtain rfl := hdn rfl
      intro H locs lsA hl hW hS
      have hk := hn2 H locs lsA hl hW hS
      have e1 : gx_pc TL i2 = pc2 := by simp only [gx_pc, hT2]
      rw [e1]
      rw [Nat.eq_of_beq_eq_true hck2.2] at hk
      have hk : W p l e room_1 s m args below meth c H locs cs sl Q (F0 m (pc2 + 1) lsA (.int (xs j.toNatClampNeg) :: rest.map (gx_v L))) := hk
      show W p l e room_1 s m args below meth c H locs cs sl Q (F0 m pc2 lsA (.int j :: .ref (L 202) :: rest.map (gx_v L)))
      rw [hL2]
      exact va_sld hx hb hX hbl hbA hS hj hdg hk
  · cases hck2
