/-! ===== constructors: worlds that grow; a step, a lemma ===== -/
/-- the links between nest mates: they keep, but not as the others -/
def nestL : List Cond := [.methodLinkNest "SleptFor" 9 ⟨"SleptFor$Valley", "<init>", "()V"⟩ "SleptFor", .methodLinkNest "SleptFor$Valley" 11 ⟨"SleptFor$Folk", "<init>", "()V"⟩ "SleptFor", .methodLinkNest "SleptFor$Valley" 20 ⟨"SleptFor$Night", "<init>", "()V"⟩ "SleptFor", .methodLinkNest "SleptFor$Valley" 27 ⟨"SleptFor$Steps", "<init>", "()V"⟩ "SleptFor", .methodLinkNest "SleptFor$Reader" 23 ⟨"SleptFor$Text", "<init>", "()V"⟩ "SleptFor", .methodLinkNest "SleptFor" 62 ⟨"SleptFor$Night", "<init>", "()V"⟩ "SleptFor", .methodLinkNest "SleptFor" 78 ⟨"SleptFor$Rota", "<init>", "()V"⟩ "SleptFor", .methodLinkNest "SleptFor" 92 ⟨"SleptFor$Text", "<init>", "()V"⟩ "SleptFor", .fieldLinkNest "SleptFor$Reader" 132 "SleptFor" "NAMES_OF" "[I" "SleptFor"]
def bc_N (U : State) : Prop := (∀ w ∈ nestL, va_Nw w U) ∧ va_AO "SleptFor$Text" U
theorem nest_on : ∀ w ∈ nestL, w.onTables = true := by decide +kernel
theorem bc_N_same {u U : State} (h : u.vm = U.vm) (h0 : bc_N u) : bc_N U := ⟨fun w hw => va_Nw.same (nest_on w hw) h (h0.1 w hw), va_AO.moved (u := u) (U := U) (h ▸ Vm.Alike.refl u.vm) h0.2⟩
theorem bc_N_warm {s U : State} (hW : s.WarmedH U.vm) (h : bc_N s) : bc_N U := by
  refine ⟨?_, va_AO.moved (u := s) (U := U) hW.alike h.2⟩
  intro w hw
  have h1 := h.1 w hw
  simp only [nestL, List.mem_cons, List.not_mem_nil, or_false] at hw
  rcases hw with rfl | rfl | rfl | rfl | rfl | rfl | rfl | rfl | rfl
  · exact va_Nw.warmM hW h1
  · exact va_Nw.warmM hW h1
  · exact va_Nw.warmM hW h1
  · exact va_Nw.warmM hW h1
  · exact va_Nw.warmM hW h1
  · exact va_Nw.warmM hW h1
  · exact va_Nw.warmM hW h1
  · exact va_Nw.warmM hW h1
  · exact va_Nw.warmF hW h1
theorem nest_m {j : Nat} {w : Cond} (h : gx_nth nestL j = some w) : w ∈ nestL := List.mem_of_getElem? (by rw [← gx_nth_eq]; exact h)
def bc_At (G : Nat → ClassId) (D : va_G) (cl : List vw_C) (tb : List Cond) (A : Nat → Prop) (own : String) (cc : ByteArray) (nL : Nat) (p : Program) (s : State) (m : MethodId) (args : Array Value) (meth : Method) (c : Code) : Prop :=
  p.tables.exec = Jvm.exec ∧ c.code = cc ∧ c.maxLocals = nL ∧ s.vm.findClass own = some m.cls ∧ (∀ w ∈ tb, w.before args s = true) ∧ va_K D cl (gx_ty G) s ∧ (∀ q, s.heap.size ≤ q → A q) ∧ bc_N s
def bc_W (D : va_G) (cl : List vw_C) (A : Nat → Prop) (p : Program) (l : Launch) (e : Env) (R : Room) (s : State) (m : MethodId) (args : Array Value) (below : List Frame) (meth : Method) (c : Code) (Q : State → Prop) (ls : Array Slot) (cs sl : Nat) (ws : va_W) (pc : Nat) (st : List Value) : Prop :=
  ∀ (H : Heap) (locs : List Loc), va_P D cl ws H → va_D A ws → va_S A s.heap H locs → W p l e R s m args below meth c H locs cs sl Q (F0 m pc ls st)
section BC
variable {G : Nat → ClassId} {D : va_G} {cl : List vw_C} {tb : List Cond} {A : Nat → Prop} {own : String} {cc : ByteArray} {nL : Nat} {p : Program} {l : Launch} {e : Env} {R : Room} {s : State} {m : MethodId} {args : Array Value} {below : List Frame} {meth : Method} {c : Code} {Q : State → Prop} {ls : Array Slot} {cs sl : Nat} {ws : va_W} {pc : Nat} {st : List Value}
theorem bc_al (B : bc_At G D cl tb A own cc nL p s m args meth c) {k : Fin 4} {i x : Nat} (hl : ls[i]? = some (.val (.ref x))) (hi : (k : Nat) = i) (hd : decode cc pc = .ok (.aload_n k, 1)) (kk : bc_W D cl A p l e R s m args below meth c Q ls cs sl ws (pc + 1) (.ref x :: st)) : bc_W D cl A p l e R s m args below meth c Q ls cs sl ws pc st := fun H locs h1 h2 h3 => lv_aload_n B.1 B.2.1 hd hi hl (kk H locs h1 h2 h3)
theorem bc_ic (B : bc_At G D cl tb A own cc nL p s m args meth c) {n : Int} {v : Int32} (hd : decode cc pc = .ok (.iconst n, 1)) (hv : Int32.ofInt n = v) (kk : bc_W D cl A p l e R s m args below meth c Q ls cs sl ws (pc + 1) (.int v :: st)) : bc_W D cl A p l e R s m args below meth c Q ls cs sl ws pc st := fun H locs h1 h2 h3 => lv_iconst B.1 B.2.1 hd hv (kk H locs h1 h2 h3)
theorem bc_bp (B : bc_At G D cl tb A own cc nL p s m args meth c) {n : Int} {v : Int32} (hd : decode cc pc = .ok (.bipush n, 2)) (hv : (Int8.ofInt n).toInt32 = v) (kk : bc_W D cl A p l e R s m args below meth c Q ls cs sl ws (pc + 2) (.int v :: st)) : bc_W D cl A p l e R s m args below meth c Q ls cs sl ws pc st := fun H locs h1 h2 h3 => lv_bipush B.1 B.2.1 hd hv (kk H locs h1 h2 h3)
theorem bc_sp (B : bc_At G D cl tb A own cc nL p s m args meth c) {n : Int} {v : Int32} (hd : decode cc pc = .ok (.sipush n, 3)) (hv : (Int16.ofInt n).toInt32 = v) (kk : bc_W D cl A p l e R s m args below meth c Q ls cs sl ws (pc + 3) (.int v :: st)) : bc_W D cl A p l e R s m args below meth c Q ls cs sl ws pc st := fun H locs h1 h2 h3 => lv_sipush B.1 B.2.1 hd hv (kk H locs h1 h2 h3)
theorem bc_dup (B : bc_At G D cl tb A own cc nL p s m args meth c) {v : Value} (hv : v.category = 1) (hd : decode cc pc = .ok (.dup, 1)) (kk : bc_W D cl A p l e R s m args below meth c Q ls cs sl ws (pc + 1) (v :: v :: st)) : bc_W D cl A p l e R s m args below meth c Q ls cs sl ws pc (v :: st) := fun H locs h1 h2 h3 => lv_dup B.1 B.2.1 hd hv (kk H locs h1 h2 h3)
theorem bc_oi (B : bc_At G D cl tb A own cc nL p s m args meth c) {idx a : Nat} (h1 : Cond.methodLink own idx objectInit ∈ tb) (h2 : Cond.instanceMethod objectInit ∈ tb) (h3 : Cond.code objectInit ⟨#[0xb1]⟩ 1 none ∈ tb) (hz : ls.size = nL) (hR : 1 ≤ R.frames ∧ 12 ≤ R.locals) (hd : decode cc pc = .ok (.invokespecial idx, 3)) (kk : bc_W D cl A p l e R s m args below meth c Q ls cs sl ws (pc + 3) []) : bc_W D cl A p l e R s m args below meth c Q ls cs sl ws pc [.ref a] := fun H locs g1 g2 g3 =>
  W.objInit B.1 B.2.1 B.2.2.2.1 (B.2.2.2.2.1 _ h1) (B.2.2.2.2.1 _ h2) (B.2.2.2.2.1 _ h3) rfl (by rw [B.2.2.1]; exact hz) rfl hd hR.1 hR.2 (kk H locs g1 g2 g3)
/-- the array class of a kind is one -/
theorem bc_uni {D : va_G} {cl : List vw_C} {G : Nat → ClassId} {s : State} {cA : ClassId} {ty : FieldType} {j : Nat} (hK : va_K D cl (gx_ty G) s) (hj : (gx_ty G)[j]? = some (G j, ty)) (h : va_K D cl (gx_ty G ++ [(cA, ty)]) s) : cA = G j := by
  have h1 := (hK.2 j _ hj).2
  have h2 := (h.2 4 (cA, ty) rfl).2
  cases ty with
  | object C =>
    obtain ⟨_, _, _, _, _, e1⟩ := h1
    obtain ⟨_, _, _, _, _, e2⟩ := h2
    exact Option.some.inj (e2.symm.trans e1)
  | _ => exact Option.some.inj (h2.symm.trans h1)
theorem bc_newI (B : bc_At G D cl tb A own cc nL p s m args meth c) {n : Nat} (hw : Cond.arrayClass .int ∈ tb) (hn : n < 2 ^ 20) (hc : cs + 1 ≤ R.cells) (hs : sl + n ≤ R.slots) (hd : decode cc pc = .ok (.newarray .int, 2)) (kk : ∀ q, bc_W D cl A p l e R s m args below meth c Q ls (cs + 1) (sl + n) (ws ++ [(q, .inl (G 0, n, .inl (fun _ => 0)))]) (pc + 2) (.ref q :: st)) : bc_W D cl A p l e R s m args below meth c Q ls cs sl ws pc (.int (nI n) :: st) := fun H locs h1 h2 h3 => by
  refine va_newa (atype := .int) (ty := .int) (a0 := (n, .inl (fun _ => 0))) (N' := n) B.1 B.2.1 (B.2.2.2.2.1 _ hw) rfl B.2.2.2.2.2.1 h1 h2 h3 B.2.2.2.2.2.2.1 (fun _ => rfl) (nI_pos (by omega)) (nI_clamp (by omega)) (show n * 4 ≤ 536870912 by omega) hc hs hd (fun q cA H1 hK1 hP1 hD1 hS1 => ?_)
  obtain rfl := bc_uni (j := 0) B.2.2.2.2.2.1 rfl hK1
  exact kk q H1 locs hP1 hD1 hS1
theorem bc_newB (B : bc_At G D cl tb A own cc nL p s m args meth c) {n : Nat} (hw : Cond.arrayClass .byte ∈ tb) (hn : n < 2 ^ 20) (hc : cs + 1 ≤ R.cells) (hs : sl + n ≤ R.slots) (hd : decode cc pc = .ok (.newarray .byte, 2)) (kk : ∀ q, bc_W D cl A p l e R s m args below meth c Q ls (cs + 1) (sl + n) (ws ++ [(q, .inl (G 1, n, .inl (fun _ => 0)))]) (pc + 2) (.ref q :: st)) : bc_W D cl A p l e R s m args below meth c Q ls cs sl ws pc (.int (nI n) :: st) := fun H locs h1 h2 h3 => by
  refine va_newa (atype := .byte) (ty := .byte) (a0 := (n, .inl (fun _ => 0))) (N' := n) B.1 B.2.1 (B.2.2.2.2.1 _ hw) rfl B.2.2.2.2.2.1 h1 h2 h3 B.2.2.2.2.2.2.1 (fun _ => rfl) (nI_pos (by omega)) (nI_clamp (by omega)) (show n * 1 ≤ 536870912 by omega) hc hs hd (fun q cA H1 hK1 hP1 hD1 hS1 => ?_)
  obtain rfl := bc_uni (j := 1) B.2.2.2.2.2.1 rfl hK1
  exact kk q H1 locs hP1 hD1 hS1
theorem gl0 : gx_l (fun _ => 0) = fun _ => 0 := by
  funext j
  show Int64.ofBitVec ((0 : Int32).toBitVec ++ (0 : Int32).toBitVec) = 0
  decide
theorem bc_newL (B : bc_At G D cl tb A own cc nL p s m args meth c) {n : Nat} (hw : Cond.arrayClass .long ∈ tb) (hn : n < 2 ^ 20) (hc : cs + 1 ≤ R.cells) (hs : sl + n ≤ R.slots) (hd : decode cc pc = .ok (.newarray .long, 2)) (kk : ∀ q, bc_W D cl A p l e R s m args below meth c Q ls (cs + 1) (sl + n) (ws ++ [(q, .inl (G 2, n, .inr (.inl (gx_l (fun _ => 0)))))]) (pc + 2) (.ref q :: st)) : bc_W D cl A p l e R s m args below meth c Q ls cs sl ws pc (.int (nI n) :: st) := fun H locs h1 h2 h3 => by
  refine va_newa (atype := .long) (ty := .long) (a0 := (n, .inr (.inl (gx_l (fun _ => 0))))) (N' := n) B.1 B.2.1 (B.2.2.2.2.1 _ hw) rfl B.2.2.2.2.2.1 h1 h2 h3 B.2.2.2.2.2.2.1 (fun _ => by rw [gl0]; rfl) (nI_pos (by omega)) (nI_clamp (by omega)) (show n * 8 ≤ 536870912 by omega) hc hs hd (fun q cA H1 hK1 hP1 hD1 hS1 => ?_)
  obtain rfl := bc_uni (j := 2) B.2.2.2.2.2.1 rfl hK1
  exact kk q H1 locs hP1 hD1 hS1
theorem bc_newT (B : bc_At G D cl tb A own cc nL p s m args meth c) {n index : Nat} (hw2 : Cond.classLink own index "SleptFor$Text" ∈ tb) (hn : n < 2 ^ 20) (hc : cs + 1 ≤ R.cells) (hs : sl + n ≤ R.slots) (hd : decode cc pc = .ok (.anewarray index, 3)) (kk : ∀ q, bc_W D cl A p l e R s m args below meth c Q ls (cs + 1) (sl + n) (ws ++ [(q, .inl (G 3, n, .inr (.inr (.inr (.inr (fun _ => none))))))]) (pc + 3) (.ref q :: st)) : bc_W D cl A p l e R s m args below meth c Q ls cs sl ws pc (.int (nI n) :: st) := fun H locs h1 h2 h3 => by
  refine va_newq (C := "SleptFor$Text") (N' := n) B.1 B.2.1 B.2.2.2.1 (B.2.2.2.2.1 _ hw2) B.2.2.2.2.2.2.2.2 B.2.2.2.2.2.1 h1 h2 h3 B.2.2.2.2.2.2.1 (nI_pos (by omega)) (nI_clamp (by omega)) (show n * 4 ≤ 536870912 by omega) hc hs hd (fun q cA H1 hK1 hP1 hD1 hS1 => ?_)
  obtain rfl := bc_uni (j := 3) B.2.2.2.2.2.1 rfl hK1
  exact kk q H1 locs hP1 hD1 hS1
/-- a number into the array at place q0 of the world -/
theorem bc_ia (B : bc_At G D cl tb A own cc nL p s m args meth c) (q0 : Nat) {a n i : Nat} {f : Nat → Int32} {x : Int32} {ws' : va_W} (hq : ws[q0]? = some (a, .inl (G 0, n, .inl f))) (hi : i < n) (hn : n < 2 ^ 31) (hw : ws.set q0 (a, .inl (G 0, n, .inl (upd f i x))) = ws') (hd : decode cc pc = .ok (.iastore, 1)) (kk : bc_W D cl A p l e R s m args below meth c Q ls cs sl ws' (pc + 1) st) : bc_W D cl A p l e R s m args below meth c Q ls cs sl ws pc (.int x :: .int (nI i) :: .ref a :: st) := fun H locs h1 h2 h3 => by
  refine va_iast B.1 B.2.1 B.2.2.2.2.2.1 h1 h2 h3 q0 0 hq rfl (vp_in_nI hi hn) hd (fun H1 locs1 hP1 hD1 hS1 => ?_)
  rw [nI_clamp (by omega), hw] at hP1
  rw [nI_clamp (by omega), hw] at hD1
  exact kk H1 locs1 hP1 hD1 hS1
/-- an object into the row of texts -/
theorem bc_aa (B : bc_At G D cl tb A own cc nL p s m args meth c) (hcl : gx_Cl cl tb) (q0 qk ci : Nat) {a n i v : Nat} {vs : List Value} {f : Nat → Option Nat} {F : u_T} {N : Nat} {ws' : va_W} (hq : ws[q0]? = some (a, .inl (G 3, n, .inr (.inr (.inr (.inr f)))))) (hv : ws[qk]? = some (v, .inr (ci, vs))) (hc : cl[ci]? = some ("SleptFor$Text", F, N)) (hi : i < n) (hn : n < 2 ^ 31) (hw : ws.set q0 (a, .inl (G 3, n, .inr (.inr (.inr (.inr (va_up f i (some v))))))) = ws') (hd : decode cc pc = .ok (.aastore, 1)) (kk : bc_W D cl A p l e R s m args below meth c Q ls cs sl ws' (pc + 1) st) : bc_W D cl A p l e R s m args below meth c Q ls cs sl ws pc (.ref v :: .int (nI i) :: .ref a :: st) := fun H locs h1 h2 h3 => by
  refine va_astq B.1 B.2.1 B.2.2.2.2.2.1 h1 h2 h3 q0 3 qk ci hq rfl hv hc (vp_in_nI hi hn) hd (fun H1 locs1 hP1 hD1 hS1 => ?_)
  rw [nI_clamp (by omega), hw] at hP1
  rw [nI_clamp (by omega), hw] at hD1
  exact kk H1 locs1 hP1 hD1 hS1
/-- a final field of the object at the world's head -/
theorem bc_pf (B : bc_At G D cl tb A own cc nL p s m args meth c) (hin : meth.name = "<init>") (hcl : gx_Cl cl tb) {ci k N idx a0 : Nat} {C : String} {F : u_T} {fs fs' : List Value} {v : Value} {ty : FieldType} {rest : va_W} (hc : cl[ci]? = some (C, F, N)) (hk : k < N) (hF : (F k).1 = own ∧ (F k).2.2.2 = true) (hlink : Cond.fieldLink own idx C (F k).2.1 (F k).2.2.1 ∈ tb) (hC : C = own) (hd0 : parseFieldDescriptor (F k).2.2.1 = some ty) (hn : narrow ty v = v) (hfit : fits ty v = true) (hlen : k < fs.length) (hfs : fs.set k v = fs') (hd : decode cc pc = .ok (.putfield idx, 3)) (kk : bc_W D cl A p l e R s m args below meth c Q ls cs sl ((a0, .inr (ci, fs')) :: rest) (pc + 3) st) : bc_W D cl A p l e R s m args below meth c Q ls cs sl ((a0, .inr (ci, fs)) :: rest) pc (v :: .ref a0 :: st) := fun H locs h1 h2 h3 => by
  obtain ⟨hw, ⟨ty0, hty⟩, hnm⟩ := hcl ci C F N hc
  subst hfs
  refine va_putF (C := C) (T := F) (N := N) (ref := C) (own := own) B.1 B.2.1 B.2.2.2.2.1 hw ty0 hty hnm B.2.2.2.1 B.2.2.2.2.2.1 h1 h2 h3 0 rfl hc k hk (B.2.2.2.2.1 _ hlink) (fun x hx => by rw [hF.1, ← hC] at hx; exact hx) hF.2 hin hF.1 hd0 hn hfit hlen hd (fun H1 locs1 hP1 hD1 hS1 => ?_)
  exact kk H1 locs1 hP1 hD1 hS1
/-- a field that may change -/
theorem bc_pv (B : bc_At G D cl tb A own cc nL p s m args meth c) (hcl : gx_Cl cl tb) {ci k N idx a0 : Nat} {C : String} {F : u_T} {fs fs' : List Value} {v : Value} {ty : FieldType} {rest : va_W} (hc : cl[ci]? = some (C, F, N)) (hk : k < N) (hF : (F k).1 = C ∧ (F k).2.2.2 = false) (hlink : Cond.fieldLink own idx C (F k).2.1 (F k).2.2.1 ∈ tb) (hd0 : parseFieldDescriptor (F k).2.2.1 = some ty) (hn : narrow ty v = v) (hfit : fits ty v = true) (hlen : k < fs.length) (hfs : fs.set k v = fs') (hd : decode cc pc = .ok (.putfield idx, 3)) (kk : bc_W D cl A p l e R s m args below meth c Q ls cs sl ((a0, .inr (ci, fs')) :: rest) (pc + 3) st) : bc_W D cl A p l e R s m args below meth c Q ls cs sl ((a0, .inr (ci, fs)) :: rest) pc (v :: .ref a0 :: st) := fun H locs h1 h2 h3 => by
  obtain ⟨hw, ⟨ty0, hty⟩, hnm⟩ := hcl ci C F N hc
  subst hfs
  refine va_put (C := C) (T := F) (N := N) (ref := C) (own := own) B.1 B.2.1 B.2.2.2.2.1 hw ty0 hty hnm B.2.2.2.1 B.2.2.2.2.2.1 h1 h2 h3 0 rfl hc k hk (B.2.2.2.2.1 _ hlink) (fun x hx => by rw [hF.1] at hx; exact hx) hF.2 hd0 hn hfit hlen hd (fun H1 locs1 hP1 hD1 hS1 => ?_)
  exact kk H1 locs1 hP1 hD1 hS1
/-- a field of the object at place q0 -/
theorem bc_gf (B : bc_At G D cl tb A own cc nL p s m args meth c) (hcl : gx_Cl cl tb) (q0 : Nat) {ci k N idx a0 : Nat} {C : String} {F : u_T} {fs : List Value} {v : Value} (hq : ws[q0]? = some (a0, .inr (ci, fs))) (hc : cl[ci]? = some (C, F, N)) (hk : k < N) (hF : (F k).1 = C) (hlink : Cond.fieldLink own idx C (F k).2.1 (F k).2.2.1 ∈ tb) (hv : fs[k]? = some v) (hd : decode cc pc = .ok (.getfield idx, 3)) (kk : bc_W D cl A p l e R s m args below meth c Q ls cs sl ws (pc + 3) (v :: st)) : bc_W D cl A p l e R s m args below meth c Q ls cs sl ws pc (.ref a0 :: st) := fun H locs h1 h2 h3 => by
  obtain ⟨hw, ⟨ty0, hty⟩, hnm⟩ := hcl ci C F N hc
  exact va_get (C := C) (T := F) (N := N) (ref := C) (own := own) B.1 B.2.1 B.2.2.2.2.1 hw B.2.2.2.1 B.2.2.2.2.2.1 h1 q0 hq hc k hk (B.2.2.2.2.1 _ hlink) (fun x hx => by rw [hF] at hx; exact hx) hv hd (kk H locs h1 h2 h3)
/-- a new object -/
theorem bc_nw (B : bc_At G D cl tb A own cc nL p s m args meth c) (hcl : gx_Cl cl tb) {ci N idx : Nat} {C : String} {F : u_T} {fs : List Value} {ty : Nat → FieldType} (hc : cl[ci]? = some (C, F, N)) (hty : ∀ k, k < N → parseFieldDescriptor (F k).2.2.1 = some (ty k)) (hfs : ∀ j, j < N → defaultValue (ty j) = vp_V fs j) (h1 : Cond.classLink own idx C ∈ tb) (h2 : Cond.instantiable C N ∈ tb) (h3 : Cond.initialized C ∈ tb) (hcc : cs + 1 ≤ R.cells) (hs : sl + N ≤ R.slots) (hd : decode cc pc = .ok (.new idx, 3)) (kk : ∀ q, bc_W D cl A p l e R s m args below meth c Q ls (cs + 1) (sl + N) (ws ++ [(q, .inr (ci, fs))]) (pc + 3) (.ref q :: st)) : bc_W D cl A p l e R s m args below meth c Q ls cs sl ws pc st := fun H locs g1 g2 g3 => by
  obtain ⟨hw, -, -⟩ := hcl ci C F N hc
  exact va_new (ci := ci) (fs := fs) (C := C) (T := F) (N := N) B.1 B.2.1 B.2.2.2.2.1 hw ty hty B.2.2.2.1 (B.2.2.2.2.1 _ h1) (B.2.2.2.2.1 _ h2) (B.2.2.2.2.1 _ h3) B.2.2.2.2.2.1 g1 g2 g3 B.2.2.2.2.2.2.1 hc hfs hcc hs hd (fun q H1 hP1 hD1 hS1 => kk q H1 locs hP1 hD1 hS1)
theorem bc_wd {k n : Nat} (h1 : cs ≤ k) (h2 : sl ≤ n) (kk : bc_W D cl A p l e R s m args below meth c Q ls k n ws pc st) : bc_W D cl A p l e R s m args below meth c Q ls cs sl ws pc st := fun H locs g1 g2 g3 => W.widen h1 h2 (kk H locs g1 g2 g3)
end BC
/-! a constructor's contract: the new object's cell, and what it becomes -/
def bc_Pre (D : va_G) (cl : List vw_C) (G : Nat → ClassId) (as : List Value) (ws : va_W) (sz : Nat) : Array Value → State → Prop := va_Pc as (fun U => U.heap.size = sz ∧ va_P D cl ws U.heap ∧ va_K D cl (gx_ty G) U ∧ bc_N U)
def bc_Post {S : Type} (D : va_G) (cl : List vw_C) (ws : va_W) (sz : Nat) (P : S → Prop) (w1 : S → va_W) : Array Value → State → Outcome → State → Prop := va_Qv P (fun u t => va_P D cl (w1 u) t.heap ∧ va_D (va_A ws sz) (w1 u)) (va_A ws sz)
def bc_Met {S : Type} (l : Launch) (D : va_G) (cl : List vw_C) (tb : List Cond) (G : Nat → ClassId) (y : MethodName) (b : ByteArray) (mL d mc ms : Nat) (as : List Value) (ws : va_W) (P : S → Prop) (w1 : S → va_W) : Prop := ∀ sz, Met l y (gx_wd tb (y, b, mL, none)) { frames := d, cells := mc, slots := ms, locals := 60 * d } (bc_Pre D cl G as ws sz) (bc_Post D cl ws sz P w1) mc ms (va_A ws sz)
theorem bc_range {ws0 : va_W} {x : Nat × va_E} : (List.range ws0.length).map (fun i => (ws0 ++ [x])[i]?) = ws0.map some := by
  apply List.ext_getElem?
  intro i
  by_cases h : i < ws0.length
  · simp [h, List.getElem?_append_left h]
  · simp [h]
theorem bc_nd : ∀ (l : List Nat), l.Nodup → va_nd l = true
  | [], _ => rfl
  | a :: t, h => by
    rw [List.nodup_cons] at h
    simp only [va_nd, Bool.and_eq_true, decide_eq_true_eq]
    exact ⟨h.1, bc_nd t h.2⟩
theorem bc_call {S : Type} {G : Nat → ClassId} {D : va_G} {cl : List vw_C} {tb : List Cond} {A : Nat → Prop} {own : String} {cc : ByteArray} {nL : Nat} {p : Program} {l : Launch} {e : Env} {R : Room} {s : State} {m : MethodId} {args : Array Value} {below : List Frame} {meth : Method} {c : Code} {Q : State → Prop} {ls : Array Slot} {cs sl : Nat} {ws0 : va_W} {pc : Nat} {rest st0 : List Value} {q : Nat} {e0 : va_E} {y : MethodName} {b : ByteArray} {mL d mc ms index : Nat} {As : List Value} {P : S → Prop} {w1 : S → va_W}
    (B : bc_At G D cl tb A own cc nL p s m args meth c) (hM : bc_Met l D cl tb G y b mL d mc ms (.ref q :: As) [(q, e0)] P w1) (hg : ∀ w ∈ tb, goodWord w = true) (m1 : Cond.initialized y.cls ∈ tb) (m2 : Cond.methodLink own index y ∈ tb) (m3 : Cond.instanceMethod y ∈ tb) (m4 : Cond.code y b mL none ∈ tb) (hy : y.name = "<init>") (hy2 : y.cls ≠ "java/lang/invoke/MethodHandle" ∧ y.cls ≠ "java/lang/invoke/VarHandle" ∧ (parseMethodDescriptor y.desc).map (fun d => d.parameters.length) = some As.length) (hR : d + 1 ≤ R.frames ∧ 8 + (mL + 11) + 60 * d ≤ R.locals) (hc : cs + mc ≤ R.cells) (hs : sl + ms ≤ R.slots) (hz : ls.size = nL) (hst : st0 = As.reverse ++ .ref q :: rest) (hcat : (rest.map fun v => v.category).sum ≤ 8) (hd : decode cc pc = .ok (.invokespecial index, 3))
    (kk : ∀ u, P u → bc_W D cl A p l e R s m args below meth c Q ls (cs + mc) (sl + ms) (ws0 ++ w1 u) (pc + 3) rest) : bc_W D cl A p l e R s m args below meth c Q ls cs sl (ws0 ++ [(q, e0)]) pc st0 := by
  intro H locs hP hD hS
  subst hst
  obtain ⟨hx, hb, hml, hown, hts, hK, hA, hN⟩ := B
  have hlast : (ws0 ++ [(q, e0)])[ws0.length]? = some (q, e0) := by simp
  have hPc : va_P D cl [(q, e0)] H := fun k x hx => by
    have hk : k < 1 := (List.getElem?_eq_some_iff.mp hx).1
    rw [show k = 0 by omega] at hx
    cases hx
    exact hP _ _ hlast
  have hC : [ws0.length].map (fun i => (ws0 ++ [(q, e0)])[i]?) = [(q, e0)].map some := by simp
  have hF := va_free (wc := [(q, e0)]) hD hS hA [ws0.length] hC
  refine va_callv (va_runI (As := As) (rest := rest) ⟨hx, hb, hml, hown, hts⟩ (hM H.size) (cwI As.length hts (fun w hw => ?_) rfl rfl rfl (hts _ m1) (hts _ m2) (hts _ m3) hy hy2 hR) ⟨fun a U g mk q => by obtain ⟨q0, q1, qP, qK, qN⟩ := q; exact ⟨q0, q1, qP, va_K.moved (u := U) (U := U.calling g mk a) (Vm.Alike.refl U.vm) qK, bc_N_same (u := U) (U := U.calling g mk a) rfl qN⟩, fun U hU hW => ⟨rfl, by rw [hU], by rw [hU]; exact hPc, va_K.moved hW.alike hK, bc_N_warm hW hN⟩⟩ rfl rfl hz rfl (lv_room hcat) hd ⟨hc, hs⟩) hS (fun x _ h => hF x h) hF (fun u t H1 locs1 ht hvm hw hB hz1 hk1 hS1 => ?_)
  · rcases List.mem_cons.mp hw with rfl | h
    · exact ⟨m4, good_of_word (hg _ m4)⟩
    · exact ⟨h, good_of_word (hg _ h)⟩
  · obtain ⟨hP1, hD1⟩ := hB
    rw [ht] at hP1
    obtain ⟨hP2, hD2⟩ := va_join (wr := ws0) (w1 := w1 u) hP hD [ws0.length] (List.range ws0.length) hC bc_range (bc_nd _ List.nodup_range) (fun i hi => by
      have := List.mem_range.mp hi
      intro z
      have := List.mem_singleton.mp z
      omega) hk1 hF hP1 hD1
    exact kk u hw H1 locs1 hP2 hD2 hS1
theorem bc_callN {S : Type} {G : Nat → ClassId} {D : va_G} {cl : List vw_C} {tb : List Cond} {A : Nat → Prop} {own : String} {cc : ByteArray} {nL : Nat} {p : Program} {l : Launch} {e : Env} {R : Room} {s : State} {m : MethodId} {args : Array Value} {below : List Frame} {meth : Method} {c : Code} {Q : State → Prop} {ls : Array Slot} {cs sl : Nat} {ws0 : va_W} {pc : Nat} {rest st0 : List Value} {q : Nat} {e0 : va_E} {y : MethodName} {b : ByteArray} {mL d mc ms index : Nat} {As : List Value} {P : S → Prop} {w1 : S → va_W}
    (B : bc_At G D cl tb A own cc nL p s m args meth c) (hM : bc_Met l D cl tb G y b mL d mc ms (.ref q :: As) [(q, e0)] P w1) (hg : ∀ w ∈ tb, goodWord w = true) (m1 : Cond.initialized y.cls ∈ tb) (m2 : Cond.methodLinkNest own index y "SleptFor" ∈ nestL) (m3 : Cond.instanceMethod y ∈ tb) (m4 : Cond.code y b mL none ∈ tb) (hy : y.name = "<init>") (hy2 : y.cls ≠ "java/lang/invoke/MethodHandle" ∧ y.cls ≠ "java/lang/invoke/VarHandle" ∧ (parseMethodDescriptor y.desc).map (fun d => d.parameters.length) = some As.length) (hR : d + 1 ≤ R.frames ∧ 8 + (mL + 11) + 60 * d ≤ R.locals) (hc : cs + mc ≤ R.cells) (hs : sl + ms ≤ R.slots) (hz : ls.size = nL) (hst : st0 = As.reverse ++ .ref q :: rest) (hcat : (rest.map fun v => v.category).sum ≤ 8) (hd : decode cc pc = .ok (.invokespecial index, 3))
    (kk : ∀ u, P u → bc_W D cl A p l e R s m args below meth c Q ls (cs + mc) (sl + ms) (ws0 ++ w1 u) (pc + 3) rest) : bc_W D cl A p l e R s m args below meth c Q ls cs sl (ws0 ++ [(q, e0)]) pc st0 := by
  intro H locs hP hD hS
  subst hst
  obtain ⟨hx, hb, hml, hown, hts, hK, hA, hN⟩ := B
  have hlast : (ws0 ++ [(q, e0)])[ws0.length]? = some (q, e0) := by simp
  have hPc : va_P D cl [(q, e0)] H := fun k x hx => by
    have hk : k < 1 := (List.getElem?_eq_some_iff.mp hx).1
    rw [show k = 0 by omega] at hx
    cases hx
    exact hP _ _ hlast
  have hC : [ws0.length].map (fun i => (ws0 ++ [(q, e0)])[i]?) = [(q, e0)].map some := by simp
  have hF := va_free (wc := [(q, e0)]) hD hS hA [ws0.length] hC
  refine va_callv (va_runIN (host := "SleptFor") (As := As) (rest := rest) ⟨hx, hb, hml, hown, hts⟩ (hM H.size) ⟨va_cnB (host := "SleptFor") As.length hts (fun w hw => ?_) rfl rfl rfl (hN.1 _ m2) (hts _ m1) hy2 hR, hy, hts _ m3⟩ ⟨fun a U g mk q => by obtain ⟨q0, q1, qP, qK, qN⟩ := q; exact ⟨q0, q1, qP, va_K.moved (u := U) (U := U.calling g mk a) (Vm.Alike.refl U.vm) qK, bc_N_same (u := U) (U := U.calling g mk a) rfl qN⟩, fun U hU hW => ⟨rfl, by rw [hU], by rw [hU]; exact hPc, va_K.moved hW.alike hK, bc_N_warm hW hN⟩⟩ rfl rfl hz rfl (lv_room hcat) hd ⟨hc, hs⟩) hS (fun x _ h => hF x h) hF (fun u t H1 locs1 ht hvm hw hB hz1 hk1 hS1 => ?_)
  · rcases List.mem_cons.mp hw with rfl | h
    · exact ⟨m4, good_of_word (hg _ m4)⟩
    · exact ⟨h, good_of_word (hg _ h)⟩
  · obtain ⟨hP1, hD1⟩ := hB
    rw [ht] at hP1
    obtain ⟨hP2, hD2⟩ := va_join (wr := ws0) (w1 := w1 u) hP hD [ws0.length] (List.range ws0.length) hC bc_range (bc_nd _ List.nodup_range) (fun i hi => by
      have := List.mem_range.mp hi
      intro z
      have := List.mem_singleton.mp z
      omega) hk1 hF hP1 hD1
    exact kk u hw H1 locs1 hP2 hD2 hS1
/-- a constructor's end -/
theorem bc_ret {S : Type} {G : Nat → ClassId} {D : va_G} {cl : List vw_C} {tb : List Cond} {own : String} {cc : ByteArray} {nL : Nat} {p : Program} {l : Launch} {e : Env} {R : Room} {s : State} {m : MethodId} {args : Array Value} {below : List Frame} {meth : Method} {c : Code} {ls : Array Slot} {cs sl : Nat} {ws w0 : va_W} {pc sz : Nat} {P : S → Prop} {w1 : S → va_W} (B : bc_At G D cl tb (va_A w0 sz) own cc nL p s m args meth c) (hr : meth.sig.returnType = none) (hlocks : meth.locks = false) (u : S) (hu : P u) (hw : ws = w1 u) (hd : decode cc pc = .ok (.return_, 1)) : bc_W D cl (va_A w0 sz) p l e R s m args below meth c (MQ below (bc_Post D cl w0 sz P w1) args s cs sl (va_A w0 sz)) ls cs sl ws pc [] := fun H locs hP hD hS => by
  subst hw
  exact W.vret B.1 B.2.1 hr (fun t ht hW => ⟨⟨u, rfl, hu, by rw [ht]; exact hP, hD⟩, hS.F ht⟩) hS.2.2 hd
/-- from the walk to the contract -/
theorem bc_met {S : Type} {l : Launch} {D : va_G} {cl : List vw_C} {tb : List Cond} {G : Nat → ClassId} {y : MethodName} {b : ByteArray} {mL d mc ms : Nat} {as : List Value} {ws : va_W} {P : S → Prop} {w1 : S → va_W} (hpl : plainName y.cls = true) (hy : y.name = "<init>") (hlen : (lg_sl as).length ≤ mL) (hD0 : va_D (fun _ => True) ws)
    (body : ∀ p e s m args below meth c sz (ls : Array Slot), s.heap.size = sz → bc_At G D cl tb (va_A ws sz) y.cls b mL p s m args meth c → meth.sig.returnType = none → meth.locks = false → meth.name = "<init>" → lv_has ls mL (lv_args 0 as) → bc_W D cl (va_A ws sz) p l e { frames := d, cells := mc, slots := ms, locals := 60 * d } s m args below meth c (MQ below (bc_Post D cl ws sz P w1) args s mc ms (va_A ws sz)) ls 0 0 ws 0 []) : bc_Met l D cl tb G y b mL d mc ms as ws P w1 := by
  intro sz
  refine Met.ofW (cc := b) (maxL := mL) (ret := none) hpl rfl ?_
  intro p e s m args below meth c s₁ B hml hv
  obtain ⟨rfl, hsz, hP, hK, hN⟩ := hv
  have hts := atoms_spec (ws := gx_wd tb (y, b, mL, none)) B.pre
  have hown : s.vm.findClass y.cls = some m.cls := findClass_of_methodNamed B.named
  have hin : meth.name = "<init>" := (name_of_methodNamed B.named B.method).1.trans hy
  have hl := lv_entry as (n := mL) hlen
  rw [lg_entry_eq]
  refine body p e s m _ below meth c sz _ hsz ⟨B.exec, B.bytes, hml, hown, fun w hw => hts w (List.mem_cons_of_mem _ hw), hK, fun q h => Or.inr (by rw [← hsz]; exact h), hN⟩ B.returns B.notSynchronized hin hl s.heap [] hP (hD0.self (sz := sz)) va_S.rf
section BC2
variable {G : Nat → ClassId} {D : va_G} {cl : List vw_C} {tb : List Cond} {A : Nat → Prop} {own : String} {cc : ByteArray} {nL : Nat} {p : Program} {l : Launch} {e : Env} {R : Room} {s : State} {m : MethodId} {args : Array Value} {below : List Frame} {meth : Method} {c : Code} {Q : State → Prop} {ls : Array Slot} {cs sl : Nat} {ws : va_W} {pc : Nat} {st : List Value}
theorem bc_eq {ws' : va_W} (h : ws = ws') (kk : bc_W D cl A p l e R s m args below meth c Q ls cs sl ws' pc st) : bc_W D cl A p l e R s m args below meth c Q ls cs sl ws pc st := by rw [h]; exact kk
theorem bc_il (B : bc_At G D cl tb A own cc nL p s m args meth c) {k : Fin 4} {i : Nat} {x : Int32} (hl : ls[i]? = some (.val (.int x))) (hi : (k : Nat) = i) (hd : decode cc pc = .ok (.iload_n k, 1)) (kk : bc_W D cl A p l e R s m args below meth c Q ls cs sl ws (pc + 1) (.int x :: st)) : bc_W D cl A p l e R s m args below meth c Q ls cs sl ws pc st := fun H locs h1 h2 h3 => lv_iload_n B.1 B.2.1 hd hi hl (kk H locs h1 h2 h3)
theorem bc_len (B : bc_At G D cl tb A own cc nL p s m args meth c) (q0 t0 : Nat) {a n : Nat} {x : (Nat → Int32) ⊕ (Nat → Int64) ⊕ (Nat → UInt32) ⊕ (Nat → UInt64) ⊕ (Nat → Option Nat)} {ty : FieldType} (hq : ws[q0]? = some (a, .inl (G t0, n, x))) (ht : (gx_ty G)[t0]? = some (G t0, ty)) (hd : decode cc pc = .ok (.arraylength, 1)) (kk : bc_W D cl A p l e R s m args below meth c Q ls cs sl ws (pc + 1) (.int (nI n) :: st)) : bc_W D cl A p l e R s m args below meth c Q ls cs sl ws pc (.ref a :: st) := fun H locs h1 h2 h3 => va_alen B.1 B.2.1 B.2.2.2.2.2.1 h1 q0 t0 hq ht (v := nI n) rfl hd (kk H locs h1 h2 h3)
theorem bc_ge (B : bc_At G D cl tb A own cc nL p s m args meth c) {x y : Int32} {off : Int} {tgt : Nat} (hd : decode cc pc = .ok (.if_icmp .ge off, 3)) (ht : (pc : Int) + off = (tgt : Int)) (kt : y ≤ x → bc_W D cl A p l e R s m args below meth c Q ls cs sl ws tgt st) (kf : ¬ y ≤ x → bc_W D cl A p l e R s m args below meth c Q ls cs sl ws (pc + 3) st) : bc_W D cl A p l e R s m args below meth c Q ls cs sl ws pc (.int y :: .int x :: st) := fun H locs h1 h2 h3 => lv_icmp_ge B.1 B.2.1 hd ht (fun z => kt z H locs h1 h2 h3) (fun z => kf z H locs h1 h2 h3)
theorem bc_goto (B : bc_At G D cl tb A own cc nL p s m args meth c) {off : Int} {tgt : Nat} (hd : decode cc pc = .ok (.goto off, 3)) (ht : (pc : Int) + off = (tgt : Int)) (kk : bc_W D cl A p l e R s m args below meth c Q ls cs sl ws tgt st) : bc_W D cl A p l e R s m args below meth c Q ls cs sl ws pc st := fun H locs h1 h2 h3 => lv_goto B.1 B.2.1 hd ht (kk H locs h1 h2 h3)
theorem bc_ist (B : bc_At G D cl tb A own cc nL p s m args meth c) {k : Fin 4} {i n : Nat} {x : Int32} {lv lv' : List (Nat × Value)} (hd : decode cc pc = .ok (.istore_n k, 1)) (hi : (k : Nat) = i) (h : lv_has ls n lv) (hn : i < n) (hl : (i, Value.int x) :: lv.filter (fun q => !(q.1 == i) && !(q.1 + 1 == i && q.2.category == 2)) = lv') (kk : ∀ ls' : Array Slot, lv_has ls' n lv' → bc_W D cl A p l e R s m args below meth c Q ls' cs sl ws (pc + 1) st) : bc_W D cl A p l e R s m args below meth c Q ls cs sl ws pc (.int x :: st) := fun H locs h1 h2 h3 => lv_istore_n B.1 B.2.1 hd hi h hn hl (fun ls' hh => kk ls' hh H locs h1 h2 h3)
theorem bc_iinc (B : bc_At G D cl tb A own cc nL p s m args meth c) {i n k : Nat} {z : Int} {x v : Int32} {lv lv' : List (Nat × Value)} (hd : decode cc pc = .ok (.iinc i z, 3)) (h : lv_has ls n lv) (hk : lv[k]? = some (i, .int x)) (hv : x + Int32.ofInt z = v) (hn : i < n) (hl : (i, Value.int v) :: lv.filter (fun q => !(q.1 == i) && !(q.1 + 1 == i && q.2.category == 2)) = lv') (kk : ∀ ls' : Array Slot, lv_has ls' n lv' → bc_W D cl A p l e R s m args below meth c Q ls' cs sl ws (pc + 3) st) : bc_W D cl A p l e R s m args below meth c Q ls cs sl ws pc st := fun H locs h1 h2 h3 => lv_iinc B.1 B.2.1 hd h hk hv hn hl (fun ls' hh => kk ls' hh H locs h1 h2 h3)
end BC2
