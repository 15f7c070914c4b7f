/-! ===== what the table of a method must keep to, and one step of it over the true machine ===== -/
abbrev gx_M : Type := MethodName × ByteArray × Nat × Option FieldType
def gx_len : Instr → Nat
  | .bipush _ => 2 | .ldc _ => 2 | .iload _ => 2 | .lload _ => 2 | .aload _ => 2 | .istore _ => 2 | .lstore _ => 2 | .astore _ => 2
  | .sipush _ => 3 | .ldc_w _ => 3 | .ldc2_w _ => 3 | .iinc _ _ => 3 | .goto _ => 3 | .ifCond _ _ => 3 | .if_icmp _ _ => 3 | .getfield _ => 3 | .putfield _ => 3 | .invokevirtual _ => 3 | .invokestatic _ => 3
  | _ => 1
def gx_pc (T : List gx_I) (i : Nat) : Nat := match T[i]? with
  | some x => x.1
  | none => 0
/-- the words w stand in the tables at these places, and are good -/
def gx_w (tb : List Cond) : List Cond → List Nat → Bool
  | [], _ => true
  | w :: t, p :: q => decide (tb[p]? = some w) && goodWord w && gx_w tb t q
  | _, [] => false
theorem gx_w_mem {tb : List Cond} : ∀ {ws : List Cond} {ps : List Nat}, gx_w tb ws ps = true → ∀ w ∈ ws, w ∈ tb.filter goodWord := by
  intro ws
  induction ws with
  | nil => intro ps _ w hw; cases hw
  | cons a t ih =>
    intro ps h w hw
    cases ps with
    | nil => simp [gx_w] at h
    | cons p q =>
      simp only [gx_w, Bool.and_eq_true, decide_eq_true_eq] at h
      rcases List.mem_cons.mp hw with rfl | hw
      · exact List.mem_filter.mpr ⟨List.mem_of_getElem? h.1.1, h.1.2⟩
      · exact ih h.2 w hw
def gx_tgs (T : List gx_I) (pc : Nat) : List Int → List Nat → Bool
  | [], [] => true
  | a :: s, t :: u => decide ((pc : Int) + a = (gx_pc T t : Int)) && gx_tgs T pc s u
  | _, _ => false
def gx_tb (ins : Instr) : Bool := match ins with | .tableswitch .. => true | .lookupswitch .. => true | _ => false
def gx_ckd (cc : ByteArray) (pc : Nat) (ins : Instr) : Bool := match decode cc pc with
  | .ok (a, n) => decide (a = ins) && (gx_tb ins || Nat.beq n (gx_len ins))
  | _ => false
def gx_ck1 (cl : List vw_C) (tb : List Cond) (mt : Nat → gx_M) (nL : Nat) (own : String) (ret : Option FieldType) (T : List gx_I) (nx : Bool) (pc : Nat) (v : Value) (tg ps : List Nat) (ins : Instr) : Bool :=
  match ins with
  | .iconst n => decide (v = .int (Int32.ofInt n)) && nx
  | .bipush n => decide (v = .int (Int8.ofInt n).toInt32) && nx
  | .sipush n => decide (v = .int (Int16.ofInt n).toInt32) && nx
  | .lconst n => decide (v = .long (Int64.ofNat (n : Nat))) && nx
  | .ldc n => match v with | .int a => gx_w tb [.constant own n a] ps && nx | _ => false
  | .ldc_w n => match v with | .int a => gx_w tb [.constant own n a] ps && nx | _ => false
  | .ldc2_w n => match v with | .long a => gx_w tb [.constantLong own n a] ps && nx | _ => false
  | .iload_n k => decide (tg = [(k : Nat)]) && nx
  | .lload_n k => decide (tg = [(k : Nat)]) && nx
  | .aload_n k => decide (tg = [(k : Nat)]) && nx
  | .iload k => decide (tg = [k]) && nx
  | .lload k => decide (tg = [k]) && nx
  | .aload k => decide (tg = [k]) && nx
  | .istore_n k => decide (tg = [(k : Nat)]) && Nat.ble (k + 1) nL && nx
  | .astore_n k => decide (tg = [(k : Nat)]) && Nat.ble (k + 1) nL && nx
  | .lstore_n k => decide (tg = [(k : Nat)]) && Nat.ble (k + 2) nL && nx
  | .istore k => decide (tg = [k]) && Nat.ble (k + 1) nL && nx
  | .astore k => decide (tg = [k]) && Nat.ble (k + 1) nL && nx
  | .lstore k => decide (tg = [k]) && Nat.ble (k + 2) nL && nx
  | .iinc k n => decide (tg = [k]) && decide (v = .int (Int32.ofInt n)) && Nat.ble (k + 1) nL && nx
  | .goto a => match tg with | [t] => decide ((pc : Int) + a = (gx_pc T t : Int)) | _ => false
  | .ifCond _ a => match tg with | [t] => decide ((pc : Int) + a = (gx_pc T t : Int)) && nx | _ => false
  | .if_icmp _ a => match tg with | [t] => decide ((pc : Int) + a = (gx_pc T t : Int)) && nx | _ => false
  | .tableswitch d lo hi offs => match tg with
    | t :: tt => decide ((pc : Int) + d = (gx_pc T t : Int)) && gx_tgs T pc offs.toList tt && decide (hi = lo + (offs.size : Int) - 1)
    | _ => false
  | .lookupswitch df ps => gx_tgs T pc (df :: ps.toList.map (fun q => q.2)) tg && (ps.toList.zip (ps.toList.drop 1)).all (fun (a, next) => a.1 < next.1)
  | .getfield n => match tg with
    | [ci, j] => match cl[ci]? with
      | some (C, F, N) => Nat.ble (j + 1) N && decide ((F j).1 = C) && gx_w tb [.fieldLink own n C (F j).2.1 (F j).2.2.1] ps && nx
      | none => false
    | _ => false
  | .putfield n => match tg with
    | [ci, j] => match cl[ci]? with
      | some (C, F, N) => Nat.ble (j + 1) N && decide ((F j).1 = C) && decide ((F j).2.2.2 = false) && decide ((F j).2.2.1 = "I") && gx_w tb [.fieldLink own n C (F j).2.1 (F j).2.2.1] ps && nx
      | none => false
    | _ => false
  | .invokevirtual n => match tg with
    | [mj, na, 1, ci] => match mt mj, cl[ci]? with
      | (y, b, mL, rt), some (C, _, _) => decide (y.cls = C) && Nat.ble mj 999 && decide ((parseMethodDescriptor y.desc).map (fun d => d.parameters.length + 1) = some na) && Nat.ble mL 41 && decide (y.cls ≠ "java/lang/invoke/MethodHandle") && decide (y.cls ≠ "java/lang/invoke/VarHandle") && gx_w tb [.methodLink own n y, .instanceMethod y, .selects y.cls y y, .initialized y.cls, .code y b mL rt] ps && nx
      | _, _ => false
    | _ => false
  | .invokestatic n => match tg with
    | [1] => gx_w tb [.methodLink own n Lib.Math.max.name, .static Lib.Math.max.name, .initialized "java/lang/Math", .code Lib.Math.max.name Lib.Math.max.code 2 (some .int)] ps && nx
    | [2] => gx_w tb [.methodLink own n Lib.Math.min.name, .static Lib.Math.min.name, .initialized "java/lang/Math", .code Lib.Math.min.name Lib.Math.min.code 2 (some .int)] ps && nx
    | [0] => gx_w tb [.methodLink own n arraycopyName, .native arraycopyName, .static arraycopyName, .initialized "java/lang/System"] ps && nx
    | [mj, na, 0, _] => match mt mj with
      | (y, b, mL, rt) => Nat.ble mj 999 && decide ((parseMethodDescriptor y.desc).map (fun d => d.parameters.length) = some na) && Nat.ble mL 41 && decide (y.cls ≠ "java/lang/invoke/MethodHandle") && decide (y.cls ≠ "java/lang/invoke/VarHandle") && gx_w tb [.methodLink own n y, .static y, .initialized y.cls, .code y b mL rt] ps && nx
    | _ => false
  | .ireturn => match tg with
    | [0] => decide (ret = some .int)
    | [1] => decide (ret = some .boolean)
    | _ => false
  | .lreturn => decide (ret = some .long)
  | .return_ => decide (ret = none)
  | _ => nx
def gx_ck (cl : List vw_C) (tb : List Cond) (mt : Nat → gx_M) (nL : Nat) (own : String) (cc : ByteArray) (ret : Option FieldType) (T : List gx_I) (i : Nat) (x : gx_I) : Bool :=
  match x with
  | (_, _, .retAddr _, _, _) => true
  | (pc, ins, v, tg, ps) => gx_ckd cc pc ins && gx_ck1 cl tb mt nL own ret T (Nat.beq (gx_pc T (i + 1)) (pc + gx_len ins)) pc v tg ps ins
theorem gx_ckd_ok {cc : ByteArray} {pc : Nat} {ins : Instr} (h : gx_ckd cc pc ins = true) : ∃ n, decode cc pc = .ok (ins, n) ∧ (gx_tb ins = false → n = gx_len ins) := by
  unfold gx_ckd at h
  split at h
  · rename_i a n hd
    simp only [Bool.and_eq_true, decide_eq_true_eq] at h
    obtain ⟨rfl, h2⟩ := h
    refine ⟨n, hd, fun h3 => ?_⟩
    rw [h3, Bool.false_or] at h2
    exact Nat.eq_of_beq_eq_true h2
  · cases h
abbrev gx_ty (G : Nat → ClassId) : List (ClassId × FieldType) := [(G 0, .int), (G 1, .byte), (G 2, .long), (G 3, .object "SleptFor$Text")]
def gx_wd (tb : List Cond) (q : gx_M) : List Cond := Cond.code q.1 q.2.1 q.2.2.1 q.2.2.2 :: tb.filter goodWord
abbrev gx_rm (d : Nat) : Room := { frames := d, cells := 0, slots := 0, locals := 60 * d }
def gx_P (lay : gx_Y) (NC : Nat) (G : Nat → ClassId) (L : Nat → Nat) (D : va_G) (cl : List vw_C) (Ex : State → Heap → Prop) (as : List Value) (σ : gx_R) : Array Value → State → Prop := va_Pc (as.map (gx_v L)) (fun U => va_P D cl (gx_ws lay NC G L σ) U.heap ∧ va_K D cl (gx_ty G) U ∧ Ex U U.heap)
def gx_Q (lay : gx_Y) (NC : Nat) (G : Nat → ClassId) (L : Nat → Nat) (D : va_G) (cl : List vw_C) (A : Nat → Prop) (r : Option Value) (σ' : gx_R) : Array Value → State → Outcome → State → Prop := fun _ st oc t => (oc = .returned (r.map (gx_v L)) ∧ va_P D cl (gx_ws lay NC G L σ') t.heap) ∧ va_F A st t
/-- what the extra word Ex keeps to: it speaks of the tables and of cells outside A -/
def gx_X (Ex : State → Heap → Prop) (A : Nat → Prop) : Prop := (∀ U V H, V.vm = U.vm → Ex U H → Ex V H) ∧ ∀ U V H H1, U.WarmedH V.vm → H.size ≤ H1.size → (∀ q : Nat, q < H.size → ¬ A q → H1[q]? = H[q]?) → Ex U H → Ex V H1
def gx_At (lay : gx_Y) (NC : Nat) (G : Nat → ClassId) (L : Nat → Nat) (D : va_G) (cl : List vw_C) (Ex : State → Heap → Prop) (A : Nat → Prop) (tb : List Cond) (nL : Nat) (own : String) (cc : ByteArray) (ret : Option FieldType) (p : Program) (s : State) (m : MethodId) (args : Array Value) (meth : Method) (c : Code) : Prop :=
  p.tables.exec = Jvm.exec ∧ c.code = cc ∧ c.maxLocals = nL ∧ s.vm.findClass own = some m.cls ∧ (∀ w ∈ tb.filter goodWord, w.before args s = true) ∧ va_K D cl (gx_ty G) s ∧ (∀ σ, va_D A (gx_ws lay NC G L σ)) ∧ meth.sig.returnType = ret ∧ meth.locks = false ∧ gx_X Ex A ∧ Ex s s.heap
def gx_W (lay : gx_Y) (NC : Nat) (G : Nat → ClassId) (L : Nat → Nat) (D : va_G) (cl : List vw_C) (A : Nat → Prop) (nL : Nat) (T : List gx_I) (p : Program) (l : Launch) (e : Env) (R : Room) (s : State) (m : MethodId) (args : Array Value) (below : List Frame) (meth : Method) (c : Code) (cs sl : Nat) (Q : State → Prop) (i : Nat) (ls st : List Value) (σ : gx_R) : Prop :=
  ∀ (H : Heap) (locs : List Loc) (lsA : Array Slot), gx_lv L lsA nL ls → va_P D cl (gx_ws lay NC G L σ) H → va_S A s.heap H locs → W p l e R s m args below meth c H locs cs sl Q (F0 m (gx_pc T i) lsA (st.map (gx_v L)))
/-- a class's own table is as the rows want it -/
def gx_Cl (cl : List vw_C) (tb : List Cond) : Prop := ∀ (ci : Nat) (C : String) (F : u_T) (N : Nat), cl[ci]? = some (C, F, N) → (∀ w ∈ u_ws C F N, w ∈ tb.filter goodWord) ∧ (∃ ty0 : Nat → FieldType, ∀ k, k < N → parseFieldDescriptor (F k).2.2.1 = some (ty0 k)) ∧ ∀ a, a < N → ∀ b, b < N → a ≠ b → (F a).2.1 ≠ (F b).2.1
/-- a call behind which nothing is new -/
theorem gx_call {p : Program} {l : Launch} {e : Env} {R : Room} {s : State} {m : MethodId} {args : Array Value} {below : List Frame} {meth : Method} {c : Code} {H : Heap} {locs : List Loc} {Q : State → Prop} {pc : Nat} {ls : Array Slot} {rest st0 : List Value} {a : Array Value} {A : Nat → Prop} {lay : gx_Y} {NC : Nat} {G : Nat → ClassId} {L : Nat → Nat} {D : va_G} {cl : List vw_C} {r : Option Value} {σ' : gx_R} {cs sl : Nat}
    (hr : va_Run p l e R s m args below meth c H locs cs sl 0 0 (F0 m pc ls st0) rest (gx_Q lay NC G L D cl A r σ' a) A) (hS : va_S A s.heap H locs)
    (kk : ∀ (H1 : Heap) (locs1 : List Loc), va_P D cl (gx_ws lay NC G L σ') H1 → va_S A s.heap H1 locs1 → W p l e R s m args below meth c H1 locs1 cs sl Q (F0 m (pc + 3) ls ((r.map (gx_v L)).toList ++ rest))) : W p l e R s m args below meth c H locs cs sl Q (F0 m pc ls st0) := by
  intro T hT X
  obtain ⟨v, st₀, t, T', Lc, h0, X', hL, e1, e2, ⟨⟨hv, hp⟩, hz, hk⟩, st⟩ := hr T hT X
  cases hv
  rw [h0] at hz hk
  obtain ⟨t2, a1, b1⟩ := kk T'.heap (locs ++ Lc) (by rw [e1]; exact hp)
    ⟨Nat.le_trans hS.1 (by rw [e1]; exact hz), fun q h1 h2 => by rw [e1, hk q (Nat.lt_of_lt_of_le h1 hS.1) h2]; exact hS.2.1 q h1 h2, fun q hq => by
      rcases List.mem_append.mp hq with h | h
      · exact hS.2.2 q h
      · exact hL q h⟩ T' rfl X'
  exact ⟨t2, st t2 a1, b1⟩
def gx_rt (ins : Instr) : Bool := match ins with | .ireturn => true | .lreturn => true | .return_ => true | _ => false
