/-! ===== what the table of a method must keep to, and one step of it over the true machine ===== -/
theorem gx_ckd_ok {cc : ByteArray} {pc : Nat} {ins : Instr} (h : gx_ckd cc pc ins = true) : ∃ n, decode cc pc = .ok (ins, n) ∧ (gx_tb ins = false → n = gx_len ins) := by
  unfold gx_ckd at h
  split at h
  · rename_i a n hd
    simp only [Bool.and_eq_true, decide_eq_true_eq] at h
    obtain ⟨rfl, h2⟩ := h
    refine ⟨n, hd, fun h3 => ?_⟩
    rw [h3, Bool.false_or] at h2
    exact Nat.eq_of_beq_eq_true h2
  · cases h
abbrev gx_ty (G : Nat → ClassId) : List (ClassId × FieldType) := [(G 0, .int), (G 1, .byte), (G 2, .long), (G 3, .object "SleptFor$Text")]
def gx_wd (tb : List Cond) (q : gx_M) : List Cond := Cond.code q.1 q.2.1 q.2.2.1 q.2.2.2 :: tb
abbrev gx_rm (d : Nat) : Room := { frames := d + 4, cells := 0, slots := 0, locals := 60 * d + 200 }
def gx_P (lay : gx_Y) (NC : Nat) (G : Nat → ClassId) (L : Nat → Nat) (D : va_G) (cl : List vw_C) (Ex : State → Heap → Prop) (as : List Value) (σ : gx_R) : Array Value → State → Prop := va_Pc (as.map (gx_v L)) (fun U => va_P D cl (gx_ws lay NC G L σ) U.heap ∧ va_K D cl (gx_ty G) U ∧ Ex U U.heap)
def gx_Q (lay : gx_Y) (NC : Nat) (G : Nat → ClassId) (L : Nat → Nat) (D : va_G) (cl : List vw_C) (A : Nat → Prop) (r : Option Value) (σ' : gx_R) : Array Value → State → Outcome → State → Prop := fun _ st oc t => (oc = .returned (r.map (gx_v L)) ∧ va_P D cl (gx_ws lay NC G L σ') t.heap) ∧ va_F A st t
/-- what the extra word Ex keeps to: it speaks of the tables and of cells outside A -/
def gx_X (Ex : State → Heap → Prop) (A : Nat → Prop) : Prop := (∀ U V H, V.vm = U.vm → Ex U H → Ex V H) ∧ ∀ U V H H1, U.WarmedH V.vm → H.size ≤ H1.size → (∀ q : Nat, q < H.size → ¬ A q → H1[q]? = H[q]?) → Ex U H → Ex V H1
def gx_At (lay : gx_Y) (NC : Nat) (G : Nat → ClassId) (L : Nat → Nat) (D : va_G) (cl : List vw_C) (Ex : State → Heap → Prop) (A : Nat → Prop) (tb : List Cond) (nL : Nat) (own : String) (cc : ByteArray) (ret : Option FieldType) (p : Program) (s : State) (m : MethodId) (args : Array Value) (meth : Method) (c : Code) : Prop :=
  p.tables.exec = Jvm.exec ∧ c.code = cc ∧ c.maxLocals = nL ∧ s.vm.findClass own = some m.cls ∧ (∀ w ∈ tb, w.before args s = true) ∧ va_K D cl (gx_ty G) s ∧ (∀ σ, va_D A (gx_ws lay NC G L σ)) ∧ meth.sig.returnType = ret ∧ meth.locks = false ∧ gx_X Ex A ∧ Ex s s.heap
def gx_W (lay : gx_Y) (NC : Nat) (G : Nat → ClassId) (L : Nat → Nat) (D : va_G) (cl : List vw_C) (A : Nat → Prop) (nL : Nat) (T : List gx_I) (p : Program) (l : Launch) (e : Env) (R : Room) (s : State) (m : MethodId) (args : Array Value) (below : List Frame) (meth : Method) (c : Code) (cs sl : Nat) (Q : State → Prop) (i : Nat) (ls st : List Value) (σ : gx_R) : Prop :=
  ∀ (H : Heap) (locs : List Loc) (lsA : Array Slot), gx_lv L lsA nL ls → va_P D cl (gx_ws lay NC G L σ) H → va_S A s.heap H locs → W p l e R s m args below meth c H locs cs sl Q (F0 m (gx_pc T i) lsA (st.map (gx_v L)))
/-- a call behind which nothing is new -/
theorem gx_call {p : Program} {l : Launch} {e : Env} {R : Room} {s : State} {m : MethodId} {args : Array Value} {below : List Frame} {meth : Method} {c : Code} {H : Heap} {locs : List Loc} {Q : State → Prop} {pc : Nat} {ls : Array Slot} {rest st0 : List Value} {a : Array Value} {A : Nat → Prop} {lay : gx_Y} {NC : Nat} {G : Nat → ClassId} {L : Nat → Nat} {D : va_G} {cl : List vw_C} {r : Option Value} {σ' : gx_R} {cs sl : Nat}
    (hr : va_Run p l e R s m args below meth c H locs cs sl 0 0 (F0 m pc ls st0) rest (gx_Q lay NC G L D cl A r σ' a) A) (hS : va_S A s.heap H locs)
    (kk : ∀ (H1 : Heap) (locs1 : List Loc), va_P D cl (gx_ws lay NC G L σ') H1 → va_S A s.heap H1 locs1 → W p l e R s m args below meth c H1 locs1 cs sl Q (F0 m (pc + 3) ls ((r.map (gx_v L)).toList ++ rest))) : W p l e R s m args below meth c H locs cs sl Q (F0 m pc ls st0) := by
  intro T hT X
  obtain ⟨v, st₀, t, T', Lc, h0, X', hL, e1, e2, ⟨⟨hv, hp⟩, hz, hk⟩, st⟩ := hr T hT X
  cases hv
  rw [h0] at hz hk
  obtain ⟨t2, a1, b1⟩ := kk T'.heap (locs ++ Lc) (by rw [e1]; exact hp)
    ⟨Nat.le_trans hS.1 (by rw [e1]; exact hz), fun q h1 h2 => by rw [e1, hk q (Nat.lt_of_lt_of_le h1 hS.1) h2]; exact hS.2.1 q h1 h2, fun q hq => by
      rcases List.mem_append.mp hq with h | h
      · exact hS.2.2 q h
      · exact hL q h⟩ T' rfl X'
  exact ⟨t2, st t2 a1, b1⟩
def gx_rt (ins : Instr) : Bool := match ins with | .ireturn => true | .lreturn => true | .return_ => true | _ => false
