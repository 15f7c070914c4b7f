/-! ===== rows of a method, and what the true machine wants of them ===== -/
abbrev gx_I : Type := Nat × Instr × Value × List Nat × List Nat
abbrev gx_Y : Type := Nat → Nat × Nat × List (Option Nat)
noncomputable def gx_nth {α : Type} (l : List α) : Nat → Option α := List.rec (fun _ => none) (fun a _ ih n => Nat.rec (some a) (fun k _ => ih k) n) l
theorem gx_nth_eq {α : Type} (l : List α) (i : Nat) : gx_nth l i = l[i]? := by
  induction l generalizing i with
  | nil => rfl
  | cons a t ih => cases i with
    | zero => rfl
    | succ j => exact ih j
abbrev gx_M : Type := MethodName × ByteArray × Nat × Option FieldType
def gx_len : Instr → Nat
  | .bipush _ => 2 | .ldc _ => 2 | .iload _ => 2 | .lload _ => 2 | .aload _ => 2 | .istore _ => 2 | .lstore _ => 2 | .astore _ => 2
  | .sipush _ => 3 | .ldc_w _ => 3 | .ldc2_w _ => 3 | .iinc _ _ => 3 | .goto _ => 3 | .ifCond _ _ => 3 | .if_icmp _ _ => 3 | .getfield _ => 3 | .putfield _ => 3 | .invokevirtual _ => 3 | .invokestatic _ => 3
  | _ => 1
noncomputable def gx_pc (T : List gx_I) (i : Nat) : Nat := match gx_nth T i with
  | some x => x.1
  | none => 0
def gx_eqn : List Nat → List Nat → Bool
  | [], [] => true
  | a :: s, b :: t => Nat.beq a b && gx_eqn s t
  | _, _ => false
theorem gx_eqn_eq : ∀ {s t : List Nat}, gx_eqn s t = true → s = t
  | [], [], _ => rfl
  | a :: s, b :: t, h => by
    simp only [gx_eqn, Bool.and_eq_true] at h
    rw [Nat.eq_of_beq_eq_true h.1, gx_eqn_eq h.2]
  | [], _ :: _, h => by cases h
  | _ :: _, [], h => by cases h
/-- the links and the constants that rows name by place: numbers, and constants' values -/
abbrev gx_K : Type := List (List Nat) × List (Nat × Nat × Value)
noncomputable def gx_lk (K : gx_K) (ps : List Nat) (e : List Nat) : Bool := match ps with
  | [p] => (match gx_nth K.1 p with
    | some f => gx_eqn f e
    | none => false)
  | _ => false
noncomputable def gx_lc (K : gx_K) (ps : List Nat) (c n : Nat) (v : Value) : Bool := match ps with
  | [p] => (match gx_nth K.2 p with
    | some (c', n', v') => Nat.beq c' c && Nat.beq n' n && decide (v' = v)
    | none => false)
  | _ => false
theorem gx_lk_mem {K : gx_K} {ps e : List Nat} (h : gx_lk K ps e = true) : e ∈ K.1 := by
  unfold gx_lk at h
  split at h
  · split at h
    · rename_i f hf
      rw [← gx_eqn_eq h]
      rw [gx_nth_eq] at hf
      exact List.mem_of_getElem? hf
    · cases h
  · cases h
theorem gx_lc_mem {K : gx_K} {ps : List Nat} {c n : Nat} {v : Value} (h : gx_lc K ps c n v = true) : (c, n, v) ∈ K.2 := by
  unfold gx_lc at h
  split at h
  · split at h
    · rename_i c' n' v' hf
      simp only [Bool.and_eq_true, decide_eq_true_eq] at h
      rw [gx_nth_eq] at hf
      rw [← Nat.eq_of_beq_eq_true h.1.1, ← Nat.eq_of_beq_eq_true h.1.2, ← h.2]
      exact List.mem_of_getElem? hf
    · cases h
  · cases h
noncomputable def gx_tgs (T : List gx_I) (pc : Nat) : List Int → List Nat → Bool
  | [], [] => true
  | a :: s, t :: u => decide ((pc : Int) + a = (gx_pc T t : Int)) && gx_tgs T pc s u
  | _, _ => false
def gx_tb (ins : Instr) : Bool := match ins with | .tableswitch .. => true | .lookupswitch .. => true | _ => false
def gx_ckd (cc : ByteArray) (pc : Nat) (ins : Instr) : Bool := match decode cc pc with
  | .ok (a, n) => decide (a = ins) && (gx_tb ins || Nat.beq n (gx_len ins))
  | _ => false
noncomputable def gx_ck1 (K : gx_K) (nL : Nat) (cn : Nat) (ret : Option FieldType) (T : List gx_I) (nx : Bool) (pc : Nat) (v : Value) (tg ps : List Nat) (ins : Instr) : Bool :=
  match ins with
  | .iconst n => decide (v = .int (Int32.ofInt n)) && nx
  | .bipush n => decide (v = .int (Int8.ofInt n).toInt32) && nx
  | .sipush n => decide (v = .int (Int16.ofInt n).toInt32) && nx
  | .lconst n => decide (v = .long (Int64.ofNat (n : Nat))) && nx
  | .ldc n => match v with | .int _ => gx_lc K ps cn n v && nx | _ => false
  | .ldc_w n => match v with | .int _ => gx_lc K ps cn n v && nx | _ => false
  | .ldc2_w n => match v with | .long _ => gx_lc K ps cn n v && nx | _ => false
  | .iload_n k => decide (tg = [(k : Nat)]) && nx
  | .lload_n k => decide (tg = [(k : Nat)]) && nx
  | .aload_n k => decide (tg = [(k : Nat)]) && nx
  | .iload k => decide (tg = [k]) && nx
  | .lload k => decide (tg = [k]) && nx
  | .aload k => decide (tg = [k]) && nx
  | .istore_n k => decide (tg = [(k : Nat)]) && Nat.ble (k + 1) nL && nx
  | .astore_n k => decide (tg = [(k : Nat)]) && Nat.ble (k + 1) nL && nx
  | .lstore_n k => decide (tg = [(k : Nat)]) && Nat.ble (k + 2) nL && nx
  | .istore k => decide (tg = [k]) && Nat.ble (k + 1) nL && nx
  | .astore k => decide (tg = [k]) && Nat.ble (k + 1) nL && nx
  | .lstore k => decide (tg = [k]) && Nat.ble (k + 2) nL && nx
  | .iinc k n => decide (tg = [k]) && decide (v = .int (Int32.ofInt n)) && Nat.ble (k + 1) nL && nx
  | .goto a => match tg with | [t] => decide ((pc : Int) + a = (gx_pc T t : Int)) | _ => false
  | .ifCond _ a => match tg with | [t] => decide ((pc : Int) + a = (gx_pc T t : Int)) && nx | _ => false
  | .if_icmp _ a => match tg with | [t] => decide ((pc : Int) + a = (gx_pc T t : Int)) && nx | _ => false
  | .tableswitch d lo hi offs => match tg with
    | t :: tt => decide ((pc : Int) + d = (gx_pc T t : Int)) && gx_tgs T pc offs.toList tt && decide (hi = lo + (offs.size : Int) - 1)
    | _ => false
  | .lookupswitch df ps => gx_tgs T pc (df :: ps.toList.map (fun q => q.2)) tg && (ps.toList.zip (ps.toList.drop 1)).all (fun (a, next) => a.1 < next.1)
  | .getfield n => match tg with
    | [ci, j] => gx_lk K ps [0, cn, n, ci, j] && nx
    | _ => false
  | .putfield n => match tg with
    | [ci, j] => gx_lk K ps [1, cn, n, ci, j] && nx
    | _ => false
  | .invokevirtual n => match tg with
    | [mj, na, 1, ci] => gx_lk K ps [2, cn, n, mj, na, ci] && nx
    | _ => false
  | .invokestatic n => match tg with
    | [1] => gx_lk K ps [5, cn, n] && nx
    | [2] => gx_lk K ps [6, cn, n] && nx
    | [0] => gx_lk K ps [4, cn, n] && nx
    | [mj, na, 0, _] => gx_lk K ps [3, cn, n, mj, na] && nx
    | _ => false
  | .ireturn => match tg with
    | [0] => decide (ret = some .int)
    | [1] => decide (ret = some .boolean)
    | _ => false
  | .lreturn => decide (ret = some .long)
  | .return_ => decide (ret = none)
  | _ => nx
noncomputable def gx_ck (K : gx_K) (nL : Nat) (cn : Nat) (cc : ByteArray) (ret : Option FieldType) (T : List gx_I) (i : Nat) (x : gx_I) : Bool :=
  match x with
  | (_, _, .retAddr _, _, _) => true
  | (pc, ins, v, tg, ps) => gx_ckd cc pc ins && gx_ck1 K nL cn ret T (Nat.beq (gx_pc T (i + 1)) (pc + gx_len ins)) pc v tg ps ins
/-- a table of a kind of objects is as the rows want it -/
def gx_Cl (cl : List vw_C) (tb : List Cond) : Prop := ∀ (ci : Nat) (C : String) (F : u_T) (N : Nat), cl[ci]? = some (C, F, N) → (∀ w ∈ u_ws C F N, w ∈ tb) ∧ (∃ ty0 : Nat → FieldType, ∀ k, k < N → parseFieldDescriptor (F k).2.2.1 = some (ty0 k)) ∧ ∀ a, a < N → ∀ b, b < N → a ≠ b → (F a).2.1 ≠ (F b).2.1
/-- what is known of a method that is called: its class's name, how many values it takes, its room -/
def gx_Mk (mt : Nat → gx_M) (mj na : Nat) : Prop := mj ≤ 999 ∧ (mt mj).2.2.1 ≤ 41 ∧ (mt mj).1.cls ≠ "java/lang/invoke/MethodHandle" ∧ (mt mj).1.cls ≠ "java/lang/invoke/VarHandle" ∧ (parseMethodDescriptor (mt mj).1.desc).map (fun d => d.parameters.length) = some na
/-- what a link says -/
def gx_Le (cl : List vw_C) (tb : List Cond) (mt : Nat → gx_M) (nm : Nat → String) : List Nat → Prop
  | [0, c, n, ci, j] => ∃ C F N, cl[ci]? = some (C, F, N) ∧ j < N ∧ (F j).1 = C ∧ Cond.fieldLink (nm c) n C (F j).2.1 (F j).2.2.1 ∈ tb
  | [1, c, n, ci, j] => ∃ C F N, cl[ci]? = some (C, F, N) ∧ j < N ∧ (F j).1 = C ∧ (F j).2.2.2 = false ∧ (F j).2.2.1 = "I" ∧ Cond.fieldLink (nm c) n C (F j).2.1 (F j).2.2.1 ∈ tb
  | [2, c, n, mj, na, ci] => ∃ na', na = na' + 1 ∧ gx_Mk mt mj na' ∧ (∃ C F N, cl[ci]? = some (C, F, N) ∧ (mt mj).1.cls = C) ∧ Cond.methodLink (nm c) n (mt mj).1 ∈ tb ∧ Cond.instanceMethod (mt mj).1 ∈ tb ∧ Cond.selects (mt mj).1.cls (mt mj).1 (mt mj).1 ∈ tb ∧ Cond.initialized (mt mj).1.cls ∈ tb ∧ Cond.code (mt mj).1 (mt mj).2.1 (mt mj).2.2.1 (mt mj).2.2.2 ∈ tb
  | [3, c, n, mj, na] => gx_Mk mt mj na ∧ Cond.methodLink (nm c) n (mt mj).1 ∈ tb ∧ Cond.static (mt mj).1 ∈ tb ∧ Cond.initialized (mt mj).1.cls ∈ tb ∧ Cond.code (mt mj).1 (mt mj).2.1 (mt mj).2.2.1 (mt mj).2.2.2 ∈ tb
  | [4, c, n] => Cond.methodLink (nm c) n arraycopyName ∈ tb ∧ Cond.native arraycopyName ∈ tb ∧ Cond.static arraycopyName ∈ tb ∧ Cond.initialized "java/lang/System" ∈ tb
  | [5, c, n] => Cond.methodLink (nm c) n Lib.Math.max.name ∈ tb ∧ Cond.static Lib.Math.max.name ∈ tb ∧ Cond.initialized "java/lang/Math" ∈ tb ∧ Cond.code Lib.Math.max.name Lib.Math.max.code 2 (some .int) ∈ tb
  | [6, c, n] => Cond.methodLink (nm c) n Lib.Math.min.name ∈ tb ∧ Cond.static Lib.Math.min.name ∈ tb ∧ Cond.initialized "java/lang/Math" ∈ tb ∧ Cond.code Lib.Math.min.name Lib.Math.min.code 2 (some .int) ∈ tb
  | _ => False
def gx_Lc (tb : List Cond) (nm : Nat → String) (q : Nat × Nat × Value) : Prop := match q with
  | (c, n, .int a) => Cond.constant (nm c) n a ∈ tb
  | (c, n, .long a) => Cond.constantLong (nm c) n a ∈ tb
  | _ => False
/-- all links are true -/
def gx_Ks (cl : List vw_C) (tb : List Cond) (mt : Nat → gx_M) (nm : Nat → String) (K : gx_K) : Prop := (∀ e ∈ K.1, gx_Le cl tb mt nm e) ∧ ∀ q ∈ K.2, gx_Lc tb nm q
noncomputable def gx_okl (K : gx_K) (nL : Nat) (cn : Nat) (cc : ByteArray) (ret : Option FieldType) (T : List gx_I) : Nat → List gx_I → Bool
  | _, [] => true
  | i, x :: t => gx_ck K nL cn cc ret T i x && gx_okl K nL cn cc ret T (i + 1) t
theorem gx_okl_a {K : gx_K} {nL cn : Nat} {cc : ByteArray} {ret : Option FieldType} {T : List gx_I} : ∀ {u w : List gx_I} {b : Nat}, gx_okl K nL cn cc ret T b u = true → gx_okl K nL cn cc ret T (b + u.length) w = true → gx_okl K nL cn cc ret T b (u ++ w) = true := by
  intro u
  induction u with
  | nil => intro w b _ h; exact h
  | cons a t ih =>
    intro w b h h2
    simp only [gx_okl, Bool.and_eq_true] at h
    simp only [List.cons_append, gx_okl, Bool.and_eq_true]
    refine ⟨h.1, ih h.2 ?_⟩
    rw [List.length_cons] at h2
    rwa [show b + 1 + t.length = b + (t.length + 1) by omega]
/-- a method's table is as the true machine wants it -/
def gx_okm (K : gx_K) (nm : Nat → String) (T : List gx_I) (q : gx_M) : Prop := T = [] ∨ ∃ cn, nm cn = q.1.cls ∧ gx_pc T 0 = 0 ∧ plainName q.1.cls = true ∧ gx_okl K q.2.2.1 cn q.2.1 q.2.2.2 T 0 T = true
theorem gx_fm {tbs : List (List Cond)} {i j : Nat} {l : List Cond} {w : Cond} (h1 : gx_nth tbs i = some l) (h2 : gx_nth l j = some w) (h3 : goodWord w = true) : w ∈ tbs.flatten.filter goodWord := by
  rw [gx_nth_eq] at h1 h2
  exact List.mem_filter.mpr ⟨List.mem_flatten.mpr ⟨l, List.mem_of_getElem? h1, List.mem_of_getElem? h2⟩, h3⟩
