/-! ===== rows of a method, and what the true machine wants of them ===== -/
abbrev gx_I : Type := Nat × Instr × Value × List Nat × List Nat
abbrev gx_Y : Type := Nat → Nat × Nat × List (Option Nat)
noncomputable def gx_nth {α : Type} (l : List α) : Nat → Option α := List.rec (fun _ => none) (fun a _ ih n => Nat.rec (some a) (fun k _ => ih k) n) l
theorem gx_nth_eq {α : Type} (l : List α) (i : Nat) : gx_nth l i = l[i]? := by
  induction l generalizing i with
  | nil => rfl
  | cons a t ih => cases i with
    | zero => rfl
    | succ j => exact ih j
abbrev gx_M : Type := MethodName × ByteArray × Nat × Option FieldType
def gx_len : Instr → Nat
  | .bipush _ => 2 | .ldc _ => 2 | .iload _ => 2 | .lload _ => 2 | .aload _ => 2 | .istore _ => 2 | .lstore _ => 2 | .astore _ => 2
  | .sipush _ => 3 | .ldc_w _ => 3 | .ldc2_w _ => 3 | .iinc _ _ => 3 | .goto _ => 3 | .ifCond _ _ => 3 | .if_icmp _ _ => 3 | .getfield _ => 3 | .putfield _ => 3 | .invokevirtual _ => 3 | .invokestatic _ => 3
  | _ => 1
noncomputable def gx_pc (T : List gx_I) (i : Nat) : Nat := match gx_nth T i with
  | some x => x.1
  | none => 0
/-- the words w stand in the tables at these places (1000 times the list, and the place in it), and are good -/
noncomputable def gx_w (tb : List (List Cond)) : List Cond → List Nat → Bool
  | [], _ => true
  | w :: t, p :: q => (match gx_nth tb (p / 1000) with
    | some l => decide (gx_nth l (p % 1000) = some w)
    | none => false) && goodWord w && gx_w tb t q
  | _, [] => false
theorem gx_w_mem {tb : List (List Cond)} : ∀ {ws : List Cond} {ps : List Nat}, gx_w tb ws ps = true → ∀ w ∈ ws, w ∈ tb.flatten.filter goodWord := by
  intro ws
  induction ws with
  | nil => intro ps _ w hw; cases hw
  | cons a t ih =>
    intro ps h w hw
    cases ps with
    | nil => simp [gx_w] at h
    | cons p q =>
      simp only [gx_w, Bool.and_eq_true] at h
      rcases List.mem_cons.mp hw with rfl | hw
      · cases hl : gx_nth tb (p / 1000) with
        | none => rw [hl] at h; exact absurd h.1.1 (fun z => by cases z)
        | some l =>
          rw [hl] at h
          have h1 := of_decide_eq_true h.1.1
          rw [gx_nth_eq] at h1 hl
          exact List.mem_filter.mpr ⟨List.mem_flatten.mpr ⟨l, List.mem_of_getElem? hl, List.mem_of_getElem? h1⟩, h.1.2⟩
      · exact ih h.2 w hw
noncomputable def gx_tgs (T : List gx_I) (pc : Nat) : List Int → List Nat → Bool
  | [], [] => true
  | a :: s, t :: u => decide ((pc : Int) + a = (gx_pc T t : Int)) && gx_tgs T pc s u
  | _, _ => false
def gx_tb (ins : Instr) : Bool := match ins with | .tableswitch .. => true | .lookupswitch .. => true | _ => false
def gx_ckd (cc : ByteArray) (pc : Nat) (ins : Instr) : Bool := match decode cc pc with
  | .ok (a, n) => decide (a = ins) && (gx_tb ins || Nat.beq n (gx_len ins))
  | _ => false
noncomputable def gx_ck1 (cl : List vw_C) (tb : List (List Cond)) (mt : Nat → gx_M) (nL : Nat) (own : String) (ret : Option FieldType) (T : List gx_I) (nx : Bool) (pc : Nat) (v : Value) (tg ps : List Nat) (ins : Instr) : Bool :=
  match ins with
  | .iconst n => decide (v = .int (Int32.ofInt n)) && nx
  | .bipush n => decide (v = .int (Int8.ofInt n).toInt32) && nx
  | .sipush n => decide (v = .int (Int16.ofInt n).toInt32) && nx
  | .lconst n => decide (v = .long (Int64.ofNat (n : Nat))) && nx
  | .ldc n => match v with | .int a => gx_w tb [.constant own n a] ps && nx | _ => false
  | .ldc_w n => match v with | .int a => gx_w tb [.constant own n a] ps && nx | _ => false
  | .ldc2_w n => match v with | .long a => gx_w tb [.constantLong own n a] ps && nx | _ => false
  | .iload_n k => decide (tg = [(k : Nat)]) && nx
  | .lload_n k => decide (tg = [(k : Nat)]) && nx
  | .aload_n k => decide (tg = [(k : Nat)]) && nx
  | .iload k => decide (tg = [k]) && nx
  | .lload k => decide (tg = [k]) && nx
  | .aload k => decide (tg = [k]) && nx
  | .istore_n k => decide (tg = [(k : Nat)]) && Nat.ble (k + 1) nL && nx
  | .astore_n k => decide (tg = [(k : Nat)]) && Nat.ble (k + 1) nL && nx
  | .lstore_n k => decide (tg = [(k : Nat)]) && Nat.ble (k + 2) nL && nx
  | .istore k => decide (tg = [k]) && Nat.ble (k + 1) nL && nx
  | .astore k => decide (tg = [k]) && Nat.ble (k + 1) nL && nx
  | .lstore k => decide (tg = [k]) && Nat.ble (k + 2) nL && nx
  | .iinc k n => decide (tg = [k]) && decide (v = .int (Int32.ofInt n)) && Nat.ble (k + 1) nL && nx
  | .goto a => match tg with | [t] => decide ((pc : Int) + a = (gx_pc T t : Int)) | _ => false
  | .ifCond _ a => match tg with | [t] => decide ((pc : Int) + a = (gx_pc T t : Int)) && nx | _ => false
  | .if_icmp _ a => match tg with | [t] => decide ((pc : Int) + a = (gx_pc T t : Int)) && nx | _ => false
  | .tableswitch d lo hi offs => match tg with
    | t :: tt => decide ((pc : Int) + d = (gx_pc T t : Int)) && gx_tgs T pc offs.toList tt && decide (hi = lo + (offs.size : Int) - 1)
    | _ => false
  | .lookupswitch df ps => gx_tgs T pc (df :: ps.toList.map (fun q => q.2)) tg && (ps.toList.zip (ps.toList.drop 1)).all (fun (a, next) => a.1 < next.1)
  | .getfield n => match tg with
    | [ci, j] => match cl[ci]? with
      | some (C, F, N) => Nat.ble (j + 1) N && decide ((F j).1 = C) && gx_w tb [.fieldLink own n C (F j).2.1 (F j).2.2.1] ps && nx
      | none => false
    | _ => false
  | .putfield n => match tg with
    | [ci, j] => match cl[ci]? with
      | some (C, F, N) => Nat.ble (j + 1) N && decide ((F j).1 = C) && decide ((F j).2.2.2 = false) && decide ((F j).2.2.1 = "I") && gx_w tb [.fieldLink own n C (F j).2.1 (F j).2.2.1] ps && nx
      | none => false
    | _ => false
  | .invokevirtual n => match tg with
    | [mj, na, 1, ci] => match mt mj, cl[ci]? with
      | (y, b, mL, rt), some (C, _, _) => decide (y.cls = C) && Nat.ble mj 999 && decide ((parseMethodDescriptor y.desc).map (fun d => d.parameters.length + 1) = some na) && Nat.ble mL 41 && decide (y.cls ≠ "java/lang/invoke/MethodHandle") && decide (y.cls ≠ "java/lang/invoke/VarHandle") && gx_w tb [.methodLink own n y, .instanceMethod y, .selects y.cls y y, .initialized y.cls, .code y b mL rt] ps && nx
      | _, _ => false
    | _ => false
  | .invokestatic n => match tg with
    | [1] => gx_w tb [.methodLink own n Lib.Math.max.name, .static Lib.Math.max.name, .initialized "java/lang/Math", .code Lib.Math.max.name Lib.Math.max.code 2 (some .int)] ps && nx
    | [2] => gx_w tb [.methodLink own n Lib.Math.min.name, .static Lib.Math.min.name, .initialized "java/lang/Math", .code Lib.Math.min.name Lib.Math.min.code 2 (some .int)] ps && nx
    | [0] => gx_w tb [.methodLink own n arraycopyName, .native arraycopyName, .static arraycopyName, .initialized "java/lang/System"] ps && nx
    | [mj, na, 0, _] => match mt mj with
      | (y, b, mL, rt) => Nat.ble mj 999 && decide ((parseMethodDescriptor y.desc).map (fun d => d.parameters.length) = some na) && Nat.ble mL 41 && decide (y.cls ≠ "java/lang/invoke/MethodHandle") && decide (y.cls ≠ "java/lang/invoke/VarHandle") && gx_w tb [.methodLink own n y, .static y, .initialized y.cls, .code y b mL rt] ps && nx
    | _ => false
  | .ireturn => match tg with
    | [0] => decide (ret = some .int)
    | [1] => decide (ret = some .boolean)
    | _ => false
  | .lreturn => decide (ret = some .long)
  | .return_ => decide (ret = none)
  | _ => nx
noncomputable def gx_ck (cl : List vw_C) (tb : List (List Cond)) (mt : Nat → gx_M) (nL : Nat) (own : String) (cc : ByteArray) (ret : Option FieldType) (T : List gx_I) (i : Nat) (x : gx_I) : Bool :=
  match x with
  | (_, _, .retAddr _, _, _) => true
  | (pc, ins, v, tg, ps) => gx_ckd cc pc ins && gx_ck1 cl tb mt nL own ret T (Nat.beq (gx_pc T (i + 1)) (pc + gx_len ins)) pc v tg ps ins
/-- a class's own table is as the rows want it -/
def gx_Cl (cl : List vw_C) (tb : List (List Cond)) : Prop := ∀ (ci : Nat) (C : String) (F : u_T) (N : Nat), cl[ci]? = some (C, F, N) → (∀ w ∈ u_ws C F N, w ∈ tb.flatten.filter goodWord) ∧ (∃ ty0 : Nat → FieldType, ∀ k, k < N → parseFieldDescriptor (F k).2.2.1 = some (ty0 k)) ∧ ∀ a, a < N → ∀ b, b < N → a ≠ b → (F a).2.1 ≠ (F b).2.1
noncomputable def gx_okl (cl : List vw_C) (tb : List (List Cond)) (mt : Nat → gx_M) (nL : Nat) (own : String) (cc : ByteArray) (ret : Option FieldType) (T : List gx_I) : Nat → List gx_I → Bool
  | _, [] => true
  | i, x :: t => gx_ck cl tb mt nL own cc ret T i x && gx_okl cl tb mt nL own cc ret T (i + 1) t
/-- a method's table is as the true machine wants it -/
noncomputable def gx_okm (cl : List vw_C) (tb : List (List Cond)) (mt : Nat → gx_M) (T : List gx_I) (q : gx_M) : Bool :=
  match T with
  | [] => true
  | x :: _ => Nat.beq x.1 0 && plainName q.1.cls && gx_okl cl tb mt q.2.2.1 q.1.cls q.2.1 q.2.2.2 T 0 T
