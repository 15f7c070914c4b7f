/-! ===== a small machine over numbered cells: what a step does, what must hold for it ===== -/
abbrev gx_R : Type := Nat → Nat → Int32
abbrev gx_O : Type := Nat ⊕ (Option Value × gx_R)
abbrev gx_C : Type := Nat → List Value → gx_R → Option Value → gx_R → Prop
abbrev gx_S : Type := (Nat × List Value × List Value × gx_R) ⊕ (Option Value × gx_R)
def gx_up (σ : gx_R) (k j : Nat) (x : Int32) : gx_R := fun k' j' => if k' = k then (if j' = j then x else σ k j') else σ k' j'
def gx_cp (σ : gx_R) (k0 k1 sp dp n : Nat) : gx_R := fun k' j' => if k' = k1 then (if dp ≤ j' ∧ j' < dp + n then σ k0 (sp + (j' - dp)) else σ k1 j') else σ k' j'
def gx_hi (x : Int64) : Int32 := Int32.ofBitVec (x.toBitVec.extractLsb' 32 32)
def gx_lo (x : Int64) : Int32 := Int32.ofBitVec (x.toBitVec.extractLsb' 0 32)
def gx_l (r : Nat → Int32) (j : Nat) : Int64 := Int64.ofBitVec ((r (2 * j)).toBitVec ++ (r (2 * j + 1)).toBitVec)
def gx_upl (σ : gx_R) (k j : Nat) (x : Int64) : gx_R := gx_up (gx_up σ k (2 * j) (gx_hi x)) k (2 * j + 1) (gx_lo x)
noncomputable def gx_sl (ls : List Value) (i : Nat) (v : Value) : List Value := match i with
  | 0 => ls.set 0 v
  | j + 1 => match gx_nth ls j with
    | some (.long _) => (ls.set j .null).set (j + 1) v
    | some (.double _) => (ls.set j .null).set (j + 1) v
    | _ => ls.set (j + 1) v
def gx_go (o : List gx_O) (i : Nat) (ls st : List Value) (σ : gx_R) : Option (List Prop × List gx_O × gx_S) := some ([], o, .inl (i, ls, st, σ))
def gx_wo (P : Prop) (o : List gx_O) (i : Nat) (ls st : List Value) (σ : gx_R) : Option (List Prop × List gx_O × gx_S) := some ([P], o, .inl (i, ls, st, σ))
def gx_br (c : Prop) (tg : List Nat) (o : List gx_O) (i : Nat) (ls st : List Value) (σ : gx_R) : Option (List Prop × List gx_O × gx_S) := match o with
  | .inl 0 :: o' => some ([¬ c], o', .inl (i + 1, ls, st, σ))
  | .inl _ :: o' => match tg with
    | t :: _ => some ([c], o', .inl (t, ls, st, σ))
    | _ => none
  | _ => none
noncomputable def gx_ldi (tg : List Nat) (o : List gx_O) (i : Nat) (ls st : List Value) (σ : gx_R) : Option (List Prop × List gx_O × gx_S) := match tg with
  | t :: _ => match gx_nth ls t with
    | some (.int a) => some ([], o, .inl (i + 1, ls, .int a :: st, σ))
    | _ => none
  | _ => none
noncomputable def gx_ldl (tg : List Nat) (o : List gx_O) (i : Nat) (ls st : List Value) (σ : gx_R) : Option (List Prop × List gx_O × gx_S) := match tg with
  | t :: _ => match gx_nth ls t with
    | some (.long a) => some ([], o, .inl (i + 1, ls, .long a :: st, σ))
    | _ => none
  | _ => none
noncomputable def gx_lda (tg : List Nat) (o : List gx_O) (i : Nat) (ls st : List Value) (σ : gx_R) : Option (List Prop × List gx_O × gx_S) := match tg with
  | t :: _ => match gx_nth ls t with
    | some (.ref a) => some ([], o, .inl (i + 1, ls, .ref a :: st, σ))
    | _ => none
  | _ => none
def gx_ok8 (st : List Value) : Bool := Nat.ble ((st.map Value.category).sum) 8
/-- a call: tg is the method, how many values it takes (this too), 0 static and 1 of an object, the object's class -/
def gx_cl (lay : gx_Y) (C : gx_C) (tg : List Nat) (o : List gx_O) (i : Nat) (ls st : List Value) (σ : gx_R) : Option (List Prop × List gx_O × gx_S) := match tg, o with
  | [mj, n, q, ci], .inr (r, σ1) :: o' =>
    let as := (st.take n).reverse
    let st' := st.drop n
    bif Nat.ble n st.length && gx_ok8 st' then
      (match q with
       | 0 => some ([C mj as σ r σ1], o', .inl (i + 1, ls, r.toList ++ st', σ1))
       | _ => match as with
         | .ref k :: _ => bif Nat.beq (lay k).1 4 && Nat.beq (lay k).2.1 ci then some ([C mj as σ r σ1], o', .inl (i + 1, ls, r.toList ++ st', σ1)) else none
         | _ => none)
    else none
  | _, _ => none
noncomputable def gx_stq (lay : gx_Y) (C : gx_C) (x : gx_I) (o : List gx_O) (i : Nat) (ls st : List Value) (σ : gx_R) : Option (List Prop × List gx_O × gx_S) :=
  match x with
  | (_, ins, v, tg, _) =>
  match ins with
  | .iconst _ => gx_go o (i + 1) ls (v :: st) σ
  | .bipush _ => gx_go o (i + 1) ls (v :: st) σ
  | .sipush _ => gx_go o (i + 1) ls (v :: st) σ
  | .ldc _ => gx_go o (i + 1) ls (v :: st) σ
  | .ldc_w _ => gx_go o (i + 1) ls (v :: st) σ
  | .ldc2_w _ => gx_go o (i + 1) ls (v :: st) σ
  | .lconst _ => gx_go o (i + 1) ls (v :: st) σ
  | .iload_n _ => gx_ldi tg o i ls st σ
  | .iload _ => gx_ldi tg o i ls st σ
  | .lload_n _ => gx_ldl tg o i ls st σ
  | .lload _ => gx_ldl tg o i ls st σ
  | .aload_n _ => gx_lda tg o i ls st σ
  | .aload _ => gx_lda tg o i ls st σ
  | .istore_n _ => match tg, st with | t :: _, .int a :: st' => gx_go o (i + 1) (gx_sl ls t (.int a)) st' σ | _, _ => none
  | .istore _ => match tg, st with | t :: _, .int a :: st' => gx_go o (i + 1) (gx_sl ls t (.int a)) st' σ | _, _ => none
  | .astore_n _ => match tg, st with | t :: _, .ref a :: st' => gx_go o (i + 1) (gx_sl ls t (.ref a)) st' σ | _, _ => none
  | .astore _ => match tg, st with | t :: _, .ref a :: st' => gx_go o (i + 1) (gx_sl ls t (.ref a)) st' σ | _, _ => none
  | .lstore_n _ => match tg, st with | t :: _, .long a :: st' => gx_go o (i + 1) (gx_sl (ls.set (t + 1) .null) t (.long a)) st' σ | _, _ => none
  | .lstore _ => match tg, st with | t :: _, .long a :: st' => gx_go o (i + 1) (gx_sl (ls.set (t + 1) .null) t (.long a)) st' σ | _, _ => none
  | .iinc _ _ => match tg, v with
    | t :: _, .int b => match gx_nth ls t with
      | some (.int a) => gx_go o (i + 1) (gx_sl ls t (.int (a + b))) st σ
      | _ => none
    | _, _ => none
  | .iadd => match st with | .int y :: .int x :: st' => gx_go o (i + 1) ls (.int (x + y) :: st') σ | _ => none
  | .isub => match st with | .int y :: .int x :: st' => gx_go o (i + 1) ls (.int (x - y) :: st') σ | _ => none
  | .imul => match st with | .int y :: .int x :: st' => gx_go o (i + 1) ls (.int (x * y) :: st') σ | _ => none
  | .iand => match st with | .int y :: .int x :: st' => gx_go o (i + 1) ls (.int (x &&& y) :: st') σ | _ => none
  | .ior => match st with | .int y :: .int x :: st' => gx_go o (i + 1) ls (.int (x ||| y) :: st') σ | _ => none
  | .ixor => match st with | .int y :: .int x :: st' => gx_go o (i + 1) ls (.int (x ^^^ y) :: st') σ | _ => none
  | .ishl => match st with | .int y :: .int x :: st' => gx_go o (i + 1) ls (.int (x <<< (y &&& 31)) :: st') σ | _ => none
  | .ishr => match st with | .int y :: .int x :: st' => gx_go o (i + 1) ls (.int (x >>> (y &&& 31)) :: st') σ | _ => none
  | .iushr => match st with | .int y :: .int x :: st' => gx_go o (i + 1) ls (.int (x.toUInt32 >>> (y.toUInt32 &&& Int32.toUInt32 31)).toInt32 :: st') σ | _ => none
  | .idiv => match st with | .int y :: .int x :: st' => gx_wo (¬ y = 0) o (i + 1) ls (.int (x / y) :: st') σ | _ => none
  | .irem => match st with | .int y :: .int x :: st' => gx_wo (¬ y = 0) o (i + 1) ls (.int (x - x / y * y) :: st') σ | _ => none
  | .ineg => match st with | .int x :: st' => gx_go o (i + 1) ls (.int (-x) :: st') σ | _ => none
  | .ladd => match st with | .long y :: .long x :: st' => gx_go o (i + 1) ls (.long (x + y) :: st') σ | _ => none
  | .lsub => match st with | .long y :: .long x :: st' => gx_go o (i + 1) ls (.long (x - y) :: st') σ | _ => none
  | .lmul => match st with | .long y :: .long x :: st' => gx_go o (i + 1) ls (.long (x * y) :: st') σ | _ => none
  | .ldiv => match st with | .long y :: .long x :: st' => gx_wo (¬ y = 0) o (i + 1) ls (.long (x / y) :: st') σ | _ => none
  | .lrem => match st with | .long y :: .long x :: st' => gx_wo (¬ y = 0) o (i + 1) ls (.long (x - x / y * y) :: st') σ | _ => none
  | .lneg => match st with | .long x :: st' => gx_go o (i + 1) ls (.long (-x) :: st') σ | _ => none
  | .i2l => match st with | .int x :: st' => gx_go o (i + 1) ls (.long x.toInt64 :: st') σ | _ => none
  | .l2i => match st with | .long x :: st' => gx_go o (i + 1) ls (.int x.toInt32 :: st') σ | _ => none
  | .i2b => match st with | .int x :: st' => gx_go o (i + 1) ls (.int x.toInt8.toInt32 :: st') σ | _ => none
  | .lcmp => match st with | .long y :: .long x :: st' => gx_go o (i + 1) ls (.int (lg_cmp x y) :: st') σ | _ => none
  | .dup => match st with
    | .int a :: st' => gx_go o (i + 1) ls (.int a :: .int a :: st') σ
    | .ref a :: st' => gx_go o (i + 1) ls (.ref a :: .ref a :: st') σ
    | _ => none
  | .dup2 => match st with
    | .int a :: .ref b :: st' => gx_go o (i + 1) ls (.int a :: .ref b :: .int a :: .ref b :: st') σ
    | .int a :: .int b :: st' => gx_go o (i + 1) ls (.int a :: .int b :: .int a :: .int b :: st') σ
    | _ => none
  | .pop => match st with
    | .int _ :: st' => gx_go o (i + 1) ls st' σ
    | _ => none
  | .goto _ => match tg with | t :: _ => gx_go o t ls st σ | _ => none
  | .ifCond cd _ => match st with
    | .int x :: st' => match cd with
      | .eq => gx_br (x = 0) tg o i ls st' σ
      | .ne => gx_br (¬ x = 0) tg o i ls st' σ
      | .lt => gx_br (x < 0) tg o i ls st' σ
      | .ge => gx_br (0 ≤ x) tg o i ls st' σ
      | .gt => gx_br (0 < x) tg o i ls st' σ
      | .le => gx_br (x ≤ 0) tg o i ls st' σ
    | _ => none
  | .if_icmp cd _ => match st with
    | .int y :: .int x :: st' => match cd with
      | .eq => gx_br (x = y) tg o i ls st' σ
      | .ne => gx_br (¬ x = y) tg o i ls st' σ
      | .lt => gx_br (x < y) tg o i ls st' σ
      | .ge => gx_br (y ≤ x) tg o i ls st' σ
      | .gt => gx_br (y < x) tg o i ls st' σ
      | .le => gx_br (x ≤ y) tg o i ls st' σ
    | _ => none
  | .tableswitch _ lo hi _ => match st, o, tg with
    | .int x :: st', .inl 0 :: o', t :: _ => gx_wo (x.toInt < lo ∨ hi < x.toInt) o' t ls st' σ
    | .int x :: st', .inl (j + 1) :: o', _ :: tt => match gx_nth tt j with
      | some t => gx_wo (x.toInt = lo + (j : Int)) o' t ls st' σ
      | none => none
    | _, _, _ => none
  | .lookupswitch df ps => match st, o with
    | .int x :: st', .inl j :: o' => match gx_nth tg j, gx_nth (df :: ps.toList.map (fun q => q.2)) j with
      | some t, some a => gx_wo (Op.lookupswitch.offset ps.toList df x.toInt = a) o' t ls st' σ
      | _, _ => none
    | _, _ => none
  | .getfield _ => match tg, st with
    | [ci, j], .ref k :: st' => match lay k with
      | (4, cj, fs) => bif Nat.beq ci cj then (match gx_nth fs j with
        | some (some q) => gx_go o (i + 1) ls (.ref q :: st') σ
        | some none => gx_go o (i + 1) ls (.int (σ k j) :: st') σ
        | none => none) else none
      | _ => none
    | _, _ => none
  | .putfield _ => match tg, st with
    | [ci, j], .int a :: .ref k :: st' => match lay k with
      | (4, cj, fs) => bif Nat.beq ci cj then (match gx_nth fs j with
        | some none => gx_go o (i + 1) ls st' (gx_up σ k j a)
        | _ => none) else none
      | _ => none
    | _, _ => none
  | .iaload => match st with
    | .int j :: .ref k :: st' => match lay k with
      | (0, n, _) => gx_wo (vp_in j n) o (i + 1) ls (.int (σ k j.toNatClampNeg) :: st') σ
      | _ => none
    | _ => none
  | .baload => match st with
    | .int j :: .ref k :: st' => match lay k with
      | (1, n, _) => gx_wo (vp_in j n) o (i + 1) ls (.int (σ k j.toNatClampNeg) :: st') σ
      | _ => none
    | _ => none
  | .laload => match st with
    | .int j :: .ref k :: st' => match lay k with
      | (2, n, _) => gx_wo (vp_in j n) o (i + 1) ls (.long (gx_l (σ k) j.toNatClampNeg) :: st') σ
      | _ => none
    | _ => none
  | .aaload => match st, o with
    | .int j :: .ref k :: st', .inl q :: o' => match lay k with
      | (3, n, fs) => match gx_nth fs q with
        | some (some t) => gx_wo (j = nI q ∧ q < n ∧ n < 2 ^ 31) o' (i + 1) ls (.ref t :: st') σ
        | _ => none
      | _ => none
    | _, _ => none
  | .iastore => match st with
    | .int a :: .int j :: .ref k :: st' => match lay k with
      | (0, n, _) => gx_wo (vp_in j n) o (i + 1) ls st' (gx_up σ k j.toNatClampNeg a)
      | _ => none
    | _ => none
  | .bastore => match st with
    | .int a :: .int j :: .ref k :: st' => match lay k with
      | (1, n, _) => gx_wo (vp_in j n) o (i + 1) ls st' (gx_up σ k j.toNatClampNeg (vp_nar .byte a))
      | _ => none
    | _ => none
  | .lastore => match st with
    | .long a :: .int j :: .ref k :: st' => match lay k with
      | (2, n, _) => gx_wo (vp_in j n) o (i + 1) ls st' (gx_upl σ k j.toNatClampNeg a)
      | _ => none
    | _ => none
  | .arraylength => match st with
    | .ref k :: st' => match lay k with
      | (0, n, _) => gx_go o (i + 1) ls (.int (nI n) :: st') σ
      | (3, n, _) => gx_go o (i + 1) ls (.int (nI n) :: st') σ
      | _ => none
    | _ => none
  | .invokevirtual _ => gx_cl lay C tg o i ls st σ
  | .invokestatic _ => match tg with
    | [1] => match st with
      | .int y :: .int x :: st' => bif gx_ok8 st' then gx_go o (i + 1) ls (.int (if x < y then y else x) :: st') σ else none
      | _ => none
    | [2] => match st with
      | .int y :: .int x :: st' => bif gx_ok8 st' then gx_go o (i + 1) ls (.int (if y < x then y else x) :: st') σ else none
      | _ => none
    | [0] => match st with
      | .int n :: .int dp :: .ref k1 :: .int sp :: .ref k0 :: st' => match lay k0, lay k1 with
        | (0, n0, _), (0, n1, _) => bif gx_ok8 st' then gx_wo (¬ sp < 0 ∧ ¬ dp < 0 ∧ ¬ n < 0 ∧ sp.toNatClampNeg + n.toNatClampNeg ≤ n0 ∧ dp.toNatClampNeg + n.toNatClampNeg ≤ n1) o (i + 1) ls st' (gx_cp σ k0 k1 sp.toNatClampNeg dp.toNatClampNeg n.toNatClampNeg) else none
        | _, _ => none
      | _ => none
    | _ => gx_cl lay C tg o i ls st σ
  | .ireturn => match st, tg with
    | [.int a], [0] => some ([], o, .inr (some (.int a), σ))
    | [.int a], [1] => some ([a &&& 1 = a], o, .inr (some (.int a), σ))
    | _, _ => none
  | .lreturn => match st with | [.long a] => some ([], o, .inr (some (.long a), σ)) | _ => none
  | .return_ => match st with | [] => some ([], o, .inr (none, σ)) | _ => none
  | _ => none
/-- a marked row: a step of another kind, told by what is known of number tg.1 -/
def gx_mk (C : gx_C) (tg : List Nat) (o : List gx_O) (i : Nat) (ls st : List Value) (σ : gx_R) : Option (List Prop × List gx_O × gx_S) := match tg, o with
  | mj :: n :: _, .inr (r, σ1) :: o' => bif Nat.ble n st.length && gx_ok8 (st.drop n) then some ([C mj ((st.take n).reverse) σ r σ1], o', .inl (i + 1, ls, r.toList ++ st.drop n, σ1)) else none
  | _, _ => none
noncomputable def gx_stp (lay : gx_Y) (C : gx_C) (x : gx_I) (o : List gx_O) (i : Nat) (ls st : List Value) (σ : gx_R) : Option (List Prop × List gx_O × gx_S) := match x.2.2.1 with
  | .retAddr _ => gx_mk C x.2.2.2.1 o i ls st σ
  | _ => gx_stq lay C x o i ls st σ
def gx_all : List Prop → Prop
  | [] => True
  | p :: t => p ∧ gx_all t
def gx_nxt (X : Nat → List Value → List Value → gx_R → Prop) (r : Option Value) (σ' : gx_R) : gx_S → Prop
  | .inl (i', ls', st', σ1) => X i' ls' st' σ1
  | .inr (r1, σ1) => r1 = r ∧ σ1 = σ'
/-- of the locals less is known -/
def gx_fg : List Value → List Value → Prop
  | _, [] => True
  | a :: t, b :: u => (b = .null ∨ b = a) ∧ gx_fg t u
  | [], _ :: _ => False
/-- from here the method comes to this end: the least relation that the steps close -/
def gx_Ev (lay : gx_Y) (C : gx_C) (T : List gx_I) (r : Option Value) (σ' : gx_R) (i : Nat) (ls st : List Value) (σ : gx_R) : Prop :=
  ∀ X : Nat → List Value → List Value → gx_R → Prop, (∀ i ls st σ x o P o' y, gx_nth T i = some x → gx_stp lay C x o i ls st σ = some (P, o', y) → gx_all P → gx_nxt X r σ' y → X i ls st σ) → (∀ i ls ls' st σ, gx_fg ls ls' → X i ls' st σ → X i ls st σ) → X i ls st σ
/-- many steps at once -/
noncomputable def gx_pth (lay : gx_Y) (C : gx_C) (T : List gx_I) : Nat → List gx_O → Nat → List Value → List Value → gx_R → Option (List Prop × gx_S)
  | 0, _, i, ls, st, σ => some ([], .inl (i, ls, st, σ))
  | n + 1, o, i, ls, st, σ => match gx_nth T i with
    | some x => match gx_stp lay C x o i ls st σ with
      | some (P, o', .inl (i', ls', st', σ1)) => match gx_pth lay C T n o' i' ls' st' σ1 with
        | some (P', y) => some (P ++ P', y)
        | none => none
      | some (P, _, .inr y) => some (P, .inr y)
      | none => none
    | none => none
theorem gx_all_app {P Q : List Prop} (h : gx_all (P ++ Q)) : gx_all P ∧ gx_all Q := by
  induction P with
  | nil => exact ⟨trivial, h⟩
  | cons a t ih => exact ⟨⟨h.1, (ih h.2).1⟩, (ih h.2).2⟩
theorem gx_Ev_pth {lay : gx_Y} {C : gx_C} {T : List gx_I} {r : Option Value} {σ' : gx_R} : ∀ (n : Nat) (o : List gx_O) (i : Nat) (ls st : List Value) (σ : gx_R) (P : List Prop) (y : gx_S), gx_pth lay C T n o i ls st σ = some (P, y) → gx_all P → gx_nxt (gx_Ev lay C T r σ') r σ' y → gx_Ev lay C T r σ' i ls st σ := by
  intro n
  induction n with
  | zero =>
    intro o i ls st σ P y h _ hy
    simp only [gx_pth, Option.some.injEq, Prod.mk.injEq] at h
    obtain ⟨-, rfl⟩ := h
    exact hy
  | succ n ih =>
    intro o i ls st σ P y h hP hy
    rw [gx_pth] at h
    split at h
    · rename_i x hx
      split at h
      · rename_i P0 o' i' ls' st' σ1 hs
        split at h
        · rename_i P1 y1 hp
          simp only [Option.some.injEq, Prod.mk.injEq] at h
          obtain ⟨rfl, rfl⟩ := h
          obtain ⟨h1, h2⟩ := gx_all_app hP
          have h3 := ih o' i' ls' st' σ1 P1 y1 hp h2 hy
          intro X hX hF
          exact hX i ls st σ x o P0 o' _ hx hs h1 (h3 X hX hF)
        · cases h
      · rename_i P0 o' y0 hs
        simp only [Option.some.injEq, Prod.mk.injEq] at h
        obtain ⟨rfl, rfl⟩ := h
        intro X hX hF
        exact hX i ls st σ x o P0 o' _ hx hs hP hy
      · cases h
    · cases h
theorem gx_go_ {lay : gx_Y} {C : gx_C} {T : List gx_I} {r : Option Value} {σ' : gx_R} {i : Nat} {ls st : List Value} {σ : gx_R} (n : Nat) (o : List gx_O) (P : List Prop) (i' : Nat) (ls' st' : List Value) (σ1 : gx_R) (h : gx_pth lay C T n o i ls st σ = some (P, .inl (i', ls', st', σ1))) (hP : gx_all P) (k : gx_Ev lay C T r σ' i' ls' st' σ1) : gx_Ev lay C T r σ' i ls st σ := gx_Ev_pth n o i ls st σ P _ h hP k
theorem gx_end {lay : gx_Y} {C : gx_C} {T : List gx_I} {r : Option Value} {σ' : gx_R} {i : Nat} {ls st : List Value} {σ : gx_R} (n : Nat) (o : List gx_O) (P : List Prop) (h : gx_pth lay C T n o i ls st σ = some (P, .inr (r, σ'))) (hP : gx_all P) : gx_Ev lay C T r σ' i ls st σ := gx_Ev_pth n o i ls st σ P _ h hP ⟨rfl, rfl⟩
theorem gx_fgt {lay : gx_Y} {C : gx_C} {T : List gx_I} {r : Option Value} {σ' : gx_R} {i : Nat} {ls ls' st : List Value} {σ : gx_R} (h : gx_fg ls ls') (k : gx_Ev lay C T r σ' i ls' st σ) : gx_Ev lay C T r σ' i ls st σ := fun X hX hF => hF i ls ls' st σ h (k X hX hF)
theorem gx_fg_at : ∀ {ls ls' : List Value} {j : Nat} {v : Value}, gx_fg ls ls' → ls'[j]? = some v → v ≠ .null → ls[j]? = some v
  | _, [], j, v, _, h, _ => by simp at h
  | a :: t, b :: u, 0, v, h, hj, hv => by
    simp at hj
    subst hj
    rcases h.1 with q | q
    · exact absurd q hv
    · rw [q]; rfl
  | a :: t, b :: u, j + 1, v, h, hj, hv => by
    have := gx_fg_at h.2 (by simpa using hj) hv
    simpa using this
  | [], _ :: _, _, _, h, _, _ => h.elim
/-- where a switch goes -/
def gx_swt (td : Nat) (tt : List Nat) (lo : Int) (x : Int32) : Nat := if x.toInt < lo ∨ lo + (tt.length : Int) - 1 < x.toInt then td else (tt[(x.toInt - lo).toNat]?).getD td
def gx_swn (td : Nat) : Int → List Nat → Int32 → Prop
  | _, [], _ => True
  | lo, t :: u, x => (t = td ∨ ¬ x.toInt = lo) ∧ gx_swn td (lo + 1) u x
theorem gx_swn_at {td : Nat} {x : Int32} : ∀ {tt : List Nat} {lo : Int} {j t : Nat}, gx_swn td lo tt x → tt[j]? = some t → x.toInt = lo + (j : Int) → t = td := by
  intro tt
  induction tt with
  | nil => intro lo j t _ h _; simp at h
  | cons a u ih =>
    intro lo j t h hj hx
    cases j with
    | zero =>
      simp at hj
      subst hj
      rcases h.1 with q | q
      · exact q
      · exact absurd (by simpa using hx) q
    | succ j => exact ih h.2 (by simpa using hj) (by omega)
theorem gx_swt_df {td : Nat} {tt : List Nat} {lo : Int} {x : Int32} (h : gx_swn td lo tt x) : gx_swt td tt lo x = td := by
  unfold gx_swt
  split
  · rfl
  · rename_i hc
    cases hq : tt[(x.toInt - lo).toNat]? with
    | none => rfl
    | some t => exact gx_swn_at h hq (by omega)
theorem gx_sw {lay : gx_Y} {C : gx_C} {T : List gx_I} {r : Option Value} {σ' : gx_R} {i : Nat} {ls st : List Value} {σ : gx_R} {pc : Nat} {df lo hi : Int} {offs : Array Int} {td : Nat} {tt ps : List Nat} {x : Int32} (hT : gx_nth T i = some (pc, .tableswitch df lo hi offs, .null, td :: tt, ps)) (hh : hi = lo + (tt.length : Int) - 1) (k : gx_Ev lay C T r σ' (gx_swt td tt lo x) ls st σ) : gx_Ev lay C T r σ' i ls (.int x :: st) σ := by
  intro X hX hF
  have k := k X hX hF
  unfold gx_swt at k
  split at k
  · rename_i hc
    refine hX i ls _ σ _ [.inl 0] [x.toInt < lo ∨ hi < x.toInt] [] (.inl (td, ls, st, σ)) hT rfl ⟨?_, trivial⟩ k
    rw [hh]
    exact hc
  · rename_i hc
    have hlt : (x.toInt - lo).toNat < tt.length := by omega
    have hq : tt[(x.toInt - lo).toNat]? = some tt[(x.toInt - lo).toNat] := List.getElem?_eq_getElem hlt
    rw [hq] at k
    refine hX i ls _ σ _ [.inl ((x.toInt - lo).toNat + 1)] [x.toInt = lo + ((x.toInt - lo).toNat : Int)] [] (.inl (tt[(x.toInt - lo).toNat], ls, st, σ)) hT ?_ ⟨?_, trivial⟩ k
    · show (match gx_nth tt (x.toInt - lo).toNat with
        | some t => gx_wo (x.toInt = lo + ((x.toInt - lo).toNat : Int)) [] t ls st σ
        | none => none) = _
      rw [gx_nth_eq, hq]
      rfl
    · omega
