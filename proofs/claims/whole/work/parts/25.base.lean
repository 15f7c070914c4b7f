/-! ===== words for the methods as functions ===== -/
def z_ck {α : Type} (b : Bool) (x : Option α) : Option α := match b with
  | true => x
  | false => none
theorem z_ck_inv {α : Type} {b : Bool} {x : Option α} {y : α} (h : z_ck b x = some y) : b = true ∧ x = some y := by
  cases b with
  | true => exact ⟨rfl, h⟩
  | false => cases h
theorem z_ck_t {α : Type} {b : Bool} {x : Option α} (h : b = true) : z_ck b x = x := by rw [h]; rfl
def z_bd {α β : Type} (x : Option (α × gx_R)) (k : α → gx_R → Option β) : Option β := match x with
  | some (a, s) => k a s
  | none => none
theorem z_bd_inv {α β : Type} {x : Option (α × gx_R)} {k : α → gx_R → Option β} {y : β} (h : z_bd x k = some y) : ∃ a s, x = some (a, s) ∧ k a s = some y := by
  rcases x with _ | ⟨a, s⟩
  · cases h
  · exact ⟨a, s, rfl, h⟩
theorem z_bd_s {α β : Type} {x : Option (α × gx_R)} {k : α → gx_R → Option β} {a : α} {s : gx_R} (h : x = some (a, s)) : z_bd x k = k a s := by rw [h]; rfl
theorem z_ret {α : Type} {v rr : α} {s σ' : gx_R} (h : some (v, s) = some (rr, σ')) : v = rr ∧ s = σ' := by
  injection h with h
  injection h with h1 h2
  exact ⟨h1, h2⟩
theorem z_if_inv {α : Type} {c : Prop} [Decidable c] {a b : Option α} {y : α} (h : (if c then a else b) = some y) : (c ∧ a = some y) ∨ (¬ c ∧ b = some y) := by
  by_cases hc : c
  · rw [if_pos hc] at h; exact Or.inl ⟨hc, h⟩
  · rw [if_neg hc] at h; exact Or.inr ⟨hc, h⟩
def z_ix (i : Int32) (n : Nat) : Bool := !(decide (i < 0)) && Nat.blt i.toNatClampNeg n
theorem z_ix_iff {i : Int32} {n : Nat} : z_ix i n = true ↔ vp_in i n := by
  simp only [z_ix, vp_in, Bool.and_eq_true, Bool.not_eq_true', decide_eq_false_iff_not, Nat.blt_eq, not_or, Nat.not_le]
theorem z_ix_in {i : Int32} {n : Nat} (h : z_ix i n = true) : vp_in i n := z_ix_iff.mp h
def z_bo (v : Int32) : Bool := decide (v &&& 1 = v)
theorem z_bo_in {v : Int32} (h : z_bo v = true) : v &&& 1 = v := of_decide_eq_true h
def z_nzi (v : Int32) : Bool := decide (¬ v = 0)
theorem z_nzi_in {v : Int32} (h : z_nzi v = true) : ¬ v = 0 := of_decide_eq_true h
def z_nzl (v : Int64) : Bool := decide (¬ v = 0)
theorem z_nzl_in {v : Int64} (h : z_nzl v = true) : ¬ v = 0 := of_decide_eq_true h
def z_cpk (sp dp n : Int32) (n0 n1 : Nat) : Bool := decide (¬ sp < 0 ∧ ¬ dp < 0 ∧ ¬ n < 0 ∧ sp.toNatClampNeg + n.toNatClampNeg ≤ n0 ∧ dp.toNatClampNeg + n.toNatClampNeg ≤ n1)
theorem z_cpk_in {sp dp n : Int32} {n0 n1 : Nat} (h : z_cpk sp dp n n0 n1 = true) : ¬ sp < 0 ∧ ¬ dp < 0 ∧ ¬ n < 0 ∧ sp.toNatClampNeg + n.toNatClampNeg ≤ n0 ∧ dp.toNatClampNeg + n.toNatClampNeg ≤ n1 := of_decide_eq_true h
theorem z_ix4 {i : Int32} (h : z_ix i 4 = true) : i = nI 0 ∨ i = nI 1 ∨ i = nI 2 ∨ i = nI 3 := by
  obtain ⟨j, hj, rfl⟩ := vp_in_of (z_ix_in h) (by decide)
  rcases j with _ | _ | _ | _ | j
  · exact Or.inl rfl
  · exact Or.inr (Or.inl rfl)
  · exact Or.inr (Or.inr (Or.inl rfl))
  · exact Or.inr (Or.inr (Or.inr rfl))
  · omega
theorem z_sw_in {x k : Int32} {z : Int} (h : x = k) (e : k.toInt = z) : x.toInt = z := by rw [h, e]
theorem z_sw_ne {x k : Int32} {z : Int} (h : ¬ x = k) (e : k.toInt = z) : ¬ x.toInt = z := fun q => h (Int32.toInt_inj.mp (q.trans e.symm))
theorem z_lkn {x k : Int32} {a o d v : Int} {r : List (Int × Int)} (h : ¬ x = k) (e : k.toInt = a) (t : Op.lookupswitch.offset r d x.toInt = v) : Op.lookupswitch.offset ((a, o) :: r) d x.toInt = v := by
  rw [Op.lookupswitch.offset_cons, if_neg (fun q => z_sw_ne h e q.symm)]
  exact t
/-- more rounds than any loop here makes -/
theorem z_FU_ex : ∃ n : Nat, 1000000000000000 ≤ n := ⟨1000000000000000, Nat.le_refl _⟩
noncomputable def z_FU : Nat := Classical.choose z_FU_ex
theorem z_FU_ge : 1000000000000000 ≤ z_FU := Classical.choose_spec z_FU_ex
theorem z_FU_s : ∃ q, z_FU = q + 1 := ⟨z_FU - 1, by have := z_FU_ge; omega⟩
def z_nm : List Int32 := [63, 199, 15, 267]
def z_nmAt (j : Int32) : Int32 := z_nm.getD j.toNatClampNeg 0
def z_ws : List Int32 := [119, 111, 114, 116, 104, 98, 117, 114, 110, 32, 115, 111, 117, 110, 100, 112, 114, 105, 99, 101, 119, 97, 107, 101, 32, 115, 108, 101, 101, 112, 105, 100, 108, 101, 32, 99, 97, 108, 108, 32, 114, 101, 112, 97, 121, 104, 111, 117, 114, 32, 97, 116, 32, 32, 32, 102, 111, 114, 32, 32, 116, 111, 32, 32, 32, 98, 121, 32, 32, 32, 105, 102, 32, 32, 32, 116, 104, 101, 110, 32, 101, 108, 115, 101, 32, 101, 110, 100, 32, 32, 111, 114, 32, 32, 32, 97, 110, 100, 32, 32, 110, 111, 116, 32, 32, 119, 104, 111, 32, 32, 110, 111, 119, 32, 32, 111, 110, 32, 32, 32, 100, 101, 112, 116, 104, 100, 114, 101, 97, 109, 119, 104, 111, 109, 32, 116, 97, 115, 107, 32, 110, 111, 105, 115, 101, 111, 119, 101, 100, 32]
def z_chAt (j : Int32) : Int32 := z_ws.getD j.toNatClampNeg 0
/-- the marked rows: the array of names, the text of the words -/
def z_Sp : gx_C := fun mi as σ r σ' => σ' = σ ∧ ((mi = 1000 ∧ as = [] ∧ r = some (.ref 200)) ∨ (mi = 1001 ∧ ∃ j, as = [.ref 200, .int j] ∧ vp_in j 4 ∧ r = some (.int (z_nmAt j))) ∨ (mi = 1002 ∧ as = [] ∧ r = some (.ref 201)) ∨ (mi = 1003 ∧ ∃ j, as = [.ref 201, .int j] ∧ vp_in j 150 ∧ r = some (.int (z_chAt j))))
def E0 : Nat → gx_C := gx_Em lay0 TT0 mt0 z_Sp
theorem sp_1000 (D : Nat) (σ : gx_R) (h : 1 ≤ D) : E0 D 1000 [] σ (some (.ref 200)) σ := by
  cases D with
  | zero => omega
  | succ d => exact Or.inr ⟨rfl, Or.inl ⟨rfl, rfl, rfl⟩⟩
theorem sp_1001 (D : Nat) (σ : gx_R) (j : Int32) (h : 1 ≤ D) (hj : z_ix j 4 = true) : E0 D 1001 [.ref 200, .int j] σ (some (.int (z_nmAt j))) σ := by
  cases D with
  | zero => omega
  | succ d => exact Or.inr ⟨rfl, Or.inr (Or.inl ⟨rfl, j, rfl, z_ix_in hj, rfl⟩)⟩
theorem sp_1002 (D : Nat) (σ : gx_R) (h : 1 ≤ D) : E0 D 1002 [] σ (some (.ref 201)) σ := by
  cases D with
  | zero => omega
  | succ d => exact Or.inr ⟨rfl, Or.inr (Or.inr (Or.inl ⟨rfl, rfl, rfl⟩))⟩
theorem sp_1003 (D : Nat) (σ : gx_R) (j : Int32) (h : 1 ≤ D) (hj : z_ix j 150 = true) : E0 D 1003 [.ref 201, .int j] σ (some (.int (z_chAt j))) σ := by
  cases D with
  | zero => omega
  | succ d => exact Or.inr ⟨rfl, Or.inr (Or.inr (Or.inr ⟨rfl, j, rfl, z_ix_in hj, rfl⟩))⟩
