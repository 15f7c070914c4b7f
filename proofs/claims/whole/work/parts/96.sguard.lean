/-! ===== guard, put together ===== -/
theorem InvG_best {g : Nat → Bool} {B : Nat} {v : Int32} (h : InvG g B B v) : Best g (pcN 8) (B + 1) v := by
  obtain ⟨x, h1, h2, h3, h4⟩ := h
  exact Or.inr ⟨x, by omega, h1, h3, fun y hy gy => h4 y (by omega) gy⟩
theorem pcN_255 : ∀ y, y < 256 → 8 ≤ pcN 8 y → y = 255 := pc_8
/-- leaving out all other sleepers, nobody but the one is in -/
theorem woken_B {σ1 : gx_R} {a : Int32} {p : Nat} {w : Int32} (hp : p < 8) (ha : ∀ s, s < 32 → bt a s = true → s = p) (h55 : ∀ s, s < 8 → bt a s = true → ∀ i, i < 32 → bt (σ1 55 s) i = true → i < 8) (hw : Cl_spread ((1 : Int32) <<< (nI p &&& 31)) a σ1 = some (w, σ1)) : ∀ i, i < 32 → bt w i = true → i = p := by
  obtain ⟨x, s1, s2⟩ := spread_v (a := a) (f := (1 : Int32) <<< (nI p &&& 31)) (σ := σ1) h55 (fun i hi hb => by have := ha i hi hb; omega) (fun i hi hb => by
    rw [b_bit (by omega) hi] at hb
    have := of_decide_eq_true hb
    omega)
  have e : w = x := some_v hw s1
  subst e
  intro i hi hb
  have h := s2.2.2 ((1 : Int32) <<< (nI p &&& 31)) (sub_rf _) (fun s q hs hq hE _ => by
    have h1 := ha s (by omega) (Bool.and_eq_true_iff.mp hE).1
    subst h1
    rw [b_bit (by omega) (by omega)]; exact decide_eq_true rfl) i hi hb
  rw [b_bit (by omega) hi] at h
  exact of_decide_eq_true h
