theorem gx_okl_a {cl : List vw_C} {tb : List (List Cond)} {mt : Nat → gx_M} {nL : Nat} {own : String} {cc : ByteArray} {ret : Option FieldType} {T : List gx_I} : ∀ {u w : List gx_I} {b : Nat}, gx_okl cl tb mt nL own cc ret T b u = true → gx_okl cl tb mt nL own cc ret T (b + u.length) w = true → gx_okl cl tb mt nL own cc ret T b (u ++ w) = true := by
  intro u
  induction u with
  | nil => intro w b _ h; exact h
  | cons a t ih =>
    intro w b h h2
    simp only [gx_okl, Bool.and_eq_true] at h
    simp only [List.cons_append, gx_okl, Bool.and_eq_true]
    refine ⟨h.1, ih h.2 ?_⟩
    rw [List.length_cons] at h2
    rwa [show b + 1 + t.length = b + (t.length + 1) by omega]
theorem gx_okm_mk {cl : List vw_C} {tb : List (List Cond)} {mt : Nat → gx_M} {T : List gx_I} {q : gx_M} {x : gx_I} {t : List gx_I} (hT : T = x :: t) (h0 : Nat.beq x.1 0 = true) (hp : plainName q.1.cls = true) (h : gx_okl cl tb mt q.2.2.1 q.1.cls q.2.1 q.2.2.2 T 0 T = true) : gx_okm cl tb mt T q = true := by
  subst hT
  simp only [gx_okm, Bool.and_eq_true]
  exact ⟨⟨h0, hp⟩, h⟩
