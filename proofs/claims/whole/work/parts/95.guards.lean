/-! ===== guard ===== -/
theorem guardO {τ : gx_R} {B p : Nat} {wk : Nat → Int32} {G : Int32} (hB : B < 256) (hwk : ∀ x, x < 256 → ∀ τ1, lM τ τ1 → ∃ τ2, Md_wakesOn ((1 : Int32) <<< (nI p &&& 31)) (nI x) τ1 = some (wk x, τ2) ∧ lM τ τ2) (hg : gG wk B G B = true) (hc : pcN 8 B < 8) : ∀ m s n τ1, s + m = 8 → m < n → lM τ τ1 → (∀ y, y < 256 → gG wk B G y = true → s ≤ pcN 8 y) → ∃ v τ2, Md_guard_29 n (nI p) G (nI B) (nI s) τ1 = some (v, τ2) ∧ lM τ τ2 ∧ Best (gG wk B G) (pcN 8) 256 v := by
  intro m
  induction m with
  | zero =>
    intro s n τ1 hs hn hl hmin
    have := hmin B hB hg
    omega
  | succ m ih =>
    intro s n τ1 hs hn hl hmin
    obtain ⟨n, rfl⟩ : ∃ q, n = q + 1 := ⟨n - 1, by omega⟩
    have c1 : ¬ (8 : Int32) ≤ nI s := fun z => by have := (nI_leI (a := 8) (by omega) (by omega)).mp z; omega
    rw [Md_guard_29, Md_guard_29_B, if_neg c1, show (0 : Int32) = nI 0 from rfl]
    rcases guardI (s := s) (K29 := Md_guard_29 n) hB hwk (by omega) 256 0 z_FU τ1 (by omega) (Nat.lt_of_lt_of_le (by decide) z_FU_ge) hl with ⟨x, τ2, a1, a2, a3, a4, a5, a6, a7⟩ | ⟨τ2, a1, a2, a3⟩
    · exact ⟨nI x, τ2, a1, a2, Best_sz a4 a5 a6 hmin (fun y y1 y2 => a7 y (by omega) y1 y2)⟩
    · rw [a1]
      refine ih (s + 1) n τ2 (by omega) (by omega) a2 (fun y y1 y2 => ?_)
      have z1 := hmin y y1 y2
      have z2 := a3 y (by omega) y1 y2
      omega
