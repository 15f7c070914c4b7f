/-! ===== who is woken when some are left out ===== -/
theorem woken_x {P A p x : Nat} {snd : Nat → Nat} {σ σ1 τ : gx_R} {W T H : Nat} {nd : gx_F} (hp : p < P) (hE : EnvR σ τ P W T) (hN : NowR 9 σ τ nd P W H) (hS : SndR 9 σ τ P snd) (l2 : ∀ c, c ≠ 51 → c ≠ 52 → c ≠ 54 → c ≠ 55 → σ1 c = σ c) (l3 : LisR 9 σ1 P snd) (hA : mk (fun p => decide (σ 10 p = 2)) 8 = nI A) : ∃ w, Cl_spread ((1 : Int32) <<< (nI p &&& 31)) (nI A &&& (nI x ^^^ -1)) σ1 = some (w, σ1) ∧ ∀ τ1, lM τ τ1 → ∃ τ2, Md_wakesOn ((1 : Int32) <<< (nI p &&& 31)) (nI x) τ1 = some (w, τ2) ∧ lM τ τ2 := by
  have hP := hE.1.1.1
  have h0 := hE.1.2.1.2.1
  have hidle : ∀ p, P ≤ p → p < 8 → σ 10 p = 0 := fun p k1 k2 => (hN.2.2.1 p k1 k2).1
  have k1 : σ1 10 = σ 10 := l2 10 (by omega) (by omega) (by omega) (by omega)
  have k6 : σ1 6 = σ 6 := l2 6 (by omega) (by omega) (by omega) (by omega)
  have k4 : σ1 4 = σ 4 := l2 4 (by omega) (by omega) (by omega) (by omega)
  have hSM : ∀ s, s < P → τ 135 s = 2 → ∀ τ1, lM τ τ1 → ∃ τ2, Md_soundOf (nI s) τ1 = some (nI (snd s), τ2) ∧ lM τ1 τ2 := by
    intro s hs hd τ1 hl
    obtain ⟨-, -, z⟩ := hS s hs (by rw [← (hN.1 s (by omega)).1]; exact hd)
    exact z τ1 (lM_e hl) (by rw [hl 109 (by omega) (by omega)]) (by rw [hl 137 (by omega) (by omega)])
  have hf8 : ∀ i, i < 32 → bt ((1 : Int32) <<< (nI p &&& 31)) i = true → i < 8 := by
    intro i hi hb
    rw [b_bit (by omega) hi] at hb
    have := of_decide_eq_true hb
    omega
  have ha : ∀ s, s < 32 → bt (nI A &&& (nI x ^^^ -1)) s = (decide (s < 8) && decide (σ 10 s = 2) && !bt (nI x) s) := by
    intro s hs
    rw [b_and, b_not hs, ← hA, mk_b (by omega) hs]
  have h55 : ∀ s, s < 8 → bt (nI A &&& (nI x ^^^ -1)) s = true → ∀ i, i < 32 → bt (σ1 55 s) i = true → i < 8 := by
    intro s hs hb i hi hbi
    rw [ha s (by omega)] at hb
    have hd := of_decide_eq_true (Bool.and_eq_true_iff.mp (Bool.and_eq_true_iff.mp hb).1).2
    have hsP : s < P := by
      rcases Nat.lt_or_ge s P with h | h
      · exact h
      · rw [hidle s h hs] at hd; exact absurd hd (by decide)
    rw [(l3 s hsP (by rw [show (9 + 1 : Nat) = 10 from rfl, k1]; exact hd)).2 i hi] at hbi
    exact of_decide_eq_true (Bool.and_eq_true_iff.mp hbi).1
  obtain ⟨w, s1, s2⟩ := spread_v (a := nI A &&& (nI x ^^^ -1)) (σ := σ1) h55 (fun i hi hb => by
    rw [ha i hi] at hb
    exact of_decide_eq_true (Bool.and_eq_true_iff.mp (Bool.and_eq_true_iff.mp hb).1).1) hf8
  refine ⟨w, s1, fun τ1 hl => ?_⟩
  obtain ⟨x', τ2, m1, m2, m3⟩ := wakesOn_v (snd := snd) hP h0 hSM (nI x) (f := (1 : Int32) <<< (nI p &&& 31)) hf8 hl
  have hx : x' = w := by
    refine Lst_eq (fun s q hs hq => ?_) m3 s2
    rw [ha s (by omega), decide_eq_true hs, Bool.true_and]
    by_cases hd : σ 10 s = 2
    · have hsP : s < P := by
        rcases Nat.lt_or_ge s P with h | h
        · exact h
        · rw [hidle s h hs] at hd; exact absurd hd (by decide)
      rw [decide_eq_true hd, Bool.true_and, (l3 s hsP (by rw [show (9 + 1 : Nat) = 10 from rfl, k1]; exact hd)).2 q (by omega), decide_eq_true hq, Bool.true_and]
      unfold edM ldB
      rw [k6, k4, (hN.1 s hs).1, decide_eq_true (show σ (9 + 1) s = 2 from hd), (hE.1.2.2.2.2.1 s hs).1]
      cases hh : bt (σ 6 s) q with
      | false => simp
      | true =>
        have hqP := ((hE.1.2.2.2.2.1 s hs).2 q (by omega) hh).1
        obtain ⟨_, y, -, -, -, -, z3, z4⟩ := hE.1.2.2.1 q hqP
        rw [z3, z4]
        simp [hsP, hqP]
    · rw [decide_eq_false hd, Bool.false_and, Bool.false_and]
      unfold edM
      rw [(hN.1 s hs).1, decide_eq_false (show ¬ σ (9 + 1) s = 2 from hd), Bool.false_and, Bool.and_false]
  subst hx
  exact ⟨τ2, m1, m2⟩
