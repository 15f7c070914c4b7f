/-! ===== how the class's cells and the reference's go together ===== -/
abbrev gx_F : Type := Nat → Int32
/-- people and works -/
def FolkR (p0 w0 : Int32) (d v m h n z : gx_F) (a : gx_F) (P W : Nat) : Prop :=
  (P ≤ 8 ∧ W ≤ 6) ∧ (p0 = nI P ∧ a 0 = nI P ∧ w0 = nI W ∧ a 1 = nI W) ∧
  (∀ p, p < P → ∃ x y, x ≤ 9 ∧ y ≤ 9 ∧ d p = nI x ∧ a (10 + p) = nI x ∧ v p = nI y ∧ a (18 + p) = nI y) ∧
  (∀ p, p < 8 → a (26 + p) = m p ∧ ∀ i, i < 32 → bt (m p) i = true → i < P ∧ i ≠ p ∧ p < P) ∧
  (∀ p, p < 8 → a (34 + p) = h p ∧ ∀ i, i < 32 → bt (h p) i = true → i < P ∧ i ≠ p ∧ p < P) ∧
  (∀ w, w < W → ∃ x y, 1 ≤ x ∧ x ≤ 99 ∧ y ≤ 9 ∧ n w = nI x ∧ a (42 + w) = nI x ∧ z w = nI y ∧ a (48 + w) = nI y)
/-- a night: the class's as one row ν, the reference's as s, both as they lie in saved rows -/
def NightR (ν s nd : gx_F) (P W H : Nat) : Prop :=
  (∀ p, p < 8 → s p = ν p ∧ s (16 + p) = ν (16 + p) ∧ s (24 + p) = ν (24 + p)) ∧
  (∀ p, p < P → s (8 + p) = ν (8 + p)) ∧
  (∀ p, P ≤ p → p < 8 → ν p = 0 ∧ ν (8 + p) = -1 ∧ ν (16 + p) = 0 ∧ ν (24 + p) = 0) ∧
  (∀ q, q < 64 → s (38 + q) = ν (32 + q)) ∧
  (∀ w, w < 6 → s (32 + w) = ν (96 + w)) ∧
  (s 102 = ν 102 ∧ s 103 = ν 103 ∧ ν 102 = nI H) ∧
  (∃ x, x < 30211 ∧ ν 103 = nI x) ∧
  (∀ p, p < P → (ν p = 0 ∧ ν (8 + p) = -1) ∨ (ν p = 1 ∧ ∃ w, w < W ∧ ν (8 + p) = nI w) ∨ (ν p = 2 ∧ ∃ q, q < P ∧ ν (8 + p) = nI q)) ∧
  (∀ p, p < P → ∃ o d, o ≤ H ∧ d ≤ 9 ∧ ν (16 + p) = nI o ∧ ν (24 + p) = nI d) ∧
  (∀ p q, p < 8 → q < 8 → ∃ o, o ≤ 99 ∧ ν (32 + (8 * p + q)) = nI o ∧ (P ≤ p ∨ P ≤ q ∨ p = q → o = 0)) ∧
  (∀ w, w < 6 → ∃ x, ν (96 + w) = nI x ∧ x ≤ 99 ∧ (W ≤ w → x = 0) ∧ (w < W → nI x ≤ nd w))
/-- a night of the class as one row -/
def nuC (σ : gx_R) (b : Nat) : gx_F := fun i => if i < 8 then σ (b + 1) i else if i < 16 then σ (b + 2) (i - 8) else if i < 24 then σ (b + 3) (i - 16) else if i < 32 then σ (b + 4) (i - 24) else if i < 96 then σ (b + 5) (i - 32) else if i < 102 then σ (b + 6) (i - 96) else if i = 102 then σ b 6 else σ b 7
theorem nu_d (σ : gx_R) (b : Nat) {p : Nat} (h : p < 8) : nuC σ b p = σ (b + 1) p := by simp only [nuC, if_pos h]
theorem nu_w (σ : gx_R) (b : Nat) {p : Nat} (h : p < 8) : nuC σ b (8 + p) = σ (b + 2) p := by
  have h1 : ¬ 8 + p < 8 := by omega
  have h2 : 8 + p < 16 := by omega
  simp only [nuC, if_neg h1, if_pos h2, Nat.add_sub_cancel_left]
theorem nu_o (σ : gx_R) (b : Nat) {p : Nat} (h : p < 8) : nuC σ b (16 + p) = σ (b + 3) p := by
  have h1 : ¬ 16 + p < 8 := by omega
  have h2 : ¬ 16 + p < 16 := by omega
  have h3 : 16 + p < 24 := by omega
  simp only [nuC, if_neg h1, if_neg h2, if_pos h3, Nat.add_sub_cancel_left]
theorem nu_r (σ : gx_R) (b : Nat) {p : Nat} (h : p < 8) : nuC σ b (24 + p) = σ (b + 4) p := by
  have h1 : ¬ 24 + p < 8 := by omega
  have h2 : ¬ 24 + p < 16 := by omega
  have h3 : ¬ 24 + p < 24 := by omega
  have h4 : 24 + p < 32 := by omega
  simp only [nuC, if_neg h1, if_neg h2, if_neg h3, if_pos h4, Nat.add_sub_cancel_left]
theorem nu_e (σ : gx_R) (b : Nat) {q : Nat} (h : q < 64) : nuC σ b (32 + q) = σ (b + 5) q := by
  have h1 : ¬ 32 + q < 8 := by omega
  have h2 : ¬ 32 + q < 16 := by omega
  have h3 : ¬ 32 + q < 24 := by omega
  have h4 : ¬ 32 + q < 32 := by omega
  have h5 : 32 + q < 96 := by omega
  simp only [nuC, if_neg h1, if_neg h2, if_neg h3, if_neg h4, if_pos h5, Nat.add_sub_cancel_left]
theorem nu_n (σ : gx_R) (b : Nat) {w : Nat} (h : w < 6) : nuC σ b (96 + w) = σ (b + 6) w := by
  have h1 : ¬ 96 + w < 8 := by omega
  have h2 : ¬ 96 + w < 16 := by omega
  have h3 : ¬ 96 + w < 24 := by omega
  have h4 : ¬ 96 + w < 32 := by omega
  have h5 : ¬ 96 + w < 96 := by omega
  have h6 : 96 + w < 102 := by omega
  simp only [nuC, if_neg h1, if_neg h2, if_neg h3, if_neg h4, if_neg h5, if_pos h6, Nat.add_sub_cancel_left]
theorem nu_h (σ : gx_R) (b : Nat) : nuC σ b 102 = σ b 6 := rfl
theorem nu_x (σ : gx_R) (b : Nat) : nuC σ b 103 = σ b 7 := rfl
/-- what is kept of the latest hours -/
def KeptR (log s : gx_F) (H : Nat) : Prop := ∀ h, h < H → H ≤ h + 60 → ∃ r t l, r < 256 ∧ t < 256 ∧ l < 256 ∧ log h = nI (r + 256 * t + 65536 * l) ∧ s (104 + 3 * (h % 60)) = nI r ∧ s (104 + 3 * (h % 60) + 1) = nI t ∧ s (104 + 3 * (h % 60) + 2) = nI l
/-- the saved nights: the class's in a ring of 30, the reference's in order -/
def StepsR (rows log nd a : gx_F) (P W H K O : Nat) : Prop :=
  K ≤ 30 ∧ O < 30 ∧ ∃ hs : Nat → Nat, (∀ k, k < K → NightR (fun i => rows ((O + k) % 30 * 104 + i)) (fun i => a (360 + 284 * k + i)) nd P W (hs k) ∧ KeptR log (fun i => a (360 + 284 * k + i)) (hs k) ∧ hs k ≤ H) ∧ ∀ j k, j ≤ k → k < K → hs j ≤ hs k
def ValleyR (σ : gx_R) (b : Nat) (a : gx_F) (P W H K T : Nat) : Prop :=
  FolkR (σ (b + 1) 0) (σ (b + 1) 1) (σ (b + 2)) (σ (b + 3)) (σ (b + 4)) (σ (b + 5)) (σ (b + 6)) (σ (b + 7)) a P W ∧
  NightR (nuC σ (b + 8)) (fun i => a (60 + i)) (σ (b + 6)) P W H ∧ H ≤ 999 ∧
  KeptR (σ (b + 17)) (fun i => a (60 + i)) H ∧
  (∃ O, σ (b + 15) 1 = nI O ∧ StepsR (σ (b + 16)) (σ (b + 17)) (σ (b + 6)) a P W H K O) ∧
  (σ (b + 15) 2 = nI K ∧ a 4 = nI K) ∧
  (σ b 4 = nI T ∧ a 2 = nI T ∧ T ≤ 4) ∧ a 3 = σ b 5 ∧ (σ b 5 = -1 ∨ ∃ r, r < T ∧ σ b 5 = nI r)
/-- the tape -/
def TapeR (t0 u0 : Int32) (c m : gx_F) : Prop := ∃ n, n ≤ 300 ∧ t0 = nI n ∧ u0 = nI n ∧ ∀ i, i < n → ∃ x, x < 256 ∧ c i = nI x ∧ m i = (nI x).toInt8.toInt32
/-- the two ways in which a word that joins two is written -/
def BinR (w o : Int32) (i b : Bool) : Prop :=
  (w = 37 ∧ o = 43 ∧ i = false ∧ b = false) ∨ (w = 38 ∧ o = 45 ∧ i = false ∧ b = false) ∨ (w = 39 ∧ o = 42 ∧ i = false ∧ b = false) ∨ (w = 40 ∧ o = 47 ∧ i = false ∧ b = false) ∨
  (w = 31 ∧ o = 60 ∧ i = false ∧ b = true) ∨ (w = 32 ∧ o = 300 ∧ i = false ∧ b = true) ∨ (w = 33 ∧ o = 62 ∧ i = false ∧ b = true) ∨ (w = 34 ∧ o = 301 ∧ i = false ∧ b = true) ∨ (w = 35 ∧ o = 61 ∧ i = false ∧ b = true) ∨ (w = 36 ∧ o = 35 ∧ i = false ∧ b = true) ∨
  (w = 18 ∧ o = 407 ∧ i = true ∧ b = true) ∨ (w = 19 ∧ o = 406 ∧ i = true ∧ b = true)
/-- the names that a law of kind l may hold -/
def nmOk (l q : Nat) : Bool := (match l with | 0 => 63 | 1 => 199 | 2 => 15 | _ => 267 : Nat).testBit q
/-- word j of the class's code cw (from c0) and of the reference's orders co, values cv (from r0): tp j is the kinds on the stack ahead of it (true: an answer to a question) -/
def WordR (cw co cv : gx_F) (c0 r0 l len : Nat) (tp : Nat → List Bool) (j : Nat) : Prop :=
  (∃ m, m ≤ 9999 ∧ cw (c0 + j) = nI (64 * m + 30) ∧ co (r0 + j) = 400 ∧ cv (r0 + j) = nI m ∧ tp (j + 1) = false :: tp j) ∨
  (∃ q, q < 9 ∧ nmOk l q = true ∧ cw (c0 + j) = nI (21 + q) ∧ co (r0 + j) = 401 ∧ cv (r0 + j) = nI q ∧ tp (j + 1) = false :: tp j) ∨
  (∃ s, cw (c0 + j) = 46 ∧ co (r0 + j) = 402 ∧ tp j = false :: s ∧ tp (j + 1) = tp j) ∨
  (∃ s, cw (c0 + j) = 20 ∧ co (r0 + j) = 405 ∧ tp j = true :: s ∧ tp (j + 1) = tp j) ∨
  (∃ s t, j < t ∧ t ≤ len ∧ cw (c0 + j) = nI (64 * (c0 + t) + 15) ∧ co (r0 + j) = 403 ∧ cv (r0 + j) = nI (r0 + t) ∧ tp j = true :: s ∧ tp (j + 1) = s ∧ tp t = s) ∨
  (∃ t, j < t ∧ t ≤ len ∧ cw (c0 + j) = nI (64 * (c0 + t) + 16) ∧ co (r0 + j) = 404 ∧ cv (r0 + j) = nI (r0 + t) ∧ tp t = tp j) ∨
  (∃ i b s, BinR (cw (c0 + j)) (co (r0 + j)) i b ∧ tp j = i :: i :: s ∧ tp (j + 1) = b :: s)
def CodeR (cw co cv : gx_F) (c0 r0 l sz rz : Nat) : Prop := ∃ len tp, c0 + len < sz ∧ sz ≤ 300 ∧ r0 + len < rz ∧ cw (c0 + len) = 43 ∧ co (r0 + len) = 408 ∧ tp 0 = [] ∧ tp len = [false] ∧ (∀ j, j ≤ len → (tp j).length ≤ 60) ∧ ∀ j, j < len → WordR cw co cv c0 r0 l len tp j
/-- a text: the class's at the cell c, the reference's number t -/
def TextR (σ τ : gx_R) (t : Nat) : Prop := ∃ n sz, n ≤ 24 ∧ σ (81 + 7 * t) 4 = nI n ∧ τ 113 t = nI n ∧ σ (81 + 7 * t) 7 = nI sz ∧
  (∀ k, k < n → ∃ q, q < 10 ∧ σ (81 + 7 * t + 1) k = nI q ∧ τ 114 (24 * t + k) = nI q ∧
    (4 ≤ q → τ 116 (24 * t + k) = σ (81 + 7 * t + 2) k) ∧ (q = 9 → ∃ h, 1 ≤ h ∧ h ≤ 60 ∧ σ (81 + 7 * t + 2) k = nI h) ∧
    (q = 4 ∨ q = 5 ∨ q = 8 → τ 117 (24 * t + k) = σ (81 + 7 * t + 3) k) ∧ (q = 8 → τ 118 (24 * t + k) = σ (81 + 7 * t + 4) k)) ∧
  ∀ l, l < 4 → (σ (81 + 7 * t + 5) l = -1 ∧ ∀ k, k < n → τ 114 (24 * t + k) ≠ nI l) ∨
    (∃ c0 r0 k, k < n ∧ τ 114 (24 * t + k) = nI l ∧ (∀ k', k' < n → τ 114 (24 * t + k') = nI l → k' = k) ∧ σ (81 + 7 * t + 5) l = nI c0 ∧ τ 115 (24 * t + k) = nI r0 ∧ CodeR (σ (81 + 7 * t + 6)) (τ 119) (τ 120) c0 r0 l sz (400 * (t + 1)))
def Rel (σ τ : gx_R) : Prop := ∃ P W H K T P' W' H' K' T', ValleyR σ 1 (τ 110) P W H K T ∧ ValleyR σ 19 (τ 111) P' W' H' K' T' ∧ T' ≤ T ∧ TapeR (σ 0 4) (τ 109 3) (σ 38) (τ 112) ∧ (τ 109 4 = σ 39 11 ∧ τ 109 5 = σ 39 12) ∧ ∀ t, t < T → TextR σ τ t
/-- what the class may leave otherwise (but by text), and the reference -/
def sc (σ σ' : gx_R) : Prop := ∀ k, ¬ (51 ≤ k ∧ k ≤ 80) → σ' k = σ k
def sm (τ τ' : gx_R) : Prop := (∀ k, ¬ (k = 109 ∨ 121 ≤ k) → τ' k = τ k) ∧ ∀ j, j < 14 → τ' 109 j = τ 109 j
theorem sc_rf (σ : gx_R) : sc σ σ := fun _ _ => rfl
theorem sc_tr {a b c : gx_R} (h : sc a b) (h2 : sc b c) : sc a c := fun k hk => (h2 k hk).trans (h k hk)
theorem sm_rf (τ : gx_R) : sm τ τ := ⟨fun _ _ => rfl, fun _ _ => rfl⟩
theorem sm_tr {a b c : gx_R} (h : sm a b) (h2 : sm b c) : sm a c := ⟨fun k hk => (h2.1 k hk).trans (h.1 k hk), fun j hj => (h2.2 j hj).trans (h.2 j hj)⟩
theorem nuC_fr {σ σ' : gx_R} {b : Nat} (h : ∀ k, b ≤ k → k ≤ b + 6 → σ' k = σ k) : nuC σ' b = nuC σ b := by
  unfold nuC
  rw [h (b + 1) (by omega) (by omega), h (b + 2) (by omega) (by omega), h (b + 3) (by omega) (by omega), h (b + 4) (by omega) (by omega), h (b + 5) (by omega) (by omega), h (b + 6) (by omega) (by omega), h b (by omega) (by omega)]
theorem ValleyR_fr {σ σ' : gx_R} {b : Nat} {a : gx_F} {P W H K T : Nat} (h : ∀ k, b ≤ k → k ≤ b + 17 → σ' k = σ k) (r : ValleyR σ b a P W H K T) : ValleyR σ' b a P W H K T := by
  unfold ValleyR at r ⊢
  rw [nuC_fr (fun k h1 h2 => h k (by omega) (by omega)), h (b + 1) (by omega) (by omega), h (b + 2) (by omega) (by omega), h (b + 3) (by omega) (by omega), h (b + 4) (by omega) (by omega), h (b + 5) (by omega) (by omega), h (b + 6) (by omega) (by omega), h (b + 7) (by omega) (by omega), h (b + 15) (by omega) (by omega), h (b + 16) (by omega) (by omega), h (b + 17) (by omega) (by omega), h b (by omega) (by omega)]
  exact r
theorem TextR_fr {σ σ' τ τ' : gx_R} {t : Nat} (h : ∀ k, 81 ≤ k → k < 109 → σ' k = σ k) (h2 : ∀ k, 113 ≤ k → k ≤ 120 → τ' k = τ k) (ht : t < 4) (r : TextR σ τ t) : TextR σ' τ' t := by
  unfold TextR at r ⊢
  rw [h (81 + 7 * t) (by omega) (by omega), h (81 + 7 * t + 1) (by omega) (by omega), h (81 + 7 * t + 2) (by omega) (by omega), h (81 + 7 * t + 3) (by omega) (by omega), h (81 + 7 * t + 4) (by omega) (by omega), h (81 + 7 * t + 5) (by omega) (by omega), h (81 + 7 * t + 6) (by omega) (by omega), h2 113 (by omega) (by omega), h2 114 (by omega) (by omega), h2 115 (by omega) (by omega), h2 116 (by omega) (by omega), h2 117 (by omega) (by omega), h2 118 (by omega) (by omega), h2 119 (by omega) (by omega), h2 120 (by omega) (by omega)]
  exact r
theorem Rel_fr {σ σ' τ τ' : gx_R} (h : sc σ σ') (h2 : sm τ τ') (r : Rel σ τ) : Rel σ' τ' := by
  obtain ⟨P, W, H, K, T, P', W', H', K', T', r1, r2, r3, r4, r5, r6⟩ := r
  have r1' := ValleyR_fr (σ' := σ') (fun k h1 h3 => h k (by omega)) r1
  have r2' := ValleyR_fr (σ' := σ') (fun k h1 h3 => h k (by omega)) r2
  have hT : T ≤ 4 := r1.2.2.2.2.2.2.1.2.2
  refine ⟨P, W, H, K, T, P', W', H', K', T', ?_, ?_, r3, ?_, ?_, fun t ht => TextR_fr (fun k h1 h3 => h k (by omega)) (fun k h1 h3 => h2.1 k (by omega)) (by omega) (r6 t ht)⟩
  · rw [h2.1 110 (by omega)]; exact r1'
  · rw [h2.1 111 (by omega)]; exact r2'
  · rw [h 0 (by omega), h2.2 3 (by omega), h 38 (by omega), h2.1 112 (by omega)]; exact r4
  · rw [h2.2 4 (by omega), h2.2 5 (by omega), h 39 (by omega)]; exact r5
