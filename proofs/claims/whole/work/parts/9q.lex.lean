/-! ===== TOKENS: what they are ===== -/
def isL (x : Nat) : Bool := decide (97 ≤ x ∧ x ≤ 122) || decide (65 ≤ x ∧ x ≤ 90)
def isD (x : Nat) : Bool := decide (48 ≤ x ∧ x ≤ 57)
def isK (x : Nat) : Bool := decide (x = 32) || decide (x = 10)
def tkRE (P : Nat → Bool) (b : Nat → Nat) : Nat → Nat → Nat
  | p, 0 => p
  | p, d + 1 => if P (b p) = true then tkRE P b (p + 1) d else p
def tkR (P : Nat → Bool) (b : Nat → Nat) (n p : Nat) : Nat := tkRE P b p (n - p)
theorem tkR_n {P : Nat → Bool} {b : Nat → Nat} {n p : Nat} (h : n ≤ p) : tkR P b n p = p := by
  unfold tkR
  rw [show n - p = 0 by omega]; rfl
theorem tkR_t {P : Nat → Bool} {b : Nat → Nat} {n p : Nat} (h : p < n) (hp : P (b p) = true) : tkR P b n p = tkR P b n (p + 1) := by
  unfold tkR
  obtain ⟨d, hd⟩ : ∃ d, n - p = d + 1 := ⟨n - p - 1, by omega⟩
  rw [hd, tkRE, if_pos hp, show n - (p + 1) = d by omega]
theorem tkR_f {P : Nat → Bool} {b : Nat → Nat} {n p : Nat} (h : p < n) (hp : P (b p) = false) : tkR P b n p = p := by
  unfold tkR
  obtain ⟨d, hd⟩ : ∃ d, n - p = d + 1 := ⟨n - p - 1, by omega⟩
  rw [hd, tkRE, if_neg (by rw [hp]; decide)]
theorem tkR_b {P : Nat → Bool} {b : Nat → Nat} {n : Nat} : ∀ m p, p + m = n → p ≤ tkR P b n p ∧ tkR P b n p ≤ n ∧ (∀ i, p ≤ i → i < tkR P b n p → P (b i) = true) ∧ (tkR P b n p < n → P (b (tkR P b n p)) = false) := by
  intro m
  induction m with
  | zero => intro p h; rw [tkR_n (by omega)]; exact ⟨Nat.le_refl _, by omega, fun i h1 h2 => by omega, fun z => by omega⟩
  | succ m ih =>
    intro p h
    cases hp : P (b p) with
    | true =>
      rw [tkR_t (by omega) hp]
      obtain ⟨i1, i2, i3, i4⟩ := ih (p + 1) (by omega)
      refine ⟨by omega, i2, fun i h1 h2 => ?_, i4⟩
      by_cases z : i = p
      · rw [z]; exact hp
      · exact i3 i (by omega) h2
    | false =>
      rw [tkR_f (by omega) hp]
      exact ⟨Nat.le_refl _, by omega, fun i h1 h2 => by omega, fun _ => hp⟩
def chW (w i : Nat) : Nat := (z_ws.getD (5 * w + i) 0).toInt.toNat
def lenW (w : Nat) : Nat := if w < 10 then (match w with | 0 => 5 | 1 => 4 | 2 => 5 | 3 => 5 | 4 => 4 | 5 => 5 | 6 => 4 | 7 => 4 | 8 => 5 | _ => 4) else if w < 21 then (match w with | 10 => 2 | 11 => 3 | 12 => 2 | 13 => 2 | 14 => 2 | 15 => 4 | 16 => 4 | 17 => 3 | 18 => 2 | 19 => 3 | _ => 3) else (match w with | 21 => 3 | 22 => 3 | 23 => 2 | 24 => 5 | 25 => 5 | 26 => 4 | 27 => 4 | 28 => 5 | _ => 4)
def rI (w : Nat) : Nat := if w < 14 then w else if w < 18 then w + 3 else if w < 21 then w - 4 else w
theorem ch_v : ∀ w, w < 30 → ∀ i, i < 5 → z_chAt (nI (5 * w + i)) = nI (chW w i) ∧ chW w i < 128 ∧ ((i < lenW w ∧ isL (chW w i) = true) ∨ (lenW w ≤ i ∧ chW w i = 32)) := by decide +kernel
theorem len_v : ∀ w, w < 30 → 1 ≤ lenW w ∧ lenW w ≤ 5 := by decide +kernel
def alB (f : Nat → Bool) : Nat → Bool
  | 0 => true
  | n + 1 => alB f n && f n
theorem alB_t {f : Nat → Bool} : ∀ n, alB f n = true ↔ ∀ i, i < n → f i = true := by
  intro n
  induction n with
  | zero => exact ⟨fun _ i hi => absurd hi (Nat.not_lt_zero i), fun _ => rfl⟩
  | succ n ih =>
    rw [alB, Bool.and_eq_true, ih]
    constructor
    · rintro ⟨h1, h2⟩ i hi
      by_cases z : i = n
      · rw [z]; exact h2
      · exact h1 i (by omega)
    · intro h; exact ⟨fun i hi => h i (by omega), h n (by omega)⟩
def chE (b : Nat → Nat) (s L w : Nat) : Nat → Bool := fun i => decide (chW w i = if i < L then b (s + i) else 32)
def isW (b : Nat → Nat) (s L w : Nat) : Bool := decide (L ≤ 5) && alB (chE b s L w) 5
theorem isL_b {x : Nat} (h : isL x = true) : 65 ≤ x ∧ x ≤ 122 := by
  unfold isL at h
  rw [Bool.or_eq_true] at h
  rcases h with h | h
  · have := of_decide_eq_true h; omega
  · have := of_decide_eq_true h; omega
/-- the numbers that words have -/
def hsF (g : Nat → Nat) : Nat → Nat
  | 0 => 0
  | k + 1 => 64 * hsF g k + g k
theorem hsF_c {g h : Nat → Nat} : ∀ k, (∀ i, i < k → g i = h i) → hsF g k = hsF h k := by
  intro k
  induction k with
  | zero => intro _; rfl
  | succ k ih => intro z; rw [hsF, hsF, ih (fun i hi => z i (by omega)), z k (by omega)]
theorem hsF_i {g h : Nat → Nat} : ∀ k m, (∀ i, i < k → 1 ≤ g i ∧ g i ≤ 63) → (∀ i, i < m → 1 ≤ h i ∧ h i ≤ 63) → hsF g k = hsF h m → k = m ∧ ∀ i, i < k → g i = h i := by
  intro k
  induction k with
  | zero =>
    intro m _ h2 e
    cases m with
    | zero => exact ⟨rfl, fun i hi => absurd hi (Nat.not_lt_zero i)⟩
    | succ m =>
      have := h2 m (by omega)
      rw [hsF, hsF] at e
      omega
  | succ k ih =>
    intro m h1 h2 e
    have q1 := h1 k (by omega)
    cases m with
    | zero => rw [hsF, hsF] at e; omega
    | succ m =>
      have q2 := h2 m (by omega)
      rw [hsF, hsF] at e
      obtain ⟨i1, i2⟩ := ih m (fun i hi => h1 i (by omega)) (fun i hi => h2 i (by omega)) (by omega)
      refine ⟨by omega, fun i hi => ?_⟩
      by_cases z : i = k
      · rw [z]
        have : g k = h m := by omega
        rw [this, i1]
      · exact i2 i (by omega)
theorem hsF_b {g : Nat → Nat} : ∀ k, (∀ i, i < k → g i ≤ 63) → hsF g k < 64 ^ k := by
  intro k
  induction k with
  | zero => intro _; exact Nat.one_pos
  | succ k ih =>
    intro h
    have h1 := ih (fun i hi => h i (by omega))
    have h2 := h k (by omega)
    rw [hsF, Nat.pow_succ]
    omega
def hkC (w : Nat) : Nat := hsF (fun i => chW w i - 64) (lenW w)
theorem isW_h {b : Nat → Nat} {s L w : Nat} (hw : w < 30) (hL : ∀ i, i < L → isL (b (s + i)) = true) : isW b s L w = true ↔ hsF (fun i => b (s + i) - 64) L = hkC w := by
  obtain ⟨l1, l2⟩ := len_v w hw
  have hb : ∀ i, i < L → 65 ≤ b (s + i) ∧ b (s + i) ≤ 122 := fun i hi => isL_b (hL i hi)
  constructor
  · intro h
    obtain ⟨h1, h2⟩ := Bool.and_eq_true_iff.mp h
    have h1 := of_decide_eq_true h1
    have h2 : ∀ i, i < 5 → chW w i = if i < L then b (s + i) else 32 := fun i hi => of_decide_eq_true ((alB_t 5).mp h2 i hi)
    have e : L = lenW w := by
      rcases Nat.lt_trichotomy L (lenW w) with z | z | z
      · have := h2 L (by omega)
        rw [if_neg (by omega)] at this
        rcases (ch_v w hw L (by omega)).2.2 with ⟨-, y⟩ | ⟨y, -⟩
        · have := isL_b y; omega
        · omega
      · exact z
      · have := h2 (lenW w) (by omega)
        rw [if_pos z] at this
        have q := hb (lenW w) z
        rcases (ch_v w hw (lenW w) (by omega)).2.2 with ⟨y, -⟩ | ⟨-, y⟩
        · omega
        · omega
    unfold hkC
    rw [← e]
    refine hsF_c L (fun i hi => ?_)
    have := h2 i (by omega)
    rw [if_pos hi] at this
    show b (s + i) - 64 = chW w i - 64
    rw [this]
  · intro h
    have hch : ∀ i, i < lenW w → 65 ≤ chW w i ∧ chW w i ≤ 122 := fun i hi => by
      rcases (ch_v w hw i (by omega)).2.2 with ⟨-, y⟩ | ⟨y, -⟩
      · exact isL_b y
      · omega
    obtain ⟨e1, e2⟩ := hsF_i L (lenW w) (fun i hi => by have := hb i hi; show 1 ≤ b (s + i) - 64 ∧ b (s + i) - 64 ≤ 63; omega) (fun i hi => by have := hch i hi; show 1 ≤ chW w i - 64 ∧ chW w i - 64 ≤ 63; omega) h
    unfold isW
    rw [decide_eq_true (show L ≤ 5 by omega), Bool.true_and]
    refine (alB_t 5).mpr (fun i hi => decide_eq_true ?_)
    by_cases z : i < L
    · rw [if_pos z]
      have q1 := e2 i z
      have q2 := hb i z
      have q3 := hch i (by omega)
      have q1 : b (s + i) - 64 = chW w i - 64 := q1
      omega
    · rw [if_neg z]
      rcases (ch_v w hw i hi).2.2 with ⟨y, -⟩ | ⟨-, y⟩
      · omega
      · exact y
def kwL (b : Nat → Nat) (s L : Nat) : Nat := if lw (isW b s L) 30 < 30 then lw (isW b s L) 30 else 45
def sgK (x : Nat) (lk : Bool) : Nat := if x = 35 then 36 else if x = 40 then 41 else if x = 41 then 42 else if x = 42 then 39 else if x = 43 then 37 else if x = 45 then 38 else if x = 47 then 40 else if x = 59 then 43 else if x = 60 then (if lk = true then 32 else 31) else if x = 61 then 35 else if x = 62 then (if lk = true then 34 else 33) else 45
/-- a number of digits, not above 10000 -/
def nmE (b : Nat → Nat) : Nat → Nat → Nat → Nat
  | v, _, 0 => v
  | v, p, d + 1 => if isD (b p) = true then nmE b (min (v * 10 + b p - 48) 10000) (p + 1) d else v
def lkT (b : Nat → Nat) (n s : Nat) : Bool := decide (s + 1 < n) && decide (b (s + 1) = 61)
def tkK (b : Nat → Nat) (n s : Nat) : Nat := if isL (b s) = true then kwL b s (tkR isL b n s - s) else if isD (b s) = true then 30 else sgK (b s) (lkT b n s)
def tkN (b : Nat → Nat) (n s : Nat) : Nat := nmE b 0 s (n - s)
def tkE (b : Nat → Nat) (n s : Nat) : Nat := if isL (b s) = true then tkR isL b n s else if isD (b s) = true then tkR isD b n s else if lkT b n s = true ∧ (b s = 60 ∨ b s = 62) then s + 2 else s + 1
theorem tkE_b {b : Nat → Nat} {n s : Nat} (h : s < n) : s < tkE b n s ∧ tkE b n s ≤ n := by
  unfold tkE
  by_cases c1 : isL (b s) = true
  · rw [if_pos c1, tkR_t h c1]
    obtain ⟨q1, q2, -⟩ := tkR_b (P := isL) (b := b) (n := n) (n - (s + 1)) (s + 1) (by omega)
    exact ⟨by omega, q2⟩
  · rw [if_neg c1]
    by_cases c2 : isD (b s) = true
    · rw [if_pos c2, tkR_t h c2]
      obtain ⟨q1, q2, -⟩ := tkR_b (P := isD) (b := b) (n := n) (n - (s + 1)) (s + 1) (by omega)
      exact ⟨by omega, q2⟩
    · rw [if_neg c2]
      by_cases c3 : lkT b n s = true ∧ (b s = 60 ∨ b s = 62)
      · rw [if_pos c3]
        have := of_decide_eq_true (Bool.and_eq_true_iff.mp c3.1).1
        omega
      · rw [if_neg c3]; omega
/-- where the t-th TOKEN begins -/
def tkS (b : Nat → Nat) (n : Nat) : Nat → Nat
  | 0 => tkR isK b n 0
  | t + 1 => tkR isK b n (tkE b n (tkS b n t))
/-! the class splits the tape -/
theorem isLetter_C (x : Nat) (hx : x < 256) (σ : gx_R) : Re_isLetter (nI x) σ = some (bI (isL x), σ) := by
  have a1 : nI x < 97 ↔ x < 97 := nI_ltI (a := x) (b := 97) (by omega) (by omega)
  have a2 : nI x ≤ 122 ↔ x ≤ 122 := nI_leI (a := x) (b := 122) (by omega) (by omega)
  have a3 : nI x < 65 ↔ x < 65 := nI_ltI (a := x) (b := 65) (by omega) (by omega)
  have a4 : 90 < nI x ↔ 90 < x := nI_ltI (a := 90) (b := x) (by omega) (by omega)
  have e6 : Re_isLetter_6 Re_isLetter_12 (nI x) σ = some (bI (decide (65 ≤ x ∧ x ≤ 90)), σ) := by
    rw [Re_isLetter_6]
    by_cases c1 : x < 65
    · rw [if_pos (a3.mpr c1), decide_eq_false (by omega)]; rfl
    · rw [if_neg (fun z => c1 (a3.mp z))]
      by_cases c2 : 90 < x
      · rw [if_pos (a4.mpr c2), decide_eq_false (by omega)]; rfl
      · rw [if_neg (fun z => c2 (a4.mp z)), decide_eq_true (by omega)]; rfl
  rw [Re_isLetter]
  unfold isL
  by_cases c1 : x < 97
  · rw [if_pos (a1.mpr c1), e6, decide_eq_false (show ¬ (97 ≤ x ∧ x ≤ 122) by omega), Bool.false_or]
  · rw [if_neg (fun z => c1 (a1.mp z))]
    by_cases c2 : x ≤ 122
    · rw [if_pos (a2.mpr c2), decide_eq_true (show 97 ≤ x ∧ x ≤ 122 by omega), Bool.true_or]; rfl
    · rw [if_neg (fun z => c2 (a2.mp z)), e6, decide_eq_false (show ¬ (97 ≤ x ∧ x ≤ 122) by omega), Bool.false_or]
theorem isDigit_C (x : Nat) (hx : x < 256) (σ : gx_R) : Re_isDigit (nI x) σ = some (bI (isD x), σ) := by
  have a1 : nI x < 48 ↔ x < 48 := nI_ltI (a := x) (b := 48) (by omega) (by omega)
  have a4 : 57 < nI x ↔ 57 < x := nI_ltI (a := 57) (b := x) (by omega) (by omega)
  rw [Re_isDigit]
  unfold isD
  by_cases c1 : x < 48
  · rw [if_pos (a1.mpr c1), decide_eq_false (by omega)]; rfl
  · rw [if_neg (fun z => c1 (a1.mp z))]
    by_cases c2 : 57 < x
    · rw [if_pos (a4.mpr c2), decide_eq_false (by omega)]; rfl
    · rw [if_neg (fun z => c2 (a4.mp z)), decide_eq_true (by omega)]; rfl
def TpC (σ : gx_R) (b : Nat → Nat) (n : Nat) : Prop := n ≤ 300 ∧ σ 39 1 = nI n ∧ ∀ i, i < n → σ 38 i = nI (b i) ∧ b i < 256
theorem byteAt_C {σ : gx_R} {b : Nat → Nat} {n i : Nat} (hT : TpC σ b n) (hi : i < 1000) : Re_byteAt (nI i) σ = some (if i < n then nI (b i) else -1, σ) := by
  rw [Re_byteAt, if_neg (fun z => (n_lt0 (by omega)).mp z), hT.2.1]
  have := hT.1
  by_cases c : i < n
  · rw [if_neg (fun z => by have := (nI_leI (by omega) (by omega)).mp z; omega), ix_n (by omega), decide_eq_true (show i < 300 by omega), w_ck, cl_n (by omega), (hT.2.2 i c).1, if_pos c]
  · rw [if_pos ((nI_leI (by omega) (by omega)).mpr (by omega)), if_neg c]
theorem isWord_L {σ : gx_R} {b : Nat → Nat} {n s L w : Nat} (hT : TpC σ b n) (hw : w < 30) (hs : s + L ≤ n) (hL : L ≤ 5) : ∀ m i f, i + m = 5 → m < f → (∀ j, j < i → chW w j = if j < L then b (s + j) else 32) → Re_isWord_12 f (nI w) (nI s) (nI L) (nI i) σ = some (bI (alB (chE b s L w) 5), σ) := by
  intro m
  induction m with
  | zero =>
    intro i f h1 h2 h3
    obtain ⟨f, rfl⟩ : ∃ q, f = q + 1 := ⟨f - 1, by omega⟩
    obtain rfl : i = 5 := by omega
    rw [Re_isWord_12, Re_isWord_12_B, if_pos (show (5 : Int32) ≤ nI 5 by decide), show alB (chE b s L w) 5 = true from (alB_t 5).mpr (fun j hj => decide_eq_true (h3 j hj))]; rfl
  | succ m ih =>
    intro i f h1 h2 h3
    obtain ⟨f, rfl⟩ : ∃ q, f = q + 1 := ⟨f - 1, by omega⟩
    have hn := hT.1
    obtain ⟨q1, q2, -⟩ := ch_v w hw i (by omega)
    have key : ∀ x : Nat, x < 256 → x = (if i < L then b (s + i) else 32) → Re_isWord_25 (Re_isWord_12 f) (nI w) (nI s) (nI L) (nI i) (nI x) σ = some (bI (alB (chE b s L w) 5), σ) := by
      intro x hx hxe
      have e5 : nI w * (5 : Int32) + nI i = nI (5 * w + i) := by rw [show (5 : Int32) = nI 5 from rfl, pk_mul, nI_add, Nat.mul_comm]
      rw [Re_isWord_25, e5, ix_n (by omega), decide_eq_true (show 5 * w + i < 150 by omega), w_ck, q1]
      by_cases c : chW w i = x
      · rw [if_pos (by rw [c]), show nI i + 1 = nI (i + 1) from nI_add i 1]
        exact ih (i + 1) f (by omega) (by omega) (fun j hj => by
          by_cases z : j = i
          · rw [z, c]; exact hxe
          · exact h3 j (by omega))
      · have hf : alB (chE b s L w) 5 = false := by
          cases ha : alB (chE b s L w) 5 with
          | false => rfl
          | true => exact absurd ((of_decide_eq_true ((alB_t 5).mp ha i (by omega))).trans hxe.symm) c
        rw [if_neg (fun z => c ((nI_eq (by omega) (by omega)).mp z)), hf]; rfl
    rw [Re_isWord_12, Re_isWord_12_B, if_neg (fun z => by have := (nI_leI (a := 5) (by omega) (by omega)).mp z; omega)]
    by_cases c : L ≤ i
    · rw [if_pos ((nI_leI (by omega) (by omega)).mpr c)]
      exact key 32 (by omega) (by rw [if_neg (by omega)])
    · rw [if_neg (fun z => c ((nI_leI (by omega) (by omega)).mp z)), show nI s + nI i = nI (s + i) from nI_add s i, byteAt_C hT (by omega), w_bd, if_pos (by omega)]
      exact key _ (hT.2.2 _ (by omega)).2 (by rw [if_pos (by omega)])
theorem isWord_C {σ : gx_R} {b : Nat → Nat} {n s p w : Nat} (hT : TpC σ b n) (hw : w < 30) (hs : s ≤ p) (hp : p ≤ n) (h2 : σ 39 2 = nI p) : Re_isWord (nI w) (nI s) σ = some (bI (isW b s (p - s) w), σ) := by
  have hn := hT.1
  rw [Re_isWord, h2, show nI p - nI s = nI (p - s) from pk_sub hs]
  unfold isW
  by_cases c : p - s ≤ 5
  · rw [if_pos (show nI (p - s) ≤ 5 from (nI_leI (b := 5) (by omega) (by omega)).mpr c), decide_eq_true c, Bool.true_and]
    exact isWord_L hT hw (by omega) c 5 0 z_FU (by omega) (by have := z_FU_ge; omega) (fun j hj => absurd hj (Nat.not_lt_zero j))
  · rw [if_neg (show ¬ nI (p - s) ≤ 5 from fun z => c ((nI_leI (b := 5) (by omega) (by omega)).mp z)), decide_eq_false c, Bool.false_and]; rfl
theorem wordIs_L {σ : gx_R} {b : Nat → Nat} {n s p : Nat} (hT : TpC σ b n) (hs : s ≤ p) (hp : p ≤ n) (h2 : σ 39 2 = nI p) : ∀ m w f, w + m = 30 → m < f → (∀ i, i < w → isW b s (p - s) i = false) → Re_wordHere_24 f (nI s) (nI w) σ = some (nI (kwL b s (p - s)), σ) := by
  intro m
  induction m with
  | zero =>
    intro w f h1 h2' h3
    obtain ⟨f, rfl⟩ : ∃ q, f = q + 1 := ⟨f - 1, by omega⟩
    obtain rfl : w = 30 := by omega
    rw [Re_wordHere_24, Re_wordHere_24_B, if_pos (show (30 : Int32) ≤ nI 30 by decide), kwL, lw_no h3, if_neg (by omega)]; rfl
  | succ m ih =>
    intro w f h1 h2' h3
    obtain ⟨f, rfl⟩ : ∃ q, f = q + 1 := ⟨f - 1, by omega⟩
    rw [Re_wordHere_24, Re_wordHere_24_B, if_neg (fun z => by have := (nI_leI (a := 30) (by omega) (by omega)).mp z; omega), isWord_C hT (by omega) hs hp h2, w_bd]
    cases hb : isW b s (p - s) w with
    | true => rw [bI_t, if_neg (by decide), kwL, lw_eq (show w < 30 by omega) hb h3, if_pos (by omega)]
    | false =>
      rw [bI_f, if_pos rfl, show nI w + 1 = nI (w + 1) from nI_add w 1]
      exact ih (w + 1) f (by omega) (by omega) (fun i hi => by
        by_cases z : i = w
        · rw [z]; exact hb
        · exact h3 i (by omega))
def rdF (σ0 σ : gx_R) : Prop := (∀ c, c ≠ 39 → ¬ (40 ≤ c ∧ c ≤ 42) → σ c = σ0 c) ∧ ∀ j, j ≠ 2 → j ≠ 6 → σ 39 j = σ0 39 j
theorem TpC_F {σ0 σ : gx_R} {b : Nat → Nat} {n : Nat} (h : rdF σ0 σ) (hT : TpC σ0 b n) : TpC σ b n := ⟨hT.1, by rw [h.2 1 (by omega) (by omega)]; exact hT.2.1, fun i hi => by rw [h.1 38 (by omega) (by omega)]; exact hT.2.2 i hi⟩
theorem wordHere_L {σ0 : gx_R} {b : Nat → Nat} {n s : Nat} (hT : TpC σ0 b n) : ∀ m p f σ, p + m = n → m < f → s ≤ p → (∀ k j, ¬ (k = 39 ∧ j = 2) → σ k j = σ0 k j) → σ 39 2 = nI p → Re_wordHere_3 f (nI s) σ = some (nI (kwL b s (tkR isL b n p - s)), gx_up σ 39 2 (nI (tkR isL b n p))) := by
  have hn := hT.1
  have same : ∀ σ : gx_R, ∀ p, σ 39 2 = nI p → gx_up σ 39 2 (nI p) = σ := fun σ p h => by
    funext c j
    by_cases z : c = 39
    · subst z
      by_cases y : j = 2
      · rw [y, up_e, h]
      · rw [up_p _ _ _ y]
    · rw [up_c _ _ _ _ z]
  intro m
  induction m with
  | zero =>
    intro p f σ h1 h2 h3 h4 h5
    obtain ⟨f, rfl⟩ : ∃ q, f = q + 1 := ⟨f - 1, by omega⟩
    obtain rfl : p = n := by omega
    have hT' : TpC σ b p := ⟨hn, by rw [h4 39 1 (by omega)]; exact hT.2.1, fun i hi => by rw [h4 38 i (by omega)]; exact hT.2.2 i hi⟩
    rw [Re_wordHere_3, Re_wordHere_3_B, hT'.2.1, h5, if_pos ((nI_leI (by omega) (by omega)).mpr (Nat.le_refl _)), Re_wordHere_22, tkR_n (Nat.le_refl _), same σ p h5]
    exact wordIs_L hT' h3 (Nat.le_refl _) h5 30 0 z_FU (by omega) (by have := z_FU_ge; omega) (fun i hi => absurd hi (Nat.not_lt_zero i))
  | succ m ih =>
    intro p f σ h1 h2 h3 h4 h5
    obtain ⟨f, rfl⟩ : ∃ q, f = q + 1 := ⟨f - 1, by omega⟩
    have hT' : TpC σ b n := ⟨hn, by rw [h4 39 1 (by omega)]; exact hT.2.1, fun i hi => by rw [h4 38 i (by omega)]; exact hT.2.2 i hi⟩
    obtain ⟨t1, t2⟩ := hT'.2.2 p (by omega)
    rw [Re_wordHere_3, Re_wordHere_3_B, hT'.2.1, h5, if_neg (fun z => by have := (nI_leI (by omega) (by omega)).mp z; omega), ix_n (by omega), decide_eq_true (show p < 300 by omega), w_ck, cl_n (by omega), t1, isLetter_C _ t2, w_bd]
    cases hb : isL (b p) with
    | true =>
      rw [bI_t, if_neg (by decide), h5, show nI p + 1 = nI (p + 1) from nI_add p 1, tkR_t (by omega) hb]
      have := ih (p + 1) f (gx_up σ 39 2 (nI (p + 1))) (by omega) (by omega) (by omega) (fun k j hk => by
        by_cases z : k = 39
        · subst z; rw [up_p _ _ _ (by omega)]; exact h4 39 j hk
        · rw [up_c _ _ _ _ z]; exact h4 k j hk) (up_e _ _ _ _)
      rw [this]
      congr 2
      funext c j
      by_cases z : c = 39
      · subst z
        by_cases y : j = 2
        · rw [y, up_e, up_e]
        · rw [up_p _ _ _ y, up_p _ _ _ y, up_p _ _ _ y]
      · rw [up_c _ _ _ _ z, up_c _ _ _ _ z, up_c _ _ _ _ z]
    | false =>
      rw [bI_f, if_pos rfl, tkR_f (by omega) hb, Re_wordHere_22, same σ p h5]
      exact wordIs_L hT' h3 (by omega) h5 30 0 z_FU (by omega) (by have := z_FU_ge; omega) (fun i hi => absurd hi (Nat.not_lt_zero i))
