-- ===== 29.spec5: the class's own ways =====
theorem stB_s {r t : List Nat} {p k : Nat} (h : stB r t p k = true) (h2 : r.getD k 0 = 8 ∨ r.getD k 0 = t.getD (p + k) 0) : stB r t p (k + 1) = true := by
  show (stB r t p k && (decide (r.getD k 0 = 8) || decide (r.getD k 0 = t.getD (p + k) 0))) = true
  rw [h]
  rcases h2 with h2 | h2
  · rw [decide_eq_true h2]; rfl
  · rw [decide_eq_true h2, Bool.or_true]; rfl
theorem stB_f {r t : List Nat} {p k : Nat} (h1 : ¬ r.getD k 0 = 8) (h2 : ¬ r.getD k 0 = t.getD (p + k) 0) : stB r t p (k + 1) = false := by
  show (stB r t p k && (decide (r.getD k 0 = 8) || decide (r.getD k 0 = t.getD (p + k) 0))) = false
  rw [decide_eq_false h1, decide_eq_false h2, Bool.or_false, Bool.and_false]
def plA (r t : List Nat) : Nat := plN r t (t.length + 1 - r.length)
theorem plN_y {r t : List Nat} {i : Nat} (h : stB r t i r.length = true) : plN r t (i + 1) = plN r t i ||| 2 ^ i := by
  show plN r t i ||| (if stB r t i r.length = true then 2 ^ i else 0) = _
  rw [if_pos h]
theorem plN_n {r t : List Nat} {i : Nat} (h : stB r t i r.length = false) : plN r t (i + 1) = plN r t i := by
  show plN r t i ||| (if stB r t i r.length = true then 2 ^ i else 0) = _
  rw [if_neg (by rw [h]; decide), Nat.or_zero]
theorem plA_lt {r t : List Nat} (ht : t.length ≤ 10) : plA r t < 2048 :=
  Nat.lt_of_lt_of_le (plN_lt r t _) (Nat.le_trans (Nat.pow_le_pow_right (by decide) (show t.length + 1 - r.length ≤ 11 by omega)) (by decide))
def covC (t r : List Nat) : Bool := decide (r ≠ [] ∧ unN (plA r t) r.length = 2 ^ t.length - 1)
def flN (a : Nat) : Nat → Nat | 0 => 1 | i + 1 => flN a i * (a - i)
theorem flN_0 {a : Nat} : ∀ {i : Nat}, a < i → flN a i = 0
  | 0, h => absurd h (Nat.not_lt_zero _)
  | i + 1, h => by
    show flN a i * (a - i) = 0
    by_cases q : a < i
    · rw [flN_0 q, Nat.zero_mul]
    · rw [show a - i = 0 by omega, Nat.mul_zero]
theorem flN_mono {a b : Nat} (h : a ≤ b) : ∀ i : Nat, flN a i ≤ flN b i
  | 0 => Nat.le_refl _
  | i + 1 => Nat.mul_le_mul (flN_mono h i) (by omega)
theorem flN_ok : ∀ a, a < 11 → ∀ i, i < 11 → flN a i ≤ 3628800 ∧ (i ≤ a → 0 < flN a i) := by decide +kernel
/-- Euclid's steps, and why a hundred are enough -/
def gcI (p q k x y : Nat) : Prop := Nat.gcd x y = Nat.gcd p q ∧ ((k = 0 ∧ x < 281474976710656 ∧ y < 281474976710656) ∨ (1 ≤ k ∧ y ≤ x ∧ x * y * 2 ^ (k - 1) < 79228162514264337593543950336)) ∧ x < 281474976710656 ∧ y < 281474976710656
theorem gcI_0 {p q : Nat} (hp : p < 281474976710656) (hq : q < 281474976710656) : gcI p q 0 p q := ⟨rfl, Or.inl ⟨rfl, hp, hq⟩, hp, hq⟩
theorem mod_half {x y : Nat} (h : y ≤ x) (h0 : 0 < y) : 2 * (x % y) ≤ x := by
  have h1 := Nat.mod_lt x h0
  have h2 := Nat.div_add_mod x y
  have h3 : 1 ≤ x / y := Nat.div_pos h h0
  have h4 : y * 1 ≤ y * (x / y) := Nat.mul_le_mul_left y h3
  omega
theorem gcI_s {p q k x y : Nat} (h : gcI p q k x y) (h0 : 0 < y) : gcI p q (k + 1) y (x % y) := by
  obtain ⟨h1, h2, h3, h4⟩ := h
  have hm := Nat.mod_lt x h0
  refine ⟨by rw [← h1, Nat.gcd_comm y, ← Nat.gcd_rec, Nat.gcd_comm], Or.inr ⟨by omega, by omega, ?_⟩, h4, by omega⟩
  rw [show k + 1 - 1 = k by omega]
  rcases h2 with ⟨e, -, -⟩ | ⟨e, hle, hlt⟩
  · rw [e, Nat.pow_zero, Nat.mul_one]
    have : y * (x % y) ≤ 281474976710655 * 281474976710655 := Nat.mul_le_mul (by omega) (by omega)
    exact Nat.lt_of_le_of_lt this (by decide)
  · have e2 : 2 ^ k = 2 * 2 ^ (k - 1) := by
      rw [← Nat.pow_succ', show (k - 1).succ = k by omega]
    have e3 : y * (x % y) * 2 ^ k = y * (2 * (x % y)) * 2 ^ (k - 1) := by
      rw [e2, ← Nat.mul_assoc, Nat.mul_assoc y, Nat.mul_comm (x % y) 2]
    rw [e3]
    refine Nat.lt_of_le_of_lt (Nat.mul_le_mul_right _ ?_) hlt
    rw [Nat.mul_comm x y]
    exact Nat.mul_le_mul_left y (mod_half hle h0)
theorem gcI_e {p q k x y : Nat} (h : gcI p q k x y) (hk : 100 ≤ k) : y = 0 := by
  obtain ⟨h1, h2, h3, h4⟩ := h
  rcases h2 with ⟨e, -, -⟩ | ⟨e, hle, hlt⟩
  · omega
  · by_cases q0 : y = 0
    · exact q0
    · have p1 : 1 * 1 ≤ x * y := Nat.mul_le_mul (by omega) (by omega)
      have p2 : 2 ^ 99 ≤ 2 ^ (k - 1) := Nat.pow_le_pow_right (by decide) (by omega)
      have p3 : 1 * 2 ^ 99 ≤ x * y * 2 ^ (k - 1) := Nat.mul_le_mul p1 p2
      have p4 : 79228162514264337593543950336 ≤ 1 * 2 ^ 99 := by decide
      exact absurd (Nat.lt_of_lt_of_le hlt (Nat.le_trans p4 p3)) (Nat.lt_irrefl _)
theorem gcI_x {p q k x : Nat} (h : gcI p q k x 0) : x = Nat.gcd p q := by rw [← h.1, Nat.gcd_zero_right]
/-- the odds as the class sums them -/
def keN (size like n c : Nat) : Nat → Nat | 0 => 0 | k + 1 => keN size like n c k + chL n k * c ^ k * (10 - c) ^ (n - k) * (flN size like - flN (min k size) like)
theorem keN_t {size like n c k : Nat} (hs : size ≤ 10) (hl : like ≤ 10) (hn : n ≤ 4) (hc : c ≤ 10) (hk : k ≤ n) : chL n k * c ^ k * (10 - c) ^ (n - k) * (flN size like - flN (min k size) like) ≤ 9144576000000 := by
  have h1 := (chL_le n (by omega) k (by omega)).1
  have h2 : c ^ k ≤ 10 ^ k := Nat.pow_le_pow_left hc k
  have h3 : (10 - c) ^ (n - k) ≤ 10 ^ (n - k) := Nat.pow_le_pow_left (by omega) _
  have h4 : flN size like - flN (min k size) like ≤ 3628800 := Nat.le_trans (Nat.sub_le _ _) (flN_ok size (by omega) like (by omega)).1
  have h5 : c ^ k * (10 - c) ^ (n - k) ≤ 10000 := by
    have e : 10 ^ k * 10 ^ (n - k) = 10 ^ n := by rw [← Nat.pow_add, show k + (n - k) = n by omega]
    refine Nat.le_trans (Nat.mul_le_mul h2 h3) ?_
    rw [e]
    exact Nat.le_trans (Nat.pow_le_pow_right (by decide) hn) (Nat.le_of_ble_eq_true rfl)
  have h6 : chL n k * (c ^ k * (10 - c) ^ (n - k)) ≤ 252 * 10000 := Nat.mul_le_mul h1 h5
  rw [Nat.mul_assoc (chL n k)]
  exact Nat.le_trans (Nat.mul_le_mul h6 h4) (Nat.le_of_ble_eq_true rfl)
theorem keN_le {size like n c : Nat} (hs : size ≤ 10) (hl : like ≤ 10) (hn : n ≤ 4) (hc : c ≤ 10) : ∀ k : Nat, k ≤ n + 1 → keN size like n c k ≤ k * 9144576000000
  | 0, _ => Nat.zero_le _
  | k + 1, hk => by
    have h := keN_le (size := size) (like := like) hs hl hn hc k (by omega)
    show keN size like n c k + chL n k * c ^ k * (10 - c) ^ (n - k) * (flN size like - flN (min k size) like) ≤ (k + 1) * 9144576000000
    rw [Nat.add_mul, Nat.one_mul]
    exact Nat.add_le_add h (keN_t hs hl hn hc (by omega))
-- slips that don't look at x
theorem slF_x {t : List Nat} {k i x : Nat} (hk : k = 1 ∨ k = 3 ∨ k = 4) (hi : i < 10) (hx : x < 10) : slF t (100 * k + 10 * i + x) = slF t (100 * k + 10 * i) := by
  unfold slF
  rw [show (100 * k + 10 * i + x) / 100 = k by omega, show (100 * k + 10 * i) / 100 = k by omega, show (100 * k + 10 * i + x) / 10 % 10 = i by omega, show (100 * k + 10 * i) / 10 % 10 = i by omega]
  rcases hk with rfl | rfl | rfl <;> rfl
theorem slP_ge {t : List Nat} {n : Nat} : slF t (100 + n) ≤ (slP t (n + 1)).2 := by
  by_cases h : (slP t n).2 < slF t (100 + n)
  · rw [slP_y h]; exact Int32.le_refl _
  · rw [slP_n h]; exact Int32.not_lt.mp h
theorem slP_skip {t : List Nat} {k i : Nat} (hk : k = 1 ∨ k = 3 ∨ k = 4) (hi : i < 10) : ∀ x : Nat, x < 10 → slP t (100 * k + 10 * i - 100 + 1 + x) = slP t (100 * k + 10 * i - 100 + 1)
  | 0, _ => rfl
  | x + 1, hx => by
    have ih := slP_skip (t := t) hk hi x (by omega)
    have e := slF_x (t := t) hk hi hx
    rw [← Nat.add_assoc, slP_n (by
      rw [ih, show 100 + (100 * k + 10 * i - 100 + 1 + x) = 100 * k + 10 * i + (x + 1) by omega, e]
      have h := slP_ge (t := t) (n := 100 * k + 10 * i - 100)
      rw [show 100 + (100 * k + 10 * i - 100) = 100 * k + 10 * i by omega] at h
      exact Int32.not_lt.mpr h)]
    exact ih
theorem slK {t : List Nat} {k i x : Nat} (hk : 1 ≤ k) (hi : i < 10) (hx : x < 10) : slF t (100 * k + 10 * i + x) = funT (slipT t k i x) := by
  unfold slF
  rw [show (100 * k + 10 * i + x) / 100 = k by omega, show (100 * k + 10 * i + x) / 10 % 10 = i by omega, show (100 * k + 10 * i + x) % 10 = x by omega]
theorem slW {t : List Nat} {k i x w : Nat} (hw : (w = 10 ∧ (k = 2 ∨ k = 5)) ∨ (w = 1 ∧ (k = 1 ∨ k = 3 ∨ k = 4))) (hx : x = w) (hi : i < 10) (hk : 1 ≤ k) : slP t (100 * k + 10 * i + x - 100) = slP t (100 * k + 10 * (i + 1) - 100) := by
  rcases hw with ⟨h1, h2⟩ | ⟨h1, h2⟩
  · rw [show 100 * k + 10 * i + x - 100 = 100 * k + 10 * (i + 1) - 100 by omega]
  · rw [show 100 * k + 10 * (i + 1) - 100 = 100 * k + 10 * i - 100 + 1 + 9 by omega, slP_skip h2 hi 9 (by decide), show 100 * k + 10 * i + x - 100 = 100 * k + 10 * i - 100 + 1 by omega]
