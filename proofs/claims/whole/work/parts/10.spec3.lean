-- ===== 10.spec3: the funniest row, pawns, odds, centuries, counts, the digest =====
def kFn (m i : Int32) : Nat := if upB m 4 = true ∧ (-1) ≤ i then 3 else 0
def dgL (R row : Nat) : Nat → List Nat | 0 => [] | j + 1 => dgL R row j ++ [row / (R / 10 ^ (j + 1)) % 10]
theorem dgL_len (R row : Nat) : ∀ j : Nat, (dgL R row j).length = j
  | 0 => rfl
  | j + 1 => by
    show (dgL R row j ++ [_]).length = j + 1
    rw [List.length_append, dgL_len R row j]
    rfl
theorem dgL_ok (R row : Nat) : ∀ j : Nat, j ≤ 10 → okT (dgL R row j)
  | 0, _ => okT_nil
  | j + 1, h => by
    show okT (dgL R row j ++ [_])
    exact (dgL_ok R row j (by omega)).app (Nat.mod_lt _ (by decide)) (by rw [dgL_len]; omega)
theorem pw10 : ∀ m, m < 5 → ∀ j, j < 5 → (0 < 10 ^ m / 10 ^ (j + 1) ↔ j < m) := by decide +kernel
theorem pw10le : ∀ m, m < 5 → 10 ^ m ≤ 10000 := by decide +kernel
theorem pw10pos : ∀ m, m < 5 → 0 < 10 ^ m := by decide +kernel
def fmP (R m : Nat) : Nat → Int32 × List Nat | 0 => ((-1000000), []) | r + 1 => if (fmP R m r).1 < funT (dgL R r m) then (funT (dgL R r m), dgL R r m) else fmP R m r
theorem fmP_y {R m r : Nat} (h : ¬ funT (dgL R r m) ≤ (fmP R m r).1) : fmP R m (r + 1) = (funT (dgL R r m), dgL R r m) := if_pos (Int32.not_le.mp h)
theorem fmP_n {R m r : Nat} (h : funT (dgL R r m) ≤ (fmP R m r).1) : fmP R m (r + 1) = fmP R m r := if_neg (Int32.not_lt.mpr h)
theorem fmP_ok {R m : Nat} (hm : m ≤ 10) : ∀ r : Nat, okT (fmP R m r).2
  | 0 => okT_nil
  | r + 1 => by
    by_cases h : funT (dgL R r m) ≤ (fmP R m r).1
    · rw [fmP_n h]; exact fmP_ok hm r
    · rw [fmP_y h]; exact dgL_ok R r m hm
def eFn : Nat → Nat → Int32 → Int32 × List Nat → Int32
  | 0, _, _, _ => (-1000)
  | _, m, i, f => if i = (-1) then f.1 else if i < nI m then nI (f.2.getD (xN i) 0) else (-5)
-- together
def optI : Option Nat → Int32
  | none => (-1)
  | some k => nI k
def fbet : Option Nat → Nat → Bool
  | none, _ => true
  | some k, s => decide (popN s < popN k)
def foT (T : Nat → List Nat) (z : Nat) : Nat → Option Nat | 0 => none | s + 1 => if nI z &&& (nI (ktN T s 8) ^^^ (-1)) = 0 ∧ fbet (foT T z s) s = true then some s else foT T z s
theorem foT_y {T : Nat → List Nat} {z s : Nat} (h1 : nI z &&& (nI (ktN T s 8) ^^^ (-1)) = 0) (h2 : fbet (foT T z s) s = true) : foT T z (s + 1) = some s := if_pos ⟨h1, h2⟩
theorem foT_n1 {T : Nat → List Nat} {z s : Nat} (h1 : ¬ nI z &&& (nI (ktN T s 8) ^^^ (-1)) = 0) : foT T z (s + 1) = foT T z s := if_neg (fun q => h1 q.1)
theorem foT_n2 {T : Nat → List Nat} {z s : Nat} (h2 : fbet (foT T z s) s = false) : foT T z (s + 1) = foT T z s := if_neg (fun q => by rw [h2] at q; exact absurd q.2 (by decide))
theorem foT_lt {T : Nat → List Nat} {z : Nat} : ∀ {s k : Nat}, foT T z s = some k → k < s
  | 0, k, h => by cases h
  | s + 1, k, h => by
    by_cases q : nI z &&& (nI (ktN T s 8) ^^^ (-1)) = 0 ∧ fbet (foT T z s) s = true
    · rw [foT_y q.1 q.2] at h
      cases h
      omega
    · have e : foT T z (s + 1) = foT T z s := if_neg q
      rw [e] at h
      have := foT_lt h
      omega
theorem optC (o : Option Nat) : o = none ∨ ∃ k, o = some k := by
  cases o with
  | none => exact Or.inl rfl
  | some k => exact Or.inr ⟨k, rfl⟩
theorem fbet_y {o : Option Nat} {k s : Nat} (h : o = some k) (q : popN s < popN k) : fbet o s = true := by
  rw [h]
  show decide (popN s < popN k) = true
  simp only [q, decide_true]
theorem fbet_n {o : Option Nat} {k s : Nat} (h : o = some k) (q : ¬ popN s < popN k) : fbet o s = false := by
  rw [h]
  show decide (popN s < popN k) = false
  simp only [q, decide_false]
theorem fbet_0 {o : Option Nat} {s : Nat} (h : o = none) : fbet o s = true := by
  rw [h]
  rfl
def kPw (z w : Int32) : Nat := if upB z 1023 = true ∧ upB w 1 = true then 3 else 0
def ePw : Nat → Nat → Nat → Int32 → Int32
  | 0, _, _, _ => (-2)
  | _, 0, n, _ => nI n
  | _, _, _, f => f
-- odds
def csL (c k w : Nat) : Nat → Nat | 0 => w | j + 1 => csL c k w j * (if j < k then c else 10 - c)
def smN (size times n c : Nat) : Nat → Nat | 0 => 0 | k + 1 => smN size times n c k + (if times = 0 then 0 else csL c k (chN n k) n * stN size times (min k size))
theorem csL_le {c k w : Nat} (hc : c ≤ 10) : ∀ j : Nat, csL c k w j ≤ w * 10 ^ j
  | 0 => by
    show w ≤ w * 10 ^ 0
    omega
  | j + 1 => by
    have h := csL_le (k := k) (w := w) hc j
    show csL c k w j * (if j < k then c else 10 - c) ≤ w * 10 ^ (j + 1)
    rw [Nat.pow_succ, ← Nat.mul_assoc]
    refine Nat.mul_le_mul h ?_
    by_cases q : j < k
    · rw [if_pos q]; exact hc
    · rw [if_neg q]; omega
theorem chN_le {n k : Nat} (hn : n < 11) (hk : k < 11) : chN n k ≤ 252 := by
  unfold chN
  by_cases q : k ≤ n
  · rw [if_pos q]; exact (chL_le n hn k hk).1
  · rw [if_neg q]; omega
theorem smN_t {size times n c k : Nat} (hn : n ≤ 4) (hc : c ≤ 10) (hk : k < 11) : csL c k (chN n k) n * stN size times (min k size) ≤ 12700800000 := by
  have h1 := csL_le (k := k) (w := chN n k) hc n
  have h2 := chN_le (n := n) (k := k) (by omega) hk
  have h3 : 10 ^ n ≤ 10000 := Nat.le_trans (Nat.pow_le_pow_right (by decide) hn) (Nat.le_of_ble_eq_true rfl)
  have h4 : stN size times (min k size) ≤ 5040 := Nat.sub_le _ _
  exact Nat.le_trans (Nat.mul_le_mul (Nat.le_trans h1 (Nat.mul_le_mul h2 h3)) h4) (Nat.le_of_ble_eq_true rfl)
theorem smN_le {size times n c : Nat} (hn : n ≤ 4) (hc : c ≤ 10) : ∀ k : Nat, k ≤ 5 → smN size times n c k ≤ k * 12700800000
  | 0, _ => Nat.zero_le _
  | k + 1, hk => by
    have h := smN_le (size := size) (times := times) hn hc k (by omega)
    show smN size times n c k + (if times = 0 then 0 else csL c k (chN n k) n * stN size times (min k size)) ≤ (k + 1) * 12700800000
    rw [Nat.add_mul, Nat.one_mul]
    refine Nat.add_le_add h ?_
    by_cases q : times = 0
    · rw [if_pos q]; exact Nat.zero_le _
    · rw [if_neg q]
      exact smN_t hn hc (by omega)
def kOd (b x n c : Int32) : Nat := if upB b 7 = true ∧ upB x 9 = true ∧ upB n 4 = true ∧ upB c 10 = true then 3 else 0
def e1I : Nat → Int32
  | 0 => (-2)
  | _ => nI 1
def s3L : Nat → Int64 → Int64 → Int64
  | 3, _, b => b
  | _, a, _ => a
def frA (t : List Nat) (x n c : Nat) : Nat := smN t.length (cntN t x t.length) n c (n + 1)
-- centuries
def lcg (x : Nat) : Nat := (x * 1103515245 + 12345) % 2147483648
theorem lcg_lt (x : Nat) : lcg x < 2147483648 := Nat.mod_lt _ (by decide)
def ceT (t : List Nat) (x : Nat) : Nat → List Nat × Nat
  | 0 => (t, x)
  | k + 1 => (slipT (ceT t x k).1 (lcg (ceT t x k).2 / 65536 % 6) (lcg (lcg (ceT t x k).2) / 65536 % 10) (lcg (lcg (lcg (ceT t x k).2)) / 65536 % 10), lcg (lcg (lcg (ceT t x k).2)))
def ceI (t : List Nat) (x : Nat) : Nat → Nat → Int32
  | _, 0 => (-1)
  | k, f + 1 => if 7 ∈ (ceT t x k).1 then ceI t x (k + 1) f else nI k
theorem ceI_y {t : List Nat} {x k f : Nat} (h : 7 ∈ (ceT t x k).1) : ceI t x k (f + 1) = ceI t x (k + 1) f := if_pos h
theorem ceI_n {t : List Nat} {x k f : Nat} (h : ¬ 7 ∈ (ceT t x k).1) : ceI t x k (f + 1) = nI k := if_neg h
def kCe (b s n : Int32) : Nat := if upB b 7 = true ∧ upB s 999999 = true ∧ upB n 60 = true then 3 else 0
def eCe : Nat → Int32 → Int32
  | 0, _ => (-2)
  | _, v => v
-- text
def kTy (c : Int32) (n : Nat) : Nat := if upB c 127 = true then (if n = 150 then 2 else 3) else 0
-- part, status, count
def kW (w : Int32) (n : Nat) : Nat := if upB w n = true then 3 else 0
def ePa : Nat → Int32 → Int64 → Int64 → Int64
  | 0, _, _, _ => (-2)
  | _, w, a, b => if w = nI 0 then a else b
def eSt : Nat → Int32 → Int32
  | 0, _ => (-1)
  | _, v => v
def cnW : Nat → Nat → Nat → Nat → Nat → Nat → Nat → Nat
  | 0, a, _, _, _, _, _ => a
  | 1, _, b, _, _, _, _ => b
  | 2, _, _, c, _, _, _ => c
  | 3, _, _, _, d, _, _ => d
  | 4, _, _, _, _, e, _ => e
  | _, _, _, _, _, _, f => f
theorem plT_le {T : Nat → List Nat} (hT : ∀ k, okT (T k)) : ∀ i : Nat, plT T i ≤ 10 * i
  | 0 => Nat.le_refl _
  | i + 1 => by
    have h := plT_le hT i
    have h2 := (hT i).1
    show plT T i + (T i).length ≤ 10 * (i + 1)
    omega
-- the digest
def dg1 (c : Nat → Nat) : Nat → Int64 | 0 => lN 1051 | i + 1 => lN 31 * dg1 c i + lN (c i)
def dg2 (T : Nat → List Nat) (P : Nat → Int32) (h : Int64) : Nat → Int64 | 0 => h | i + 1 => lN 31 * dgT (T i) (lN 31 * dg2 T P h i + lN (T i).length) (T i).length + (P i).toInt64
def dg3 (hs : Nat → Nat) (h : Int64) : Nat → Int64 | 0 => h | k + 1 => lN 31 * dg3 hs h k + lN (hs k)
def dgA (c : Nat → Nat) (T : Nat → List Nat) (P : Nat → Int32) (row : List Nat) (hs : Nat → Nat) (n : Nat) (a b : Int64) : Int64 :=
  lN 31 * (lN 31 * dg3 hs (dgT row (dg2 T P (dg1 c 6) 8) row.length) n + a) + b
theorem cnW_le {a b c d e f : Nat} (w : Nat) (h1 : a ≤ 8) (h2 : b ≤ 10 * 8) (h3 : c ≤ 10) (h4 : d ≤ 6) (h5 : e ≤ 8) (h6 : f ≤ 150) : cnW w a b c d e f ≤ 150 := by
  match w with
  | 0 => show a ≤ 150; omega
  | 1 => show b ≤ 150; omega
  | 2 => show c ≤ 150; omega
  | 3 => show d ≤ 150; omega
  | 4 => show e ≤ 150; omega
  | _ + 5 => exact h6
theorem foT_e1 {T : Nat → List Nat} {z s : Nat} {b : Int32} (hb : b = optI (foT T z s)) (h1 : ¬ nI z &&& (nI (ktN T s 8) ^^^ (-1)) = 0) : b = optI (foT T z (s + 1)) := by
  rw [foT_n1 h1]
  exact hb
theorem foT_eY {T : Nat → List Nat} {z s : Nat} (h1 : nI z &&& (nI (ktN T s 8) ^^^ (-1)) = 0) (h2 : fbet (foT T z s) s = true) : nI s = optI (foT T z (s + 1)) := by
  rw [foT_y h1 h2]
  rfl
theorem foT_e2 {T : Nat → List Nat} {z s k : Nat} (ho : foT T z s = some k) (h2 : fbet (foT T z s) s = false) : nI k = optI (foT T z (s + 1)) := by
  rw [foT_n2 h2, ho]
  rfl
theorem fm_n {R m r : Nat} {f : Int32} {b t : List Nat} (hf : f = (fmP R m r).1) (hb : b = (fmP R m r).2) (ht : t = dgL R r m) (h : funT t ≤ f) : f = (fmP R m (r + 1)).1 ∧ b = (fmP R m (r + 1)).2 := by
  rw [fmP_n (by rw [← hf, ← ht]; exact h)]
  exact ⟨hf, hb⟩
theorem fm_y {R m r : Nat} {f : Int32} {t : List Nat} (hf : f = (fmP R m r).1) (ht : t = dgL R r m) (h : ¬ funT t ≤ f) : funT t = (fmP R m (r + 1)).1 ∧ t = (fmP R m (r + 1)).2 := by
  rw [fmP_y (by rw [← hf, ← ht]; exact h), ← ht]
  exact ⟨rfl, rfl⟩
