-- ===== 06.tales2: counts of bits, fun, the lowest bit =====
def bcN (a : Nat) : Nat :=
  let w9 := a - ((a / 2 ^ 1) &&& 1431655765)
  let w23 := (w9 &&& 858993459) + ((w9 / 2 ^ 2) &&& 858993459)
  let w33 := (w23 + (w23 / 2 ^ 4)) &&& 252645135
  let w40 := w33 + (w33 / 2 ^ 8)
  let w47 := w40 + (w40 / 2 ^ 16)
  w47 &&& 63
theorem bc_ok : ∀ a, a < 2048 → popN a = bcN a := by decide +kernel
def lowF (a : Nat) : Nat → Nat → Int32
  | _, 0 => (-1)
  | k, f + 1 => if a / 2 ^ k % 2 = 1 then nI k else lowF a (k + 1) f
def lowI (a : Nat) : Int32 := lowF a 0 32
theorem lowF_at {a k : Nat} (h : a / 2 ^ k % 2 = 1) : ∀ f k0 : Nat, k0 ≤ k → k < k0 + f → (∀ j, k0 ≤ j → j < k → a / 2 ^ j % 2 ≠ 1) → lowF a k0 f = nI k
  | 0, k0, h1, h2, _ => absurd h2 (by omega)
  | f + 1, k0, h1, h2, h3 => by
    show (if a / 2 ^ k0 % 2 = 1 then nI k0 else lowF a (k0 + 1) f) = nI k
    by_cases q : k0 = k
    · rw [q, if_pos h]
    · rw [if_neg (h3 k0 (Nat.le_refl _) (by omega))]
      exact lowF_at h f (k0 + 1) (by omega) (by omega) (fun j q1 q2 => h3 j (by omega) q2)
theorem lowI_at {a k : Nat} (h : a / 2 ^ k % 2 = 1) (hl : ∀ j, j < k → a / 2 ^ j % 2 ≠ 1) (hk : k < 32) : lowI a = nI k :=
  lowF_at h 32 0 (Nat.zero_le _) (by omega) (fun j _ q => hl j q)
theorem lowF_none {a : Nat} : ∀ f k0 : Nat, (∀ j, k0 ≤ j → j < k0 + f → a / 2 ^ j % 2 ≠ 1) → lowF a k0 f = (-1)
  | 0, _, _ => rfl
  | f + 1, k0, h => by
    show (if a / 2 ^ k0 % 2 = 1 then nI k0 else lowF a (k0 + 1) f) = (-1)
    rw [if_neg (h k0 (Nat.le_refl _) (by omega))]
    exact lowF_none f (k0 + 1) (fun j q1 q2 => h j (by omega) (by omega))
theorem lowI_none {a : Nat} (hl : ∀ j, j < 32 → a / 2 ^ j % 2 ≠ 1) : lowI a = (-1) := lowF_none 32 0 (fun j _ q => hl j (by omega))
def fxI (a : Int32) (x n : Nat) : Int32 := (if nI x = a then nI 0 else nI 2) + (if x = 9 ∧ a = nI 7 then nI 5 else nI 0) - (if 1 < n then nI 4 else nI 0)
theorem i32_assoc (s a b c : Int32) : s + a + b - c = s + (a + b - c) := by
  rw [Int32.sub_eq_add_neg, Int32.sub_eq_add_neg, Int32.add_assoc, Int32.add_assoc, Int32.add_assoc]
theorem fnI_fx (t : List Nat) (i : Nat) : fnI t (i + 1) = fnI t i + fxI (ahI t i) (t.getD i 0) (cntN t (t.getD i 0) i) := i32_assoc _ _ _ _
theorem funT_end {t : List Nat} (ht : okT t) : funT t = fnI t t.length + (if ahI t t.length = nI 9 then nI 3 else nI 0) := by
  unfold funT fnE
  by_cases h : t.length = 0
  · rw [if_neg (fun q => by omega)]
    have e : ahI t t.length = (-1) := if_pos h
    rw [e, if_neg (by decide)]
  · have e : ahI t t.length = nI (t.getD (t.length - 1) 0) := if_neg h
    have hb := ht.getD (t.length - 1)
    rw [e]
    by_cases q : t.getD (t.length - 1) 0 = 9
    · rw [if_pos ⟨by omega, q⟩, q, if_pos rfl]
    · rw [if_neg (fun z => q z.2), if_neg (fun z => q ((nI_eq (by omega) (by omega)).mp z))]
-- the counts of parts, four bits each
def dsum (f : Nat → Nat) : Nat → Nat | 0 => 0 | n + 1 => dsum f n + f n * 16 ^ n
theorem dsum_lt {f : Nat → Nat} (hf : ∀ j, f j < 16) : ∀ n : Nat, dsum f n < 16 ^ n
  | 0 => by
    show 0 < 16 ^ 0
    decide
  | n + 1 => by
    have h := dsum_lt hf n
    have h2 := hf n
    show dsum f n + f n * 16 ^ n < 16 ^ (n + 1)
    have h3 : (f n + 1) * 16 ^ n ≤ 16 * 16 ^ n := Nat.mul_le_mul_right _ (by omega)
    rw [Nat.add_mul, Nat.one_mul] at h3
    rw [Nat.pow_succ, Nat.mul_comm _ 16]
    omega
theorem dsum_dig {f : Nat → Nat} (hf : ∀ j, f j < 16) : ∀ n x : Nat, x < n → dsum f n / 16 ^ x % 16 = f x
  | 0, x, h => absurd h (Nat.not_lt_zero _)
  | n + 1, x, h => by
    show (dsum f n + f n * 16 ^ n) / 16 ^ x % 16 = f x
    by_cases q : x = n
    · subst q
      rw [Nat.add_mul_div_right _ _ (Nat.pow_pos (by decide)), Nat.div_eq_of_lt (dsum_lt hf x), Nat.zero_add]
      exact Nat.mod_eq_of_lt (hf x)
    · have e : f n * 16 ^ n = (f n * 16 ^ (n - x - 1) * 16) * 16 ^ x := by
        rw [Nat.mul_assoc, Nat.mul_assoc, ← Nat.pow_succ', ← Nat.pow_add, show n - x - 1 + (x + 1) = n by omega]
      rw [e, Nat.add_mul_div_right _ _ (Nat.pow_pos (by decide)), ← dsum_dig hf n x (by omega)]
      omega
theorem dsum_inc {f : Nat → Nat} (y : Nat) : ∀ n : Nat, dsum (fun x => f x + if y = x then 1 else 0) n = dsum f n + (if y < n then 16 ^ y else 0)
  | 0 => by simp [dsum]
  | n + 1 => by
    show dsum (fun x => f x + if y = x then 1 else 0) n + (f n + if y = n then 1 else 0) * 16 ^ n = dsum f n + f n * 16 ^ n + (if y < n + 1 then 16 ^ y else 0)
    rw [dsum_inc y n, Nat.add_mul]
    by_cases q : y = n
    · subst q
      rw [if_pos rfl, if_neg (Nat.lt_irrefl _), if_pos (Nat.lt_succ_self _), Nat.one_mul]
      omega
    · rw [if_neg q, Nat.zero_mul]
      by_cases q2 : y < n
      · rw [if_pos q2, if_pos (by omega)]; omega
      · rw [if_neg q2, if_neg (by omega)]; omega
def tmN (t : List Nat) : Nat → Nat | 0 => 0 | i + 1 => tmN t i + 16 ^ (t.getD i 0)
theorem tmN_dsum {t : List Nat} (ht : ∀ j, t.getD j 0 < 10) : ∀ i : Nat, tmN t i = dsum (fun x => cntN t x i) 10
  | 0 => by
    show 0 = dsum (fun _ => 0) 10
    decide
  | i + 1 => by
    show tmN t i + 16 ^ (t.getD i 0) = dsum (fun x => cntN t x i + if t.getD i 0 = x then 1 else 0) 10
    rw [dsum_inc (t.getD i 0) 10, if_pos (ht i), tmN_dsum ht i]
theorem tmN_digit {t : List Nat} (ht : ∀ j, t.getD j 0 < 10) {x i : Nat} (hx : x < 10) (hi : i ≤ 10) : tmN t i / 16 ^ x % 16 = cntN t x i := by
  rw [tmN_dsum ht i]
  exact dsum_dig (f := fun x => cntN t x i) (fun j => Nat.lt_of_le_of_lt (cntN_le t j i) (by omega)) 10 x hx
theorem tmN_lt {t : List Nat} {i : Nat} (hi : i ≤ 10) (ht : ∀ j, t.getD j 0 < 10) : tmN t i < 1099511627776 := by
  rw [tmN_dsum ht i]
  exact dsum_lt (f := fun x => cntN t x i) (fun j => Nat.lt_of_le_of_lt (cntN_le t j i) (by omega)) 10
theorem fnB_y {t : List Nat} {i : Nat} {a : Int32} (h1 : t.getD i 0 = 9) (ha : a = ahI t i) (h2 : a = nI 7) : nI 5 = fnB t i := (if_pos ⟨h1, ha.symm.trans h2⟩).symm
theorem fnB_n1 {t : List Nat} {i : Nat} (h1 : t.getD i 0 ≠ 9) : nI 0 = fnB t i := (if_neg (fun q => h1 q.1)).symm
theorem fnB_n2 {t : List Nat} {i : Nat} {a : Int32} (ha : a = ahI t i) (h2 : ¬ a = nI 7) : nI 0 = fnB t i := (if_neg (fun q => h2 (ha.trans q.2))).symm
theorem fnE_y {t : List Nat} (h1 : 0 < t.length) (h2 : t.getD (t.length - 1) 0 = 9) : fnE t = nI 3 := if_pos ⟨h1, h2⟩
theorem fnE_n1 {t : List Nat} (h1 : t.length = 0) : fnE t = nI 0 := if_neg (fun q => by omega)
theorem fnE_n2 {t : List Nat} (h2 : t.getD (t.length - 1) 0 ≠ 9) : fnE t = nI 0 := if_neg (fun q => h2 q.2)
theorem chW {n k j w : Nat} (hw : w = if k ≤ n then chL n j else 0) (hn : n < 11) (hj : j < 11) : w ≤ 252 := by
  rw [hw]
  by_cases q : k ≤ n
  · rw [if_pos q]; exact (chL_le n hn j hj).1
  · rw [if_neg q]; omega
theorem fx4 {a : Int32} {x n : Nat} {A B C v : Int32} (hA : (if nI x = a then nI 0 else nI 2) = A) (hB : (if x = 9 ∧ a = nI 7 then nI 5 else nI 0) = B) (hC : (if 1 < n then nI 4 else nI 0) = C) (hv : A + B - C = v) : fxI a x n = v := by
  unfold fxI
  rw [hA, hB, hC]
  exact hv
-- a part set ahead of a tale
def addA (t : List Nat) (x : Nat) : List Nat := if t.length < 10 then x :: t else t
theorem addA_lt {t : List Nat} {x : Nat} (h : t.length < 10) : addA t x = x :: t := if_pos h
theorem okT.cons {t : List Nat} (h : okT t) {x : Nat} (hx : x < 10) (hl : t.length < 10) : okT (x :: t) :=
  ⟨hl, fun y hy => by
    rcases List.mem_cons.mp hy with q | q
    · rw [q]; exact hx
    · exact h.2 y q⟩
theorem cC_ahead {t : List Nat} (h : okT t) (x : Nat) : (t.length + 16 * tpk t) / 2 ^ 4 * 2 ^ 8 + x * 2 ^ 4 + t.length + 1 = (x :: t).length + 16 * tpk (x :: t) := by
  have h1 := h.1
  show _ = t.length + 1 + 16 * (x + 16 * tpk t)
  rw [show (t.length + 16 * tpk t) / 2 ^ 4 = tpk t by omega]
  omega
