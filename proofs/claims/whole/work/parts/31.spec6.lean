-- ===== 31.spec6: the class's own answers =====
theorem nb_xor (a b : Nat) : nI a ^^^ nI b = nI (a ^^^ b) := by
  apply Int32.toBitVec_inj.mp
  rw [Int32.toBitVec_xor]
  apply BitVec.eq_of_toNat_eq
  show (BitVec.ofNat 32 a ^^^ BitVec.ofNat 32 b).toNat = (BitVec.ofNat 32 (a ^^^ b)).toNat
  rw [BitVec.toNat_xor, BitVec.toNat_ofNat, BitVec.toNat_ofNat, BitVec.toNat_ofNat]
  exact (Nat.xor_mod_two_pow (n := 32)).symm
def adN (a b : Nat) : Nat := a &&& (b ^^^ 2047)
theorem ones_bit : ∀ i, i < 11 → (4294967295 : Nat).testBit i = true ∧ (2047 : Nat).testBit i = true := by decide +kernel
theorem adN_eq {a b : Nat} (ha : a < 2048) : nI a &&& (nI b ^^^ (-1)) = nI (adN a b) := by
  rw [show (-1 : Int32) = nI 4294967295 from by decide, nb_xor, nb_and]
  refine congrArg nI ?_
  unfold adN
  refine Nat.eq_of_testBit_eq (fun i => ?_)
  rw [Nat.testBit_and, Nat.testBit_and, Nat.testBit_xor, Nat.testBit_xor]
  by_cases h : i < 11
  · rw [(ones_bit i h).1, (ones_bit i h).2]
  · rw [Nat.testBit_lt_two_pow (Nat.lt_of_lt_of_le ha (Nat.le_trans (by decide : 2048 ≤ 2 ^ 11) (Nat.pow_le_pow_right (by decide) (by omega)))), Bool.false_and, Bool.false_and]
theorem adN_le (a b : Nat) : adN a b ≤ a := Nat.and_le_left
def ltN (T : Nat → List Nat) (hp hi : Nat → Nat) : Nat → Nat | 0 => bwoN T 0 8 | i + 1 => if hi i = 1 then ltN T hp hi i &&& bwiN T (hp i) 8 else adN (ltN T hp hi i) (bwiN T (hp i) 8)
theorem ltN_lt (T : Nat → List Nat) (hp hi : Nat → Nat) : ∀ i : Nat, ltN T hp hi i < 256
  | 0 => bwoN_lt T 0 8
  | i + 1 => by
    have h := ltN_lt T hp hi i
    show (if hi i = 1 then ltN T hp hi i &&& bwiN T (hp i) 8 else adN (ltN T hp hi i) (bwiN T (hp i) 8)) < 256
    by_cases q : hi i = 1
    · rw [if_pos q]; exact Nat.lt_of_le_of_lt Nat.and_le_left h
    · rw [if_neg q]; exact Nat.lt_of_le_of_lt (adN_le _ _) h
def deE (hp hi : Nat → Nat) (h : Int64) : Nat → Int64 | 0 => h | k + 1 => lN 31 * (lN 31 * deE hp hi h k + lN (hp k)) + lN (hi k)
def nxG (gr : Nat → Nat) : Nat → Int32 × Nat | 0 => ((-1), 1000000) | x + 1 => if gr x < (nxG gr x).2 then (nI x, gr x) else nxG gr x
theorem nxG_y {gr : Nat → Nat} {x : Nat} (h : gr x < (nxG gr x).2) : nxG gr (x + 1) = (nI x, gr x) := if_pos h
theorem nxG_n {gr : Nat → Nat} {x : Nat} (h : ¬ gr x < (nxG gr x).2) : nxG gr (x + 1) = nxG gr x := if_neg h
def grC (T : Nat → List Nat) (z x : Nat) : Nat := max (popN (z &&& bwiN T x 8)) (popN z - popN (z &&& bwiN T x 8))
def nxC (T : Nat → List Nat) (z : Nat) : Int32 := if z = 0 then (-1) else (nxG (grC T z) 10).1
theorem cmpE {v : Int32} {a b : Nat} (h : v = (if a < b then (-1) else if a = b then nI 0 else nI 1)) : v = 0 ↔ a = b := by
  rw [h]
  by_cases q : a < b
  · rw [if_pos q]
    exact ⟨fun z => absurd z (by decide), fun z => absurd z (by omega)⟩
  · rw [if_neg q]
    by_cases q2 : a = b
    · rw [if_pos q2]; exact ⟨fun _ => q2, fun _ => nI_0⟩
    · rw [if_neg q2]; exact ⟨fun z => absurd z (by decide), fun z => absurd z q2⟩
theorem cmpL {v : Int32} {a b : Nat} (h : v = (if a < b then (-1) else if a = b then nI 0 else nI 1)) : v ≤ 0 ↔ a ≤ b := by
  rw [h]
  by_cases q : a < b
  · rw [if_pos q]
    exact ⟨fun _ => by omega, fun _ => by decide⟩
  · rw [if_neg q]
    by_cases q2 : a = b
    · rw [if_pos q2]; exact ⟨fun _ => by omega, fun _ => by decide⟩
    · rw [if_neg q2]; exact ⟨fun z => absurd z (by decide), fun z => absurd z (by omega)⟩
def w9 : Nat → Nat → Nat := fun a b => if a = b then 0 else 1
def keT (t : List Nat) (x n c : Nat) : Nat := keN t.length (cntN t x t.length) n c (n + 1)
def kqT (t : List Nat) (x n : Nat) : Nat := 10 ^ n * flN t.length (cntN t x t.length)
