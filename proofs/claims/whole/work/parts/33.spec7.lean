-- ===== 33.spec7: the class's own answers, the rest =====
theorem popF_and : ∀ f a b : Nat, popF f (a &&& b) ≤ popF f a
  | 0, _, _ => Nat.le_refl _
  | f + 1, a, b => by
    show (a &&& b) % 2 + popF f ((a &&& b) / 2) ≤ a % 2 + popF f (a / 2)
    have h := popF_and f (a / 2) (b / 2)
    rw [Nat.and_div_two]
    have h2 : (a &&& b) % 2 ≤ a % 2 := by
      have e := Nat.and_mod_two_pow (a := a) (b := b) (n := 1)
      rw [Nat.pow_one] at e
      rw [e]
      exact Nat.and_le_left
    omega
theorem popN_and (a b : Nat) : popN (a &&& b) ≤ popN a := popF_and 32 a b
theorem grC_le (T : Nat → List Nat) (z x : Nat) : grC T z x ≤ 32 := by
  unfold grC
  have h1 := popN_le (z &&& bwiN T x 8)
  have h2 := popN_le z
  omega
theorem nxG_le {gr : Nat → Nat} (hg : ∀ x, gr x ≤ 32) : ∀ x : Nat, (nxG gr x).2 ≤ 1000000
  | 0 => Nat.le_refl _
  | x + 1 => by
    have h := nxG_le hg x
    by_cases q : gr x < (nxG gr x).2
    · rw [nxG_y q]; have := hg x; show gr x ≤ 1000000; omega
    · rw [nxG_n q]; exact h
def nxH (gr : Nat → Nat) (x : Nat) (b m : Int32) : Prop := (x = 0 ∧ b = (-1)) ∨ (0 < x ∧ b = (nxG gr x).1 ∧ m = nI (nxG gr x).2 ∧ ∃ kb : Nat, kb < 10 ∧ b = nI kb)
theorem nxH_y {gr : Nat → Nat} {x : Nat} (h : nxG gr (x + 1) = (nI x, gr x)) (hx : x < 10) : nxH gr (x + 1) (nI x) (nI (gr x)) := by
  refine Or.inr ⟨by omega, ?_, ?_, x, hx, rfl⟩
  · rw [h]
  · rw [h]
theorem nxH_n {gr : Nat → Nat} {x kb : Nat} {m : Int32} (h : nxG gr (x + 1) = nxG gr x) (hb : nI kb = (nxG gr x).1) (hm : m = nI (nxG gr x).2) (hk : kb < 10) : nxH gr (x + 1) (nI kb) m := by
  refine Or.inr ⟨by omega, ?_, ?_, kb, hk, rfl⟩
  · rw [h]; exact hb
  · rw [h]; exact hm
theorem nxH_0 {gr : Nat → Nat} {x : Nat} (hg : ∀ x, gr x ≤ 32) (hx : x = 0) : nxG gr (x + 1) = (nI x, gr x) := by
  refine nxG_y ?_
  rw [hx]
  have := hg 0
  show gr 0 < 1000000
  omega
theorem nxH_e {gr : Nat → Nat} {x : Nat} {b m : Int32} (h : nxH gr x b m) (hx : 0 < x) : b = (nxG gr x).1 := by
  rcases h with h | h
  · omega
  · exact h.2.1
def kIm (i : Int32) (j : Nat) : Nat := if upB i 1 = true ∧ xN i = j then 3 else 0
def kFrC (i : Int32) (k0 k1 : Bool) : Nat := if upB i 1 = true then (if (if xN i = 0 then k0 else k1) = true then 3 else 1) else 0
def dgC (c : Nat → Nat) (T : Nat → List Nat) (P : Nat → Int32) (row : List Nat) (hp hi : Nat → Nat) (n : Nat) (a b : Int64) : Int64 :=
  lN 31 * (lN 31 * deE hp hi (dgT row (dg2 T P (dg1 c 6) 8) row.length) n + a) + b
def if0 {α : Type} (n : Nat) (a b : α) : α := match n with | 0 => a | _ => b
theorem popN_8 : ∀ {n : Nat}, n < 256 → popN n ≤ 8 := fun {n} h => (show ∀ n, n < 256 → popN n ≤ 8 by decide +kernel) n h
