-- ===== 08.spec: what each call answers, over what a house is =====
def rfU : Nat → (Nat → Int32) → Nat → Int32
  | 0, f => upd f 0 (f 0 + nI 1)
  | 1, f => upd f 1 (f 1 + nI 1)
  | 2, f => upd f 2 (f 2 + nI 1)
  | _, f => f
def xN (x : Int32) : Nat := x.toNatClampNeg
theorem xN_nI {k : Nat} (h : k < 2147483648) : xN (nI k) = k := nI_clamp h
theorem nn_of {i : Int32} (h1 : (-1) ≤ i) (h2 : ¬ i = (-1)) : ∃ j : Nat, j < 2147483648 ∧ i = nI j := by
  refine nI_of ?_
  intro q
  rw [Int32.lt_iff_toInt_lt] at q
  rw [Int32.le_iff_toInt_le] at h1
  have e : (-1 : Int32).toInt = -1 := by decide
  have z : (0 : Int32).toInt = 0 := by decide
  rw [e] at h1
  rw [z] at q
  exact h2 (Int32.toInt_inj.mp (by rw [e]; omega))
-- say
def kSay (x : Int32) (r : List Nat) : Nat := if upB x 9 = true then (if r.length = 10 then 2 else 3) else 0
def eSay : Nat → List Nat → Int32
  | 0, _ => (-2)
  | 2, _ => (-4)
  | _, r => nI (r.length + 1)
def rSay : Nat → Nat → List Nat → List Nat
  | 3, x, r => r ++ [x]
  | _, _, r => r
-- tale
def kBr (b : Int32) : Nat := if upB b 7 = true then 3 else 0
def eTale : Nat → List Nat → Int32
  | 0, _ => (-2)
  | _, r => nI r.length
def upK {α : Type} : Nat → (Nat → α) → Nat → α → Nat → α
  | 3, f, b, v => va_up f b v
  | _, f, _, _ => f
-- hand
def kHand (a b k i x : Int32) (T : Nat → List Nat) : Nat := if upB a 7 = true ∧ upB b 7 = true ∧ ¬ b ≤ a ∧ upB k 5 = true ∧ upB i 9 = true ∧ upB x 9 = true then (if T (xN a) = [] then 1 else 3) else 0
def eHand : Nat → List Nat → Int32
  | 0, _ => (-2)
  | 1, _ => (-3)
  | _, r => nI r.length
-- undo
def kUndo (un : Nat) : Nat := if un = 0 then 1 else 3
def eUndo : Nat → Nat → Int32
  | 1, _ => (-3)
  | _, n => nI n
-- at
def kAt (b i : Int32) : Nat := if upB b 7 = true ∧ (-1) ≤ i then 3 else 0
def eAt : Nat → List Nat → Int32 → Int32
  | 0, _, _ => (-10)
  | _, t, i => if i = (-1) then nI t.length else if i < nI t.length then nI (t.getD (xN i) 0) else (-5)
def eParent : Nat → Int32 → Int32
  | 0, _ => (-2)
  | _, q => q
-- pointless
def plI (T : Nat → List Nat) : Nat → Nat → Int32
  | _, 0 => (-1)
  | b, f + 1 => if T b ≠ [] ∧ ¬ 9 ∈ T b then nI b else plI T (b + 1) f
theorem plI_y {T : Nat → List Nat} {b f : Nat} (h1 : T b ≠ []) (h2 : ¬ 9 ∈ T b) : plI T b (f + 1) = nI b := if_pos ⟨h1, h2⟩
theorem plI_n {T : Nat → List Nat} {b f : Nat} (h : ¬ (T b ≠ [] ∧ ¬ 9 ∈ T b)) : plI T b (f + 1) = plI T (b + 1) f := if_neg h
def unK : Nat → Nat → Nat
  | 3, un => min un 7 + 1
  | _, un => un
def paK {α : Type} : Nat → (Nat → α) → (Nat → α) → Nat → Nat → α
  | 3, T, pa, un => va_cpy T (shK pa un) 0 (8 * min un 7) 8
  | _, _, pa, _ => pa
def unT {α : Type} : Nat → (Nat → α) → (Nat → α) → Nat → Nat → α
  | 3, T, pa, un => va_cpy pa T (8 * (un - 1)) 0 8
  | _, T, _, _ => T
theorem cpy_ok {f g : Nat → List Nat} (hf : ∀ k, okT (f k)) (hg : ∀ k, okT (g k)) (sp dp n : Nat) : ∀ k, okT (va_cpy f g sp dp n k) := fun k => by
  unfold va_cpy
  by_cases h : dp ≤ k ∧ k < dp + n
  · rw [if_pos h]; exact hf _
  · rw [if_neg h]; exact hg _
