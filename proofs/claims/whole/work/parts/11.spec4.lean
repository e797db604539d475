-- ===== 11.spec4: images =====
def k3 {α : Type} : Nat → α → α → α
  | 3, _, b => b
  | _, a, _ => a
def e1N : Nat → Int32
  | 0 => (-2)
  | 1 => (-3)
  | _ => nI 1
def kFr (i : Int32) (zk : Nat → Nat) : Nat := if upB i 1 = true then (if zk (xN i) = 0 then 1 else 3) else 0
theorem cpyU (f g : Nat → Int32) (dp i : Nat) : upd (va_cpy f g 0 dp i) (dp + i) (f i) = va_cpy f g 0 dp (i + 1) := cpy_s1 f g dp i
theorem cpyU0 (f g : Nat → Int32) (sp i : Nat) : upd (va_cpy f g sp 0 i) i (f (sp + i)) = va_cpy f g sp 0 (i + 1) := cpy_s0 f g sp i
