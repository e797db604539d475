-- ===== 07.rows: arrays of natural numbers, copies, fills =====
def fN (U : Nat → Nat) : Nat → Int32 := fun k => nI (U k)
theorem fN_up (U : Nat → Nat) (k x : Nat) : upd (fN U) k (nI x) = fN (va_up U k x) := funext fun j => by
  unfold upd fN va_up
  by_cases h : j = k <;> simp [h]
theorem vz_byte : ∀ n : Nat, n < 128 → vp_nar .byte (nI n) = nI n := by decide +kernel
theorem xn_i2b0 : ∀ n : Nat, n < 128 → (nI n).toInt8.toInt32 = nI n := by decide +kernel
def flT (T : Nat → List Nat) (t : List Nat) (n : Nat) : Nat → List Nat := fun k => if k < n then t else T k
def flI (f : Nat → Int32) (x : Int32) (n : Nat) : Nat → Int32 := fun k => if k < n then x else f k
theorem flT_0 (T : Nat → List Nat) (t : List Nat) : T = flT T t 0 := funext fun k => (if_neg (Nat.not_lt_zero k)).symm
theorem flI_0 (f : Nat → Int32) (x : Int32) : f = flI f x 0 := funext fun k => (if_neg (Nat.not_lt_zero k)).symm
theorem flT_s (T : Nat → List Nat) (t : List Nat) (i : Nat) : va_up (flT T t i) i t = flT T t (i + 1) := funext fun k => by
  unfold va_up flT
  by_cases h : k = i
  · rw [if_pos h, if_pos (by omega)]
  · rw [if_neg h]
    by_cases q : k < i
    · rw [if_pos q, if_pos (by omega)]
    · rw [if_neg q, if_neg (by omega)]
theorem flI_s (f : Nat → Int32) (x : Int32) (i : Nat) : upd (flI f x i) i x = flI f x (i + 1) := funext fun k => by
  unfold upd flI
  by_cases h : k = i
  · rw [if_pos h, if_pos (by omega)]
  · rw [if_neg h]
    by_cases q : k < i
    · rw [if_pos q, if_pos (by omega)]
    · rw [if_neg q, if_neg (by omega)]
theorem cpy_fC (S T : Nat → List Nat) (sp dp n : Nat) : va_cpy (fC S) (fC T) sp dp n = fC (va_cpy S T sp dp n) := funext fun k => by
  unfold va_cpy fC
  by_cases h : dp ≤ k ∧ k < dp + n <;> simp [h]
theorem cpy_fN (S T : Nat → Nat) (sp dp n : Nat) : va_cpy (fN S) (fN T) sp dp n = fN (va_cpy S T sp dp n) := funext fun k => by
  unfold va_cpy fN
  by_cases h : dp ≤ k ∧ k < dp + n <;> simp [h]
section XR
variable {p : Program} {l : Launch} {e : Env} {R : Room} {s : State} {m : MethodId} {args : Array Value} {below : List Frame} {meth : Method} {c : Code} {H : Heap} {locs : List Loc} {cells slots : Nat} {Q : State → Prop}
variable {cc : ByteArray} {pc : Nat} {ls : Array Slot} {rest : List Value} {D : va_G} {cl : List vw_C} {tys : List (ClassId × FieldType)} {ws : va_W} {A : Nat → Prop} {H0 : Heap} {a : Nat}
theorem xn_i2b (hexec : p.tables.exec = Jvm.exec) (hb : c.code = cc) {x : Nat} (hdg : decode cc pc = .ok (.i2b, 1)) (hx : x < 128) (k : W p l e R s m args below meth c H locs cells slots Q (F0 m (pc + 1) ls (.int (nI x) :: rest))) : W p l e R s m args below meth c H locs cells slots Q (F0 m pc ls (.int (nI x) :: rest)) :=
  lv_i2b hexec hb hdg (xn_i2b0 x hx) k
theorem xN_iast (hexec : p.tables.exec = Jvm.exec) (hb : c.code = cc) (hK : va_K D cl tys s) (hP : va_P D cl ws H) (hD : va_D A ws) (hS : va_S A H0 H locs) (q0 t0 : Nat) {cA : ClassId} {n : Nat} {U : Nat → Nat} (ha : ws[q0]? = some (a, .inl (cA, n, .inl (fN U)))) (ht : tys[t0]? = some (cA, .int)) {i x : Nat} (hin : i < n) (hn : n < 2147483648) (hdg : decode cc pc = .ok (.iastore, 1))
    (kk : ∀ (H1 : Heap) (locs1 : List Loc), va_P D cl (ws.set q0 (a, .inl (cA, n, .inl (fN (va_up U i x))))) H1 → va_D A (ws.set q0 (a, .inl (cA, n, .inl (fN (va_up U i x))))) → va_S A H0 H1 locs1 → W p l e R s m args below meth c H1 locs1 cells slots Q (F0 m (pc + 1) ls rest)) : W p l e R s m args below meth c H locs cells slots Q (F0 m pc ls (.int (nI x) :: .int (nI i) :: .ref a :: rest)) :=
  xa_iast hexec hb hK hP hD hS q0 t0 ha ht hin hn hdg (by rw [fN_up]; exact kk)
theorem xN_bast (hexec : p.tables.exec = Jvm.exec) (hb : c.code = cc) (hK : va_K D cl tys s) (hP : va_P D cl ws H) (hD : va_D A ws) (hS : va_S A H0 H locs) (q0 t0 : Nat) {cA : ClassId} {n : Nat} {U : Nat → Nat} (ha : ws[q0]? = some (a, .inl (cA, n, .inl (fN U)))) (ht : tys[t0]? = some (cA, .byte)) {i x : Nat} (hin : i < n) (hn : n < 2147483648) (hx : x < 128) (hdg : decode cc pc = .ok (.bastore, 1))
    (kk : ∀ (H1 : Heap) (locs1 : List Loc), va_P D cl (ws.set q0 (a, .inl (cA, n, .inl (fN (va_up U i x))))) H1 → va_D A (ws.set q0 (a, .inl (cA, n, .inl (fN (va_up U i x))))) → va_S A H0 H1 locs1 → W p l e R s m args below meth c H1 locs1 cells slots Q (F0 m (pc + 1) ls rest)) : W p l e R s m args below meth c H locs cells slots Q (F0 m pc ls (.int (nI x) :: .int (nI i) :: .ref a :: rest)) :=
  xa_bast hexec hb hK hP hD hS q0 t0 ha ht hin hn (vz_byte x hx) hdg (by rw [fN_up]; exact kk)
theorem xN_zast (hexec : p.tables.exec = Jvm.exec) (hb : c.code = cc) (hK : va_K D cl tys s) (hP : va_P D cl ws H) (hD : va_D A ws) (hS : va_S A H0 H locs) (q0 t0 : Nat) {cA : ClassId} {n : Nat} {U : Nat → Nat} (ha : ws[q0]? = some (a, .inl (cA, n, .inl (fN U)))) (ht : tys[t0]? = some (cA, .boolean)) {i x : Nat} (hin : i < n) (hn : n < 2147483648) (hx : x < 2) (hdg : decode cc pc = .ok (.bastore, 1))
    (kk : ∀ (H1 : Heap) (locs1 : List Loc), va_P D cl (ws.set q0 (a, .inl (cA, n, .inl (fN (va_up U i x))))) H1 → va_D A (ws.set q0 (a, .inl (cA, n, .inl (fN (va_up U i x))))) → va_S A H0 H1 locs1 → W p l e R s m args below meth c H1 locs1 cells slots Q (F0 m (pc + 1) ls rest)) : W p l e R s m args below meth c H locs cells slots Q (F0 m pc ls (.int (nI x) :: .int (nI i) :: .ref a :: rest)) :=
  xa_zast hexec hb hK hP hD hS q0 t0 ha ht hin hn (vz_nar hx) hdg (by rw [fN_up]; exact kk)
theorem xi_copy (hexec : p.tables.exec = Jvm.exec) (hb : c.code = cc) (hml : c.maxLocals = ls.size) {own : String} {index : Nat} (hown : s.vm.findClass own = some m.cls) (hlink : (Cond.methodLink own index arraycopyName).before args s = true) (hnat : (Cond.native arraycopyName).before args s = true) (hstat : (Cond.static arraycopyName).before args s = true) (hini : (Cond.initialized "java/lang/System").before args s = true)
    (hK : va_K D cl tys s) (hP : va_P D cl ws H) (hD : va_D A ws) (hS : va_S A H0 H locs) (q0 q1 t0 : Nat) {a0 : Nat} {c0 : ClassId} {n0 n1 : Nat} {f g : Nat → Int32} (ha0 : ws[q0]? = some (a0, .inl (c0, n0, .inl f))) (ha1 : ws[q1]? = some (a, .inl (c0, n1, .inl g))) (ht0 : tys[t0]? = some (c0, .int))
    {sp dp n : Nat} (h4 : sp + n ≤ n0) (h5 : dp + n ≤ n1) (h6 : n0 < 1000) (h7 : n1 < 1000) (hframes : 1 ≤ R.frames) (hlocals : (rest.map fun v => v.category).sum + (nativeFrameWords "java/lang/System" "arraycopy" 5 + 11) ≤ R.locals) (hdg : decode cc pc = .ok (.invokestatic index, 3))
    (kk : ∀ (H1 : Heap) (locs1 : List Loc), va_P D cl (ws.set q1 (a, .inl (c0, n1, .inl (va_cpy f g sp dp n)))) H1 → va_D A (ws.set q1 (a, .inl (c0, n1, .inl (va_cpy f g sp dp n)))) → va_S A H0 H1 locs1 → W p l e R s m args below meth c H1 locs1 cells slots Q (F0 m (pc + 3) ls rest)) : W p l e R s m args below meth c H locs cells slots Q (F0 m pc ls (.int (nI n) :: .int (nI dp) :: .ref a :: .int (nI sp) :: .ref a0 :: rest)) := by
  have e1 : (nI sp).toNatClampNeg = sp := nI_clamp (by omega)
  have e2 : (nI dp).toNatClampNeg = dp := nI_clamp (by omega)
  have e3 : (nI n).toNatClampNeg = n := nI_clamp (by omega)
  exact va_copyi hexec hb hml hown hlink hnat hstat hini hK hP hD hS q0 q1 t0 t0 ha0 ha1 ht0 ht0 rfl (nI_pos (by omega)) (nI_pos (by omega)) (nI_pos (by omega)) (by rw [e1, e3]; exact h4) (by rw [e2, e3]; exact h5) (fun _ _ => rfl) hframes hlocals hdg (by rw [e1, e2, e3]; exact kk)
theorem xl_copy (hexec : p.tables.exec = Jvm.exec) (hb : c.code = cc) (hml : c.maxLocals = ls.size) {own : String} {index : Nat} (hown : s.vm.findClass own = some m.cls) (hlink : (Cond.methodLink own index arraycopyName).before args s = true) (hnat : (Cond.native arraycopyName).before args s = true) (hstat : (Cond.static arraycopyName).before args s = true) (hini : (Cond.initialized "java/lang/System").before args s = true)
    (hK : va_K D cl tys s) (hP : va_P D cl ws H) (hD : va_D A ws) (hS : va_S A H0 H locs) (q0 q1 t0 : Nat) {a0 : Nat} {c0 : ClassId} {n0 n1 : Nat} {f g : Nat → Int64} (ha0 : ws[q0]? = some (a0, .inl (c0, n0, .inr (.inl f)))) (ha1 : ws[q1]? = some (a, .inl (c0, n1, .inr (.inl g)))) (ht0 : tys[t0]? = some (c0, .long))
    {sp dp n : Nat} (h4 : sp + n ≤ n0) (h5 : dp + n ≤ n1) (h6 : n0 < 1000) (h7 : n1 < 1000) (hframes : 1 ≤ R.frames) (hlocals : (rest.map fun v => v.category).sum + (nativeFrameWords "java/lang/System" "arraycopy" 5 + 11) ≤ R.locals) (hdg : decode cc pc = .ok (.invokestatic index, 3))
    (kk : ∀ (H1 : Heap) (locs1 : List Loc), va_P D cl (ws.set q1 (a, .inl (c0, n1, .inr (.inl (va_cpy f g sp dp n))))) H1 → va_D A (ws.set q1 (a, .inl (c0, n1, .inr (.inl (va_cpy f g sp dp n))))) → va_S A H0 H1 locs1 → W p l e R s m args below meth c H1 locs1 cells slots Q (F0 m (pc + 3) ls rest)) : W p l e R s m args below meth c H locs cells slots Q (F0 m pc ls (.int (nI n) :: .int (nI dp) :: .ref a :: .int (nI sp) :: .ref a0 :: rest)) := by
  have e1 : (nI sp).toNatClampNeg = sp := nI_clamp (by omega)
  have e2 : (nI dp).toNatClampNeg = dp := nI_clamp (by omega)
  have e3 : (nI n).toNatClampNeg = n := nI_clamp (by omega)
  exact va_copyl hexec hb hml hown hlink hnat hstat hini hK hP hD hS q0 q1 t0 t0 ha0 ha1 ht0 ht0 rfl (nI_pos (by omega)) (nI_pos (by omega)) (nI_pos (by omega)) (by rw [e1, e3]; exact h4) (by rw [e2, e3]; exact h5) (fun _ _ => rfl) hframes hlocals hdg (by rw [e1, e2, e3]; exact kk)
end XR
-- ===== what a house's methods answer =====
def shA {α : Type} (f : Nat → α) (un : Nat) : Nat → α := if 8 ≤ un then va_cpy f f 1 0 7 else f
theorem shA_hi {α : Type} {f : Nat → α} {un : Nat} (h : 8 ≤ un) : shA f un = va_cpy f f 1 0 7 := if_pos h
theorem shA_lo {α : Type} {f : Nat → α} {un : Nat} (h : un < 8) : shA f un = f := if_neg (by omega)
def bwoN (T : Nat → List Nat) (z : Nat) : Nat → Nat | 0 => 0 | i + 1 => bwoN T z i ||| (if T i ≠ [] ∧ kN (T i) &&& z = 0 then 2 ^ i else 0)
def bwiN (T : Nat → List Nat) (x : Nat) : Nat → Nat | 0 => 0 | i + 1 => bwiN T x i ||| (if x ∈ T i then 2 ^ i else 0)
def ktN (T : Nat → List Nat) (z : Nat) : Nat → Nat | 0 => 0 | i + 1 => if z / 2 ^ i % 2 = 1 then ktN T z i ||| kN (T i) else ktN T z i
def plT (T : Nat → List Nat) : Nat → Nat | 0 => 0 | i + 1 => plT T i + (T i).length
theorem bwoN_y {T : Nat → List Nat} {z i : Nat} (h1 : T i ≠ []) (h2 : kN (T i) &&& z = 0) : bwoN T z (i + 1) = bwoN T z i ||| 2 ^ i := by
  show bwoN T z i ||| (if T i ≠ [] ∧ kN (T i) &&& z = 0 then 2 ^ i else 0) = _
  rw [if_pos ⟨h1, h2⟩]
theorem bwoN_n {T : Nat → List Nat} {z i : Nat} (h : ¬ (T i ≠ [] ∧ kN (T i) &&& z = 0)) : bwoN T z (i + 1) = bwoN T z i := by
  show bwoN T z i ||| (if T i ≠ [] ∧ kN (T i) &&& z = 0 then 2 ^ i else 0) = _
  rw [if_neg h, Nat.or_zero]
theorem bwiN_y {T : Nat → List Nat} {x i : Nat} (h : x ∈ T i) : bwiN T x (i + 1) = bwiN T x i ||| 2 ^ i := by
  show bwiN T x i ||| (if x ∈ T i then 2 ^ i else 0) = _
  rw [if_pos h]
theorem bwiN_n {T : Nat → List Nat} {x i : Nat} (h : ¬ x ∈ T i) : bwiN T x (i + 1) = bwiN T x i := by
  show bwiN T x i ||| (if x ∈ T i then 2 ^ i else 0) = _
  rw [if_neg h, Nat.or_zero]
theorem ktN_y {T : Nat → List Nat} {z i : Nat} (h : z / 2 ^ i % 2 = 1) : ktN T z (i + 1) = ktN T z i ||| kN (T i) := if_pos h
theorem ktN_n {T : Nat → List Nat} {z i : Nat} (h : z / 2 ^ i % 2 ≠ 1) : ktN T z (i + 1) = ktN T z i := if_neg h
theorem bit_lt {P : Prop} [Decidable P] {a i : Nat} (h : a < 2 ^ i) : a ||| (if P then 2 ^ i else 0) < 2 ^ (i + 1) := by
  have h2 : 2 ^ i < 2 ^ (i + 1) := Nat.pow_lt_pow_right (by decide) (Nat.lt_succ_self _)
  refine Nat.or_lt_two_pow (Nat.lt_trans h h2) ?_
  by_cases q : P
  · rw [if_pos q]; exact h2
  · rw [if_neg q]; exact Nat.two_pow_pos _
theorem bwoN_lt (T : Nat → List Nat) (z : Nat) : ∀ i : Nat, bwoN T z i < 2 ^ i
  | 0 => Nat.two_pow_pos 0
  | i + 1 => bit_lt (bwoN_lt T z i)
theorem bwiN_lt (T : Nat → List Nat) (x : Nat) : ∀ i : Nat, bwiN T x i < 2 ^ i
  | 0 => Nat.two_pow_pos 0
  | i + 1 => bit_lt (bwiN_lt T x i)
theorem ktN_lt {T : Nat → List Nat} (hT : ∀ k, okT (T k)) (z : Nat) : ∀ i : Nat, ktN T z i < 1024
  | 0 => by
    show 0 < 1024
    decide
  | i + 1 => by
    have h := ktN_lt hT z i
    show (if z / 2 ^ i % 2 = 1 then ktN T z i ||| kN (T i) else ktN T z i) < 1024
    by_cases q : z / 2 ^ i % 2 = 1
    · rw [if_pos q]; exact Nat.or_lt_two_pow (n := 10) h (hT i).kNB
    · rw [if_neg q]; exact h
theorem cpy_0 {α : Type} (f g : Nat → α) (sp dp : Nat) : va_cpy f g sp dp 0 = g := funext fun k => by
  unfold va_cpy
  rw [if_neg (by omega)]
theorem cpy_s {α : Type} (f g : Nat → α) (sp dp i : Nat) : va_up (va_cpy f g sp dp i) (dp + i) (f (sp + i)) = va_cpy f g sp dp (i + 1) := funext fun k => by
  unfold va_up va_cpy
  by_cases h : k = dp + i
  · rw [if_pos h, if_pos (by omega), h, show dp + i - dp = i by omega]
  · rw [if_neg h]
    by_cases q : dp ≤ k ∧ k < dp + i
    · rw [if_pos q, if_pos (by omega)]
    · rw [if_neg q, if_neg (by omega)]
theorem cpy_s0 {α : Type} (f g : Nat → α) (sp i : Nat) : va_up (va_cpy f g sp 0 i) i (f (sp + i)) = va_cpy f g sp 0 (i + 1) := by
  have h := cpy_s f g sp 0 i
  rwa [Nat.zero_add] at h
theorem cpy_s1 {α : Type} (f g : Nat → α) (dp i : Nat) : va_up (va_cpy f g 0 dp i) (dp + i) (f i) = va_cpy f g 0 dp (i + 1) := by
  have h := cpy_s f g 0 dp i
  rwa [Nat.zero_add] at h
theorem upd_va (f : Nat → Int32) (k : Nat) (x : Int32) : upd f k x = va_up f k x := rfl
theorem cpy_hi {α : Type} (f g : Nat → α) (sp n k : Nat) (h : n ≤ k) : va_cpy f g sp 0 n k = g k := by
  unfold va_cpy
  rw [if_neg (by omega)]
def shK {α : Type} (f : Nat → α) (un : Nat) : Nat → α := if un = 8 then va_cpy f f 8 0 56 else f
theorem shK_y {α : Type} {f : Nat → α} {un : Nat} (h : un = 8) : shK f un = va_cpy f f 8 0 56 := if_pos h
theorem shK_n {α : Type} {f : Nat → α} {un : Nat} (h : un ≠ 8) : shK f un = f := if_neg h
/-- how many tales are told -/
def tdN (T : Nat → List Nat) : Nat → Nat | 0 => 0 | i + 1 => tdN T i + if T i = [] then 0 else 1
theorem tdN_le (T : Nat → List Nat) : ∀ i : Nat, tdN T i ≤ i
  | 0 => Nat.le_refl _
  | i + 1 => by
    have h := tdN_le T i
    show tdN T i + (if T i = [] then 0 else 1) ≤ i + 1
    by_cases q : T i = []
    · rw [if_pos q]; omega
    · rw [if_neg q]; omega
