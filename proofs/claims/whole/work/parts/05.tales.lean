-- ===== 12.tales: tales as numbers =====
theorem tpk_app (t : List Nat) (x : Nat) : tpk (t ++ [x]) = tpk t + x * 16 ^ t.length := by
  induction t with
  | nil => simp [tpk]
  | cons a r ih =>
    rw [List.cons_append]
    show a + 16 * tpk (r ++ [x]) = a + 16 * tpk r + x * 16 ^ (r.length + 1)
    rw [ih, Nat.pow_succ, ← Nat.mul_assoc]
    omega
theorem tpk_lt : ∀ (t : List Nat), (∀ x ∈ t, x < 16) → tpk t < 16 ^ t.length
  | [], _ => by simp [tpk]
  | a :: r, h => by
    have h1 := tpk_lt r (fun x hx => h x (List.mem_cons_of_mem _ hx))
    have h2 := h a List.mem_cons_self
    show a + 16 * tpk r < 16 ^ (r.length + 1)
    rw [Nat.pow_succ]
    omega
theorem tpk_dig : ∀ (t : List Nat), (∀ x ∈ t, x < 16) → ∀ i : Nat, tpk t / 16 ^ i % 16 = t.getD i 0
  | [], _, i => by simp [tpk]
  | a :: r, h, 0 => by
    have h2 := h a List.mem_cons_self
    show (a + 16 * tpk r) / 16 ^ 0 % 16 = a
    rw [Nat.pow_zero]
    omega
  | a :: r, h, i + 1 => by
    have h2 := h a List.mem_cons_self
    have h1 := tpk_dig r (fun x hx => h x (List.mem_cons_of_mem _ hx)) i
    show (a + 16 * tpk r) / 16 ^ (i + 1) % 16 = r.getD i 0
    rw [Nat.pow_succ, Nat.mul_comm (16 ^ i) 16, ← Nat.div_div_eq_div_mul, show (a + 16 * tpk r) / 16 = tpk r by omega]
    exact h1
theorem okT.x16 {t : List Nat} (h : okT t) : ∀ x ∈ t, x < 16 := fun x hx => Nat.lt_of_lt_of_le (h.2 x hx) (by decide)
theorem okT.pkB {t : List Nat} (h : okT t) : tpk t < 1099511627776 := by
  have h1 := tpk_lt t h.x16
  have h2 : 16 ^ t.length ≤ 16 ^ 10 := Nat.pow_le_pow_right (by decide) h.1
  have h3 : (16 : Nat) ^ 10 = 1099511627776 := by decide
  omega
theorem okT.getD {t : List Nat} (h : okT t) (i : Nat) : t.getD i 0 < 10 := by
  by_cases hi : i < t.length
  · rw [List.getD_eq_getElem?_getD, List.getElem?_eq_getElem hi]
    exact h.2 _ (List.getElem_mem hi)
  · rw [List.getD_eq_getElem?_getD, List.getElem?_eq_none (by omega)]
    decide
theorem okT_nil : okT [] := ⟨Nat.zero_le _, fun x h => absurd h List.not_mem_nil⟩
theorem okT.app {t : List Nat} (h : okT t) {x : Nat} (hx : x < 10) (hl : t.length < 10) : okT (t ++ [x]) :=
  ⟨by rw [List.length_append]; simp; omega, fun y hy => by
    rcases List.mem_append.mp hy with q | q
    · exact h.2 y q
    · rw [List.mem_singleton.mp q]; exact hx⟩
theorem okT.take {t : List Nat} (h : okT t) (n : Nat) : okT (t.take n) :=
  ⟨Nat.le_trans (List.length_take_le' _ _) h.1, fun y hy => h.2 y (List.mem_of_mem_take hy)⟩
theorem take_next {t : List Nat} {i : Nat} (h : i < t.length) : t.take (i + 1) = t.take i ++ [t.getD i 0] := by
  rw [List.take_succ, List.getD_eq_getElem?_getD, List.getElem?_eq_getElem h]
  rfl
theorem and15 (n : Nat) : n &&& 15 = n % 16 := Nat.and_two_pow_sub_one_eq_mod n 4
theorem and1 (n : Nat) : n &&& 1 = n % 2 := Nat.and_two_pow_sub_one_eq_mod n 1
theorem pw4 (i : Nat) : 2 ^ (4 * i) = 16 ^ i := by rw [Nat.pow_mul]
theorem pw44 (i : Nat) : 2 ^ (4 * i + 4) = 16 * 16 ^ i := by rw [Nat.pow_add, pw4, Nat.mul_comm]
theorem pw4i (i : Nat) : 2 ^ (i * 4) = 16 ^ i := by rw [Nat.mul_comm, pw4]
-- the class's form: the size lowest
theorem cC_size {t : List Nat} (h : okT t) : (t.length + 16 * tpk t) &&& 15 = t.length := by
  have := h.1
  rw [and15]
  omega
theorem cC_lt {t : List Nat} (h : okT t) : t.length + 16 * tpk t < 17592186044416 := by
  have := h.1
  have := h.pkB
  omega
theorem cC_part {t : List Nat} (h : okT t) (i : Nat) : (t.length + 16 * tpk t) / 2 ^ (4 * i + 4) &&& 15 = t.getD i 0 := by
  have h1 := h.1
  rw [and15, pw44, ← Nat.div_div_eq_div_mul, show (t.length + 16 * tpk t) / 16 = tpk t by omega]
  exact tpk_dig t h.x16 i
theorem cC_add {t : List Nat} (x : Nat) : (t.length + 16 * tpk t + 1) + x * 2 ^ (4 * t.length + 4) = (t ++ [x]).length + 16 * tpk (t ++ [x]) := by
  rw [tpk_app, pw44, List.length_append]
  have e : x * (16 * 16 ^ t.length) = 16 * (x * 16 ^ t.length) := by rw [← Nat.mul_assoc, Nat.mul_comm x 16, Nat.mul_assoc]
  rw [e]
  show _ = t.length + 1 + _
  omega
theorem eC_0 {t : List Nat} (h : okT t) : eC t = lN 0 ↔ t = [] := by
  have h1 := cC_lt h
  rw [show eC t = lN (t.length + 16 * tpk t) from rfl, pk_lEQ (by omega) (by omega)]
  constructor
  · intro q
    exact List.eq_nil_of_length_eq_zero (by omega)
  · intro q
    rw [q]
    rfl
-- the reference's form: the size highest
theorem cR_lt {t : List Nat} (h : okT t) : tpk t + t.length * 17592186044416 < 1000000000000000 := by
  have := h.1
  have := h.pkB
  omega
theorem cR_size {t : List Nat} (h : okT t) : (tpk t + t.length * 17592186044416) / 2 ^ 44 = t.length := by
  have := h.pkB
  have h3 : (2 : Nat) ^ 44 = 17592186044416 := by decide
  rw [h3]
  omega
theorem cR_low {t : List Nat} (i : Nat) (hi : i ≤ 10) : (tpk t + t.length * 17592186044416) / 16 ^ i % 16 = tpk t / 16 ^ i % 16 := by
  have h3 : (17592186044416 : Nat) = 16 ^ (10 - i) * 16 * 16 ^ i := by
    rw [← Nat.pow_succ, ← Nat.pow_add, show (10 - i).succ + i = 11 by omega]
  have h4 : t.length * 17592186044416 = (t.length * 16 ^ (10 - i) * 16) * 16 ^ i := by rw [h3, ← Nat.mul_assoc, ← Nat.mul_assoc]
  rw [h4, Nat.add_mul_div_right _ _ (Nat.pow_pos (by decide))]
  omega
theorem cR_part {t : List Nat} (h : okT t) {i : Nat} (hi : i ≤ 10) : (tpk t + t.length * 17592186044416) / 2 ^ (4 * i) &&& 15 = t.getD i 0 := by
  rw [and15, pw4, cR_low i hi]
  exact tpk_dig t h.x16 i
theorem cR_add {t : List Nat} (x : Nat) : (tpk t + t.length * 17592186044416 + 17592186044416) + x * 2 ^ (4 * t.length) = tpk (t ++ [x]) + (t ++ [x]).length * 17592186044416 := by
  rw [tpk_app, pw4, List.length_append]
  show _ = _ + (t.length + 1) * _
  omega
theorem tpk_take : ∀ (t : List Nat), (∀ x ∈ t, x < 16) → ∀ n : Nat, tpk t % 16 ^ n = tpk (t.take n)
  | [], _, n => by simp [tpk]
  | a :: r, h, 0 => by simp [tpk, Nat.mod_one]
  | a :: r, h, n + 1 => by
    have h2 := h a List.mem_cons_self
    have h1 := tpk_take r (fun x hx => h x (List.mem_cons_of_mem _ hx)) n
    show (a + 16 * tpk r) % 16 ^ (n + 1) = a + 16 * tpk (r.take n)
    rw [← h1, Nat.pow_succ, Nat.mul_comm (16 ^ n) 16, Nat.mod_mul, show (a + 16 * tpk r) / 16 = tpk r by omega]
    omega
theorem cR_take {t : List Nat} (h : okT t) {n : Nat} (hn : n ≤ 10) : n * 17592186044416 + ((tpk t + t.length * 17592186044416) &&& (16 ^ n - 1)) = tpk (t.take n) + n * 17592186044416 := by
  have e : (tpk t + t.length * 17592186044416) &&& (16 ^ n - 1) = tpk (t.take n) := by
    rw [← pw4 n, Nat.and_two_pow_sub_one_eq_mod, pw4, ← tpk_take t h.x16 n]
    have h3 : (17592186044416 : Nat) = 16 ^ (11 - n) * 16 ^ n := by
      rw [← Nat.pow_add, show 11 - n + n = 11 by omega]
    rw [h3, ← Nat.mul_assoc, Nat.add_mul_mod_self_right]
  rw [e]
  omega
theorem eR_0 {t : List Nat} (h : okT t) : eR t = lN 0 ↔ t = [] := by
  have h1 := cR_lt h
  rw [show eR t = lN (tpk t + t.length * 17592186044416) from rfl, pk_lEQ (by omega) (by omega)]
  constructor
  · intro q
    exact List.eq_nil_of_length_eq_zero (by omega)
  · intro q
    rw [q]
    rfl
-- the kinds of parts in a tale, as bits
def kN : List Nat → Nat | [] => 0 | x :: r => kN r ||| 2 ^ x
theorem kN_app (t : List Nat) (x : Nat) : kN (t ++ [x]) = kN t ||| 2 ^ x := by
  induction t with
  | nil => rfl
  | cons a r ih =>
    show kN (r ++ [x]) ||| 2 ^ a = (kN r ||| 2 ^ a) ||| 2 ^ x
    rw [ih, Nat.or_assoc, Nat.or_comm (2 ^ x), ← Nat.or_assoc]
theorem kN_next {t : List Nat} {i : Nat} (h : i < t.length) : kN (t.take (i + 1)) = kN (t.take i) ||| 2 ^ t.getD i 0 := by
  rw [take_next h, kN_app]
theorem kN_lt : ∀ (t : List Nat), (∀ x ∈ t, x < 10) → kN t < 1024
  | [], _ => by decide
  | a :: r, h => by
    have h1 := kN_lt r (fun x hx => h x (List.mem_cons_of_mem _ hx))
    have h2 : 2 ^ a < 2 ^ 10 := Nat.pow_lt_pow_right (by decide) (h a List.mem_cons_self)
    exact Nat.or_lt_two_pow (n := 10) h1 h2
theorem okT.kNB {t : List Nat} (h : okT t) : kN t < 1024 := kN_lt t h.2
theorem kN_bit : ∀ (t : List Nat) (x : Nat), (kN t).testBit x = decide (x ∈ t)
  | [], x => by simp [kN]
  | a :: r, x => by
    show (kN r ||| 2 ^ a).testBit x = _
    rw [Nat.testBit_or, kN_bit r x, Nat.testBit_two_pow]
    by_cases h : a = x
    · subst h; simp
    · have h' : ¬ x = a := fun q => h q.symm
      simp [h, h']
theorem kN_has {t : List Nat} {x : Nat} : (kN t / 2 ^ x) &&& 1 = 1 ↔ x ∈ t := by
  have h := kN_bit t x
  rw [Nat.testBit_eq_decide_div_mod_eq] at h
  rw [and1]
  exact decide_eq_decide.mp h
def popF : Nat → Nat → Nat | 0, _ => 0 | f + 1, n => n % 2 + popF f (n / 2)
def popN (n : Nat) : Nat := popF 32 n
theorem popF_0 : ∀ f : Nat, popF f 0 = 0 | 0 => rfl | f + 1 => by show 0 % 2 + popF f (0 / 2) = 0; rw [Nat.zero_div, popF_0 f]
theorem popF_le : ∀ f n : Nat, popF f n ≤ f
  | 0, _ => Nat.le_refl _
  | f + 1, n => by
    have := popF_le f (n / 2)
    show n % 2 + popF f (n / 2) ≤ f + 1
    omega
section XT
variable {p : Program} {l : Launch} {e : Env} {R : Room} {s : State} {m : MethodId} {args : Array Value} {below : List Frame} {meth : Method} {c : Code} {H : Heap} {locs : List Loc} {cells slots : Nat} {Q : State → Prop}
variable {cc : ByteArray} {pc : Nat} {ls : Array Slot} {rest : List Value}
theorem xt_if_eqC (hexec : p.tables.exec = Jvm.exec) (hb : c.code = cc) {x : List Nat} {off : Int} {tgt : Nat} (hdg : decode cc pc = .ok (.ifCond .eq off, 3)) (ht : (pc : Int) + off = (tgt : Int)) (hok : okT x) (kt : x = [] → W p l e R s m args below meth c H locs cells slots Q (F0 m tgt ls rest)) (kf : x ≠ [] → W p l e R s m args below meth c H locs cells slots Q (F0 m (pc + 3) ls rest)) : W p l e R s m args below meth c H locs cells slots Q (F0 m pc ls (.int (lg_cmp (eC x) (lN 0)) :: rest)) :=
  xl_if_eq hexec hb hdg ht (fun h => kt ((eC_0 hok).mp h)) (fun h => kf (fun q => h ((eC_0 hok).mpr q)))
theorem xt_if_neC (hexec : p.tables.exec = Jvm.exec) (hb : c.code = cc) {x : List Nat} {off : Int} {tgt : Nat} (hdg : decode cc pc = .ok (.ifCond .ne off, 3)) (ht : (pc : Int) + off = (tgt : Int)) (hok : okT x) (kt : x ≠ [] → W p l e R s m args below meth c H locs cells slots Q (F0 m tgt ls rest)) (kf : x = [] → W p l e R s m args below meth c H locs cells slots Q (F0 m (pc + 3) ls rest)) : W p l e R s m args below meth c H locs cells slots Q (F0 m pc ls (.int (lg_cmp (eC x) (lN 0)) :: rest)) :=
  xl_if_ne hexec hb hdg ht (fun h => kt (fun q => h ((eC_0 hok).mpr q))) (fun h => kf ((eC_0 hok).mp h))
theorem xt_if_eqR (hexec : p.tables.exec = Jvm.exec) (hb : c.code = cc) {x : List Nat} {off : Int} {tgt : Nat} (hdg : decode cc pc = .ok (.ifCond .eq off, 3)) (ht : (pc : Int) + off = (tgt : Int)) (hok : okT x) (kt : x = [] → W p l e R s m args below meth c H locs cells slots Q (F0 m tgt ls rest)) (kf : x ≠ [] → W p l e R s m args below meth c H locs cells slots Q (F0 m (pc + 3) ls rest)) : W p l e R s m args below meth c H locs cells slots Q (F0 m pc ls (.int (lg_cmp (eR x) (lN 0)) :: rest)) :=
  xl_if_eq hexec hb hdg ht (fun h => kt ((eR_0 hok).mp h)) (fun h => kf (fun q => h ((eR_0 hok).mpr q)))
theorem xt_if_neR (hexec : p.tables.exec = Jvm.exec) (hb : c.code = cc) {x : List Nat} {off : Int} {tgt : Nat} (hdg : decode cc pc = .ok (.ifCond .ne off, 3)) (ht : (pc : Int) + off = (tgt : Int)) (hok : okT x) (kt : x ≠ [] → W p l e R s m args below meth c H locs cells slots Q (F0 m tgt ls rest)) (kf : x = [] → W p l e R s m args below meth c H locs cells slots Q (F0 m (pc + 3) ls rest)) : W p l e R s m args below meth c H locs cells slots Q (F0 m pc ls (.int (lg_cmp (eR x) (lN 0)) :: rest)) :=
  xl_if_ne hexec hb hdg ht (fun h => kt (fun q => h ((eR_0 hok).mpr q))) (fun h => kf ((eR_0 hok).mp h))
end XT
-- what the slips make of a tale, told as the loops tell it
def addT (t : List Nat) (x : Nat) : List Nat := if t.length < 10 then t ++ [x] else t
theorem addT_lt {t : List Nat} {x : Nat} (h : t.length < 10) : addT t x = t ++ [x] := if_pos h
theorem okT.addB {t : List Nat} (h : okT t) {x : Nat} (hx : x < 10) : okT (addT t x) := by
  unfold addT
  by_cases q : t.length < 10
  · rw [if_pos q]; exact h.app hx q
  · rw [if_neg q]; exact h
def wo (t : List Nat) (p : Nat) : Nat → List Nat | 0 => [] | i + 1 => if i = p then wo t p i else wo t p i ++ [t.getD i 0]
def ch (t : List Nat) (p x : Nat) : Nat → List Nat | 0 => [] | i + 1 => ch t p x i ++ [if i = p then x else t.getD i 0]
theorem wo_len (t : List Nat) (p : Nat) : ∀ i : Nat, (wo t p i).length ≤ i
  | 0 => Nat.le_refl _
  | i + 1 => by
    have := wo_len t p i
    show (if i = p then wo t p i else wo t p i ++ [t.getD i 0]).length ≤ i + 1
    by_cases h : i = p
    · rw [if_pos h]; omega
    · rw [if_neg h, List.length_append]; simp; omega
theorem ch_len (t : List Nat) (p x : Nat) : ∀ i : Nat, (ch t p x i).length = i
  | 0 => rfl
  | i + 1 => by
    show (ch t p x i ++ [_]).length = i + 1
    rw [List.length_append, ch_len t p x i]
    rfl
theorem okT_wo {t : List Nat} (h : okT t) (p : Nat) {i : Nat} (hi : i ≤ 10) : okT (wo t p i) := by
  refine ⟨Nat.le_trans (wo_len t p i) hi, ?_⟩
  induction i with
  | zero => exact fun x q => absurd q List.not_mem_nil
  | succ i ih =>
    have ih := ih (by omega)
    intro x hx
    have hx : x ∈ (if i = p then wo t p i else wo t p i ++ [t.getD i 0]) := hx
    by_cases q : i = p
    · rw [if_pos q] at hx; exact ih x hx
    · rw [if_neg q] at hx
      rcases List.mem_append.mp hx with q1 | q1
      · exact ih x q1
      · rw [List.mem_singleton.mp q1]; exact h.getD i
theorem okT_ch {t : List Nat} (h : okT t) (p : Nat) {x : Nat} (hx0 : x < 10) {i : Nat} (hi : i ≤ 10) : okT (ch t p x i) := by
  refine ⟨by rw [ch_len]; exact hi, ?_⟩
  induction i with
  | zero => exact fun x q => absurd q List.not_mem_nil
  | succ i ih =>
    have ih := ih (by omega)
    intro y hy
    have hy : y ∈ ch t p x i ++ [if i = p then x else t.getD i 0] := hy
    rcases List.mem_append.mp hy with q1 | q1
    · exact ih y q1
    · rw [List.mem_singleton.mp q1]
      by_cases q : i = p
      · rw [if_pos q]; exact hx0
      · rw [if_neg q]; exact h.getD i
theorem take_getD {t : List Nat} {n i : Nat} (h : i < n) : (t.take n).getD i 0 = t.getD i 0 := by
  rw [List.getD_eq_getElem?_getD, List.getD_eq_getElem?_getD, List.getElem?_take, if_pos h]
theorem wo_lo (t : List Nat) (p : Nat) : ∀ i : Nat, i ≤ p → i ≤ t.length → wo t p i = t.take i
  | 0, _, _ => rfl
  | i + 1, h, hl => by
    show (if i = p then wo t p i else wo t p i ++ [t.getD i 0]) = _
    rw [if_neg (by omega), wo_lo t p i (by omega) (by omega), take_next (by omega)]
theorem wo_hi (t : List Nat) (p : Nat) : ∀ i : Nat, p < i → i ≤ t.length → (wo t p i).take p = t.take p
  | 0, h, _ => absurd h (Nat.not_lt_zero _)
  | i + 1, h, hl => by
    show (if i = p then wo t p i else wo t p i ++ [t.getD i 0]).take p = _
    by_cases q : i = p
    · rw [if_pos q, wo_lo t p i (by omega) (by omega), q, List.take_take, Nat.min_self]
    · have ih := wo_hi t p i (by omega) (by omega)
      have hl2 : p ≤ (wo t p i).length := by
        have := congrArg List.length ih
        rw [List.length_take, List.length_take] at this
        omega
      rw [if_neg q, List.take_append_of_le_length hl2]
      exact ih
theorem wo_take (t : List Nat) (p : Nat) : (wo t p t.length).take p = t.take p := by
  by_cases h : p < t.length
  · exact wo_hi t p _ h (Nat.le_refl _)
  · rw [wo_lo t p _ (by omega) (Nat.le_refl _), List.take_length]
def turnT (t : List Nat) (p : Nat) : List Nat := if p + 1 < t.length then ch (ch t p (t.getD (p + 1) 0) t.length) (p + 1) (t.getD p 0) t.length else t
def mendT (t : List Nat) : List Nat := if 9 ∈ t then t else addT t 9
/-- a slip: its kind, place and part -/
def slipT (t : List Nat) (k i x : Nat) : List Nat :=
  if k = 1 then wo t i t.length else if k = 2 then ch t i x t.length else if k = 3 then turnT t i else if k = 4 then t.take i else if k = 5 then mendT (ch t i x t.length) else t
theorem okT_turn {t : List Nat} (h : okT t) (p : Nat) : okT (turnT t p) := by
  unfold turnT
  by_cases q : p + 1 < t.length
  · rw [if_pos q]
    exact okT_ch (okT_ch h p (h.getD _) h.1) _ (h.getD _) h.1
  · rw [if_neg q]; exact h
theorem okT_mend {t : List Nat} (h : okT t) : okT (mendT t) := by
  unfold mendT
  by_cases q : 9 ∈ t
  · rw [if_pos q]; exact h
  · rw [if_neg q]; exact h.addB (by decide)
theorem okT_slip {t : List Nat} (h : okT t) (k i : Nat) {x : Nat} (hx : x < 10) : okT (slipT t k i x) := by
  unfold slipT
  by_cases h1 : k = 1
  · rw [if_pos h1]; exact okT_wo h i h.1
  · rw [if_neg h1]
    by_cases h2 : k = 2
    · rw [if_pos h2]; exact okT_ch h i hx h.1
    · rw [if_neg h2]
      by_cases h3 : k = 3
      · rw [if_pos h3]; exact okT_turn h i
      · rw [if_neg h3]
        by_cases h4 : k = 4
        · rw [if_pos h4]; exact h.take i
        · rw [if_neg h4]
          by_cases h5 : k = 5
          · rw [if_pos h5]; exact okT_mend (okT_ch h i hx h.1)
          · rw [if_neg h5]; exact h
/-- how often x is among the first i -/
def cntN (t : List Nat) (x : Nat) : Nat → Nat | 0 => 0 | i + 1 => cntN t x i + if t.getD i 0 = x then 1 else 0
theorem cntN_le (t : List Nat) (x : Nat) : ∀ i : Nat, cntN t x i ≤ i
  | 0 => Nat.le_refl _
  | i + 1 => by
    have := cntN_le t x i
    show cntN t x i + (if t.getD i 0 = x then 1 else 0) ≤ i + 1
    by_cases h : t.getD i 0 = x
    · rw [if_pos h]; omega
    · rw [if_neg h]; omega
theorem cntN_y {t : List Nat} {x i : Nat} (h : t.getD i 0 = x) : cntN t x (i + 1) = cntN t x i + 1 := by
  show cntN t x i + (if t.getD i 0 = x then 1 else 0) = _
  rw [if_pos h]
theorem cntN_n {t : List Nat} {x i : Nat} (h : t.getD i 0 ≠ x) : cntN t x (i + 1) = cntN t x i := by
  show cntN t x i + (if t.getD i 0 = x then 1 else 0) = _
  rw [if_neg h]
  rfl
/-- the row stands in the tale from p on -/
def stB (r t : List Nat) (p : Nat) : Nat → Bool | 0 => true | k + 1 => stB r t p k && (decide (r.getD k 0 = 8) || decide (r.getD k 0 = t.getD (p + k) 0))
theorem stB_false {r t : List Nat} {p k : Nat} (h : stB r t p k = false) : ∀ n : Nat, k ≤ n → stB r t p n = false
  | 0, hn => by rw [show k = 0 by omega] at h; exact h
  | n + 1, hn => by
    by_cases q : k ≤ n
    · show (stB r t p n && _) = false
      rw [stB_false h n q]; rfl
    · rw [show n + 1 = k by omega]; exact h
def plN (r t : List Nat) : Nat → Nat | 0 => 0 | i + 1 => plN r t i ||| (if stB r t i r.length = true then 2 ^ i else 0)
theorem plN_lt (r t : List Nat) : ∀ i : Nat, plN r t i < 2 ^ i
  | 0 => by
    show 0 < 2 ^ 0
    decide
  | i + 1 => by
    have h := plN_lt r t i
    have h2 : 2 ^ i < 2 ^ (i + 1) := Nat.pow_lt_pow_right (by decide) (Nat.lt_succ_self _)
    show plN r t i ||| (if stB r t i r.length = true then 2 ^ i else 0) < 2 ^ (i + 1)
    refine Nat.or_lt_two_pow (Nat.lt_trans h h2) ?_
    by_cases q : stB r t i r.length = true
    · rw [if_pos q]; exact h2
    · rw [if_neg q]; exact Nat.two_pow_pos _
def unN (a : Nat) : Nat → Nat | 0 => 0 | i + 1 => unN a i ||| a * 2 ^ i
theorem unN_lt {a b : Nat} (h : a < 2 ^ b) : ∀ i : Nat, unN a i < 2 ^ (b + i)
  | 0 => Nat.two_pow_pos _
  | i + 1 => by
    have h1 := unN_lt h i
    have h2 : 2 ^ (b + i) < 2 ^ (b + (i + 1)) := Nat.pow_lt_pow_right (by decide) (by omega)
    show unN a i ||| a * 2 ^ i < 2 ^ (b + (i + 1))
    refine Nat.or_lt_two_pow (Nat.lt_trans h1 h2) (Nat.lt_trans ?_ h2)
    rw [Nat.pow_add]
    exact Nat.mul_lt_mul_of_pos_right h (Nat.two_pow_pos _)
/-- an int from 0 to n -/
def upB (x : Int32) (n : Nat) : Bool := decide (¬ x < 0 ∧ x ≤ nI n)
theorem upB_of {x : Int32} {n : Nat} (hn : n < 2147483648) (h : upB x n = true) : ∃ k : Nat, k ≤ n ∧ x = nI k :=
  nI_of2 (nI_toInt hn) (of_decide_eq_true h).1 (of_decide_eq_true h).2
theorem upB_nI {k n : Nat} (hk : k < 2147483648) (hn : n < 2147483648) : upB (nI k) n = decide (k ≤ n) := by
  unfold upB
  exact decide_eq_decide.mpr ⟨fun h => (nI_leI hk hn).mp h.2, fun h => ⟨nI_pos hk, (nI_leI hk hn).mpr h⟩⟩
theorem upB_long {x : Int32} {n : Nat} (hn : n < 2147483648) : decide (¬ x.toInt64 < lN 0 ∧ ¬ lN n < x.toInt64) = upB x n := by
  unfold upB
  refine decide_eq_decide.mpr ?_
  have e0 : (lN 0).toInt = 0 := pk_lT (by decide)
  have en : (lN n).toInt = (n : Int) := pk_lT (by omega)
  have ex : x.toInt64.toInt = x.toInt := Int32.toInt_toInt64 x
  have ei : (nI n).toInt = (n : Int) := nI_toInt hn
  have ez : (0 : Int32).toInt = 0 := by decide
  rw [Int64.lt_iff_toInt_lt, Int64.lt_iff_toInt_lt, Int32.lt_iff_toInt_lt, Int32.le_iff_toInt_le, e0, en, ex, ei, ez]
  omega
theorem mem_next {t : List Nat} {i x : Nat} (h : i < t.length) : x ∈ t.take (i + 1) ↔ x ∈ t.take i ∨ t.getD i 0 = x := by
  rw [take_next h, List.mem_append, List.mem_singleton]
  exact ⟨fun q => q.imp id Eq.symm, fun q => q.imp id Eq.symm⟩
def trnB (a : List Nat) (i : Nat) (b : List Nat) (j : Nat) : Bool := decide (1 < i ∧ 1 < j ∧ a.getD (i - 1) 0 = b.getD (j - 2) 0 ∧ a.getD (i - 2) 0 = b.getD (j - 1) 0)
/-- fun, part for part -/
def ahI (t : List Nat) (i : Nat) : Int32 := if i = 0 then (-1) else nI (t.getD (i - 1) 0)
def fnA (t : List Nat) (i : Nat) : Int32 := if nI (t.getD i 0) = ahI t i then nI 0 else nI 2
def fnB (t : List Nat) (i : Nat) : Int32 := if t.getD i 0 = 9 ∧ ahI t i = nI 7 then nI 5 else nI 0
def fnC (t : List Nat) (i : Nat) : Int32 := if 1 < cntN t (t.getD i 0) i then nI 4 else nI 0
def fnI (t : List Nat) : Nat → Int32 | 0 => nI 0 | i + 1 => fnI t i + fnA t i + fnB t i - fnC t i
def fnE (t : List Nat) : Int32 := if 0 < t.length ∧ t.getD (t.length - 1) 0 = 9 then nI 3 else nI 0
def funT (t : List Nat) : Int32 := fnI t t.length + fnE t
/-- the digest's way through a tale -/
def dgT (t : List Nat) (h : Int64) : Nat → Int64 | 0 => h | i + 1 => lN 31 * dgT t h i + lN (t.getD i 0)
def chL (n : Nat) : Nat → Nat | 0 => 1 | j + 1 => chL n j * (n - j) / (j + 1)
def chN (n k : Nat) : Nat := if k ≤ n then chL n k else 0
theorem chL_le : ∀ n, n < 11 → ∀ j, j < 11 → chL n j ≤ 252 ∧ (j ≤ n → 0 < chL n j) := by decide +kernel
def stC (size times lost : Nat) : Nat := if times ≤ lost then chN (size - times) (lost - times) else 0
def stK (size times lost : Nat) : Bool := (decide (5040 * stC size times lost / chN size lost ≤ 5040) && decide (0 < chN size lost)) && (decide (chN size lost ≤ 252) && decide (stC size times lost ≤ 252))
theorem stK_ok : ∀ size, size < 11 → ∀ times, times < size + 1 → ∀ lost, lost < size + 1 → stK size times lost = true := by decide +kernel
theorem stN_le (size : Nat) (h1 : size < 11) (times : Nat) (h3 : times ≤ size) (lost : Nat) (h5 : lost ≤ size) : 5040 * stC size times lost / chN size lost ≤ 5040 ∧ 0 < chN size lost ∧ chN size lost ≤ 252 ∧ stC size times lost ≤ 252 := by
  have h := stK_ok size h1 times (by omega) lost (by omega)
  unfold stK at h
  simp only [Bool.and_eq_true, decide_eq_true_eq] at h
  exact ⟨h.1.1, h.1.2, h.2.1, h.2.2⟩
def stN (size times lost : Nat) : Nat := 5040 - 5040 * stC size times lost / chN size lost
