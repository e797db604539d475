-- ===== 45.funn: the funniest row, as the class looks for it; and that it is the reference's =====
abbrev FS := Bool × List Nat × Int32
def kf (s : FS) (t : List Nat) : FS := if s.1 = true ∧ funT t ≤ s.2.2 then s else (true, t, funT t)
def schX (g : Nat → FS → FS) : Nat → FS → FS
  | 0, s => s
  | x + 1, s => g x (schX g x s)
def sch : Nat → List Nat → FS → FS
  | 0, t, s => kf s t
  | r + 1, t, s => schX (fun x s => sch r (t ++ [x]) s) 10 s
theorem kf_ok {s : FS} {t : List Nat} (hs : okT s.2.1) (ht : okT t) : okT (kf s t).2.1 := by
  unfold kf
  by_cases h : s.1 = true ∧ funT t ≤ s.2.2
  · rw [if_pos h]; exact hs
  · rw [if_neg h]; exact ht
theorem sch_ok : ∀ (r : Nat) (t : List Nat) (s : FS), okT t → t.length + r ≤ 10 → okT s.2.1 → okT (sch r t s).2.1
  | 0, t, s, ht, _, hs => kf_ok hs ht
  | r + 1, t, s, ht, hl, hs => by
    have h : ∀ x, x ≤ 10 → okT (schX (fun x s => sch r (t ++ [x]) s) x s).2.1 := by
      intro x
      induction x with
      | zero => intro _; exact hs
      | succ x ih =>
        intro hx
        exact sch_ok r (t ++ [x]) _ (ht.app (by omega) (by omega)) (by rw [List.length_append]; show t.length + 1 + r ≤ 10; omega) (ih (by omega))
    exact h 10 (Nat.le_refl _)
theorem sch_ind : ∀ (r : Nat) (t : List Nat) (s s' : FS), s.1 = false → s'.1 = false → sch r t s = sch r t s'
  | 0, t, s, s', h, h' => by
    show kf s t = kf s' t
    unfold kf
    rw [if_neg (fun q => by rw [h] at q; exact absurd q.1 (by decide)), if_neg (fun q => by rw [h'] at q; exact absurd q.1 (by decide))]
  | r + 1, t, s, s', h, h' => by
    have h2 : ∀ x, schX (fun x s => sch r (t ++ [x]) s) (x + 1) s = schX (fun x s => sch r (t ++ [x]) s) (x + 1) s' := by
      intro x
      induction x with
      | zero => exact sch_ind r (t ++ [0]) s s' h h'
      | succ x ih =>
        show sch r (t ++ [x + 1]) (schX (fun x s => sch r (t ++ [x]) s) (x + 1) s) = sch r (t ++ [x + 1]) (schX (fun x s => sch r (t ++ [x]) s) (x + 1) s')
        rw [ih]
    exact h2 9
def bsR (m : Nat) : List Nat := (sch m [] (false, [], 0)).2.1
theorem bsR_ok {m : Nat} (hm : m ≤ 10) : okT (bsR m) := sch_ok m [] _ okT_nil (by show 0 + m ≤ 10; omega) okT_nil
-- appended parts
theorem getD_app {t : List Nat} {x i : Nat} (h : i < t.length) : (t ++ [x]).getD i 0 = t.getD i 0 := by
  rw [List.getD_eq_getElem?_getD, List.getD_eq_getElem?_getD, List.getElem?_append_left h]
theorem getD_last (t : List Nat) (x : Nat) : (t ++ [x]).getD t.length 0 = x := by
  rw [List.getD_eq_getElem?_getD, List.getElem?_append_right (Nat.le_refl _), Nat.sub_self]
  rfl
theorem cntN_app {t : List Nat} {x y : Nat} : ∀ i : Nat, i ≤ t.length → cntN (t ++ [x]) y i = cntN t y i
  | 0, _ => rfl
  | i + 1, h => by
    show cntN (t ++ [x]) y i + (if (t ++ [x]).getD i 0 = y then 1 else 0) = cntN t y i + (if t.getD i 0 = y then 1 else 0)
    rw [cntN_app i (by omega), getD_app (by omega)]
theorem ahI_app {t : List Nat} {x : Nat} {i : Nat} (h : i ≤ t.length) : ahI (t ++ [x]) i = ahI t i := by
  unfold ahI
  by_cases q : i = 0
  · rw [if_pos q, if_pos q]
  · rw [if_neg q, if_neg q, getD_app (by omega)]
theorem ahI_last (t : List Nat) (x : Nat) : nI x = ahI (t ++ [x]) (t ++ [x]).length := by
  unfold ahI
  rw [List.length_append]
  show nI x = (if t.length + 1 = 0 then (-1) else nI ((t ++ [x]).getD (t.length + 1 - 1) 0))
  rw [if_neg (by omega), Nat.add_sub_cancel, getD_last]
theorem fnI_app {t : List Nat} {x : Nat} : ∀ i : Nat, i ≤ t.length → fnI (t ++ [x]) i = fnI t i
  | 0, _ => rfl
  | i + 1, h => by
    rw [fnI_fx, fnI_fx, fnI_app i (by omega), ahI_app (by omega), getD_app (by omega), cntN_app i (by omega)]
theorem fnI_last {t : List Nat} {x : Nat} {a f : Int32} (ha : a = ahI t t.length) (hf : f = fnI t t.length) : f + fxI a x (cntN t x t.length) = fnI (t ++ [x]) (t ++ [x]).length := by
  rw [List.length_append]
  show _ = fnI (t ++ [x]) (t.length + 1)
  rw [fnI_fx, fnI_app _ (Nat.le_refl _), ahI_app (Nat.le_refl _), getD_last, cntN_app _ (Nat.le_refl _), ha, hf]
-- the same by numbers of rows
def flR (M : Nat) (lo : Nat) : Nat → FS → FS
  | 0, s => s
  | n + 1, s => kf (flR M lo n s) (dgL (10 ^ M) (lo + n) M)
theorem flR_app (M lo a : Nat) (s : FS) : ∀ b : Nat, flR M lo (a + b) s = flR M (lo + a) b (flR M lo a s)
  | 0 => rfl
  | b + 1 => by
    show kf (flR M lo (a + b) s) (dgL (10 ^ M) (lo + (a + b)) M) = kf (flR M (lo + a) b (flR M lo a s)) (dgL (10 ^ M) (lo + a + b) M)
    rw [flR_app M lo a s b, Nat.add_assoc]
theorem dgL_up (M v x : Nat) (hx : x < 10) : ∀ j : Nat, j ≤ M → dgL (10 ^ (M + 1)) (10 * v + x) j = dgL (10 ^ M) v j
  | 0, _ => rfl
  | j + 1, h => by
    show dgL (10 ^ (M + 1)) (10 * v + x) j ++ [(10 * v + x) / (10 ^ (M + 1) / 10 ^ (j + 1)) % 10] = dgL (10 ^ M) v j ++ [v / (10 ^ M / 10 ^ (j + 1)) % 10]
    have e1 : 10 ^ (M + 1) / 10 ^ (j + 1) = 10 * (10 ^ M / 10 ^ (j + 1)) := by
      rw [Nat.pow_div (by omega) (by decide), Nat.pow_div h (by decide), show M + 1 - (j + 1) = (M - (j + 1)) + 1 by omega, Nat.pow_succ, Nat.mul_comm]
    have e2 : (10 * v + x) / 10 = v := by omega
    rw [dgL_up M v x hx j (by omega), e1, ← Nat.div_div_eq_div_mul, e2]
theorem dgL_snoc {t : List Nat} {v x : Nat} (h : t = dgL (10 ^ t.length) v t.length) (hx : x < 10) : t ++ [x] = dgL (10 ^ (t ++ [x]).length) (10 * v + x) (t ++ [x]).length := by
  rw [List.length_append]
  show t ++ [x] = dgL (10 ^ (t.length + 1)) (10 * v + x) (t.length + 1)
  show t ++ [x] = dgL (10 ^ (t.length + 1)) (10 * v + x) t.length ++ [(10 * v + x) / (10 ^ (t.length + 1) / 10 ^ (t.length + 1)) % 10]
  rw [dgL_up t.length v x hx t.length (Nat.le_refl _), ← h, Nat.div_self (Nat.pow_pos (by decide)), Nat.div_one]
  have e : (10 * v + x) % 10 = x := by omega
  rw [e]
theorem sch_fl : ∀ (r : Nat) (t : List Nat) (v : Nat) (s : FS), t = dgL (10 ^ t.length) v t.length → sch r t s = flR (t.length + r) (v * 10 ^ r) (10 ^ r) s
  | 0, t, v, s, h => by
    show kf s t = kf s (dgL (10 ^ (t.length + 0)) (v * 10 ^ 0 + 0) (t.length + 0))
    rw [Nat.pow_zero, Nat.mul_one, Nat.add_zero, Nat.add_zero, ← h]
  | r + 1, t, v, s, h => by
    have h2 : ∀ x, x ≤ 10 → schX (fun x s => sch r (t ++ [x]) s) x s = flR (t.length + (r + 1)) (v * 10 ^ (r + 1)) (x * 10 ^ r) s := by
      intro x
      induction x with
      | zero => intro _; rw [Nat.zero_mul]; rfl
      | succ x ih =>
        intro hx
        show sch r (t ++ [x]) (schX (fun x s => sch r (t ++ [x]) s) x s) = _
        rw [ih (by omega), sch_fl r (t ++ [x]) (10 * v + x) _ (dgL_snoc h (by omega)), List.length_append]
        show flR (t.length + 1 + r) ((10 * v + x) * 10 ^ r) (10 ^ r) _ = _
        rw [show (x + 1) * 10 ^ r = x * 10 ^ r + 10 ^ r from Nat.succ_mul _ _, flR_app, show t.length + 1 + r = t.length + (r + 1) by omega, show (10 * v + x) * 10 ^ r = v * 10 ^ (r + 1) + x * 10 ^ r by rw [Nat.add_mul, Nat.pow_succ, Nat.mul_comm 10 v, Nat.mul_assoc, Nat.mul_comm 10]]
    show schX (fun x s => sch r (t ++ [x]) s) 10 s = _
    rw [h2 10 (Nat.le_refl _), Nat.pow_succ 10 r, Nat.mul_comm 10]
theorem fl_fm {M : Nat} (h0 : (-1000000) < funT (dgL (10 ^ M) 0 M)) : ∀ n : Nat, flR M 0 (n + 1) (false, [], 0) = (true, (fmP (10 ^ M) M (n + 1)).2, (fmP (10 ^ M) M (n + 1)).1)
  | 0 => by
    rw [fmP_y (Int32.not_le.mpr h0)]
    show kf (false, [], 0) (dgL (10 ^ M) (0 + 0) M) = _
    unfold kf
    rw [if_neg (fun q => absurd q.1 (by decide))]
  | n + 1 => by
    show kf (flR M 0 (n + 1) (false, [], 0)) (dgL (10 ^ M) (0 + (n + 1)) M) = _
    rw [fl_fm h0 n, Nat.zero_add]
    unfold kf
    by_cases q : funT (dgL (10 ^ M) (n + 1) M) ≤ (fmP (10 ^ M) M (n + 1)).1
    · rw [if_pos ⟨rfl, q⟩, fmP_n q]
    · rw [if_neg (fun z => q z.2), fmP_y q]
theorem fmz0 : ∀ M, M < 5 → (-1000000) < funT (dgL (10 ^ M) 0 M) := by decide +kernel
theorem sch_fun : ∀ (r : Nat) (t : List Nat) (s : FS), (s.1 = true → s.2.2 = funT s.2.1) → (sch r t s).1 = true ∧ (sch r t s).2.2 = funT (sch r t s).2.1
  | 0, t, s, h => by
    show (kf s t).1 = true ∧ (kf s t).2.2 = funT (kf s t).2.1
    unfold kf
    by_cases q : s.1 = true ∧ funT t ≤ s.2.2
    · rw [if_pos q]; exact ⟨q.1, h q.1⟩
    · rw [if_neg q]; exact ⟨rfl, rfl⟩
  | r + 1, t, s, h => by
    have h2 : ∀ x, (schX (fun x s => sch r (t ++ [x]) s) (x + 1) s).1 = true ∧ (schX (fun x s => sch r (t ++ [x]) s) (x + 1) s).2.2 = funT (schX (fun x s => sch r (t ++ [x]) s) (x + 1) s).2.1 := by
      intro x
      induction x with
      | zero => exact sch_fun r (t ++ [0]) s h
      | succ x ih => exact sch_fun r (t ++ [x + 1]) _ (fun _ => ih.2)
    exact h2 9
/-- what the reference finds is what the class finds -/
theorem fm_bs {m : Nat} (hm : m < 5) : fmP (10 ^ m) m (10 ^ m) = (funT (bsR m), bsR m) := by
  have h1 := sch_fl m [] 0 (false, [], 0) rfl
  rw [Nat.zero_mul] at h1
  have h1 : sch m [] (false, [], 0) = flR m 0 (10 ^ m) (false, [], 0) := by rw [h1]; show flR (0 + m) 0 (10 ^ m) _ = _; rw [Nat.zero_add]
  have h2 := fl_fm (fmz0 m hm) (10 ^ m - 1)
  rw [show 10 ^ m - 1 + 1 = 10 ^ m by have : 0 < 10 ^ m := Nat.pow_pos (by decide); omega] at h2
  have h3 := (sch_fun m [] (false, [], 0) (fun q => absurd q (by decide))).2
  have h4 : bsR m = (fmP (10 ^ m) m (10 ^ m)).2 := by unfold bsR; rw [h1, h2]
  rw [h1, h2] at h3
  have h3 : (fmP (10 ^ m) m (10 ^ m)).1 = funT (fmP (10 ^ m) m (10 ^ m)).2 := h3
  rw [h4, ← h3]
