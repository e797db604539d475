-- ===== 45.funn: the funniest row, as the class looks for it (row by row, by number); and that it is the reference's =====
def bsR (m : Nat) : List Nat := (fmP (10 ^ m) m (10 ^ m)).2
theorem bsR_ok {m : Nat} (hm : m ≤ 10) : okT (bsR m) := fmP_ok hm _
-- the row of a number, its last figure first
def fgA (n : Nat) : Nat → List Nat
  | 0 => []
  | i + 1 => (n / 10 ^ i % 10) :: fgA n i
theorem fgA_len (n : Nat) : ∀ i : Nat, (fgA n i).length = i
  | 0 => rfl
  | i + 1 => by
    show (fgA n i).length + 1 = i + 1
    rw [fgA_len n i]
theorem fgA_ok (n : Nat) : ∀ i : Nat, i ≤ 10 → okT (fgA n i)
  | 0, _ => okT_nil
  | i + 1, h => (fgA_ok n i (by omega)).cons (Nat.mod_lt _ (by decide)) (by rw [fgA_len]; omega)
theorem fgA_s {n i w : Nat} {t : List Nat} (ht : t = fgA n i) (hw : w = n / 10 ^ i) (hi : i < 10) : addA t (w % 10) = fgA n (i + 1) := by
  rw [addA_lt (by rw [ht, fgA_len]; exact hi), ht, hw]
  rfl
theorem fgA_w {n i w : Nat} (hw : w = n / 10 ^ i) : w / 10 = n / 10 ^ (i + 1) := by
  rw [hw, Nat.div_div_eq_div_mul, Nat.pow_succ]
theorem fgA_L (n m : Nat) : ∀ j : Nat, j ≤ m → dgL (10 ^ m) n j ++ fgA n (m - j) = fgA n m
  | 0, _ => rfl
  | j + 1, h => by
    rw [← fgA_L n m j (by omega)]
    show (dgL (10 ^ m) n j ++ [n / (10 ^ m / 10 ^ (j + 1)) % 10]) ++ fgA n (m - (j + 1)) = _
    rw [show m - j = (m - (j + 1)) + 1 by omega, Nat.pow_div h (by decide), List.append_assoc]
    rfl
theorem fgA_eq (n m : Nat) : fgA n m = dgL (10 ^ m) n m := by
  have h := fgA_L n m m (Nat.le_refl _)
  rw [Nat.sub_self] at h
  rw [← h]
  exact List.append_nil _
theorem fmz0 : ∀ M, M < 5 → (-1000000) < funT (dgL (10 ^ M) 0 M) := by decide +kernel
-- the best so far: ahead of the first row it is none, of fun 0
def ffS (R m : Nat) : Nat → Int32 × List Nat
  | 0 => (nI 0, [])
  | r + 1 => fmP R m (r + 1)
theorem ff_0 {m n : Nat} (hm : m < 5) (h : n = 0) : fgA n m = (ffS (10 ^ m) m (n + 1)).2 ∧ funT (fgA n m) = (ffS (10 ^ m) m (n + 1)).1 := by
  subst h
  show fgA 0 m = (fmP (10 ^ m) m (0 + 1)).2 ∧ funT (fgA 0 m) = (fmP (10 ^ m) m (0 + 1)).1
  rw [fmP_y (Int32.not_le.mpr (fmz0 m hm)), fgA_eq]
  exact ⟨rfl, rfl⟩
theorem ff_n {m n : Nat} {b : List Nat} {f : Int32} (hb : b = (ffS (10 ^ m) m n).2) (hf : f = (ffS (10 ^ m) m n).1) (h : n ≠ 0) (hc : funT (fgA n m) ≤ f) : b = (ffS (10 ^ m) m (n + 1)).2 ∧ f = (ffS (10 ^ m) m (n + 1)).1 := by
  obtain ⟨k, rfl⟩ : ∃ k, n = k + 1 := ⟨n - 1, by omega⟩
  have h1 : f = (fmP (10 ^ m) m (k + 1)).1 := hf
  have h2 : b = (fmP (10 ^ m) m (k + 1)).2 := hb
  exact (fm_n h1 h2 (fgA_eq _ _) hc).symm
theorem ff_y {m n : Nat} {f : Int32} (hf : f = (ffS (10 ^ m) m n).1) (h : n ≠ 0) (hc : ¬ funT (fgA n m) ≤ f) : fgA n m = (ffS (10 ^ m) m (n + 1)).2 ∧ funT (fgA n m) = (ffS (10 ^ m) m (n + 1)).1 := by
  obtain ⟨k, rfl⟩ : ∃ k, n = k + 1 := ⟨n - 1, by omega⟩
  have h1 : f = (fmP (10 ^ m) m (k + 1)).1 := hf
  exact (fm_y h1 (fgA_eq _ _) hc).symm
theorem ff_bs (m : Nat) : bsR m = (ffS (10 ^ m) m (10 ^ m)).2 := by
  have h : 0 < 10 ^ m := Nat.pow_pos (by decide)
  unfold bsR
  obtain ⟨k, hk⟩ : ∃ k, 10 ^ m = k + 1 := ⟨10 ^ m - 1, by omega⟩
  rw [hk]
  rfl
theorem fmP_fun {R m : Nat} (h0 : (-1000000) < funT (dgL R 0 m)) : ∀ r : Nat, (fmP R m (r + 1)).1 = funT (fmP R m (r + 1)).2
  | 0 => by rw [fmP_y (Int32.not_le.mpr h0)]
  | r + 1 => by
    by_cases q : funT (dgL R (r + 1) m) ≤ (fmP R m (r + 1)).1
    · rw [fmP_n q]; exact fmP_fun h0 r
    · rw [fmP_y q]
/-- what the reference finds is what the class finds -/
theorem fm_bs {m : Nat} (hm : m < 5) : fmP (10 ^ m) m (10 ^ m) = (funT (bsR m), bsR m) := by
  have h : 0 < 10 ^ m := Nat.pow_pos (by decide)
  have h1 := fmP_fun (fmz0 m hm) (10 ^ m - 1)
  rw [show 10 ^ m - 1 + 1 = 10 ^ m by omega] at h1
  unfold bsR
  rw [← h1]
theorem ff_up {fr : Nat → List Nat} (h : ∀ k, fr k ≠ [] → fr k = bsR k) (j : Nat) : ∀ k, va_up fr j (bsR j) k ≠ [] → va_up fr j (bsR j) k = bsR k := fun k => by
  unfold va_up
  by_cases q : k = j
  · rw [if_pos q, q]; exact fun _ => rfl
  · rw [if_neg q]; exact h k
theorem neg1_lt {k : Nat} (h : k ≤ 4) : (-1 : Int32) < nI k := (show ∀ k, k < 5 → (-1 : Int32) < nI k by decide +kernel) k (by omega)
