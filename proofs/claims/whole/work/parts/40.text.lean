-- ===== 40.text: tokens, items, a house told by a text =====
def isL (c : Nat) : Bool := decide (97 ≤ c ∧ c ≤ 122)
def isF (c : Nat) : Bool := decide (48 ≤ c ∧ c ≤ 57)
def isB (c : Nat) : Bool := decide (c = 32)
def rnF (q : Nat → Bool) (b : Nat → Nat) (n : Nat) : Nat → Nat → Nat
  | 0, i => i
  | f + 1, i => if i < n ∧ q (b i) = true then rnF q b n f (i + 1) else i
def rnE (q : Nat → Bool) (b : Nat → Nat) (n i : Nat) : Nat := rnF q b n (n - i) i
theorem rnE_s {q : Nat → Bool} {b : Nat → Nat} {n i : Nat} (h : i < n) (h2 : q (b i) = true) : rnE q b n i = rnE q b n (i + 1) := by
  unfold rnE
  rw [show n - i = (n - (i + 1)) + 1 by omega]
  exact if_pos ⟨h, h2⟩
theorem rnE_e {q : Nat → Bool} {b : Nat → Nat} {n i : Nat} (h : ¬ (i < n ∧ q (b i) = true)) : rnE q b n i = i := by
  unfold rnE
  cases n - i with
  | zero => rfl
  | succ f => exact if_neg h
theorem rnF_ge {q : Nat → Bool} {b : Nat → Nat} {n : Nat} : ∀ f i : Nat, i ≤ rnF q b n f i
  | 0, i => Nat.le_refl _
  | f + 1, i => by
    show i ≤ (if i < n ∧ q (b i) = true then rnF q b n f (i + 1) else i)
    by_cases h : i < n ∧ q (b i) = true
    · rw [if_pos h]
      exact Nat.le_trans (Nat.le_succ i) (rnF_ge f (i + 1))
    · rw [if_neg h]
      exact Nat.le_refl _
theorem rnF_le {q : Nat → Bool} {b : Nat → Nat} {n : Nat} : ∀ f i : Nat, i ≤ n → rnF q b n f i ≤ n
  | 0, i, h => h
  | f + 1, i, h => by
    show (if i < n ∧ q (b i) = true then rnF q b n f (i + 1) else i) ≤ n
    by_cases h2 : i < n ∧ q (b i) = true
    · rw [if_pos h2]
      exact rnF_le f (i + 1) (by omega)
    · rw [if_neg h2]
      exact h
theorem rnE_ge (q : Nat → Bool) (b : Nat → Nat) (n i : Nat) : i ≤ rnE q b n i := rnF_ge _ _
theorem rnE_le (q : Nat → Bool) (b : Nat → Nat) {n i : Nat} (h : i ≤ n) : rnE q b n i ≤ n := rnF_le _ _ h
theorem rnE_gt {q : Nat → Bool} {b : Nat → Nat} {n i : Nat} (h : i < n) (h2 : q (b i) = true) : i < rnE q b n i := by
  rw [rnE_s h h2]
  exact rnE_ge q b n (i + 1)
/-- where the token begins that is looked at from i; its end, kind (0 end, 1 word, 2 number, 3 ';', 4 wrong) and value, by where it begins -/
def tS (b : Nat → Nat) (n i : Nat) : Nat := rnE isB b n i
def v2N (b : Nat → Nat) (s e : Nat) : Nat := if e - s = 1 then b s - 48 else 10 * (b s - 48) + (b (s + 1) - 48)
def kE (b : Nat → Nat) (n s : Nat) : Nat := if s < n then (if isL (b s) = true then rnE isL b n s else if isF (b s) = true then rnE isF b n s else s + 1) else s
def kK (b : Nat → Nat) (n s : Nat) : Nat := if s < n then (if isL (b s) = true then 1 else if isF (b s) = true then (if rnE isF b n s - s ≤ 2 then 2 else 4) else if b s = 59 then 3 else 4) else 0
def kV (b : Nat → Nat) (n s : Nat) : Nat := if s < n then (if isL (b s) = true then 0 else if isF (b s) = true then v2N b s (rnE isF b n s) else 0) else 0
def tE (b : Nat → Nat) (n i : Nat) : Nat := kE b n (tS b n i)
def tK (b : Nat → Nat) (n i : Nat) : Nat := kK b n (tS b n i)
def tV (b : Nat → Nat) (n i : Nat) : Nat := kV b n (tS b n i)
theorem tS_ge (b : Nat → Nat) (n i : Nat) : i ≤ tS b n i := rnE_ge _ _ _ _
theorem tS_le (b : Nat → Nat) {n i : Nat} (h : i ≤ n) : tS b n i ≤ n := rnE_le _ _ h
theorem kE_ge (b : Nat → Nat) (n s : Nat) : s ≤ kE b n s := by
  unfold kE
  by_cases h : s < n
  · rw [if_pos h]
    by_cases h1 : isL (b s) = true
    · rw [if_pos h1]; exact rnE_ge _ _ _ _
    · rw [if_neg h1]
      by_cases h2 : isF (b s) = true
      · rw [if_pos h2]; exact rnE_ge _ _ _ _
      · rw [if_neg h2]; exact Nat.le_succ _
  · rw [if_neg h]
    exact Nat.le_refl _
theorem kE_le (b : Nat → Nat) {n s : Nat} (h0 : s ≤ n) : kE b n s ≤ n := by
  unfold kE
  by_cases h : s < n
  · rw [if_pos h]
    by_cases h1 : isL (b s) = true
    · rw [if_pos h1]; exact rnE_le _ _ h0
    · rw [if_neg h1]
      by_cases h2 : isF (b s) = true
      · rw [if_pos h2]; exact rnE_le _ _ h0
      · rw [if_neg h2]; exact h
  · rw [if_neg h]
    exact h0
theorem kE_gt (b : Nat → Nat) {n s : Nat} (h : s < n) : s < kE b n s := by
  unfold kE
  rw [if_pos h]
  by_cases h1 : isL (b s) = true
  · rw [if_pos h1]; exact rnE_gt h h1
  · rw [if_neg h1]
    by_cases h2 : isF (b s) = true
    · rw [if_pos h2]; exact rnE_gt h h2
    · rw [if_neg h2]; exact Nat.lt_succ_self _
theorem tE_ge (b : Nat → Nat) (n i : Nat) : i ≤ tE b n i := Nat.le_trans (tS_ge b n i) (kE_ge b n _)
theorem tSE (b : Nat → Nat) (n i : Nat) : tS b n i ≤ tE b n i := kE_ge b n _
theorem tE_le (b : Nat → Nat) {n i : Nat} (h : i ≤ n) : tE b n i ≤ n := kE_le b (tS_le b h)
theorem kK_0 {b : Nat → Nat} {n s : Nat} (h : kK b n s ≠ 0) : s < n := by
  rcases Nat.lt_or_ge s n with q | q
  · exact q
  · exact absurd (if_neg (Nat.not_lt.mpr q)) h
theorem tE_gt (b : Nat → Nat) {n i : Nat} (h : tK b n i ≠ 0) : i < tE b n i := Nat.lt_of_le_of_lt (tS_ge b n i) (kE_gt b (kK_0 h))
theorem kK_le (b : Nat → Nat) (n s : Nat) : kK b n s ≤ 4 := by
  unfold kK
  (repeat' split) <;> omega
theorem tK_le (b : Nat → Nat) (n i : Nat) : tK b n i ≤ 4 := kK_le b n _
theorem v2N_lt {b : Nat → Nat} (hb : ∀ k, b k < 128) (s e : Nat) : v2N b s e < 1000 := by
  have h1 := hb s
  have h2 := hb (s + 1)
  unfold v2N
  split <;> omega
theorem kV_lt {b : Nat → Nat} (hb : ∀ k, b k < 128) (n s : Nat) : kV b n s < 1000 := by
  have h := v2N_lt hb s (rnE isF b n s)
  unfold kV
  (repeat' split) <;> omega
theorem tV_lt {b : Nat → Nat} (hb : ∀ k, b k < 128) (n i : Nat) : tV b n i < 1000 := kV_lt hb n _
theorem kF (c : Nat) : ¬ (isL c = true ∧ isF c = true) := by
  intro q
  have h1 := of_decide_eq_true q.1
  have h2 := of_decide_eq_true q.2
  omega
theorem kK_e {b : Nat → Nat} {n s : Nat} (h : ¬ s < n) : kK b n s = 0 ∧ kE b n s = s ∧ kV b n s = 0 := ⟨if_neg h, if_neg h, if_neg h⟩
theorem kK_l {b : Nat → Nat} {n s : Nat} (h : s < n) (h1 : isL (b s) = true) : kK b n s = 1 ∧ kE b n s = rnE isL b n s ∧ kV b n s = 0 := by
  unfold kK kE kV
  rw [if_pos h, if_pos h, if_pos h, if_pos h1, if_pos h1, if_pos h1]
  exact ⟨rfl, rfl, rfl⟩
theorem kK_f {b : Nat → Nat} {n s : Nat} (h : s < n) (h1 : isF (b s) = true) : kK b n s = (if rnE isF b n s - s ≤ 2 then 2 else 4) ∧ kE b n s = rnE isF b n s ∧ kV b n s = v2N b s (rnE isF b n s) := by
  have h0 : ¬ isL (b s) = true := fun q => kF _ ⟨q, h1⟩
  unfold kK kE kV
  rw [if_pos h, if_pos h, if_pos h, if_neg h0, if_neg h0, if_neg h0, if_pos h1, if_pos h1, if_pos h1]
  exact ⟨rfl, rfl, rfl⟩
theorem kK_o {b : Nat → Nat} {n s : Nat} (h : s < n) (h0 : ¬ isL (b s) = true) (h1 : ¬ isF (b s) = true) : kK b n s = (if b s = 59 then 3 else 4) ∧ kE b n s = s + 1 ∧ kV b n s = 0 := by
  unfold kK kE kV
  rw [if_pos h, if_pos h, if_pos h, if_neg h0, if_neg h0, if_neg h0, if_neg h1, if_neg h1, if_neg h1]
  exact ⟨rfl, rfl, rfl⟩
/-- the number that was read of the figures from s to the one ahead of j, as far as two -/
def vlN (b : Nat → Nat) (s j : Nat) : Nat := if j = s then 0 else v2N b s j
theorem vlN_0 (b : Nat → Nat) (s : Nat) : vlN b s s = 0 := if_pos rfl
theorem vlN_n {b : Nat → Nat} {s j : Nat} (h : s < j) : vlN b s j = v2N b s j := if_neg (by omega)
theorem vlN_s {b : Nat → Nat} {s j : Nat} (h : s ≤ j) (h2 : j + 1 - s ≤ 2) (h3 : isF (b j) = true) : vlN b s (j + 1) = 10 * vlN b s j + b j - 48 := by
  have h4 := of_decide_eq_true h3
  rcases (show j = s ∨ j = s + 1 by omega) with q | q
  · rw [q, vlN_0, vlN_n (Nat.lt_succ_self _)]
    unfold v2N
    rw [if_pos (by omega)]
    omega
  · rw [vlN_n (by omega), vlN_n (by omega)]
    unfold v2N
    rw [if_neg (by omega), if_pos (by omega), q]
    rw [q] at h4
    omega
theorem nu_s {b : Nat → Nat} {s j : Nat} {v : Int32} (h : s ≤ j) (h3 : isF (b j) = true) (hv : j - s ≤ 2 → v = nI (vlN b s j)) : j + 1 - s ≤ 2 → nI 10 * v + nI (b j) - nI 48 = nI (vlN b s (j + 1)) := by
  intro q
  have h4 := of_decide_eq_true h3
  rw [vlN_s h q h3, hv (by omega), pk_mul, nI_add, pk_sub (show 48 ≤ 10 * vlN b s j + b j by omega)]
/-- a word -/
def isW (b : Nat → Nat) (n i : Nat) (w : List Nat) : Bool := decide (tK b n i = 1 ∧ tE b n i - tS b n i = w.length ∧ ∀ k, k < w.length → b (tS b n i + k) = w.getD k 0)
def wdL : Nat → List Nat
  | 0 => [104, 111, 117, 115, 101]
  | 1 => [116, 97, 108, 101]
  | _ => [104, 97, 110, 100]
/-- the parts of a tale that is told: from i on, with t so far -/
def ptl (b : Nat → Nat) (n : Nat) : Nat → Nat → List Nat → Bool × Nat × List Nat
  | 0, i, t => (false, i, t)
  | f + 1, i, t => if tK b n i = 2 then (if t.length = 10 ∨ 9 < tV b n i then (false, i, t) else ptl b n f (tE b n i) (t ++ [tV b n i])) else (true, i, t)
theorem ptl_e {b : Nat → Nat} {n f i : Nat} {t : List Nat} (hf : 0 < f) (h : tK b n i ≠ 2) : ptl b n f i t = (true, i, t) := by
  rw [show f = (f - 1) + 1 by omega]
  exact if_neg h
theorem ptl_x {b : Nat → Nat} {n f i : Nat} {t : List Nat} (hf : 0 < f) (h : tK b n i = 2) (h2 : t.length = 10 ∨ 9 < tV b n i) : ptl b n f i t = (false, i, t) := by
  rw [show f = (f - 1) + 1 by omega]
  exact (if_pos h).trans (if_pos h2)
theorem ptl_s {b : Nat → Nat} {n f i : Nat} {t : List Nat} (h : tK b n i = 2) (h2 : ¬ (t.length = 10 ∨ 9 < tV b n i)) : ptl b n (f + 1) i t = ptl b n f (tE b n i) (t ++ [tV b n i]) := (if_pos h).trans (if_neg h2)
theorem ptl_i {b : Nat → Nat} {n : Nat} : ∀ (f i : Nat) (t : List Nat), i ≤ (ptl b n f i t).2.1 ∧ (i ≤ n → (ptl b n f i t).2.1 ≤ n) ∧ (okT t → okT (ptl b n f i t).2.2)
  | 0, i, t => ⟨Nat.le_refl _, fun h => h, fun h => h⟩
  | f + 1, i, t => by
    by_cases h : tK b n i = 2
    · by_cases h2 : t.length = 10 ∨ 9 < tV b n i
      · rw [ptl_x (Nat.succ_pos f) h h2]
        exact ⟨Nat.le_refl _, fun h => h, fun h => h⟩
      · rw [ptl_s h h2]
        obtain ⟨a1, a2, a3⟩ := ptl_i (b := b) (n := n) f (tE b n i) (t ++ [tV b n i])
        exact ⟨Nat.le_trans (tE_ge b n i) a1, fun q => a2 (tE_le b q), fun q => a3 (q.app (by omega) (by have := q.1; omega))⟩
    · rw [ptl_e (Nat.succ_pos f) h]
      exact ⟨Nat.le_refl _, fun h => h, fun h => h⟩
abbrev TP := Bool × Nat × (Nat → List Nat) × (Nat → Int32)
/-- an item 'tale', from behind its word: whether it stands, where the last look was from, the house -/
def itT (b : Nat → Nat) (n : Nat) (T : Nat → List Nat) (P : Nat → Int32) (i : Nat) : TP :=
  if tK b n i = 2 ∧ tV b n i ≤ 7 then ((ptl b n 11 (tE b n i) []).1, (ptl b n 11 (tE b n i) []).2.1, va_up T (tV b n i) (ptl b n 11 (tE b n i) []).2.2, upd P (tV b n i) (-1)) else (false, i, T, P)
theorem itT_n {b : Nat → Nat} {n : Nat} {T : Nat → List Nat} {P : Nat → Int32} {i : Nat} (h : ¬ (tK b n i = 2 ∧ tV b n i ≤ 7)) : itT b n T P i = (false, i, T, P) := if_neg h
theorem itT_y {b : Nat → Nat} {n : Nat} {T : Nat → List Nat} {P : Nat → Int32} {i : Nat} (h1 : tK b n i = 2) (h2 : tV b n i ≤ 7) {R : Bool × Nat × List Nat} (hR : ptl b n 11 (tE b n i) [] = R) : itT b n T P i = (R.1, R.2.1, va_up T (tV b n i) R.2.2, upd P (tV b n i) (-1)) := by
  rw [← hR]
  exact if_pos ⟨h1, h2⟩
/-- an item 'hand', from behind its word -/
def itH4 (b : Nat → Nat) (n : Nat) (T : Nat → List Nat) (P : Nat → Int32) (a c k i4 i5 : Nat) : TP :=
  if tK b n i5 = 2 ∧ tV b n i5 ≤ 9 then (true, tE b n i5, va_up T c (slipT (T a) k (tV b n i4) (tV b n i5)), upd P c (nI a)) else (false, i5, T, P)
def itH3 (b : Nat → Nat) (n : Nat) (T : Nat → List Nat) (P : Nat → Int32) (a c k i4 : Nat) : TP :=
  if tK b n i4 = 2 ∧ tV b n i4 ≤ 9 then itH4 b n T P a c k i4 (tE b n i4) else (false, i4, T, P)
def itH2 (b : Nat → Nat) (n : Nat) (T : Nat → List Nat) (P : Nat → Int32) (a c i3 : Nat) : TP :=
  if tK b n i3 = 2 ∧ tV b n i3 ≤ 5 then itH3 b n T P a c (tV b n i3) (tE b n i3) else (false, i3, T, P)
def itH1 (b : Nat → Nat) (n : Nat) (T : Nat → List Nat) (P : Nat → Int32) (a i2 : Nat) : TP :=
  if tK b n i2 = 2 ∧ a < tV b n i2 ∧ tV b n i2 ≤ 7 then itH2 b n T P a (tV b n i2) (tE b n i2) else (false, i2, T, P)
def itH (b : Nat → Nat) (n : Nat) (T : Nat → List Nat) (P : Nat → Int32) (i : Nat) : TP :=
  if tK b n i = 2 ∧ tV b n i ≤ 7 ∧ T (tV b n i) ≠ [] then itH1 b n T P (tV b n i) (tE b n i) else (false, i, T, P)
def itM (b : Nat → Nat) (n : Nat) (T : Nat → List Nat) (P : Nat → Int32) (i : Nat) : TP :=
  if isW b n i (wdL 1) = true then itT b n T P (tE b n i) else if isW b n i (wdL 2) = true then itH b n T P (tE b n i) else (false, i, T, P)
/-- what is the same of two items, over houses that are the same as far as eight branches -/
def eq8 (T T' : Nat → List Nat) (P P' : Nat → Int32) : Prop := ∀ k, k < 8 → T k = T' k ∧ P k = P' k
def sm8 (n i : Nat) (R R' : TP) : Prop := R.1 = R'.1 ∧ R.2.1 = R'.2.1 ∧ eq8 R.2.2.1 R'.2.2.1 R.2.2.2 R'.2.2.2 ∧ i ≤ R.2.1 ∧ (i ≤ n → R.2.1 ≤ n) ∧ ((∀ k, okT (R.2.2.1 k)) ∧ ∀ k, okT (R'.2.2.1 k))
theorem eq8_up {T T' : Nat → List Nat} {P P' : Nat → Int32} (h : eq8 T T' P P') (j : Nat) {t t' : List Nat} (ht : t = t') (x : Int32) : eq8 (va_up T j t) (va_up T' j t') (upd P j x) (upd P' j x) := fun k hk => by
  unfold va_up upd
  by_cases q : k = j
  · rw [if_pos q, if_pos q, if_pos q, if_pos q]; exact ⟨ht, rfl⟩
  · rw [if_neg q, if_neg q, if_neg q, if_neg q]; exact h k hk
theorem okT_up {T : Nat → List Nat} (hT : ∀ k, okT (T k)) {t : List Nat} (ht : okT t) (j : Nat) : ∀ k, okT (va_up T j t k) := fun k => by
  unfold va_up
  by_cases q : k = j
  · rw [if_pos q]; exact ht
  · rw [if_neg q]; exact hT k
section ITEMS
variable {b : Nat → Nat} {n : Nat} {T T' : Nat → List Nat} {P P' : Nat → Int32}
theorem sm8_no (h : eq8 T T' P P') (hT : ∀ k, okT (T k)) (hT' : ∀ k, okT (T' k)) {i j : Nat} (hij : i ≤ j) (hjn : i ≤ n → j ≤ n) : sm8 n i (false, j, T, P) (false, j, T', P') := ⟨rfl, rfl, h, hij, hjn, hT, hT'⟩
theorem sm8_le {i j : Nat} {R R' : TP} (hij : i ≤ j) (hjn : i ≤ n → j ≤ n) (h : sm8 n j R R') : sm8 n i R R' := ⟨h.1, h.2.1, h.2.2.1, Nat.le_trans hij h.2.2.2.1, fun q => h.2.2.2.2.1 (hjn q), h.2.2.2.2.2⟩
theorem itT_8 (h : eq8 T T' P P') (hT : ∀ k, okT (T k)) (hT' : ∀ k, okT (T' k)) (i : Nat) : sm8 n i (itT b n T P i) (itT b n T' P' i) := by
  by_cases q : tK b n i = 2 ∧ tV b n i ≤ 7
  · obtain ⟨a1, a2, a3⟩ := ptl_i (b := b) (n := n) 11 (tE b n i) []
    rw [itT_y q.1 q.2 rfl, itT_y q.1 q.2 rfl]
    exact ⟨rfl, rfl, eq8_up h _ rfl _, Nat.le_trans (tE_ge b n i) a1, fun z => a2 (tE_le b z), okT_up hT (a3 okT_nil) _, okT_up hT' (a3 okT_nil) _⟩
  · rw [itT_n q, itT_n q]
    exact sm8_no h hT hT' (Nat.le_refl _) (fun z => z)
theorem itH4_8 (h : eq8 T T' P P') (hT : ∀ k, okT (T k)) (hT' : ∀ k, okT (T' k)) {a : Nat} (ha : a ≤ 7) (c k i4 i5 : Nat) : sm8 n i5 (itH4 b n T P a c k i4 i5) (itH4 b n T' P' a c k i4 i5) := by
  unfold itH4
  by_cases q : tK b n i5 = 2 ∧ tV b n i5 ≤ 9
  · rw [if_pos q, if_pos q]
    exact ⟨rfl, rfl, eq8_up h _ (by rw [(h a (by omega)).1]) _, tE_ge b n i5, fun z => tE_le b z, okT_up hT (okT_slip (hT a) _ _ (by omega)) _, okT_up hT' (okT_slip (hT' a) _ _ (by omega)) _⟩
  · rw [if_neg q, if_neg q]
    exact sm8_no h hT hT' (Nat.le_refl _) (fun z => z)
theorem itH3_8 (h : eq8 T T' P P') (hT : ∀ k, okT (T k)) (hT' : ∀ k, okT (T' k)) {a : Nat} (ha : a ≤ 7) (c k i4 : Nat) : sm8 n i4 (itH3 b n T P a c k i4) (itH3 b n T' P' a c k i4) := by
  unfold itH3
  by_cases q : tK b n i4 = 2 ∧ tV b n i4 ≤ 9
  · rw [if_pos q, if_pos q]
    exact sm8_le (tE_ge b n i4) (fun z => tE_le b z) (itH4_8 h hT hT' ha c k i4 _)
  · rw [if_neg q, if_neg q]
    exact sm8_no h hT hT' (Nat.le_refl _) (fun z => z)
theorem itH2_8 (h : eq8 T T' P P') (hT : ∀ k, okT (T k)) (hT' : ∀ k, okT (T' k)) {a : Nat} (ha : a ≤ 7) (c i3 : Nat) : sm8 n i3 (itH2 b n T P a c i3) (itH2 b n T' P' a c i3) := by
  unfold itH2
  by_cases q : tK b n i3 = 2 ∧ tV b n i3 ≤ 5
  · rw [if_pos q, if_pos q]
    exact sm8_le (tE_ge b n i3) (fun z => tE_le b z) (itH3_8 h hT hT' ha c _ _)
  · rw [if_neg q, if_neg q]
    exact sm8_no h hT hT' (Nat.le_refl _) (fun z => z)
theorem itH1_8 (h : eq8 T T' P P') (hT : ∀ k, okT (T k)) (hT' : ∀ k, okT (T' k)) {a : Nat} (ha : a ≤ 7) (i2 : Nat) : sm8 n i2 (itH1 b n T P a i2) (itH1 b n T' P' a i2) := by
  unfold itH1
  by_cases q : tK b n i2 = 2 ∧ a < tV b n i2 ∧ tV b n i2 ≤ 7
  · rw [if_pos q, if_pos q]
    exact sm8_le (tE_ge b n i2) (fun z => tE_le b z) (itH2_8 h hT hT' ha _ _)
  · rw [if_neg q, if_neg q]
    exact sm8_no h hT hT' (Nat.le_refl _) (fun z => z)
theorem itH_8 (h : eq8 T T' P P') (hT : ∀ k, okT (T k)) (hT' : ∀ k, okT (T' k)) (i : Nat) : sm8 n i (itH b n T P i) (itH b n T' P' i) := by
  unfold itH
  by_cases q : tK b n i = 2 ∧ tV b n i ≤ 7 ∧ T (tV b n i) ≠ []
  · have q' : tK b n i = 2 ∧ tV b n i ≤ 7 ∧ T' (tV b n i) ≠ [] := ⟨q.1, q.2.1, by rw [← (h _ (by omega)).1]; exact q.2.2⟩
    rw [if_pos q, if_pos q']
    exact sm8_le (tE_ge b n i) (fun z => tE_le b z) (itH1_8 h hT hT' q.2.1 _)
  · have q' : ¬ (tK b n i = 2 ∧ tV b n i ≤ 7 ∧ T' (tV b n i) ≠ []) := fun z => q ⟨z.1, z.2.1, by rw [(h _ (by omega)).1]; exact z.2.2⟩
    rw [if_neg q, if_neg q']
    exact sm8_no h hT hT' (Nat.le_refl _) (fun z => z)
theorem itM_8 (h : eq8 T T' P P') (hT : ∀ k, okT (T k)) (hT' : ∀ k, okT (T' k)) (i : Nat) : sm8 n i (itM b n T P i) (itM b n T' P' i) := by
  unfold itM
  by_cases q : isW b n i (wdL 1) = true
  · rw [if_pos q, if_pos q]
    exact sm8_le (tE_ge b n i) (fun z => tE_le b z) (itT_8 h hT hT' _)
  · rw [if_neg q, if_neg q]
    by_cases q2 : isW b n i (wdL 2) = true
    · rw [if_pos q2, if_pos q2]
      exact sm8_le (tE_ge b n i) (fun z => tE_le b z) (itH_8 h hT hT' _)
    · rw [if_neg q2, if_neg q2]
      exact sm8_no h hT hT' (Nat.le_refl _) (fun z => z)
end ITEMS
abbrev RD := Bool × Int32 × (Nat → List Nat) × (Nat → Int32)
/-- the items from the k'th on, the next one looked at from i -/
def rdL (b : Nat → Nat) (n : Nat) : Nat → Nat → Nat → (Nat → List Nat) → (Nat → Int32) → RD
  | 0, _, i, T, P => (false, (-10) - nI (tS b n i), T, P)
  | f + 1, k, i, T, P => if tK b n i = 0 then (true, nI k, T, P) else if (itM b n T P i).1 = true ∧ tK b n (itM b n T P i).2.1 = 3 then rdL b n f (k + 1) (tE b n (itM b n T P i).2.1) (itM b n T P i).2.2.1 (itM b n T P i).2.2.2 else (false, (-10) - nI (tS b n (itM b n T P i).2.1), T, P)
theorem rdL_e {b : Nat → Nat} {n f k i : Nat} {T : Nat → List Nat} {P : Nat → Int32} (hf : 0 < f) (h : tK b n i = 0) : rdL b n f k i T P = (true, nI k, T, P) := by
  rw [show f = (f - 1) + 1 by omega]
  exact if_pos h
theorem rdL_x {b : Nat → Nat} {n f k i : Nat} {T : Nat → List Nat} {P : Nat → Int32} (hf : 0 < f) (h : tK b n i ≠ 0) {R : TP} (hR : itM b n T P i = R) (h2 : ¬ (R.1 = true ∧ tK b n R.2.1 = 3)) : rdL b n f k i T P = (false, (-10) - nI (tS b n R.2.1), T, P) := by
  rw [show f = (f - 1) + 1 by omega]
  subst hR
  exact (if_neg h).trans (if_neg h2)
theorem rdL_s {b : Nat → Nat} {n f k i : Nat} {T : Nat → List Nat} {P : Nat → Int32} (h : tK b n i ≠ 0) {R : TP} (hR : itM b n T P i = R) (h1 : R.1 = true) (h2 : tK b n R.2.1 = 3) : rdL b n (f + 1) k i T P = rdL b n f (k + 1) (tE b n R.2.1) R.2.2.1 R.2.2.2 := by
  subst hR
  exact (if_neg h).trans (if_pos ⟨h1, h2⟩)
/-- the whole text -/
def rdA (b : Nat → Nat) (n : Nat) (T : Nat → List Nat) (P : Nat → Int32) : RD :=
  if isW b n 0 (wdL 0) = true then (if tK b n (tE b n 0) = 3 then rdL b n n 1 (tE b n (tE b n 0)) T P else (false, (-10) - nI (tS b n (tE b n 0)), T, P)) else (false, (-10) - nI (tS b n 0), T, P)
theorem rdA_1 {b : Nat → Nat} {n : Nat} {T : Nat → List Nat} {P : Nat → Int32} (h : isW b n 0 (wdL 0) = false) : rdA b n T P = (false, (-10) - nI (tS b n 0), T, P) := if_neg (by rw [h]; decide)
theorem rdA_2 {b : Nat → Nat} {n : Nat} {T : Nat → List Nat} {P : Nat → Int32} (h : isW b n 0 (wdL 0) = true) (h2 : tK b n (tE b n 0) ≠ 3) : rdA b n T P = (false, (-10) - nI (tS b n (tE b n 0)), T, P) := (if_pos h).trans (if_neg h2)
theorem rdA_3 {b : Nat → Nat} {n : Nat} {T : Nat → List Nat} {P : Nat → Int32} (h : isW b n 0 (wdL 0) = true) (h2 : tK b n (tE b n 0) = 3) : rdA b n T P = rdL b n n 1 (tE b n (tE b n 0)) T P := (if_pos h).trans (if_pos h2)
def sm9 (R R' : RD) : Prop := R.1 = R'.1 ∧ R.2.1 = R'.2.1 ∧ eq8 R.2.2.1 R'.2.2.1 R.2.2.2 R'.2.2.2 ∧ ((∀ k, okT (R.2.2.1 k)) ∧ ∀ k, okT (R'.2.2.1 k)) ∧ (R.1 = true ↔ 0 ≤ R.2.1)
theorem neg10 {s : Nat} (h : s < 1000) : ¬ (0 : Int32) ≤ (-10) - nI s := (show ∀ s, s < 1000 → ¬ (0 : Int32) ≤ (-10) - nI s by decide +kernel) s h
theorem rdL_8 {b : Nat → Nat} {n : Nat} (hn : n ≤ 150) : ∀ (f k i : Nat) {T T' : Nat → List Nat} {P P' : Nat → Int32}, i ≤ n → k + f < 1000 → eq8 T T' P P' → (∀ k, okT (T k)) → (∀ k, okT (T' k)) → sm9 (rdL b n f k i T P) (rdL b n f k i T' P')
  | 0, k, i, T, T', P, P', hi, hk, h, hT, hT' => ⟨rfl, rfl, h, ⟨hT, hT'⟩, ⟨fun q => (by cases q), fun q => absurd q (neg10 (by have := tS_le b hi; omega))⟩⟩
  | f + 1, k, i, T, T', P, P', hi, hk, h, hT, hT' => by
    by_cases h0 : tK b n i = 0
    · rw [rdL_e (Nat.succ_pos f) h0, rdL_e (Nat.succ_pos f) h0]
      exact ⟨rfl, rfl, h, ⟨hT, hT'⟩, ⟨fun _ => nI_pos' (by omega), fun _ => rfl⟩⟩
    · obtain ⟨e1, e2, e3, e4, e5, e6, e7⟩ := itM_8 (b := b) (n := n) h hT hT' i
      by_cases h2 : (itM b n T P i).1 = true ∧ tK b n (itM b n T P i).2.1 = 3
      · have h3 : (itM b n T' P' i).1 = true ∧ tK b n (itM b n T' P' i).2.1 = 3 := by rw [← e1, ← e2]; exact h2
        rw [rdL_s h0 rfl h2.1 h2.2, rdL_s h0 rfl h3.1 h3.2, ← e2]
        exact rdL_8 hn f (k + 1) _ (tE_le b (e5 hi)) (by omega) e3 e6 e7
      · have h3 : ¬ ((itM b n T' P' i).1 = true ∧ tK b n (itM b n T' P' i).2.1 = 3) := by rw [← e1, ← e2]; exact h2
        rw [rdL_x (Nat.succ_pos f) h0 rfl h2, rdL_x (Nat.succ_pos f) h0 rfl h3, ← e2]
        exact ⟨rfl, rfl, h, ⟨hT, hT'⟩, ⟨fun q => (by cases q), fun q => absurd q (neg10 (by have := tS_le b (e5 hi); omega))⟩⟩
theorem rdA_8 {b : Nat → Nat} {n : Nat} (hn : n ≤ 150) {T T' : Nat → List Nat} {P P' : Nat → Int32} (h : eq8 T T' P P') (hT : ∀ k, okT (T k)) (hT' : ∀ k, okT (T' k)) : sm9 (rdA b n T P) (rdA b n T' P') := by
  have l1 := tE_le b (Nat.zero_le n)
  have l2 := tE_le b l1
  cases q : isW b n 0 (wdL 0) with
  | false =>
    rw [rdA_1 q, rdA_1 q]
    exact ⟨rfl, rfl, h, ⟨hT, hT'⟩, ⟨fun q => (by cases q), fun q => absurd q (neg10 (by have := tS_le b (Nat.zero_le n); omega))⟩⟩
  | true =>
    by_cases q2 : tK b n (tE b n 0) = 3
    · rw [rdA_3 q q2, rdA_3 q q2]
      exact rdL_8 hn n 1 _ l2 (by omega) h hT hT'
    · rw [rdA_2 q q2, rdA_2 q q2]
      exact ⟨rfl, rfl, h, ⟨hT, hT'⟩, ⟨fun q => (by cases q), fun q => absurd q (neg10 (by have := tS_le b l1; omega))⟩⟩
