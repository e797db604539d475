-- ===== 09.spec2: distances, fits, hearing, fun =====
def dis (a b : List Nat) (i j : Nat) : Nat :=
  if i = 0 then j else if j = 0 then i else
    if trnB a i b j = true then min (min (min (dis a b (i - 1) j) (dis a b i (j - 1)) + 1) (dis a b (i - 1) (j - 1) + (if a.getD (i - 1) 0 = b.getD (j - 1) 0 then 0 else 1))) (dis a b (i - 2) (j - 2) + 1)
    else min (min (dis a b (i - 1) j) (dis a b i (j - 1)) + 1) (dis a b (i - 1) (j - 1) + (if a.getD (i - 1) 0 = b.getD (j - 1) 0 then 0 else 1))
termination_by i + j
decreasing_by all_goals omega
def disM (a b : List Nat) (i j : Nat) : Nat := min (min (dis a b (i - 1) j) (dis a b i (j - 1)) + 1) (dis a b (i - 1) (j - 1) + (if a.getD (i - 1) 0 = b.getD (j - 1) 0 then 0 else 1))
theorem dis_i0 (a b : List Nat) (j : Nat) : dis a b 0 j = j := by
  rw [dis]
  exact if_pos rfl
theorem dis_j0 (a b : List Nat) (i : Nat) : dis a b i 0 = i := by
  rw [dis]
  by_cases h : i = 0
  · rw [if_pos h, h]
  · rw [if_neg h, if_pos rfl]
theorem dis_y {a b : List Nat} {i j : Nat} (hi : 0 < i) (hj : 0 < j) (h : trnB a i b j = true) : dis a b i j = min (disM a b i j) (dis a b (i - 2) (j - 2) + 1) := by
  rw [dis, if_neg (by omega), if_neg (by omega), if_pos h]
  rfl
theorem dis_n {a b : List Nat} {i j : Nat} (hi : 0 < i) (hj : 0 < j) (h : trnB a i b j = false) : dis a b i j = disM a b i j := by
  rw [dis, if_neg (by omega), if_neg (by omega), if_neg (by rw [h]; decide)]
  rfl
theorem dis_le (a b : List Nat) : ∀ n i j : Nat, i + j ≤ n → dis a b i j ≤ i + j
  | 0, i, j, h => by
    rw [show i = 0 by omega, dis_i0]
    omega
  | n + 1, i, j, h => by
    by_cases hi : i = 0
    · rw [hi, dis_i0]; omega
    · by_cases hj : j = 0
      · rw [hj, dis_j0]; omega
      · have h1 := dis_le a b n (i - 1) j (by omega)
        have h2 : disM a b i j ≤ i + j := by
          unfold disM
          omega
        cases q : trnB a i b j with
        | true => rw [dis_y (by omega) (by omega) q]; omega
        | false => rw [dis_n (by omega) (by omega) q]; exact h2
theorem dis_b {a b : List Nat} {i j : Nat} (hi : i ≤ 10) (hj : j ≤ 10) : dis a b i j ≤ 20 := by
  have := dis_le a b (i + j) i j (Nat.le_refl _)
  omega
theorem dis_self (a : List Nat) : ∀ i : Nat, dis a a i i = 0
  | 0 => dis_i0 a a 0
  | i + 1 => by
    have h1 := dis_self a i
    have h2 : disM a a (i + 1) (i + 1) = 0 := by
      unfold disM
      rw [show i + 1 - 1 = i by omega, h1, if_pos rfl]
      omega
    cases q : trnB a (i + 1) a (i + 1) with
    | true => rw [dis_y (by omega) (by omega) q, h2]; omega
    | false => rw [dis_n (by omega) (by omega) q, h2]
def dsT (a b : List Nat) : Nat := dis a b a.length b.length
theorem dsT_le {a b : List Nat} (ha : okT a) (hb : okT b) : dsT a b ≤ 20 := dis_b ha.1 hb.1
theorem disM_c0 {a b : List Nat} {i j : Nat} (h : a.getD (i - 1) 0 = b.getD (j - 1) 0) : disM a b i j = min (min (dis a b (i - 1) j) (dis a b i (j - 1)) + 1) (dis a b (i - 1) (j - 1) + 0) := by
  unfold disM
  rw [if_pos h]
theorem disM_c1 {a b : List Nat} {i j : Nat} (h : a.getD (i - 1) 0 ≠ b.getD (j - 1) 0) : disM a b i j = min (min (dis a b (i - 1) j) (dis a b i (j - 1)) + 1) (dis a b (i - 1) (j - 1) + 1) := by
  unfold disM
  rw [if_neg h]
/-- the table of distances: rows below i, and of row i the first j -/
def tabI (g : Nat → Nat) (a b : List Nat) (i j : Nat) : Prop := (∀ x y, x < i → y ≤ b.length → g (11 * x + y) = dis a b x y) ∧ ∀ y, y < j → g (11 * i + y) = dis a b i y
theorem tabI_s {g : Nat → Nat} {a b : List Nat} {i j v : Nat} (hj : j ≤ b.length) (hb : b.length ≤ 10) (h : tabI g a b i j) (hv : v = dis a b i j) : tabI (va_up g (11 * i + j) v) a b i (j + 1) := by
  refine ⟨fun x y hx hy => ?_, fun y hy => ?_⟩
  · unfold va_up
    rw [if_neg (show ¬ 11 * x + y = 11 * i + j by omega)]
    exact h.1 x y hx hy
  · by_cases q : y = j
    · unfold va_up; rw [q, if_pos rfl]; exact hv
    · unfold va_up
      rw [if_neg (show ¬ 11 * i + y = 11 * i + j by omega)]
      exact h.2 y (by omega)
theorem tabI_n {g : Nat → Nat} {a b : List Nat} {i j : Nat} (hj : b.length < j) (h : tabI g a b i j) : tabI g a b (i + 1) 0 := by
  refine ⟨fun x y hx hy => ?_, fun y hy => absurd hy (Nat.not_lt_zero _)⟩
  by_cases q : x = i
  · rw [q]; exact h.2 y (by omega)
  · exact h.1 x y (by omega) hy
def kTwo (a b : Int32) : Nat := if upB a 7 = true ∧ upB b 7 = true then 3 else 0
def eApart : Nat → Nat → Int32
  | 0, _ => (-2)
  | _, d => nI d
-- older
theorem sgE {v : Int32} {a b : Nat} (h : v = nI a - nI b) (ha : a < 1073741824) (hb : b < 1073741824) : v = 0 ↔ a = b := by
  have e := pk_sub_toInt (a := a) (b := b) ha hb
  have z : (0 : Int32).toInt = 0 := by decide
  rw [h, ← Int32.toInt_inj, e, z]
  omega
theorem sgP {v : Int32} {a b : Nat} (h : v = nI a - nI b) (ha : a < 1073741824) (hb : b < 1073741824) : 0 < v ↔ b < a := by
  have e := pk_sub_toInt (a := a) (b := b) ha hb
  have z : (0 : Int32).toInt = 0 := by decide
  rw [h, Int32.lt_iff_toInt_lt, e, z]
  omega
theorem sgN {v : Int32} {a b : Nat} (h : v = nI a - nI b) (ha : a < 1073741824) (hb : b < 1073741824) : v < 0 ↔ a < b := by
  have e := pk_sub_toInt (a := a) (b := b) ha hb
  have z : (0 : Int32).toInt = 0 := by decide
  rw [h, Int32.lt_iff_toInt_lt, e, z]
  omega
def oldN (ua ub la lb : Nat) : Nat := if ua = ub then (if lb < la then 0 else if la < lb then 1 else 2) else if ub < ua then 0 else 1
def eOld : Nat → Nat → Int32
  | 0, _ => (-2)
  | _, n => nI n
def unT' (t : List Nat) : Nat := popN (kN t)
-- fits
def ftB (r t : List Nat) (p : Nat) : Bool := decide (p + r.length ≤ t.length) && stB r t p r.length
def ftN (r t : List Nat) : Nat → Nat | 0 => 0 | p + 1 => ftN r t p + if ftB r t p = true then 1 else 0
def f1I (r t : List Nat) : Nat → Int32 | 0 => (-1) | p + 1 => if ftB r t p = true ∧ ftN r t p = 0 then nI p else f1I r t p
theorem ftN_le (r t : List Nat) : ∀ p : Nat, ftN r t p ≤ p
  | 0 => Nat.le_refl _
  | p + 1 => by
    have h := ftN_le r t p
    show ftN r t p + (if ftB r t p = true then 1 else 0) ≤ p + 1
    by_cases q : ftB r t p = true
    · rw [if_pos q]; omega
    · rw [if_neg q]; omega
def kFit (b w : Int32) : Nat := if upB b 7 = true ∧ upB w 1 = true then 3 else 0
def eFit : Nat → Nat → Nat → Int32 → Int32
  | 0, _, _, _ => (-10)
  | _, 0, n, _ => nI n
  | _, _, _, f => f
-- covers
def rbN (p : Nat) : Nat → Nat | 0 => 0 | k + 1 => rbN p k ||| 2 ^ (p + k)
def cvN (r t : List Nat) : Nat → Nat | 0 => 0 | p + 1 => cvN r t p ||| (if ftB r t p = true then rbN p r.length else 0)
theorem rbN_lt (p : Nat) : ∀ k : Nat, rbN p k < 2 ^ (p + k)
  | 0 => Nat.two_pow_pos _
  | k + 1 => by
    have h := rbN_lt p k
    have h2 : 2 ^ (p + k) < 2 ^ (p + (k + 1)) := Nat.pow_lt_pow_right (by decide) (by omega)
    exact Nat.or_lt_two_pow (Nat.lt_trans h h2) h2
def cvI (r t : List Nat) : Nat := if 0 < r.length ∧ cvN r t t.length = 2 ^ t.length - 1 then 1 else 0
-- heard
def kHd (x y : Int32) (n : Nat) : Nat := if upB x 9 = true ∧ upB y 1 = true then (if n = 6 then 2 else 3) else 0
def eHd : Nat → Nat → Int32
  | 0, _ => (-2)
  | 2, _ => (-4)
  | _, n => nI (n + 1)
def s3N : Nat → Nat → Nat → Nat
  | 3, _, b => b
  | _, a, _ => a
-- door, next
def doB (T : Nat → List Nat) (hs : Nat → Nat) (b : Nat) : Nat → Bool | 0 => decide (T b ≠ []) | k + 1 => doB T hs b k && (decide (hs (2 * k) ∈ T b) == decide (hs (2 * k + 1) = 1))
def drN (T : Nat → List Nat) (hs : Nat → Nat) (n : Nat) : Nat → Nat | 0 => 0 | b + 1 => drN T hs n b ||| (if doB T hs b n = true then 2 ^ b else 0)
theorem drN_lt (T : Nat → List Nat) (hs : Nat → Nat) (n : Nat) : ∀ i : Nat, drN T hs n i < 2 ^ i
  | 0 => Nat.two_pow_pos 0
  | i + 1 => bit_lt (drN_lt T hs n i)
def nyN (T : Nat → List Nat) (z x : Nat) : Nat → Nat | 0 => 0 | b + 1 => nyN T z x b + if z / 2 ^ b % 2 = 1 ∧ x ∈ T b then 1 else 0
theorem nyN_le (T : Nat → List Nat) (z x : Nat) : ∀ i : Nat, nyN T z x i ≤ i
  | 0 => Nat.le_refl _
  | i + 1 => by
    have h := nyN_le T z x i
    show nyN T z x i + (if z / 2 ^ i % 2 = 1 ∧ x ∈ T i then 1 else 0) ≤ i + 1
    by_cases q : z / 2 ^ i % 2 = 1 ∧ x ∈ T i
    · rw [if_pos q]; omega
    · rw [if_neg q]; omega
def grN (T : Nat → List Nat) (z x : Nat) : Nat := if popN z < 2 * nyN T z x 8 then nyN T z x 8 else popN z - nyN T z x 8
def nxP (T : Nat → List Nat) (z : Nat) : Nat → Int32 × Nat | 0 => ((-1), 1000000) | x + 1 => if grN T z x < (nxP T z x).2 then (nI x, grN T z x) else nxP T z x
def eFun : Nat → Int32 → Int32
  | 0, _ => (-1000)
  | _, v => v
theorem sgL {v : Int32} {a b : Nat} (h : v = nI a - nI b) (ha : a < 1073741824) (hb : b < 1073741824) : v ≤ 0 ↔ a ≤ b := by
  have e := pk_sub_toInt (a := a) (b := b) ha hb
  have z : (0 : Int32).toInt = 0 := by decide
  rw [h, Int32.le_iff_toInt_le, e, z]
  omega
theorem sgG {v : Int32} {a b : Nat} (h : v = nI a - nI b) (ha : a < 1073741824) (hb : b < 1073741824) : 0 ≤ v ↔ b ≤ a := by
  have e := pk_sub_toInt (a := a) (b := b) ha hb
  have z : (0 : Int32).toInt = 0 := by decide
  rw [h, Int32.le_iff_toInt_le, e, z]
  omega
theorem bq1 {p : Bool} {y : Nat} (hy : y = 1) (h : ¬ ib p = nI 1) : false = (true && (p == decide (y = 1))) := by
  rw [decide_eq_true hy]
  cases p with
  | false => rfl
  | true => exact absurd rfl h
theorem bq2 {p : Bool} {y : Nat} (hy : y = 1) (h : ib p = nI 1) : true = (true && (p == decide (y = 1))) := by
  rw [decide_eq_true hy]
  cases p with
  | false => exact absurd h (by decide)
  | true => rfl
theorem bq3 {p : Bool} {y : Nat} (hy : y ≠ 1) (h : ¬ ib p = nI 0) : false = (true && (p == decide (y = 1))) := by
  rw [decide_eq_false hy]
  cases p with
  | false => exact absurd rfl h
  | true => rfl
theorem bq4 {p : Bool} {y : Nat} (hy : y ≠ 1) (h : ib p = nI 0) : true = (true && (p == decide (y = 1))) := by
  rw [decide_eq_false hy]
  cases p with
  | false => rfl
  | true => exact absurd h (by decide)
theorem drN_y {T : Nat → List Nat} {hs : Nat → Nat} {n b : Nat} (h : doB T hs b n = true) : drN T hs n (b + 1) = drN T hs n b ||| 2 ^ b := by
  show drN T hs n b ||| (if doB T hs b n = true then 2 ^ b else 0) = _
  rw [if_pos h]
theorem drN_n {T : Nat → List Nat} {hs : Nat → Nat} {n b : Nat} (h : doB T hs b n = false) : drN T hs n (b + 1) = drN T hs n b ||| 0 := by
  show drN T hs n b ||| (if doB T hs b n = true then 2 ^ b else 0) = _
  rw [if_neg (by rw [h]; decide)]
theorem nyN_y {T : Nat → List Nat} {z x b : Nat} (h : z / 2 ^ b % 2 = 1) (h2 : x ∈ T b) : nyN T z x (b + 1) = nyN T z x b + 1 := by
  show nyN T z x b + (if z / 2 ^ b % 2 = 1 ∧ x ∈ T b then 1 else 0) = _
  rw [if_pos ⟨h, h2⟩]
theorem nyN_n {T : Nat → List Nat} {z x b : Nat} (h : ¬ (z / 2 ^ b % 2 = 1 ∧ x ∈ T b)) : nyN T z x (b + 1) = nyN T z x b + 0 := by
  show nyN T z x b + (if z / 2 ^ b % 2 = 1 ∧ x ∈ T b then 1 else 0) = _
  rw [if_neg h]
theorem nxP_y {T : Nat → List Nat} {z x : Nat} (h : grN T z x < (nxP T z x).2) : nxP T z (x + 1) = (nI x, grN T z x) := if_pos h
theorem nxP_n {T : Nat → List Nat} {z x : Nat} (h : ¬ grN T z x < (nxP T z x).2) : nxP T z (x + 1) = nxP T z x := if_neg h
def nxI (T : Nat → List Nat) (z : Nat) : Int32 := if z = 0 then (-1) else (nxP T z 10).1
theorem popN_le (n : Nat) : popN n ≤ 32 := popF_le 32 n
theorem grN_le (T : Nat → List Nat) (z x : Nat) : grN T z x ≤ 32 := by
  have h := nyN_le T z x 8
  have h2 := popN_le z
  unfold grN
  by_cases q : popN z < 2 * nyN T z x 8
  · rw [if_pos q]; omega
  · rw [if_neg q]; omega
theorem nxP_le (T : Nat → List Nat) (z : Nat) : ∀ x : Nat, (nxP T z x).2 ≤ 1000000
  | 0 => Nat.le_refl _
  | x + 1 => by
    have h := nxP_le T z x
    by_cases q : grN T z x < (nxP T z x).2
    · rw [nxP_y q]; have := grN_le T z x; show grN T z x ≤ 1000000; omega
    · rw [nxP_n q]; exact h
-- slips by fun
def slF (t : List Nat) (c : Nat) : Int32 := funT (slipT t (c / 100) (c / 10 % 10) (c % 10))
def slP (t : List Nat) : Nat → Nat × Int32 | 0 => (0, funT t) | n + 1 => if (slP t n).2 < slF t (100 + n) then (100 + n, slF t (100 + n)) else slP t n
theorem slP_y {t : List Nat} {n : Nat} (h : (slP t n).2 < slF t (100 + n)) : slP t (n + 1) = (100 + n, slF t (100 + n)) := if_pos h
theorem slP_n {t : List Nat} {n : Nat} (h : ¬ (slP t n).2 < slF t (100 + n)) : slP t (n + 1) = slP t n := if_neg h
def eSlip : Nat → Nat → Int32
  | 0, _ => (-2)
  | _, n => nI n
theorem slH_n {t : List Nat} {c1 b : Nat} {m : Int32} (hc : 100 ≤ c1) (hb : b = (slP t (c1 - 100)).1) (hm : m = (slP t (c1 - 100)).2) (h : slF t c1 ≤ m) : b = (slP t (c1 + 1 - 100)).1 ∧ m = (slP t (c1 + 1 - 100)).2 := by
  rw [show c1 + 1 - 100 = (c1 - 100) + 1 by omega, slP_n (by rw [← hm, show 100 + (c1 - 100) = c1 by omega]; exact Int32.not_lt.mpr h)]
  exact ⟨hb, hm⟩
theorem slH_y {t : List Nat} {c1 b : Nat} {m : Int32} (hc : 100 ≤ c1) (hb : b = (slP t (c1 - 100)).1) (hm : m = (slP t (c1 - 100)).2) (h : ¬ slF t c1 ≤ m) : c1 = (slP t (c1 + 1 - 100)).1 ∧ slF t c1 = (slP t (c1 + 1 - 100)).2 := by
  rw [show c1 + 1 - 100 = (c1 - 100) + 1 by omega, slP_y (by rw [← hm, show 100 + (c1 - 100) = c1 by omega]; exact Int32.not_le.mp h), show 100 + (c1 - 100) = c1 by omega]
  exact ⟨rfl, rfl⟩
def eTwo : Nat → Nat → Int32
  | 0, _ => (-2)
  | _, n => nI n
theorem covS {r t : List Nat} {p j : Nat} (hq : 0 < j → ftB r t p = true) (h : j = r.length ∨ ftB r t p = false) : cvN r t p ||| rbN p j = cvN r t (p + 1) := by
  show _ = cvN r t p ||| (if ftB r t p = true then rbN p r.length else 0)
  cases q : ftB r t p with
  | true =>
    rcases h with h | h
    · rw [if_pos rfl, h]
    · rw [q] at h; exact absurd h (by decide)
  | false =>
    have hj : j = 0 := Nat.eq_zero_of_not_pos (fun z => by rw [hq z] at q; exact absurd q (by decide))
    rw [if_neg (by decide), hj]
    rfl
theorem covB (r t : List Nat) (hr : r.length ≤ 10) : ∀ p : Nat, p ≤ 10 → cvN r t p < 2 ^ 20
  | 0, _ => by
    show 0 < 2 ^ 20
    decide
  | p + 1, hp => by
    show cvN r t p ||| (if ftB r t p = true then rbN p r.length else 0) < 2 ^ 20
    refine Nat.or_lt_two_pow (covB r t hr p (by omega)) ?_
    by_cases q : ftB r t p = true
    · rw [if_pos q]
      exact Nat.lt_of_lt_of_le (rbN_lt p r.length) (Nat.pow_le_pow_right (by decide) (by omega))
    · rw [if_neg q]; decide
