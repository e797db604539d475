-- ===== 60.eqs: the two sides answer alike: sets as numbers =====
def biB (p : Nat → Bool) : Nat → Nat | 0 => 0 | i + 1 => biB p i ||| (if p i = true then 2 ^ i else 0)
def cnB (p : Nat → Bool) : Nat → Nat | 0 => 0 | i + 1 => cnB p i + (if p i = true then 1 else 0)
theorem biB_lt (p : Nat → Bool) : ∀ i : Nat, biB p i < 2 ^ i
  | 0 => Nat.two_pow_pos 0
  | i + 1 => bit_lt (biB_lt p i)
theorem pop_bit : ∀ (f i r : Nat), r < 2 ^ i → i < f → popF f (r ||| 2 ^ i) = popF f r + 1
  | 0, i, r, _, h => absurd h (Nat.not_lt_zero _)
  | f + 1, 0, r, h, _ => by
    have e : r = 0 := by rw [Nat.pow_zero] at h; omega
    rw [e]
    show (0 ||| 1) % 2 + popF f ((0 ||| 1) / 2) = 0 % 2 + popF f (0 / 2) + 1
    rw [Nat.zero_or, show 1 / 2 = 0 from rfl, popF_0]
  | f + 1, i + 1, r, h, h2 => by
    show (r ||| 2 ^ (i + 1)) % 2 + popF f ((r ||| 2 ^ (i + 1)) / 2) = r % 2 + popF f (r / 2) + 1
    have e1 : (r ||| 2 ^ (i + 1)) / 2 = r / 2 ||| 2 ^ i := by
      rw [Nat.or_div_two, Nat.pow_succ, Nat.mul_div_cancel _ (by decide)]
    have e2 : (r ||| 2 ^ (i + 1)) % 2 = r % 2 := by
      have z := Nat.or_mod_two_pow (a := r) (b := 2 ^ (i + 1)) (n := 1)
      rw [Nat.pow_one] at z
      rw [z, Nat.pow_succ, Nat.mul_mod_left, Nat.or_zero]
    have h3 : r / 2 < 2 ^ i := by rw [Nat.pow_succ] at h; omega
    rw [e1, e2, pop_bit f i (r / 2) h3 (by omega)]
    omega
theorem pop_bi (p : Nat → Bool) : ∀ i : Nat, i ≤ 32 → popN (biB p i) = cnB p i
  | 0, _ => popF_0 32
  | i + 1, h => by
    show popN (biB p i ||| (if p i = true then 2 ^ i else 0)) = cnB p i + (if p i = true then 1 else 0)
    by_cases q : p i = true
    · rw [if_pos q, if_pos q, ← pop_bi p i (by omega)]
      exact pop_bit 32 i _ (biB_lt p i) (by omega)
    · rw [if_neg q, if_neg q, Nat.or_zero, Nat.add_zero]
      exact pop_bi p i (by omega)
theorem bi_bit (p : Nat → Bool) (x : Nat) : ∀ i : Nat, (biB p i).testBit x = (decide (x < i) && p x)
  | 0 => by
    show (0 : Nat).testBit x = _
    rw [Nat.zero_testBit, decide_eq_false (Nat.not_lt_zero _)]
    rfl
  | i + 1 => by
    show (biB p i ||| (if p i = true then 2 ^ i else 0)).testBit x = _
    rw [Nat.testBit_or, bi_bit p x i]
    by_cases q : p i = true
    · rw [if_pos q, Nat.testBit_two_pow]
      by_cases e : i = x
      · subst e
        rw [decide_eq_true (Nat.lt_succ_self i), decide_eq_true (rfl : i = i), q, Bool.or_true]
        rfl
      · rw [decide_eq_false e, Bool.or_false]
        by_cases z : x < i
        · rw [decide_eq_true z, decide_eq_true (Nat.lt_succ_of_lt z)]
        · rw [decide_eq_false z, decide_eq_false (by omega)]
    · rw [if_neg q, Nat.zero_testBit, Bool.or_false]
      by_cases e : x = i
      · subst e
        have q2 : p x = false := by cases z : p x with | true => exact absurd z q | false => rfl
        rw [q2, Bool.and_false, Bool.and_false]
      · by_cases z : x < i
        · rw [decide_eq_true z, decide_eq_true (Nat.lt_succ_of_lt z)]
        · rw [decide_eq_false z, decide_eq_false (by omega)]
theorem bi_ext {p q : Nat → Bool} : ∀ n : Nat, (∀ i, i < n → p i = q i) → biB p n = biB q n
  | 0, _ => rfl
  | n + 1, h => by
    show biB p n ||| (if p n = true then 2 ^ n else 0) = biB q n ||| (if q n = true then 2 ^ n else 0)
    rw [bi_ext n (fun i hi => h i (by omega)), h n (Nat.lt_succ_self _)]
theorem cn_ext {p q : Nat → Bool} : ∀ n : Nat, (∀ i, i < n → p i = q i) → cnB p n = cnB q n
  | 0, _ => rfl
  | n + 1, h => by
    show cnB p n + (if p n = true then 1 else 0) = cnB q n + (if q n = true then 1 else 0)
    rw [cn_ext n (fun i hi => h i (by omega)), h n (Nat.lt_succ_self _)]
theorem cn_tr {p : Nat → Bool} {m : Nat} (h : ∀ i, m ≤ i → p i = false) : ∀ n : Nat, m ≤ n → cnB p n = cnB p m
  | 0, hm => by rw [Nat.le_zero.mp hm]
  | n + 1, hm => by
    by_cases e : m = n + 1
    · rw [e]
    · show cnB p n + (if p n = true then 1 else 0) = cnB p m
      rw [h n (by omega), if_neg (by decide), cn_tr h n (by omega), Nat.add_zero]
theorem bi_of {p : Nat → Bool} {n z : Nat} (hz : z < 2 ^ n) (h : ∀ i, i < n → z.testBit i = p i) : z = biB p n := by
  refine Nat.eq_of_testBit_eq (fun i => ?_)
  rw [bi_bit]
  by_cases q : i < n
  · rw [decide_eq_true q, h i q]
    rfl
  · rw [decide_eq_false q, Nat.testBit_lt_two_pow (Nat.lt_of_lt_of_le hz (Nat.pow_le_pow_right (by decide) (by omega)))]
    rfl
-- houses that are the same as far as eight branches
abbrev sT (T M : Nat → List Nat) : Prop := ∀ k, k < 8 → M k = T k
theorem bwo_bi (T : Nat → List Nat) (z : Nat) : ∀ n : Nat, bwoN T z n = biB (fun i => decide (T i ≠ [] ∧ kN (T i) &&& z = 0)) n
  | 0 => rfl
  | n + 1 => by
    show bwoN T z n ||| (if T n ≠ [] ∧ kN (T n) &&& z = 0 then 2 ^ n else 0) = biB (fun i => decide (T i ≠ [] ∧ kN (T i) &&& z = 0)) n ||| (if decide (T n ≠ [] ∧ kN (T n) &&& z = 0) = true then 2 ^ n else 0)
    rw [bwo_bi T z n]
    by_cases q : T n ≠ [] ∧ kN (T n) &&& z = 0
    · rw [if_pos q, if_pos (decide_eq_true q)]
    · rw [if_neg q, if_neg (fun w => q (of_decide_eq_true w))]
theorem bwi_bi (T : Nat → List Nat) (x : Nat) : ∀ n : Nat, bwiN T x n = biB (fun i => decide (x ∈ T i)) n
  | 0 => rfl
  | n + 1 => by
    show bwiN T x n ||| (if x ∈ T n then 2 ^ n else 0) = biB (fun i => decide (x ∈ T i)) n ||| (if decide (x ∈ T n) = true then 2 ^ n else 0)
    rw [bwi_bi T x n]
    by_cases q : x ∈ T n
    · rw [if_pos q, if_pos (decide_eq_true q)]
    · rw [if_neg q, if_neg (fun w => q (of_decide_eq_true w))]
theorem td_cn (T : Nat → List Nat) : ∀ n : Nat, tdN T n = cnB (fun i => decide (T i ≠ [])) n
  | 0 => rfl
  | n + 1 => by
    show tdN T n + (if T n = [] then 0 else 1) = cnB (fun i => decide (T i ≠ [])) n + (if decide (T n ≠ []) = true then 1 else 0)
    rw [td_cn T n]
    by_cases q : T n = []
    · rw [if_pos q, if_neg (show ¬ (decide (T n ≠ []) = true) from fun w => (of_decide_eq_true w : T n ≠ []) q)]
    · rw [if_neg q, if_pos (decide_eq_true q)]
theorem eq_told {T M : Nat → List Nat} (h : sT T M) : popN (bwoN T 0 8) = tdN M 8 := by
  rw [bwo_bi, pop_bi _ 8 (by decide), td_cn]
  refine cn_ext 8 (fun i hi => ?_)
  rw [h i hi]
  refine decide_eq_decide.mpr ⟨fun q => q.1, fun q => ⟨q, Nat.and_zero _⟩⟩
theorem eq_bwo {T M : Nat → List Nat} (h : sT T M) (z : Nat) : bwoN T z 8 = bwoN M z 8 := by
  rw [bwo_bi, bwo_bi]
  exact bi_ext 8 (fun i hi => by rw [h i hi])
theorem eq_kt {T M : Nat → List Nat} (h : sT T M) (z : Nat) : ∀ n : Nat, n ≤ 8 → ktN T z n = ktN M z n
  | 0, _ => rfl
  | n + 1, hn => by
    show (if z / 2 ^ n % 2 = 1 then ktN T z n ||| kN (T n) else ktN T z n) = (if z / 2 ^ n % 2 = 1 then ktN M z n ||| kN (M n) else ktN M z n)
    rw [eq_kt h z n (by omega), h n (by omega)]
theorem eq_fo {T M : Nat → List Nat} (h : sT T M) (z : Nat) : ∀ n : Nat, foT T z n = foT M z n
  | 0 => rfl
  | n + 1 => by
    show (if nI z &&& (nI (ktN T n 8) ^^^ (-1)) = 0 ∧ fbet (foT T z n) n = true then some n else foT T z n) = (if nI z &&& (nI (ktN M n 8) ^^^ (-1)) = 0 ∧ fbet (foT M z n) n = true then some n else foT M z n)
    rw [eq_kt h n 8 (Nat.le_refl _), eq_fo h z n]
theorem eq_pl {T M : Nat → List Nat} (h : sT T M) : ∀ f b : Nat, b + f ≤ 8 → plI T b f = plI M b f
  | 0, _, _ => rfl
  | f + 1, b, hb => by
    show (if T b ≠ [] ∧ ¬ 9 ∈ T b then nI b else plI T (b + 1) f) = (if M b ≠ [] ∧ ¬ 9 ∈ M b then nI b else plI M (b + 1) f)
    rw [h b (by omega), eq_pl h f (b + 1) (by omega)]
theorem eq_plT {T M : Nat → List Nat} (h : sT T M) : ∀ n : Nat, n ≤ 8 → plT T n = plT M n
  | 0, _ => rfl
  | n + 1, hn => by
    show plT T n + (T n).length = plT M n + (M n).length
    rw [eq_plT h n (by omega), h n (by omega)]
-- fits
theorem pl_bi (r t : List Nat) : ∀ n : Nat, plN r t n = biB (fun i => stB r t i r.length) n
  | 0 => rfl
  | n + 1 => by
    show plN r t n ||| (if stB r t n r.length = true then 2 ^ n else 0) = _
    rw [pl_bi r t n]
    rfl
theorem ft_cn (r t : List Nat) : ∀ n : Nat, ftN r t n = cnB (ftB r t) n
  | 0 => rfl
  | n + 1 => by
    show ftN r t n + (if ftB r t n = true then 1 else 0) = _
    rw [ft_cn r t n]
    rfl
theorem ftB_lo {r t : List Nat} {i : Nat} (h : i < t.length + 1 - r.length) : ftB r t i = stB r t i r.length := by
  unfold ftB
  rw [decide_eq_true (show i + r.length ≤ t.length by omega)]
  rfl
theorem ftB_hi {r t : List Nat} {i : Nat} (h : t.length + 1 - r.length ≤ i) : ftB r t i = false := by
  unfold ftB
  rw [decide_eq_false (show ¬ i + r.length ≤ t.length by omega)]
  rfl
theorem eq_fits (r t : List Nat) (ht : t.length ≤ 10) : popN (plA r t) = ftN r t (t.length + 1) := by
  unfold plA
  rw [pl_bi, pop_bi _ _ (by omega), ft_cn, cn_tr (fun i hi => ftB_hi hi) (t.length + 1) (Nat.sub_le _ _)]
  exact cn_ext _ (fun i hi => (ftB_lo hi).symm)
theorem f1_no {r t : List Nat} : ∀ n : Nat, (∀ j, j < n → ftB r t j = false) → f1I r t n = (-1) ∧ ftN r t n = 0
  | 0, _ => ⟨rfl, rfl⟩
  | n + 1, h => by
    obtain ⟨h1, h2⟩ := f1_no n (fun j hj => h j (by omega))
    have hn := h n (Nat.lt_succ_self _)
    refine ⟨?_, ?_⟩
    · show (if ftB r t n = true ∧ ftN r t n = 0 then nI n else f1I r t n) = (-1)
      rw [if_neg (fun q => by rw [hn] at q; exact absurd q.1 (by decide))]
      exact h1
    · show ftN r t n + (if ftB r t n = true then 1 else 0) = 0
      rw [h2, hn]
      rfl
theorem f1_yes {r t : List Nat} {k : Nat} (hk : ftB r t k = true) (hl : ∀ j, j < k → ftB r t j = false) : ∀ n : Nat, k < n → f1I r t n = nI k ∧ ftN r t n ≠ 0
  | 0, h => absurd h (Nat.not_lt_zero _)
  | n + 1, h => by
    by_cases e : k = n
    · subst e
      obtain ⟨h1, h2⟩ := f1_no k hl
      refine ⟨if_pos ⟨hk, h2⟩, ?_⟩
      show ftN r t k + (if ftB r t k = true then 1 else 0) ≠ 0
      rw [if_pos hk]
      omega
    · obtain ⟨h1, h2⟩ := f1_yes hk hl n (by omega)
      refine ⟨?_, ?_⟩
      · show (if ftB r t n = true ∧ ftN r t n = 0 then nI n else f1I r t n) = nI k
        rw [if_neg (fun q => h2 q.2)]
        exact h1
      · show ftN r t n + (if ftB r t n = true then 1 else 0) ≠ 0
        omega
theorem first_ex (p : Nat → Bool) : ∀ n : Nat, (∀ j, j < n → p j = false) ∨ ∃ k, k < n ∧ p k = true ∧ ∀ j, j < k → p j = false
  | 0 => Or.inl (fun j h => absurd h (Nat.not_lt_zero _))
  | n + 1 => by
    rcases first_ex p n with h | ⟨k, h1, h2, h3⟩
    · cases q : p n with
      | true => exact Or.inr ⟨n, Nat.lt_succ_self _, q, h⟩
      | false => exact Or.inl (fun j hj => by
          by_cases e : j = n
          · rw [e]; exact q
          · exact h j (by omega))
    · exact Or.inr ⟨k, by omega, h2, h3⟩
theorem tb_div {a k : Nat} : a / 2 ^ k % 2 = 1 ↔ a.testBit k = true := by
  rw [Nat.testBit_eq_decide_div_mod_eq]
  exact ⟨fun h => decide_eq_true h, fun h => of_decide_eq_true h⟩
theorem eq_fits1 (r t : List Nat) (ht : t.length ≤ 10) : lowI (plA r t) = f1I r t (t.length + 1) := by
  unfold plA
  rw [pl_bi]
  rcases first_ex (ftB r t) (t.length + 1) with h | ⟨k, h1, h2, h3⟩
  · rw [(f1_no _ h).1]
    refine lowI_none (fun j _ q => ?_)
    rw [tb_div, bi_bit] at q
    have q2 := (Bool.and_eq_true _ _).mp q
    have hj := of_decide_eq_true q2.1
    have := h j (by omega)
    rw [ftB_lo hj, q2.2] at this
    exact absurd this (by decide)
  · rw [(f1_yes h2 h3 _ h1).1]
    have hk : k < t.length + 1 - r.length := by
      rcases Nat.lt_or_ge k (t.length + 1 - r.length) with q | q
      · exact q
      · rw [ftB_hi q] at h2; exact absurd h2 (by decide)
    refine lowI_at ?_ (fun j hj q => ?_) (by omega)
    · rw [tb_div, bi_bit, decide_eq_true hk, ← ftB_lo hk, h2]
      rfl
    · rw [tb_div, bi_bit] at q
      have q2 := (Bool.and_eq_true _ _).mp q
      have := h3 j hj
      rw [ftB_lo (by omega), q2.2] at this
      exact absurd this (by decide)
-- covers
theorem un_bit (a x : Nat) : ∀ n : Nat, (unN a n).testBit x = true ↔ ∃ i, i < n ∧ i ≤ x ∧ a.testBit (x - i) = true
  | 0 => by
    show (0 : Nat).testBit x = true ↔ _
    rw [Nat.zero_testBit]
    exact ⟨fun h => absurd h (by decide), fun ⟨i, h, _⟩ => absurd h (Nat.not_lt_zero _)⟩
  | n + 1 => by
    show (unN a n ||| a * 2 ^ n).testBit x = true ↔ _
    rw [Nat.testBit_or, Bool.or_eq_true, un_bit a x n, Nat.mul_comm, Nat.testBit_two_pow_mul]
    constructor
    · rintro (⟨i, h1, h2, h3⟩ | h)
      · exact ⟨i, by omega, h2, h3⟩
      · have h2 := (Bool.and_eq_true _ _).mp h
        exact ⟨n, Nat.lt_succ_self _, of_decide_eq_true h2.1, h2.2⟩
    · rintro ⟨i, h1, h2, h3⟩
      by_cases e : i = n
      · subst e
        exact Or.inr (by rw [decide_eq_true h2, h3]; rfl)
      · exact Or.inl ⟨i, by omega, h2, h3⟩
theorem rb_bit (p x : Nat) : ∀ n : Nat, (rbN p n).testBit x = true ↔ p ≤ x ∧ x < p + n
  | 0 => by
    show (0 : Nat).testBit x = true ↔ _
    rw [Nat.zero_testBit]
    exact ⟨fun h => absurd h (by decide), fun h => absurd h (by omega)⟩
  | n + 1 => by
    show (rbN p n ||| 2 ^ (p + n)).testBit x = true ↔ _
    rw [Nat.testBit_or, Bool.or_eq_true, rb_bit p x n, Nat.testBit_two_pow]
    constructor
    · rintro (h | h)
      · omega
      · have := of_decide_eq_true h; omega
    · intro h
      by_cases e : p + n = x
      · exact Or.inr (decide_eq_true e)
      · exact Or.inl (by omega)
theorem cv_bit (r t : List Nat) (x : Nat) : ∀ n : Nat, (cvN r t n).testBit x = true ↔ ∃ q, q < n ∧ ftB r t q = true ∧ q ≤ x ∧ x < q + r.length
  | 0 => by
    show (0 : Nat).testBit x = true ↔ _
    rw [Nat.zero_testBit]
    exact ⟨fun h => absurd h (by decide), fun ⟨i, h, _⟩ => absurd h (Nat.not_lt_zero _)⟩
  | n + 1 => by
    show (cvN r t n ||| (if ftB r t n = true then rbN n r.length else 0)).testBit x = true ↔ _
    rw [Nat.testBit_or, Bool.or_eq_true, cv_bit r t x n]
    by_cases z : ftB r t n = true
    · rw [if_pos z, rb_bit]
      constructor
      · rintro (⟨q, h1, h2, h3⟩ | h)
        · exact ⟨q, by omega, h2, h3⟩
        · exact ⟨n, Nat.lt_succ_self _, z, h⟩
      · rintro ⟨q, h1, h2, h3⟩
        by_cases e : q = n
        · subst e; exact Or.inr h3
        · exact Or.inl ⟨q, by omega, h2, h3⟩
    · rw [if_neg z, Nat.zero_testBit]
      constructor
      · rintro (⟨q, h1, h2, h3⟩ | h)
        · exact ⟨q, by omega, h2, h3⟩
        · exact absurd h (by decide)
      · rintro ⟨q, h1, h2, h3⟩
        by_cases e : q = n
        · subst e; exact absurd h2 z
        · exact Or.inl ⟨q, by omega, h2, h3⟩
theorem eq_cov {r t : List Nat} (hr : 0 < r.length) : unN (plA r t) r.length = cvN r t t.length := by
  refine Nat.eq_of_testBit_eq (fun x => ?_)
  refine Bool.eq_iff_iff.mpr ?_
  rw [un_bit, cv_bit]
  unfold plA
  rw [pl_bi]
  constructor
  · rintro ⟨i, h1, h2, h3⟩
    rw [bi_bit] at h3
    have h4 := (Bool.and_eq_true _ _).mp h3
    have h5 := of_decide_eq_true h4.1
    exact ⟨x - i, by omega, by rw [ftB_lo h5]; exact h4.2, by omega, by omega⟩
  · rintro ⟨q, h1, h2, h3, h4⟩
    have h5 : q < t.length + 1 - r.length := by
      rcases Nat.lt_or_ge q (t.length + 1 - r.length) with z | z
      · exact z
      · rw [ftB_hi z] at h2; exact absurd h2 (by decide)
    refine ⟨x - q, by omega, by omega, ?_⟩
    rw [show x - (x - q) = q by omega, bi_bit, decide_eq_true h5, ← ftB_lo h5, h2]
    rfl
theorem eq_covers (r t : List Nat) : (if covC t r = true then 1 else 0) = cvI r t := by
  unfold cvI covC
  by_cases h : r = []
  · rw [if_neg (fun q => (of_decide_eq_true q).1 h), if_neg (fun q => by rw [h] at q; exact absurd q.1 (Nat.lt_irrefl _))]
  · have hr : 0 < r.length := List.length_pos_iff.mpr h
    rw [eq_cov hr]
    by_cases q : cvN r t t.length = 2 ^ t.length - 1
    · rw [if_pos (decide_eq_true ⟨h, q⟩), if_pos ⟨hr, q⟩]
    · rw [if_neg (fun z => q (of_decide_eq_true z).2), if_neg (fun z => q z.2)]
