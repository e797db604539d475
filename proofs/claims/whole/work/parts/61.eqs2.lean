-- ===== 61.eqs2: doors, the next, the first, odds, the digest =====
def dob (T : Nat → List Nat) (hp hi : Nat → Nat) (b : Nat) : Nat → Bool | 0 => decide (T b ≠ []) | k + 1 => dob T hp hi b k && (decide (hp k ∈ T b) == decide (hi k = 1))
theorem lt_bi (T : Nat → List Nat) (hp hi : Nat → Nat) : ∀ n : Nat, ltN T hp hi n = biB (fun b => dob T hp hi b n) 8
  | 0 => by
    show bwoN T 0 8 = _
    rw [bwo_bi]
    refine bi_ext 8 (fun i _ => ?_)
    exact decide_eq_decide.mpr ⟨fun q => q.1, fun q => ⟨q, Nat.and_zero _⟩⟩
  | n + 1 => by
    refine bi_of (ltN_lt T hp hi (n + 1)) (fun b hb => ?_)
    show (if hi n = 1 then ltN T hp hi n &&& bwiN T (hp n) 8 else adN (ltN T hp hi n) (bwiN T (hp n) 8)).testBit b = (dob T hp hi b n && (decide (hp n ∈ T b) == decide (hi n = 1)))
    rw [lt_bi T hp hi n, bwi_bi]
    by_cases q : hi n = 1
    · rw [if_pos q, Nat.testBit_and, bi_bit, bi_bit, decide_eq_true hb, decide_eq_true q]
      cases dob T hp hi b n <;> cases decide (hp n ∈ T b) <;> rfl
    · rw [if_neg q]
      unfold adN
      rw [Nat.testBit_and, Nat.testBit_xor, bi_bit, bi_bit, decide_eq_true hb, decide_eq_false q, (ones_bit b (by omega)).2]
      cases dob T hp hi b n <;> cases decide (hp n ∈ T b) <;> rfl
theorem dr_bi (M : Nat → List Nat) (hs : Nat → Nat) (m : Nat) : ∀ n : Nat, drN M hs m n = biB (fun b => doB M hs b m) n
  | 0 => rfl
  | n + 1 => by
    show drN M hs m n ||| (if doB M hs n m = true then 2 ^ n else 0) = _
    rw [dr_bi M hs m n]
    rfl
abbrev sH (hp hi hs : Nat → Nat) (n : Nat) : Prop := ∀ k, k < n → hs (2 * k) = hp k ∧ hs (2 * k + 1) = hi k
theorem eq_do {T M : Nat → List Nat} (h : sT T M) {hp hi hs : Nat → Nat} {b : Nat} (hb : b < 8) : ∀ n : Nat, sH hp hi hs n → dob T hp hi b n = doB M hs b n
  | 0, _ => by
    show decide (T b ≠ []) = decide (M b ≠ [])
    rw [h b hb]
  | n + 1, hh => by
    show (dob T hp hi b n && (decide (hp n ∈ T b) == decide (hi n = 1))) = (doB M hs b n && (decide (hs (2 * n) ∈ M b) == decide (hs (2 * n + 1) = 1)))
    rw [eq_do h hb n (fun k hk => hh k (by omega)), h b hb, (hh n (Nat.lt_succ_self _)).1, (hh n (Nat.lt_succ_self _)).2]
theorem eq_door {T M : Nat → List Nat} (h : sT T M) {hp hi hs : Nat → Nat} {n : Nat} (hh : sH hp hi hs n) : ltN T hp hi n = drN M hs n 8 := by
  rw [lt_bi, dr_bi]
  exact bi_ext 8 (fun b hb => eq_do h hb n hh)
theorem and_bi {z : Nat} (q : Nat → Bool) (hz : z < 256) : z &&& biB q 8 = biB (fun b => z.testBit b && q b) 8 := by
  refine bi_of (Nat.lt_of_le_of_lt Nat.and_le_left hz) (fun i hi => ?_)
  rw [Nat.testBit_and, bi_bit, decide_eq_true hi]
  rfl
theorem ny_cn (M : Nat → List Nat) (z x : Nat) : ∀ n : Nat, nyN M z x n = cnB (fun b => z.testBit b && decide (x ∈ M b)) n
  | 0 => rfl
  | n + 1 => by
    show nyN M z x n + (if z / 2 ^ n % 2 = 1 ∧ x ∈ M n then 1 else 0) = cnB (fun b => z.testBit b && decide (x ∈ M b)) n + (if (z.testBit n && decide (x ∈ M n)) = true then 1 else 0)
    rw [ny_cn M z x n]
    by_cases q : z / 2 ^ n % 2 = 1 ∧ x ∈ M n
    · rw [if_pos q, if_pos (by rw [tb_div.mp q.1, decide_eq_true q.2]; rfl)]
    · rw [if_neg q, if_neg (fun w => q ⟨tb_div.mpr ((Bool.and_eq_true _ _).mp w).1, of_decide_eq_true ((Bool.and_eq_true _ _).mp w).2⟩)]
theorem eq_gr {T M : Nat → List Nat} (h : sT T M) {z : Nat} (hz : z < 256) (x : Nat) : grC T z x = grN M z x := by
  have e : popN (z &&& bwiN T x 8) = nyN M z x 8 := by
    rw [bwi_bi, and_bi _ hz, pop_bi _ 8 (by decide), ny_cn]
    exact cn_ext 8 (fun i hi => by rw [h i hi])
  have hle : popN (z &&& bwiN T x 8) ≤ popN z := popN_and _ _
  unfold grC grN
  rw [e] at hle ⊢
  by_cases q : popN z < 2 * nyN M z x 8
  · rw [if_pos q]; omega
  · rw [if_neg q]; omega
theorem eq_nx {T M : Nat → List Nat} (h : sT T M) {z : Nat} (hz : z < 256) : ∀ n : Nat, nxG (grC T z) n = nxP M z n
  | 0 => rfl
  | n + 1 => by
    show (if grC T z n < (nxG (grC T z) n).2 then (nI n, grC T z n) else nxG (grC T z) n) = (if grN M z n < (nxP M z n).2 then (nI n, grN M z n) else nxP M z n)
    rw [eq_nx h hz n, eq_gr h hz n]
theorem eq_next {T M : Nat → List Nat} (h : sT T M) {hp hi hs : Nat → Nat} {n : Nat} (hh : sH hp hi hs n) : nxC T (ltN T hp hi n) = nxI M (drN M hs n 8) := by
  rw [← eq_door h hh]
  unfold nxC nxI
  rw [eq_nx h (ltN_lt T hp hi n)]
-- the first
theorem sf_md {T M : Nat → List Nat} (h : sT T M) {k : Nat} (hk : k < 8) : ∀ n : Nat, n ≤ 8 → sfN T k n = mdS M k n
  | 0, _ => rfl
  | n + 1, hn => by
    show (if n ≠ k ∧ T n ≠ [] then sfN T k n + dsT (T k) (T n) else sfN T k n) = mdS M k n + (if M n = [] then 0 else dsT (M k) (M n))
    rw [sf_md h hk n (by omega), h n (by omega), h k hk]
    by_cases q : T n = []
    · rw [if_pos q, if_neg (fun z => z.2 q), Nat.add_zero]
    · rw [if_neg q]
      by_cases e : n = k
      · subst e
        rw [if_neg (fun z => z.1 rfl)]
        show _ = mdS M n n + dis (T n) (T n) (T n).length (T n).length
        rw [dis_self, Nat.add_zero]
      · rw [if_pos ⟨e, q⟩]
def opF : Option (Nat × Nat) → Int32 × Nat | none => ((-1), 1000000) | some q => (nI q.1, q.2)
theorem f1_f2 {T M : Nat → List Nat} (h : sT T M) (hT : ∀ k, okT (T k)) : ∀ n : Nat, n ≤ 8 → f2S M n = opF (f1S T n)
  | 0, _ => rfl
  | n + 1, hn => by
    have hle := sfN_le hT n 8
    have e : sfN T n 8 = mdS M n 8 := sf_md h (by omega) 8 (Nat.le_refl _)
    have hM : M n = T n := h n (by omega)
    have ih := f1_f2 h hT n (by omega)
    show (if M n ≠ [] ∧ mdS M n 8 < (f2S M n).2 then (nI n, mdS M n 8) else f2S M n) = _
    rw [hM, ← e, ih]
    by_cases q : T n = []
    · rw [if_neg (fun z => z.1 q), f1S_0 q]
    · cases c : f1S T n with
      | none =>
        rw [f1S_n q c, if_pos ⟨q, by show sfN T n 8 < 1000000; omega⟩]
        rfl
      | some w =>
        by_cases z : sfN T n 8 < w.2
        · rw [f1S_y q c z, if_pos ⟨q, z⟩]
          rfl
        · rw [f1S_k q c z, if_neg (fun v => z v.2), c]
theorem opA_n {k : Nat} (h : k < 8) : nI k ≠ (-1 : Int32) := (show ∀ k, k < 8 → nI k ≠ (-1 : Int32) by decide +kernel) k h
theorem eq_first {T M : Nat → List Nat} (h : sT T M) (hT : ∀ k, okT (T k)) (k w : Nat) : eFs k w (f1S T 8) = eF2 k w (f2S M 8) := by
  rw [f1_f2 h hT 8 (Nat.le_refl _)]
  cases k with
  | zero => rfl
  | succ k =>
    cases c : f1S T 8 with
    | none =>
      have e : eF2 (k + 1) w (opF none) = (-1) := if_pos (Or.inr rfl)
      rw [e]
      cases w <;> rfl
    | some q =>
      have hq := f1S_lt hT c
      cases w with
      | zero =>
        have e : eF2 (k + 1) 0 (opF (some q)) = nI q.1 := by
          show (if (0 : Nat) = 0 ∨ (opF (some q)).1 = (-1) then (opF (some q)).1 else nI (opF (some q)).2) = nI q.1
          rw [if_pos (Or.inl rfl)]
          rfl
        rw [e]
        rfl
      | succ w =>
        have e : eF2 (k + 1) (w + 1) (opF (some q)) = nI q.2 := if_neg (fun z => by
          rcases z with z | z
          · omega
          · exact opA_n hq.1 z)
        rw [e]
        rfl
-- odds
theorem cs_pow (c k w : Nat) : ∀ j : Nat, csL c k w j = w * (c ^ min j k * (10 - c) ^ (j - k))
  | 0 => by
    show w = _
    rw [Nat.zero_min, Nat.zero_sub, Nat.pow_zero, Nat.pow_zero, Nat.mul_one]
  | j + 1 => by
    show csL c k w j * (if j < k then c else 10 - c) = _
    rw [cs_pow c k w j]
    by_cases q : j < k
    · rw [if_pos q, Nat.min_eq_left (by omega), Nat.min_eq_left (by omega), show j - k = 0 by omega, show j + 1 - k = 0 by omega, Nat.pow_zero, Nat.mul_one, Nat.mul_one, Nat.pow_succ, Nat.mul_assoc]
    · rw [if_neg q, Nat.min_eq_right (by omega), Nat.min_eq_right (by omega), show j + 1 - k = (j - k) + 1 by omega, Nat.pow_succ (10 - c), Nat.mul_assoc, Nat.mul_assoc]
theorem st_fl : ∀ size, size < 11 → ∀ like, like < size + 1 → ∀ k, k < 5 → (if like = 0 then 0 else stN size like (min k size)) * flN size like = 5040 * (flN size like - flN (min k size) like) := by decide +kernel
theorem sm_ke {size like n c : Nat} (hs : size ≤ 10) (hl : like ≤ size) (hn : n ≤ 4) : ∀ k : Nat, k ≤ n + 1 → smN size like n c k * flN size like = 5040 * keN size like n c k
  | 0, _ => by rw [show smN size like n c 0 = 0 from rfl, Nat.zero_mul]; rfl
  | k + 1, hk => by
    show (smN size like n c k + (if like = 0 then 0 else csL c k (chN n k) n * stN size like (min k size))) * flN size like = 5040 * (keN size like n c k + chL n k * c ^ k * (10 - c) ^ (n - k) * (flN size like - flN (min k size) like))
    have h1 := st_fl size (by omega) like (by omega) k (by omega)
    have e1 : csL c k (chN n k) n = chL n k * c ^ k * (10 - c) ^ (n - k) := by
      rw [cs_pow, Nat.min_eq_right (show k ≤ n by omega), Nat.mul_assoc]
      have e9 : chN n k = chL n k := if_pos (by omega)
      rw [e9]
    have e2 : (if like = 0 then 0 else csL c k (chN n k) n * stN size like (min k size)) = csL c k (chN n k) n * (if like = 0 then 0 else stN size like (min k size)) := by
      by_cases q : like = 0
      · rw [if_pos q, if_pos q, Nat.mul_zero]
      · rw [if_neg q, if_neg q]
    rw [Nat.add_mul, Nat.mul_add, sm_ke hs hl hn k (by omega), e2, Nat.mul_assoc, h1, e1, Nat.mul_left_comm]
theorem cop_eq {a b c d : Nat} (hb : 0 < b) (hd : 0 < d) (h : a * d = c * b) (h1 : Nat.Coprime a b) (h2 : Nat.Coprime c d) : a = c ∧ b = d := by
  have x1 : a ∣ c := h1.dvd_of_dvd_mul_right (k := a) (m := c) (n := b) (by rw [← h]; exact Nat.dvd_mul_right a d)
  have x2 : c ∣ a := h2.dvd_of_dvd_mul_right (k := c) (m := a) (n := d) (by rw [h]; exact Nat.dvd_mul_right c b)
  have x3 : b ∣ d := h1.symm.dvd_of_dvd_mul_left (k := b) (m := a) (n := d) (by rw [h]; exact Nat.dvd_mul_left b c)
  have x4 : d ∣ b := h2.symm.dvd_of_dvd_mul_left (k := d) (m := c) (n := b) (by rw [← h]; exact Nat.dvd_mul_left d a)
  exact ⟨Nat.dvd_antisymm x1 x2, Nat.dvd_antisymm x3 x4⟩
theorem red_eq {p q p2 q2 : Nat} (hq : 0 < q) (hq2 : 0 < q2) (h : p * q2 = p2 * q) : p / Nat.gcd p q = p2 / Nat.gcd p2 q2 ∧ q / Nat.gcd p q = q2 / Nat.gcd p2 q2 := by
  have g1 : 0 < Nat.gcd p q := Nat.gcd_pos_of_pos_right _ hq
  have g2 : 0 < Nat.gcd p2 q2 := Nat.gcd_pos_of_pos_right _ hq2
  have d1 := Nat.div_mul_cancel (Nat.gcd_dvd_left p q)
  have d2 := Nat.div_mul_cancel (Nat.gcd_dvd_right p q)
  have d3 := Nat.div_mul_cancel (Nat.gcd_dvd_left p2 q2)
  have d4 := Nat.div_mul_cancel (Nat.gcd_dvd_right p2 q2)
  have c1 := Nat.coprime_div_gcd_div_gcd g1
  have c2 := Nat.coprime_div_gcd_div_gcd g2
  generalize p / Nat.gcd p q = a at d1 c1 ⊢
  generalize q / Nat.gcd p q = b at d2 c1 ⊢
  generalize p2 / Nat.gcd p2 q2 = c at d3 c2 ⊢
  generalize q2 / Nat.gcd p2 q2 = d at d4 c2 ⊢
  generalize Nat.gcd p q = g at g1 d1 d2
  generalize Nat.gcd p2 q2 = g' at g2 d3 d4
  have hb : 0 < b := by
    rcases Nat.eq_zero_or_pos b with z | z
    · rw [z, Nat.zero_mul] at d2; omega
    · exact z
  have hd : 0 < d := by
    rcases Nat.eq_zero_or_pos d with z | z
    · rw [z, Nat.zero_mul] at d4; omega
    · exact z
  refine cop_eq hb hd ?_ c1 c2
  rw [← d1, ← d2, ← d3, ← d4] at h
  have h5 : a * d * (g * g') = c * b * (g * g') := by
    calc a * d * (g * g') = a * g * (d * g') := by rw [Nat.mul_mul_mul_comm]
      _ = c * g' * (b * g) := h
      _ = c * b * (g * g') := by rw [Nat.mul_mul_mul_comm, Nat.mul_comm g' g]
  exact Nat.eq_of_mul_eq_mul_right (Nat.mul_pos g1 g2) h5
theorem eq_odds {t : List Nat} (ht : okT t) (x : Nat) {n c : Nat} (hn : n ≤ 4) : keT t x n c / Nat.gcd (keT t x n c) (kqT t x n) = frA t x n c / Nat.gcd (frA t x n c) (5040 * 10 ^ n) ∧ kqT t x n / Nat.gcd (keT t x n c) (kqT t x n) = 5040 * 10 ^ n / Nat.gcd (frA t x n c) (5040 * 10 ^ n) := by
  have hl := cntN_le t x t.length
  have hf := (flN_ok t.length (by have := ht.1; omega) (cntN t x t.length) (by have := ht.1; omega)).2 hl
  have hp : 0 < 10 ^ n := Nat.pow_pos (by decide)
  refine red_eq (Nat.mul_pos hp hf) (Nat.mul_pos (by decide) hp) ?_
  have h := sm_ke (c := c) ht.1 hl hn (n + 1) (Nat.le_refl _)
  show keN t.length (cntN t x t.length) n c (n + 1) * (5040 * 10 ^ n) = smN t.length (cntN t x t.length) n c (n + 1) * (10 ^ n * flN t.length (cntN t x t.length))
  rw [Nat.mul_left_comm (smN t.length (cntN t x t.length) n c (n + 1)), h, ← Nat.mul_assoc, Nat.mul_comm (keN t.length (cntN t x t.length) n c (n + 1)), Nat.mul_comm]
-- the digest
theorem eq_dg2 {T M : Nat → List Nat} {P Q : Nat → Int32} (h : sT T M) (hP : ∀ k, k < 8 → Q k = P k) (g : Int64) : ∀ n : Nat, n ≤ 8 → dg2 T P g n = dg2 M Q g n
  | 0, _ => rfl
  | n + 1, hn => by
    show lN 31 * dgT (T n) (lN 31 * dg2 T P g n + lN (T n).length) (T n).length + (P n).toInt64 = lN 31 * dgT (M n) (lN 31 * dg2 M Q g n + lN (M n).length) (M n).length + (Q n).toInt64
    rw [eq_dg2 h hP g n (by omega), h n (by omega), hP n (by omega)]
theorem eq_dg3 {hp hi hs : Nat → Nat} (g : Int64) : ∀ n : Nat, sH hp hi hs n → deE hp hi g n = dg3 hs g (2 * n)
  | 0, _ => rfl
  | n + 1, hh => by
    show lN 31 * (lN 31 * deE hp hi g n + lN (hp n)) + lN (hi n) = dg3 hs g (2 * (n + 1))
    rw [show 2 * (n + 1) = 2 * n + 1 + 1 by omega]
    show _ = lN 31 * (lN 31 * dg3 hs g (2 * n) + lN (hs (2 * n))) + lN (hs (2 * n + 1))
    rw [eq_dg3 g n (fun k hk => hh k (by omega)), (hh n (Nat.lt_succ_self _)).1, (hh n (Nat.lt_succ_self _)).2]
theorem eq_dig {T M : Nat → List Nat} {P Q : Nat → Int32} {hp hi hs : Nat → Nat} {row : List Nat} {hc un bl : Nat} {fa fb : Int64} (h : sT T M) (hP : ∀ k, k < 8 → Q k = P k) (hr : M 8 = row) (hh : sH hp hi hs hc) :
    dgC (fun w => cnW w (popN (bwoN T 0 8)) (plT T 8) row.length hc un bl) T P row hp hi hc fa fb = dgA (fun w => cnW w (tdN M 8) (plT M 8) (M 8).length hc un bl) M Q (M 8) hs (2 * hc) fa fb := by
  unfold dgC dgA
  rw [hr, eq_told h, eq_plT h 8 (Nat.le_refl _), eq_dg2 h hP _ 8 (Nat.le_refl _), eq_dg3 _ hc hh]
