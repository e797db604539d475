-- ===== 43.mtok: the reference's tokens =====
theorem inN {v lo hi : Nat} (h1 : v < 2147483648) (h2 : lo < 2147483648) (h3 : hi < 2147483648) : decide (¬ lN v < lN lo ∧ ¬ lN hi < lN v) = decide (lo ≤ v ∧ v ≤ hi) := by
  refine decide_eq_decide.mpr ?_
  rw [lN_lt (by omega) (by omega), lN_lt (by omega) (by omega)]
  omega
theorem isL_n {b : Bool} {c : Nat} (h : isL c = b) (q : b = false) : ¬ isL c = true := fun z => by rw [h, q] at z; exact absurd z (by decide)
theorem isF_n {b : Bool} {c : Nat} (h : isF c = b) (q : b = false) : ¬ isF c = true := fun z => by rw [h, q] at z; exact absurd z (by decide)
def qk (k : Nat) : Nat → Bool := if k = 1 then isL else isF
theorem rnF_all {q : Nat → Bool} {b : Nat → Nat} {n : Nat} : ∀ (f i j : Nat), i ≤ j → j < rnF q b n f i → q (b j) = true
  | 0, i, j, h1, h2 => absurd h2 (Nat.not_lt.mpr h1)
  | f + 1, i, j, h1, h2 => by
    by_cases h : i < n ∧ q (b i) = true
    · have e : rnF q b n (f + 1) i = rnF q b n f (i + 1) := if_pos h
      rw [e] at h2
      by_cases hj : j = i
      · rw [hj]; exact h.2
      · exact rnF_all f (i + 1) j (by omega) h2
    · have e : rnF q b n (f + 1) i = i := if_neg h
      rw [e] at h2
      exact absurd h2 (Nat.not_lt.mpr h1)
theorem rnE_all {q : Nat → Bool} {b : Nat → Nat} {n i j : Nat} (h1 : i ≤ j) (h2 : j < rnE q b n i) : q (b j) = true := rnF_all _ i j h1 h2
def gN : Bool → Nat | true => 1 | false => 0
theorem gN_st {bl n1 n : Nat} {g : Bool} (h : bl - n1 + gN g < n + 1) (hg : g = true) (hl : n1 < bl) : bl - (n1 + 1) + gN true < n := by
  rw [hg] at h
  have z : bl - n1 + 1 < n + 1 := h
  show bl - (n1 + 1) + 1 < n
  omega
theorem gN_sf {bl n1 n : Nat} {g : Bool} (h : bl - n1 + gN g < n + 1) (hg : g = true) : bl - n1 + gN false < n := by
  rw [hg] at h
  have z : bl - n1 + 1 < n + 1 := h
  show bl - n1 + 0 < n
  omega
/-- what is known of the kind when a token begins -/
def kkI (b : Nat → Nat) (s kk : Nat) : Prop := (isL (b s) = true ∧ kk = 1) ∨ (¬ isL (b s) = true ∧ isF (b s) = true ∧ kk = 2) ∨ (¬ isL (b s) = true ∧ ¬ isF (b s) = true ∧ kk = (if b s = 59 then 3 else 4))
theorem kkI_le {b : Nat → Nat} {s kk : Nat} (h : kkI b s kk) : 1 ≤ kk ∧ kk ≤ 4 := by
  rcases h with h | h | h
  · omega
  · omega
  · by_cases q : b s = 59
    · rw [if_pos q] at h; omega
    · rw [if_neg q] at h; omega
theorem kkI_q {b : Nat → Nat} {s kk : Nat} (h : kkI b s kk) (hk : kk < 3) : qk kk (b s) = true := by
  rcases h with h | h | h
  · rw [h.2]; exact h.1
  · rw [h.2.2]; exact h.2.1
  · by_cases q : b s = 59
    · rw [if_pos q] at h; omega
    · rw [if_neg q] at h; omega
/-- the loop over a word or a number -/
def mtI (b : Nat → Nat) (n s kk n1 : Nat) (g : Bool) : Prop := 1 ≤ n1 ∧ s + n1 ≤ n ∧ (g = true → kk < 3 ∧ rnE (qk kk) b n s = rnE (qk kk) b n (s + n1)) ∧ (g = false → (kk < 3 → rnE (qk kk) b n s = s + n1) ∧ (3 ≤ kk → n1 = 1))
def mtF (b : Nat → Nat) (n s kk n1 : Nat) : Prop := 1 ≤ n1 ∧ s + n1 ≤ n ∧ (kk < 3 → rnE (qk kk) b n s = s + n1) ∧ (3 ≤ kk → n1 = 1)
theorem mtI_0t {b : Nat → Nat} {n s kk : Nat} (h : kkI b s kk) (hs : s < n) (hk : kk < 3) : mtI b n s kk 1 true :=
  ⟨Nat.le_refl _, hs, fun _ => ⟨hk, rnE_s hs (kkI_q h hk)⟩, fun q => absurd q (by decide)⟩
theorem mtI_0f {b : Nat → Nat} {n s kk : Nat} (hs : s < n) (hk : 3 ≤ kk) : mtI b n s kk 1 false :=
  ⟨Nat.le_refl _, hs, fun q => absurd q (by decide), fun _ => ⟨fun z => absurd z (by omega), fun _ => rfl⟩⟩
theorem mtI_st {b : Nat → Nat} {n s kk n1 : Nat} {g : Bool} (h : mtI b n s kk n1 g) (hg : g = true) (hl : s + n1 < n) (hq : qk kk (b (s + n1)) = true) : mtI b n s kk (n1 + 1) true :=
  ⟨by omega, by omega, fun _ => ⟨(h.2.2.1 hg).1, (h.2.2.1 hg).2.trans (rnE_s hl hq)⟩, fun q => absurd q (by decide)⟩
theorem mtI_sf {b : Nat → Nat} {n s kk n1 : Nat} {g : Bool} (h : mtI b n s kk n1 g) (hg : g = true) (hq : ¬ qk kk (b (s + n1)) = true) : mtI b n s kk n1 false :=
  ⟨h.1, h.2.1, fun q => absurd q (by decide), fun _ => ⟨fun _ => (h.2.2.1 hg).2.trans (rnE_e (fun z => hq z.2)), fun z => absurd z (by have := (h.2.2.1 hg).1; omega)⟩⟩
theorem mtI_ef {b : Nat → Nat} {n s kk n1 : Nat} {g : Bool} (h : mtI b n s kk n1 g) (hg : g = false) : mtF b n s kk n1 := ⟨h.1, h.2.1, (h.2.2.2 hg).1, (h.2.2.2 hg).2⟩
theorem mtI_el {b : Nat → Nat} {n s kk n1 : Nat} {g : Bool} (h : mtI b n s kk n1 g) (hg : g = true) (hl : n ≤ s + n1) : mtF b n s kk n1 :=
  ⟨h.1, h.2.1, fun _ => (h.2.2.1 hg).2.trans (rnE_e (fun z => absurd z.1 (by omega))), fun z => absurd z (by have := (h.2.2.1 hg).1; omega)⟩
theorem qk1 {kk : Nat} (h : kk = 1) : qk kk = isL := if_pos h
theorem qk2 {kk : Nat} (h : kk ≠ 1) : qk kk = isF := if_neg h
/-- the value, of two figures at most -/
def mvI (b : Nat → Nat) (s kk k v : Nat) : Prop := (kk = 2 → v = vlN b s (s + k)) ∧ (kk ≠ 2 → v = 0)
theorem mvI_0 (b : Nat → Nat) (s kk : Nat) : mvI b s kk 0 0 := ⟨fun _ => (vlN_0 b s).symm, fun _ => rfl⟩
theorem mtF_f {b : Nat → Nat} {n s kk n1 k : Nat} (h : mtF b n s kk n1) (hk2 : kk = 2) (hk : k < n1) : isF (b (s + k)) = true := by
  have e := h.2.2.1 (by omega)
  rw [qk2 (by omega)] at e
  exact rnE_all (n := n) (i := s) (Nat.le_add_right s k) (by rw [e]; omega)
theorem mvI_s {b : Nat → Nat} {n s kk n1 k v : Nat} (h : mvI b s kk k v) (hF : mtF b n s kk n1) (hk2 : kk = 2) (hk : k < n1) (hk3 : k < 2) : mvI b s kk (k + 1) (10 * v + b (s + k) - 48) :=
  ⟨fun _ => by rw [h.1 hk2, ← Nat.add_assoc, vlN_s (Nat.le_add_right s k) (by omega) (mtF_f hF hk2 hk)], fun q => absurd hk2 q⟩
theorem v2N_2 (b : Nat → Nat) {s e : Nat} (h : 2 ≤ e - s) : v2N b s e = v2N b s (s + 2) := by
  unfold v2N
  rw [if_neg (by omega), if_neg (by omega)]
theorem mtok_end {b : Nat → Nat} {n s kk n1 k v w : Nat} (hs : s < n) (hk : kkI b s kk) (hF : mtF b n s kk n1) (hv : mvI b s kk k v) (hx : kk = 2 → (k = n1 ∨ k = 2) ∧ k ≤ n1 ∧ k ≤ 2) (hw : w = if kk = 2 then (if n1 ≤ 2 then 2 else 4) else kk) : kK b n s = w ∧ kE b n s - s = n1 ∧ kV b n s = v := by
  rcases hk with ⟨h1, h2⟩ | ⟨h1, h2, h3⟩ | ⟨h1, h2, h3⟩
  · obtain ⟨a1, a2, a3⟩ := kK_l hs h1
    have e := hF.2.2.1 (by omega)
    rw [qk1 h2] at e
    rw [if_neg (by omega)] at hw
    exact ⟨by rw [a1, hw, h2], by rw [a2, e]; omega, by rw [a3, hv.2 (by omega)]⟩
  · obtain ⟨a1, a2, a3⟩ := kK_f hs h2
    have e := hF.2.2.1 (by omega)
    rw [qk2 (by omega)] at e
    rw [if_pos h3] at hw
    obtain ⟨b1, b2, b3⟩ := hx h3
    have hn := hF.1
    refine ⟨by rw [a1, e, hw, show s + n1 - s = n1 by omega], by rw [a2, e]; omega, ?_⟩
    rw [a3, e, hv.1 h3]
    rcases b1 with b1 | b1
    · rw [b1, vlN_n (by omega)]
    · rw [b1, vlN_n (by omega), v2N_2 b (show 2 ≤ s + n1 - s by omega)]
  · obtain ⟨a1, a2, a3⟩ := kK_o hs h1 h2
    have h4 := kkI_le (Or.inr (Or.inr ⟨h1, h2, h3⟩))
    have h5 : 3 ≤ kk := by
      by_cases q : b s = 59
      · rw [if_pos q] at h3; omega
      · rw [if_neg q] at h3; omega
    rw [if_neg (by omega)] at hw
    exact ⟨by rw [a1, hw, h3], by rw [a2, hF.2.2.2 h5]; omega, by rw [a3, hv.2 (by omega)]⟩
-- the words by five numbers
def pk5 (a b c d e k : Nat) : Nat := if k = 0 then a else if k = 1 then b else if k = 2 then c else if k = 3 then d else e
theorem wdL0_5 : ∀ k, k < 5 → (wdL 0).getD k 0 = pk5 104 111 117 115 101 k := by decide +kernel
theorem wdL1_4 : ∀ k, k < 4 → (wdL 1).getD k 0 = pk5 116 97 108 101 0 k := by decide +kernel
theorem wdL2_4 : ∀ k, k < 4 → (wdL 2).getD k 0 = pk5 104 97 110 100 0 k := by decide +kernel
theorem va_up_up {α : Type} (f : Nat → α) (k : Nat) (x y : α) : va_up (va_up f k x) k y = va_up f k y := funext fun j => by
  unfold va_up
  by_cases h : j = k
  · rw [if_pos h, if_pos h]
  · rw [if_neg h, if_neg h, if_neg h]
def kRd (b : Bool) : Nat := if b = true then 3 else 0
/-- one more letter of a word that was the same so far -/
def wgI (b : Nat → Nat) (n i z j k : Nat) (g : Bool) : Prop := g = true ↔ (tK b n i = 1 ∧ tE b n i - tS b n i = z ∧ ∀ x, x < k → b (tS b n i + x) = (wdL j).getD x 0)
theorem wgI_0t {b : Nat → Nat} {n i z j : Nat} (h1 : tK b n i = 1) (h2 : tE b n i - tS b n i = z) : wgI b n i z j 0 true := ⟨fun _ => ⟨h1, h2, fun x q => absurd q (Nat.not_lt_zero _)⟩, fun _ => rfl⟩
theorem wgI_0f {b : Nat → Nat} {n i z j : Nat} (h : ¬ (tK b n i = 1 ∧ tE b n i - tS b n i = z)) : wgI b n i z j 0 false := ⟨fun q => absurd q (by decide), fun q => absurd ⟨q.1, q.2.1⟩ h⟩
theorem wgI_st {b : Nat → Nat} {n i z j k : Nat} {g : Bool} (h : wgI b n i z j k g) (hg : g = true) (hq : b (tS b n i + k) = (wdL j).getD k 0) : wgI b n i z j (k + 1) true :=
  ⟨fun _ => ⟨(h.mp hg).1, (h.mp hg).2.1, fun x hx => by
    rcases Nat.lt_or_ge x k with q | q
    · exact (h.mp hg).2.2 x q
    · rw [show x = k by omega]; exact hq⟩, fun _ => rfl⟩
theorem wgI_sf {b : Nat → Nat} {n i z j k : Nat} (hq : b (tS b n i + k) ≠ (wdL j).getD k 0) : wgI b n i z j (k + 1) false :=
  ⟨fun q => absurd q (by decide), fun q => absurd (q.2.2 k (Nat.lt_succ_self _)) hq⟩
theorem wgI_ef {b : Nat → Nat} {n i z j k : Nat} {g : Bool} (h : wgI b n i z j k g) (hg : g = false) (hk : k ≤ z) (hz : z = (wdL j).length) : isW b n i (wdL j) = g := by
  rw [hg]
  refine decide_eq_false (fun q => ?_)
  have := h.mpr ⟨q.1, q.2.1.trans hz.symm, fun x hx => q.2.2 x (by omega)⟩
  rw [hg] at this
  exact absurd this (by decide)
theorem wgI_ee {b : Nat → Nat} {n i z j k : Nat} {g : Bool} (h : wgI b n i z j k g) (hk : z ≤ k) (hk2 : k ≤ z) (hz : z = (wdL j).length) : isW b n i (wdL j) = g := by
  cases g with
  | true =>
    obtain ⟨h1, h2, h3⟩ := h.mp rfl
    exact decide_eq_true ⟨h1, h2.trans hz, fun x hx => h3 x (by omega)⟩
  | false => exact wgI_ef h rfl hk2 hz
