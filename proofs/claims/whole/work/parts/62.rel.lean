-- ===== 62.rel: what a house of the class and the reference's have in common =====
theorem upd_up (f : Nat → Int32) (k : Nat) (x : Int32) : upd f k x = va_up f k x := funext fun j => by
  unfold upd va_up
  by_cases h : j = k <;> simp [h]
theorem cp_in {α : Type} {f g : Nat → α} {sp dp n k : Nat} (h1 : dp ≤ k) (h2 : k < dp + n) : va_cpy f g sp dp n k = f (sp + (k - dp)) := by
  unfold va_cpy
  rw [if_pos ⟨h1, h2⟩]
theorem cp_out {α : Type} {f g : Nat → α} {sp dp n k : Nat} (h : k < dp ∨ dp + n ≤ k) : va_cpy f g sp dp n k = g k := by
  unfold va_cpy
  rw [if_neg (by omega)]
def LV {α : Type} (un : Nat) (X : Nat → α) (ub : Nat → Nat) (ux px : Nat → α) : Prop :=
  ∀ j, j < un → ∀ b, b < 8 → px (8 * j + b) = if b = ub j then ux j else (if j + 1 = un then X b else px (8 * (j + 1) + b))
theorem LV_0 {α : Type} {X : Nat → α} {ub : Nat → Nat} {ux px : Nat → α} : LV 0 X ub ux px := fun j h => absurd h (Nat.not_lt_zero _)
theorem LV_undo {α : Type} {un : Nat} {X : Nat → α} {ub : Nat → Nat} {ux px : Nat → α} (h : LV un X ub ux px) (h0 : 0 < un) : LV (un - 1) (va_up X (ub (un - 1)) (ux (un - 1))) ub ux px ∧ ∀ b, b < 8 → px (8 * (un - 1) + b) = va_up X (ub (un - 1)) (ux (un - 1)) b := by
  have hl : ∀ b, b < 8 → px (8 * (un - 1) + b) = va_up X (ub (un - 1)) (ux (un - 1)) b := fun b hb => by
    rw [h (un - 1) (by omega) b hb]
    unfold va_up
    by_cases q : b = ub (un - 1)
    · rw [if_pos q, if_pos q]
    · rw [if_neg q, if_neg q, if_pos (by omega)]
  refine ⟨fun j hj b hb => ?_, hl⟩
  rw [h j (by omega) b hb]
  by_cases q : b = ub j
  · rw [if_pos q, if_pos q]
  · rw [if_neg q, if_neg q, if_neg (by omega)]
    by_cases z : j + 1 = un - 1
    · rw [if_pos z, z, hl b hb]
    · rw [if_neg z]
theorem LV_put {α : Type} {un k : Nat} {X M : Nat → α} {ub : Nat → Nat} {ux px : Nat → α} {t : α} (h : LV un X ub ux px) (hM : ∀ b, b < 8 → M b = X b) : LV (un + 1) (va_up X k t) (va_up ub un k) (va_up ux un (X k)) (va_cpy M px 0 (8 * un) 8) := fun j hj b hb => by
  by_cases e : j = un
  · subst e
    rw [cp_in (by omega) (by omega), if_pos rfl, va_up_self, va_up_self, show 0 + (8 * j + b - 8 * j) = b by omega, hM b hb]
    by_cases q : b = k
    · rw [if_pos q, q]
    · rw [if_neg q, va_up_ne X t q]
  · rw [cp_out (by omega), va_up_ne ub k e, va_up_ne ux (X k) e, h j (by omega) b hb, if_neg (show ¬ (j + 1 = un + 1) by omega)]
    by_cases q : b = ub j
    · rw [if_pos q, if_pos q]
    · rw [if_neg q, if_neg q]
      by_cases z : j + 1 = un
      · rw [if_pos z, z, cp_in (by omega) (by omega), show 0 + (8 * un + b - 8 * un) = b by omega, hM b hb]
      · rw [if_neg z, cp_out (by omega)]
theorem LV_sh {α : Type} {X : Nat → α} {ub : Nat → Nat} {ux px : Nat → α} (h : LV 8 X ub ux px) : LV 7 X (va_cpy ub ub 1 0 7) (va_cpy ux ux 1 0 7) (va_cpy px px 8 0 56) := fun j hj b hb => by
  rw [cp_in (by omega) (by omega), cp_in (by omega) (by omega), cp_in (by omega) (by omega), show 8 + (8 * j + b - 0) = 8 * (j + 1) + b by omega, h (j + 1) (by omega) b hb, show 1 + (j - 0) = j + 1 by omega]
  by_cases q : b = ub (j + 1)
  · rw [if_pos q, if_pos q]
  · rw [if_neg q, if_neg q]
    by_cases z : j + 1 = 7
    · rw [if_pos z, if_pos (by omega)]
    · rw [if_neg z, if_neg (by omega), cp_in (by omega) (by omega), show 8 + (8 * (j + 1) + b - 0) = 8 * (j + 1 + 1) + b by omega]
theorem LV_rep {α : Type} {un k : Nat} {X M : Nat → α} {ub : Nat → Nat} {ux px : Nat → α} {t : α} (h : LV un X ub ux px) (hun : un ≤ 8) (hM : ∀ b, b < 8 → M b = X b) : LV (min un 7 + 1) (va_up X k t) (va_up (shA ub un) (min un 7) k) (va_up (shA ux un) (min un 7) (X k)) (va_cpy M (shK px un) 0 (8 * min un 7) 8) := by
  by_cases q : un = 8
  · subst q
    rw [shA_hi (Nat.le_refl 8), shA_hi (Nat.le_refl 8), show shK px 8 = va_cpy px px 8 0 56 from if_pos rfl]
    exact LV_put (LV_sh h) hM
  · rw [shA_lo (by omega), shA_lo (by omega), show shK px un = px from if_neg q, Nat.min_eq_left (by omega)]
    exact LV_put h hM
theorem LV_ext {α : Type} {un : Nat} {X X' : Nat → α} {ub ub' : Nat → Nat} {ux ux' px px' : Nat → α} (h : LV un X ub ux px) (hun : un ≤ 8) (hX : ∀ b, b < 8 → X' b = X b) (hb : ∀ j, j < 8 → ub' j = ub j) (hx : ∀ j, j < 8 → ux' j = ux j) (hp : ∀ j, j < 64 → px' j = px j) : LV un X' ub' ux' px' := fun j hj b hb8 => by
  rw [hp _ (by omega), hb j (by omega), hx j (by omega), hX b hb8, h j hj b hb8]
  by_cases q : b = ub j
  · rw [if_pos q, if_pos q]
  · rw [if_neg q, if_neg q]
    by_cases z : j + 1 = un
    · rw [if_pos z, if_pos z]
    · rw [if_neg z, if_neg z, hp _ (by omega)]
def HR (T : Nat → List Nat) (P : Nat → Int32) (hp hi ub : Nat → Nat) (ut : Nat → List Nat) (up : Nat → Int32) (row : List Nat) (hc un : Nat) (M : Nat → List Nat) (Q : Nat → Int32) (hs : Nat → Nat) (pa : Nat → List Nat) (pp : Nat → Int32) : Prop :=
  sT T M ∧ (∀ k, k < 8 → Q k = P k) ∧ M 8 = row ∧ sH hp hi hs hc ∧ (∀ k, k < hc → hp k < 10) ∧ (∀ k, k < hc → hi k < 2) ∧ hc ≤ 6 ∧ un ≤ 8 ∧ LV un T ub ut pa ∧ LV un P ub up pp
section HRS
variable {T : Nat → List Nat} {P : Nat → Int32} {hp hi ub : Nat → Nat} {ut : Nat → List Nat} {up : Nat → Int32} {row : List Nat} {hc un : Nat} {M : Nat → List Nat} {Q : Nat → Int32} {hs : Nat → Nat} {pa : Nat → List Nat} {pp : Nat → Int32}
theorem HR.hsl (h : HR T P hp hi ub ut up row hc un M Q hs pa pp) : ∀ j, j < 2 * hc → hs j < 10 := fun j hj => by
  obtain ⟨-, -, -, a4, a5, a6, -⟩ := h
  rcases (show (∃ k, k < hc ∧ j = 2 * k) ∨ ∃ k, k < hc ∧ j = 2 * k + 1 by
    rcases Nat.mod_two_eq_zero_or_one j with q | q
    · exact Or.inl ⟨j / 2, by omega, by omega⟩
    · exact Or.inr ⟨j / 2, by omega, by omega⟩) with ⟨k, h1, rfl⟩ | ⟨k, h1, rfl⟩
  · rw [(a4 k h1).1]; exact a5 k h1
  · rw [(a4 k h1).2]; have := a6 k h1; omega
theorem HR.new (T : Nat → List Nat) (P : Nat → Int32) (hp hi ub : Nat → Nat) (ut : Nat → List Nat) (up : Nat → Int32) (M : Nat → List Nat) (Q : Nat → Int32) (hs : Nat → Nat) (pa : Nat → List Nat) (pp : Nat → Int32) (h1 : sT T M) (h2 : ∀ k, k < 8 → Q k = P k) (h3 : M 8 = []) : HR T P hp hi ub ut up [] 0 0 M Q hs pa pp :=
  ⟨h1, h2, h3, fun k h => absurd h (Nat.not_lt_zero _), fun k h => absurd h (Nat.not_lt_zero _), fun k h => absurd h (Nat.not_lt_zero _), Nat.zero_le _, Nat.zero_le _, LV_0, LV_0⟩
theorem HR.house (T : Nat → List Nat) (P : Nat → Int32) (hp hi ub : Nat → Nat) (ut : Nat → List Nat) (up : Nat → Int32) (M : Nat → List Nat) (Q : Nat → Int32) (hs : Nat → Nat) (pa : Nat → List Nat) (pp : Nat → Int32) : HR (flT T [] 8) (flI P (-1) 8) hp hi ub ut up [] 0 0 (flT M [] 9) (flI Q (-1) 8) hs pa pp :=
  HR.new _ _ _ _ _ _ _ _ _ _ _ _ (fun k hk => by unfold flT; rw [if_pos hk, if_pos (by omega)]) (fun k hk => by unfold flI; rw [if_pos hk, if_pos hk]) (if_pos (by decide))
theorem HR.roww (h : HR T P hp hi ub ut up row hc un M Q hs pa pp) (r : List Nat) : HR T P hp hi ub ut up r hc un (va_up M 8 r) Q hs pa pp := by
  obtain ⟨a1, a2, a3, a4⟩ := h
  exact ⟨fun k hk => by rw [va_up_ne M r (by omega)]; exact a1 k hk, a2, va_up_self M 8 r, a4⟩
theorem HR.say (h : HR T P hp hi ub ut up row hc un M Q hs pa pp) (x : Int32) : HR T P hp hi ub ut up (rSay (kSay x row) (xN x) row) hc un (upK (kSay x (M 8)) M 8 (M 8 ++ [xN x])) Q hs pa pp := by
  have e : M 8 = row := h.2.2.1
  rw [e]
  rcases (show kSay x row = 0 ∨ kSay x row = 2 ∨ kSay x row = 3 by
    unfold kSay
    (repeat' split) <;> simp) with q | q | q
  · rw [q]; exact h
  · rw [q]; exact h
  · rw [q]; exact h.roww _
theorem HR.put (h : HR T P hp hi ub ut up row hc un M Q hs pa pp) {k : Nat} (hk : k < 8) (t : List Nat) (q : Int32) : HR (va_up T k t) (upd P k q) hp hi (va_up (shA ub un) (min un 7) k) (va_up (shA ut un) (min un 7) (T k)) (upd (shA up un) (min un 7) (P k)) row hc (min un 7 + 1) (va_up M k t) (upd Q k q) hs (va_cpy M (shK pa un) 0 (8 * min un 7) 8) (va_cpy Q (shK pp un) 0 (8 * min un 7) 8) := by
  obtain ⟨a1, a2, a3, a4, a5, a6, a7, a8, a9, a10⟩ := h
  rw [upd_up, upd_up, upd_up]
  refine ⟨fun b hb => ?_, fun b hb => ?_, ?_, a4, a5, a6, a7, by omega, LV_rep a9 a8 a1, LV_rep a10 a8 a2⟩
  · unfold va_up
    by_cases z : b = k
    · rw [if_pos z, if_pos z]
    · rw [if_neg z, if_neg z]; exact a1 b hb
  · unfold va_up
    by_cases z : b = k
    · rw [if_pos z, if_pos z]
    · rw [if_neg z, if_neg z]; exact a2 b hb
  · rw [va_up_ne M t (by omega)]; exact a3
theorem HR.rep (h : HR T P hp hi ub ut up row hc un M Q hs pa pp) {K k : Nat} (hK : K = 0 ∨ K = 1 ∨ (K = 3 ∧ k < 8)) (t : List Nat) (q : Int32) : HR (upK K T k t) (upK K P k q) hp hi (k3 K ub (va_up (shA ub un) (min un 7) k)) (k3 K ut (va_up (shA ut un) (min un 7) (T k))) (k3 K up (upd (shA up un) (min un 7) (P k))) row hc (unK K un) (upK K M k t) (upK K Q k q) hs (paK K M pa un) (paK K Q pp un) := by
  rcases hK with e | e | ⟨e, hk⟩
  · rw [e]; exact h
  · rw [e]; exact h
  · rw [e]
    have z := h.put hk t q
    rw [upd_up P, upd_up Q] at z
    exact z
theorem HR.undo (h : HR T P hp hi ub ut up row hc un M Q hs pa pp) : HR (k3 (kUndo un) T (va_up T (ub (un - 1)) (ut (un - 1)))) (k3 (kUndo un) P (upd P (ub (un - 1)) (up (un - 1)))) hp hi ub ut up row hc (un - 1) (unT (kUndo un) M pa un) (unT (kUndo un) Q pp un) hs pa pp := by
  by_cases e : un = 0
  · rw [show kUndo un = 1 from if_pos e]
    have e2 : un - 1 = un := by omega
    rw [e2]
    exact h
  · rw [show kUndo un = 3 from if_neg e]
    obtain ⟨a1, a2, a3, a4, a5, a6, a7, a8, a9, a10⟩ := h
    obtain ⟨b1, b2⟩ := LV_undo a9 (by omega)
    obtain ⟨c1, c2⟩ := LV_undo a10 (by omega)
    show HR (va_up T (ub (un - 1)) (ut (un - 1))) (upd P (ub (un - 1)) (up (un - 1))) hp hi ub ut up row hc (un - 1) (va_cpy pa M (8 * (un - 1)) 0 8) (va_cpy pp Q (8 * (un - 1)) 0 8) hs pa pp
    rw [upd_up]
    exact ⟨fun b hb => by rw [cp_in (Nat.zero_le _) (by omega)]; exact b2 b hb, fun b hb => by rw [cp_in (Nat.zero_le _) (by omega)]; exact c2 b hb, by rw [cp_out (by omega)]; exact a3, a4, a5, a6, a7, by omega, b1, c1⟩
theorem HR.heard (h : HR T P hp hi ub ut up row hc un M Q hs pa pp) (x w : Int32) : HR T P (upK (kHd x w hc) hp hc (xN x)) (upK (kHd x w hc) hi hc (xN w)) ub ut up row (s3N (kHd x w hc) hc (hc + 1)) un M Q (upK (kHd x w hc) (upK (kHd x w hc) hs (2 * hc) (xN x)) (2 * hc + 1) (xN w)) pa pp := by
  by_cases q : upB x 9 = true ∧ upB w 1 = true
  · by_cases e : hc = 6
    · have z : kHd x w hc = 2 := (if_pos q).trans (if_pos e)
      rw [z]; exact h
    · have z : kHd x w hc = 3 := (if_pos q).trans (if_neg e)
      rw [z]
      obtain ⟨x2, hx2, rfl⟩ := upB_of (by decide) q.1
      obtain ⟨w2, hw2, rfl⟩ := upB_of (by decide) q.2
      rw [xN_nI (by omega), xN_nI (by omega)]
      obtain ⟨a1, a2, a3, a4, a5, a6, a7, a8⟩ := h
      refine ⟨a1, a2, a3, fun k hk => ?_, fun k hk => ?_, fun k hk => ?_, ?_, a8⟩
      · show va_up (va_up hs (2 * hc) x2) (2 * hc + 1) w2 (2 * k) = va_up hp hc x2 k ∧ va_up (va_up hs (2 * hc) x2) (2 * hc + 1) w2 (2 * k + 1) = va_up hi hc w2 k
        have hk : k < hc + 1 := hk
        by_cases z : k = hc
        · subst z
          rw [va_up_ne _ _ (by omega), va_up_self, va_up_self, va_up_self, va_up_self]
          exact ⟨rfl, rfl⟩
        · rw [va_up_ne _ _ (by omega), va_up_ne _ _ (by omega), va_up_ne _ _ z, va_up_ne _ _ (by omega), va_up_ne _ _ (by omega), va_up_ne _ _ z]
          exact a4 k (by omega)
      · show va_up hp hc x2 k < 10
        have hk : k < hc + 1 := hk
        by_cases z : k = hc
        · subst z; rw [va_up_self]; omega
        · rw [va_up_ne _ _ z]; exact a5 k (by omega)
      · show va_up hi hc w2 k < 2
        have hk : k < hc + 1 := hk
        by_cases z : k = hc
        · subst z; rw [va_up_self]; omega
        · rw [va_up_ne _ _ z]; exact a6 k (by omega)
      · show hc + 1 ≤ 6
        omega
  · have z : kHd x w hc = 0 := if_neg q
    rw [z]; exact h
theorem HR.forget (h : HR T P hp hi ub ut up row hc un M Q hs pa pp) : HR T P hp hi ub ut up row 0 un M Q hs pa pp := by
  obtain ⟨a1, a2, a3, a4, a5, a6, a7, a8⟩ := h
  exact ⟨a1, a2, a3, fun k q => absurd q (Nat.not_lt_zero _), fun k q => absurd q (Nat.not_lt_zero _), fun k q => absurd q (Nat.not_lt_zero _), Nat.zero_le _, a8⟩
theorem HR.ext {T' : Nat → List Nat} {P' : Nat → Int32} {hp' hi' ub' : Nat → Nat} {ut' : Nat → List Nat} {up' : Nat → Int32} {M' : Nat → List Nat} {Q' : Nat → Int32} {hs' : Nat → Nat} {pa' : Nat → List Nat} {pp' : Nat → Int32} (h : HR T P hp hi ub ut up row hc un M Q hs pa pp)
    (h1 : ∀ k, k < 8 → T' k = T k) (h2 : ∀ k, k < 8 → P' k = P k) (h3 : ∀ k, k < 6 → hp' k = hp k) (h4 : ∀ k, k < 6 → hi' k = hi k) (h5 : ∀ k, k < 8 → ub' k = ub k) (h6 : ∀ k, k < 8 → ut' k = ut k) (h7 : ∀ k, k < 8 → up' k = up k)
    (g1 : ∀ k, k < 9 → M' k = M k) (g2 : ∀ k, k < 8 → Q' k = Q k) (g3 : ∀ k, k < 12 → hs' k = hs k) (g4 : ∀ k, k < 64 → pa' k = pa k) (g5 : ∀ k, k < 64 → pp' k = pp k) : HR T' P' hp' hi' ub' ut' up' row hc un M' Q' hs' pa' pp' := by
  obtain ⟨a1, a2, a3, a4, a5, a6, a7, a8, a9, a10⟩ := h
  refine ⟨fun k hk => by rw [g1 k (by omega), h1 k hk]; exact a1 k hk, fun k hk => by rw [g2 k hk, h2 k hk]; exact a2 k hk, by rw [g1 8 (by omega)]; exact a3, fun k hk => ?_, fun k hk => by rw [h3 k (by omega)]; exact a5 k hk, fun k hk => by rw [h4 k (by omega)]; exact a6 k hk, a7, a8, LV_ext a9 a8 h1 h5 h6 g4, LV_ext a10 a8 h2 h5 h7 g5⟩
  rw [g3 _ (by omega), g3 _ (by omega), h3 k (by omega), h4 k (by omega)]
  exact a4 k hk
end HRS
/-- an image: the same, at its place in the reference's arrays -/
def IR (i : Nat) (T : Nat → List Nat) (P : Nat → Int32) (hp hi ub : Nat → Nat) (ut : Nat → List Nat) (up : Nat → Int32) (row : List Nat) (hc un : Nat) (kt : Nat → List Nat) (kp : Nat → Int32) (kn : Nat → Nat) (ka : Nat → List Nat) (kq : Nat → Int32) : Prop :=
  HR T P hp hi ub ut up row hc un (fun k => kt (9 * i + k)) (fun k => kp (8 * i + k)) (fun k => kn (14 * i + 2 + k)) (fun k => ka (64 * i + k)) (fun k => kq (64 * i + k)) ∧ kn (14 * i) = hc ∧ kn (14 * i + 1) = un
section IRS
variable {T TY : Nat → List Nat} {P PY : Nat → Int32} {hp hi ub hpY hiY ubY : Nat → Nat} {ut utY : Nat → List Nat} {up upY : Nat → Int32} {row rowY : List Nat} {hc un hcY unY : Nat} {M : Nat → List Nat} {Q : Nat → Int32} {hs : Nat → Nat} {pa : Nat → List Nat} {pp : Nat → Int32} {kt : Nat → List Nat} {kp : Nat → Int32} {kn : Nat → Nat} {ka : Nat → List Nat} {kq : Nat → Int32}
/-- the image that is made -/
theorem IR.made (h : HR T P hp hi ub ut up row hc un M Q hs pa pp) (i : Nat) : IR i (va_cpy T TY 0 0 8) (va_cpy P PY 0 0 8) (va_cpy hp hpY 0 0 6) (va_cpy hi hiY 0 0 6) (va_cpy ub ubY 0 0 8) (va_cpy ut utY 0 0 8) (va_cpy up upY 0 0 8) row hc un (va_cpy M kt 0 (9 * i) 9) (va_cpy Q kp 0 (8 * i) 8) (va_cpy hs (va_up (va_up kn (14 * i) hc) (14 * i + 1) un) 0 (14 * i + 2) 12) (va_cpy pa ka 0 (64 * i) 64) (va_cpy pp kq 0 (64 * i) 64) := by
  refine ⟨h.ext (fun k hk => ?_) (fun k hk => ?_) (fun k hk => ?_) (fun k hk => ?_) (fun k hk => ?_) (fun k hk => ?_) (fun k hk => ?_) (fun k hk => ?_) (fun k hk => ?_) (fun k hk => ?_) (fun k hk => ?_) (fun k hk => ?_), ?_, ?_⟩
  · rw [cp_in (by omega) (by omega), show 0 + (k - 0) = k by omega]
  · rw [cp_in (by omega) (by omega), show 0 + (k - 0) = k by omega]
  · rw [cp_in (by omega) (by omega), show 0 + (k - 0) = k by omega]
  · rw [cp_in (by omega) (by omega), show 0 + (k - 0) = k by omega]
  · rw [cp_in (by omega) (by omega), show 0 + (k - 0) = k by omega]
  · rw [cp_in (by omega) (by omega), show 0 + (k - 0) = k by omega]
  · rw [cp_in (by omega) (by omega), show 0 + (k - 0) = k by omega]
  · show va_cpy M kt 0 (9 * i) 9 (9 * i + k) = M k
    rw [cp_in (by omega) (by omega), show 0 + (9 * i + k - 9 * i) = k by omega]
  · show va_cpy Q kp 0 (8 * i) 8 (8 * i + k) = Q k
    rw [cp_in (by omega) (by omega), show 0 + (8 * i + k - 8 * i) = k by omega]
  · show va_cpy hs (va_up (va_up kn (14 * i) hc) (14 * i + 1) un) 0 (14 * i + 2) 12 (14 * i + 2 + k) = hs k
    rw [cp_in (by omega) (by omega), show 0 + (14 * i + 2 + k - (14 * i + 2)) = k by omega]
  · show va_cpy pa ka 0 (64 * i) 64 (64 * i + k) = pa k
    rw [cp_in (by omega) (by omega), show 0 + (64 * i + k - 64 * i) = k by omega]
  · show va_cpy pp kq 0 (64 * i) 64 (64 * i + k) = pp k
    rw [cp_in (by omega) (by omega), show 0 + (64 * i + k - 64 * i) = k by omega]
  · rw [cp_out (by omega), va_up_ne _ _ (by omega), va_up_self]
  · rw [cp_out (by omega), va_up_self]
/-- the other image stays -/
theorem IR.other {j i : Nat} (h : IR j TY PY hpY hiY ubY utY upY rowY hcY unY kt kp kn ka kq) (hji : j ≠ i) : IR j TY PY hpY hiY ubY utY upY rowY hcY unY (va_cpy M kt 0 (9 * i) 9) (va_cpy Q kp 0 (8 * i) 8) (va_cpy hs (va_up (va_up kn (14 * i) hc) (14 * i + 1) un) 0 (14 * i + 2) 12) (va_cpy pa ka 0 (64 * i) 64) (va_cpy pp kq 0 (64 * i) 64) := by
  obtain ⟨h1, h2, h3⟩ := h
  refine ⟨h1.ext (fun _ _ => rfl) (fun _ _ => rfl) (fun _ _ => rfl) (fun _ _ => rfl) (fun _ _ => rfl) (fun _ _ => rfl) (fun _ _ => rfl) (fun k hk => ?_) (fun k hk => ?_) (fun k hk => ?_) (fun k hk => ?_) (fun k hk => ?_), ?_, ?_⟩
  · exact cp_out (by omega)
  · exact cp_out (by omega)
  · show va_cpy hs (va_up (va_up kn (14 * i) hc) (14 * i + 1) un) 0 (14 * i + 2) 12 (14 * j + 2 + k) = _
    rw [cp_out (by omega), va_up_ne _ _ (by omega), va_up_ne _ _ (by omega)]
  · exact cp_out (by omega)
  · exact cp_out (by omega)
  · rw [cp_out (by omega), va_up_ne _ _ (by omega), va_up_ne _ _ (by omega)]; exact h2
  · rw [cp_out (by omega), va_up_ne _ _ (by omega), va_up_ne _ _ (by omega)]; exact h3
/-- back from an image -/
theorem IR.back {i : Nat} (h : IR i TY PY hpY hiY ubY utY upY rowY hcY unY kt kp kn ka kq) (T : Nat → List Nat) (P : Nat → Int32) (hp hi ub : Nat → Nat) (ut : Nat → List Nat) (up : Nat → Int32) (M : Nat → List Nat) (Q : Nat → Int32) (hs : Nat → Nat) (pa : Nat → List Nat) (pp : Nat → Int32) : HR (va_cpy TY T 0 0 8) (va_cpy PY P 0 0 8) (va_cpy hpY hp 0 0 6) (va_cpy hiY hi 0 0 6) (va_cpy ubY ub 0 0 8) (va_cpy utY ut 0 0 8) (va_cpy upY up 0 0 8) rowY hcY unY (va_cpy kt M (9 * i) 0 9) (va_cpy kp Q (8 * i) 0 8) (va_cpy kn hs (14 * i + 2) 0 12) (va_cpy ka pa (64 * i) 0 64) (va_cpy kq pp (64 * i) 0 64) := by
  refine h.1.ext (fun k hk => ?_) (fun k hk => ?_) (fun k hk => ?_) (fun k hk => ?_) (fun k hk => ?_) (fun k hk => ?_) (fun k hk => ?_) (fun k hk => ?_) (fun k hk => ?_) (fun k hk => ?_) (fun k hk => ?_) (fun k hk => ?_)
  · rw [cp_in (by omega) (by omega), show 0 + (k - 0) = k by omega]
  · rw [cp_in (by omega) (by omega), show 0 + (k - 0) = k by omega]
  · rw [cp_in (by omega) (by omega), show 0 + (k - 0) = k by omega]
  · rw [cp_in (by omega) (by omega), show 0 + (k - 0) = k by omega]
  · rw [cp_in (by omega) (by omega), show 0 + (k - 0) = k by omega]
  · rw [cp_in (by omega) (by omega), show 0 + (k - 0) = k by omega]
  · rw [cp_in (by omega) (by omega), show 0 + (k - 0) = k by omega]
  · rw [cp_in (by omega) (by omega), Nat.sub_zero]
  · rw [cp_in (by omega) (by omega), Nat.sub_zero]
  · rw [cp_in (by omega) (by omega), Nat.sub_zero]
  · rw [cp_in (by omega) (by omega), Nat.sub_zero]
  · rw [cp_in (by omega) (by omega), Nat.sub_zero]
end IRS
