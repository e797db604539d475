-- ===== 63.inv: what holds at the law's loop =====
theorem k3_all {α : Type} {p : α → Prop} {K : Nat} {a b : α} (ha : p a) (hb : K = 3 → p b) : p (k3 K a b) := by
  unfold k3
  split
  · exact hb rfl
  · exact ha
theorem vu_all {α : Type} {p : α → Prop} {f : Nat → α} {k : Nat} {v : α} (hf : ∀ j, p (f j)) (hv : p v) : ∀ j, p (va_up f k v j) := fun j => by
  unfold va_up
  by_cases q : j = k
  · rw [if_pos q]; exact hv
  · rw [if_neg q]; exact hf j
theorem uK_all {α : Type} {p : α → Prop} {K : Nat} {f : Nat → α} {k : Nat} {v : α} (hf : ∀ j, p (f j)) (hv : K = 3 → p v) : ∀ j, p (upK K f k v j) := by
  unfold upK
  split
  · exact vu_all hf (hv rfl)
  · exact hf
theorem cy_all {α : Type} {p : α → Prop} {f g : Nat → α} {sp dp n : Nat} (hf : ∀ j, p (f j)) (hg : ∀ j, p (g j)) : ∀ j, p (va_cpy f g sp dp n j) := fun j => by
  unfold va_cpy
  by_cases q : dp ≤ j ∧ j < dp + n
  · rw [if_pos q]; exact hf _
  · rw [if_neg q]; exact hg j
theorem sA_all {α : Type} {p : α → Prop} {f : Nat → α} {un : Nat} (hf : ∀ j, p (f j)) : ∀ j, p (shA f un j) := by
  unfold shA
  by_cases q : 8 ≤ un
  · rw [if_pos q]; exact cy_all hf hf
  · rw [if_neg q]; exact hf
theorem sK_all {α : Type} {p : α → Prop} {f : Nat → α} {un : Nat} (hf : ∀ j, p (f j)) : ∀ j, p (shK f un j) := by
  unfold shK
  by_cases q : un = 8
  · rw [if_pos q]; exact cy_all hf hf
  · rw [if_neg q]; exact hf
theorem fl_all {T : Nat → List Nat} {n : Nat} (hT : ∀ k, okT (T k)) : ∀ k, okT (flT T [] n k) := fun k => by
  unfold flT
  by_cases q : k < n
  · rw [if_pos q]; exact okT_nil
  · rw [if_neg q]; exact hT k
theorem pK_all {T pa : Nat → List Nat} {K un : Nat} (hT : ∀ k, okT (T k)) (hp : ∀ k, okT (pa k)) : ∀ k, okT (paK K T pa un k) := by
  unfold paK
  split
  · exact cy_all hT (sK_all hp)
  · exact hp
theorem uT_all {T pa : Nat → List Nat} {K un : Nat} (hT : ∀ k, okT (T k)) (hp : ∀ k, okT (pa k)) : ∀ k, okT (unT K T pa un k) := by
  unfold unT
  split
  · exact cy_all hp hT
  · exact hT
theorem xN_le {b : Int32} {n : Nat} (hn : n < 2147483648) (h : upB b n = true) : xN b ≤ n := by
  obtain ⟨k, h1, rfl⟩ := upB_of hn h
  rw [xN_nI (by omega)]
  exact h1
theorem eqK {α β : Type} (F : Nat → α → β) {K : Nat} {a a' : α} (h : K = 0 ∨ a = a') (h0 : ∀ x y, F 0 x = F 0 y) : F K a = F K a' := by
  rcases h with h | h
  · rw [h]; exact h0 _ _
  · rw [h]
theorem eqKg {α β γ : Type} (F : Nat → β → γ) (g : α → β) {K : Nat} {a a' : α} (h : K = 0 ∨ a = a') (h0 : ∀ x y, F 0 x = F 0 y) : F K (g a) = F K (g a') := by
  rcases h with h | h
  · rw [h]; exact h0 _ _
  · rw [h]
section LEQ
variable {T M : Nat → List Nat} {b w : Int32}
theorem tB (h : sT T M) (q : upB b 7 = true) : T (xN b) = M (xN b) := (h (xN b) (by have := xN_le (by decide) q; omega)).symm
theorem brK (h : sT T M) : kBr b = 0 ∨ T (xN b) = M (xN b) := by
  by_cases q : upB b 7 = true
  · exact Or.inr (tB h q)
  · exact Or.inl (if_neg q)
theorem br03 (b : Int32) : kBr b = 0 ∨ kBr b = 1 ∨ (kBr b = 3 ∧ xN b < 8) := by
  by_cases q : upB b 7 = true
  · exact Or.inr (Or.inr ⟨if_pos q, by have := xN_le (by decide) q; omega⟩)
  · exact Or.inl (if_neg q)
theorem atK (h : sT T M) (i : Int32) : kAt b i = 0 ∨ T (xN b) = M (xN b) := by
  by_cases q : upB b 7 = true
  · exact Or.inr (tB h q)
  · exact Or.inl (if_neg (fun z => q z.1))
theorem twK (h : sT T M) : kTwo b w = 0 ∨ (T (xN b) = M (xN b) ∧ T (xN w) = M (xN w)) := by
  by_cases q : upB b 7 = true ∧ upB w 7 = true
  · exact Or.inr ⟨tB h q.1, tB h q.2⟩
  · exact Or.inl (if_neg q)
theorem eq_apart (h : sT T M) : eApart (kTwo b w) (dsT (T (xN b)) (T (xN w))) = eApart (kTwo b w) (dsT (M (xN b)) (M (xN w))) :=
  eqK eApart ((twK h).imp id (fun q => by rw [q.1, q.2])) (fun _ _ => rfl)
theorem eq_older (h : sT T M) : eOld (kTwo b w) (oldN (unT' (T (xN b))) (unT' (T (xN w))) (T (xN b)).length (T (xN w)).length) = eOld (kTwo b w) (oldN (unT' (M (xN b))) (unT' (M (xN w))) (M (xN b)).length (M (xN w)).length) :=
  eqK eOld ((twK h).imp id (fun q => by rw [q.1, q.2])) (fun _ _ => rfl)
theorem eq_fitA (h : sT T M) {row : List Nat} (hr : M 8 = row) (hT : ∀ k, okT (T k)) : eFit (kFit b w) (xN w) (popN (plA row (T (xN b)))) (lowI (plA row (T (xN b)))) = eFit (kFit b w) (xN w) (ftN (M 8) (M (xN b)) ((M (xN b)).length + 1)) (f1I (M 8) (M (xN b)) ((M (xN b)).length + 1)) := by
  by_cases q : upB b 7 = true
  · rw [hr, ← tB h q, eq_fits _ _ (hT _).1, eq_fits1 _ _ (hT _).1]
  · have e : kFit b w = 0 := if_neg (fun z => q z.1)
    have z : ∀ (n v v' : Nat) (f f' : Int32), eFit 0 n v f = eFit 0 n v' f' := fun _ _ _ _ _ => rfl
    rw [e]
    exact z _ _ _ _ _
theorem eq_covA (h : sT T M) {row : List Nat} (hr : M 8 = row) : eTwo (kBr b) (if covC (T (xN b)) row = true then 1 else 0) = eTwo (kBr b) (cvI (M 8) (M (xN b))) := by
  rw [eq_covers, hr]
  exact eqKg eTwo (cvI row) (brK h) (fun _ _ => rfl)
theorem eq_fnA (i : Int32) : eFn (kFn b i) (xN b) i (funT (bsR (xN b)), bsR (xN b)) = eFn (kFn b i) (xN b) i (fmP (10 ^ xN b) (xN b) (10 ^ xN b)) := by
  by_cases q : upB b 4 = true
  · rw [fm_bs (by have := xN_le (by decide) q; omega)]
  · have e : kFn b i = 0 := if_neg (fun z => q z.1)
    rw [e]
    rfl
theorem eq_kHand (h : sT T M) (c k i x : Int32) : kHand b c k i x T = kHand b c k i x M := by
  unfold kHand
  by_cases q : upB b 7 = true
  · rw [tB h q]
  · rw [if_neg (fun z => q z.1), if_neg (fun z => q z.1)]
theorem haK (h : sT T M) (c k i x : Int32) : kHand b c k i x T = 0 ∨ slipT (T (xN b)) (xN k) (xN i) (xN x) = slipT (M (xN b)) (xN k) (xN i) (xN x) := by
  by_cases q : upB b 7 = true
  · exact Or.inr (by rw [tB h q])
  · exact Or.inl (if_neg (fun z => q z.1))
theorem ha03 (c k i x : Int32) (T : Nat → List Nat) : kHand b c k i x T = 0 ∨ kHand b c k i x T = 1 ∨ (kHand b c k i x T = 3 ∧ xN c < 8) := by
  unfold kHand
  by_cases q : upB b 7 = true ∧ upB c 7 = true ∧ ¬ c ≤ b ∧ upB k 5 = true ∧ upB i 9 = true ∧ upB x 9 = true
  · rw [if_pos q]
    by_cases z : T (xN b) = []
    · rw [if_pos z]; exact Or.inr (Or.inl rfl)
    · rw [if_neg z]; exact Or.inr (Or.inr ⟨rfl, by have := xN_le (by decide) q.2.1; omega⟩)
  · rw [if_neg q]; exact Or.inl rfl
theorem ha_x {c k i x : Int32} {T : Nat → List Nat} (h : kHand b c k i x T = 3) : xN x < 10 := by
  unfold kHand at h
  by_cases q : upB b 7 = true ∧ upB c 7 = true ∧ ¬ c ≤ b ∧ upB k 5 = true ∧ upB i 9 = true ∧ upB x 9 = true
  · have := xN_le (by decide) q.2.2.2.2.2; omega
  · rw [if_neg q] at h; omega
theorem eq_hand (h : sT T M) (c k i x : Int32) : eHand (kHand b c k i x T) (slipT (T (xN b)) (xN k) (xN i) (xN x)) = eHand (kHand b c k i x M) (slipT (M (xN b)) (xN k) (xN i) (xN x)) := by
  rw [← eq_kHand h]
  exact eqK eHand (haK h c k i x) (fun _ _ => rfl)
theorem eq_kFr {k0 k1 : Bool} {zk : Nat → Nat} (h0 : zk 0 = gN k0) (h1 : zk 1 = gN k1) : kFrC b k0 k1 = kFr b zk := by
  unfold kFrC kFr
  by_cases q : upB b 1 = true
  · rw [if_pos q, if_pos q]
    have hx := xN_le (by decide) q
    rcases (show xN b = 0 ∨ xN b = 1 by omega) with e | e
    · rw [e, if_pos rfl, h0]
      cases k0 <;> rfl
    · rw [e, if_neg (show ¬ ((1 : Nat) = 0) by decide), h1]
      cases k1 <;> rfl
  · rw [if_neg q, if_neg q]
theorem od_eq (h : sT T M) (hT : ∀ k, okT (T k)) (x n c : Int32) : kOd b x n c = 0 ∨ ((keT (T (xN b)) (xN x) (xN n) (xN c) / Nat.gcd (keT (T (xN b)) (xN x) (xN n) (xN c)) (kqT (T (xN b)) (xN x) (xN n)) = frA (M (xN b)) (xN x) (xN n) (xN c) / Nat.gcd (frA (M (xN b)) (xN x) (xN n) (xN c)) (5040 * 10 ^ xN n)) ∧ kqT (T (xN b)) (xN x) (xN n) / Nat.gcd (keT (T (xN b)) (xN x) (xN n) (xN c)) (kqT (T (xN b)) (xN x) (xN n)) = 5040 * 10 ^ xN n / Nat.gcd (frA (M (xN b)) (xN x) (xN n) (xN c)) (5040 * 10 ^ xN n)) := by
  by_cases q : upB b 7 = true ∧ upB n 4 = true
  · refine Or.inr ?_
    rw [← tB h q.1]
    exact eq_odds (hT _) (xN x) (xN_le (by decide) q.2)
  · exact Or.inl (if_neg (fun z => q ⟨z.1, z.2.2.1⟩))
theorem od_a (h : sT T M) (hT : ∀ k, okT (T k)) (x n c : Int32) (fa : Int64) : s3L (kOd b x n c) fa (lN (keT (T (xN b)) (xN x) (xN n) (xN c) / Nat.gcd (keT (T (xN b)) (xN x) (xN n) (xN c)) (kqT (T (xN b)) (xN x) (xN n)))) = s3L (kOd b x n c) fa (lN (frA (M (xN b)) (xN x) (xN n) (xN c) / Nat.gcd (frA (M (xN b)) (xN x) (xN n) (xN c)) (5040 * 10 ^ xN n))) :=
  eqK (fun K v => s3L K fa (lN v)) ((od_eq h hT x n c).imp id (fun q => q.1)) (fun _ _ => rfl)
theorem od_b (h : sT T M) (hT : ∀ k, okT (T k)) (x n c : Int32) (fb : Int64) : s3L (kOd b x n c) fb (lN (kqT (T (xN b)) (xN x) (xN n) / Nat.gcd (keT (T (xN b)) (xN x) (xN n) (xN c)) (kqT (T (xN b)) (xN x) (xN n)))) = s3L (kOd b x n c) fb (lN (5040 * 10 ^ xN n / Nat.gcd (frA (M (xN b)) (xN x) (xN n) (xN c)) (5040 * 10 ^ xN n))) :=
  eqK (fun K v => s3L K fb (lN v)) ((od_eq h hT x n c).imp id (fun q => q.2)) (fun _ _ => rfl)
theorem ok_say {x : Int32} {row : List Nat} (h : okT row) : okT (rSay (kSay x row) (xN x) row) := by
  unfold kSay
  by_cases q : upB x 9 = true
  · rw [if_pos q]
    by_cases z : row.length = 10
    · rw [if_pos z]; exact h
    · rw [if_neg z]
      exact h.app (by have := xN_le (by decide) q; omega) (by have := h.1; omega)
  · rw [if_neg q]; exact h
theorem ok_say3 {x : Int32} {row : List Nat} (h : okT row) (hk : kSay x row = 3) : okT (row ++ [xN x]) := by
  have z := ok_say (x := x) h
  rw [hk] at z
  exact z
end LEQ
theorem HR.rep2 {T : Nat → List Nat} {P : Nat → Int32} {hp hi ub : Nat → Nat} {ut : Nat → List Nat} {up : Nat → Int32} {row : List Nat} {hc un : Nat} {M : Nat → List Nat} {Q : Nat → Int32} {hs : Nat → Nat} {pa : Nat → List Nat} {pp : Nat → Int32} (h : HR T P hp hi ub ut up row hc un M Q hs pa pp) {K k : Nat} (hK : K = 0 ∨ K = 1 ∨ (K = 3 ∧ k < 8)) {t t' : List Nat} (ht : K = 0 ∨ t = t') (q : Int32) : HR (upK K T k t) (upK K P k q) hp hi (k3 K ub (va_up (shA ub un) (min un 7) k)) (k3 K ut (va_up (shA ut un) (min un 7) (T k))) (k3 K up (upd (shA up un) (min un 7) (P k))) row hc (unK K un) (upK K M k t') (upK K Q k q) hs (paK K M pa un) (paK K Q pp un) := by
  rcases ht with e | e
  · rw [e]; exact h
  · rw [← e]; exact h.rep hK t q
def INV (T : Nat → List Nat) (P : Nat → Int32) (hp hi ub : Nat → Nat) (ut : Nat → List Nat) (up : Nat → Int32) (row : List Nat) (hc un : Nat)
    (TY : Nat → List Nat) (PY : Nat → Int32) (hpY hiY ubY : Nat → Nat) (utY : Nat → List Nat) (upY : Nat → Int32) (rowY : List Nat) (hcY unY : Nat)
    (TZ : Nat → List Nat) (PZ : Nat → Int32) (hpZ hiZ ubZ : Nat → Nat) (utZ : Nat → List Nat) (upZ : Nat → Int32) (rowZ : List Nat) (hcZ unZ : Nat)
    (TD : Nat → List Nat) (ubD : Nat → Nat) (utD : Nat → List Nat) (bl : Nat) (bt : Nat → Nat) (fr : Nat → List Nat) (k0 k1 : Bool)
    (M : Nat → List Nat) (Q : Nat → Int32) (hs : Nat → Nat) (pa : Nat → List Nat) (pp : Nat → Int32) (kt : Nat → List Nat) (kp : Nat → Int32) (kn : Nat → Nat) (ka : Nat → List Nat) (kq : Nat → Int32) (zk : Nat → Nat) (an : Nat → List Nat) : Prop :=
  HR T P hp hi ub ut up row hc un M Q hs pa pp ∧ (k0 = true → IR 0 TY PY hpY hiY ubY utY upY rowY hcY unY kt kp kn ka kq) ∧ (k1 = true → IR 1 TZ PZ hpZ hiZ ubZ utZ upZ rowZ hcZ unZ kt kp kn ka kq) ∧
  (zk 0 = gN k0 ∧ zk 1 = gN k1 ∧ ∀ k, zk k < 2) ∧
  ((∀ k, okT (T k)) ∧ (∀ k, okT (TY k)) ∧ (∀ k, okT (TZ k)) ∧ (∀ k, okT (TD k)) ∧ (∀ k, okT (ut k)) ∧ (∀ k, okT (utY k)) ∧ (∀ k, okT (utZ k)) ∧ (∀ k, okT (utD k))) ∧
  (okT row ∧ okT rowY ∧ okT rowZ) ∧ ((∀ k, ub k < 8) ∧ (∀ k, ubY k < 8) ∧ (∀ k, ubZ k < 8) ∧ (∀ k, ubD k < 8)) ∧
  ((∀ k, okT (M k)) ∧ (∀ k, okT (pa k)) ∧ (∀ k, okT (kt k)) ∧ (∀ k, okT (ka k)) ∧ (∀ k, okT (an k))) ∧ bl ≤ 150 ∧ (∀ k, bt k < 128) ∧ (∀ k, okT (fr k)) ∧ (∀ k, fr k ≠ [] → fr k = bsR k)
theorem br3 {b : Int32} (h : kBr b = 3) : xN b < 8 := by
  rcases br03 b with q | q | q
  · omega
  · omega
  · exact q.2
theorem ha3 {b c k i x : Int32} {T : Nat → List Nat} (h : kHand b c k i x T = 3) : xN c < 8 := by
  rcases ha03 (b := b) c k i x T with q | q | q
  · omega
  · omega
  · exact q.2
theorem im3 (i : Int32) : (kW i 1 = 0 ∧ kIm i 0 = 0 ∧ kIm i 1 = 0) ∨ (kW i 1 = 3 ∧ kIm i 0 = 3 ∧ kIm i 1 = 0 ∧ xN i = 0) ∨ (kW i 1 = 3 ∧ kIm i 0 = 0 ∧ kIm i 1 = 3 ∧ xN i = 1) := by
  by_cases q : upB i 1 = true
  · have hx := xN_le (by decide) q
    rcases (show xN i = 0 ∨ xN i = 1 by omega) with e | e
    · exact Or.inr (Or.inl ⟨if_pos q, if_pos ⟨q, e⟩, if_neg (fun z => by omega), e⟩)
    · exact Or.inr (Or.inr ⟨if_pos q, if_neg (fun z => by omega), if_pos ⟨q, e⟩, e⟩)
  · exact Or.inl ⟨if_neg q, if_neg (fun z => q z.1), if_neg (fun z => q z.1)⟩
theorem fr3 (i : Int32) (k0 k1 : Bool) : kFrC i k0 k1 = 0 ∨ kFrC i k0 k1 = 1 ∨ (kFrC i k0 k1 = 3 ∧ xN i = 0 ∧ k0 = true) ∨ (kFrC i k0 k1 = 3 ∧ xN i = 1 ∧ k1 = true) := by
  unfold kFrC
  by_cases q : upB i 1 = true
  · rw [if_pos q]
    have hx := xN_le (by decide) q
    rcases (show xN i = 0 ∨ xN i = 1 by omega) with e | e
    · rw [e, if_pos rfl]
      cases k0
      · exact Or.inr (Or.inl rfl)
      · exact Or.inr (Or.inr (Or.inl ⟨rfl, rfl, rfl⟩))
    · rw [e, if_neg (show ¬ ((1 : Nat) = 0) by decide)]
      cases k1
      · exact Or.inr (Or.inl rfl)
      · exact Or.inr (Or.inr (Or.inr ⟨rfl, rfl, rfl⟩))
  · exact Or.inl (if_neg q)
theorem ty_l {c : Int32} {bl : Nat} (h : bl ≤ 150) : s3N (kTy c bl) bl (bl + 1) ≤ 150 := by
  unfold kTy
  by_cases q : upB c 127 = true
  · rw [if_pos q]
    by_cases z : bl = 150
    · rw [if_pos z]; exact h
    · rw [if_neg z]
      show bl + 1 ≤ 150
      omega
  · rw [if_neg q]; exact h
theorem ty_x {c : Int32} {bl : Nat} (h : kTy c bl = 3) : xN c < 128 := by
  unfold kTy at h
  by_cases q : upB c 127 = true
  · have := xN_le (by decide) q; omega
  · rw [if_neg q] at h; omega
theorem lp6w {L i : Nat} (hL : L ≤ 384) (hi : i ≤ 1000) : nI L - nI 6 < nI i ↔ L < i + 6 := by
  have e := pk_sub_toInt (a := L) (b := 6) (by omega) (by omega)
  rw [Int32.lt_iff_toInt_lt, e, nI_toInt (by omega)]
  omega
