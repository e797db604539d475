-- rows laid by wip/whole/gen.py
set_option maxHeartbeats 1000000 in
set_option maxRecDepth 100000 in
theorem ct_X9_in (l : Launch) (D : va_G) (cI cJ cB cZ cA : ClassId) (v : Int64) (lo : Int64) (hi : Int64) : Ct l yX9_in wsX9_in ({ frames := 0, cells := 0, slots := 0, locals := 0 }) D (tysG cI cJ cB cZ cA) [.long v, .long lo, .long hi] [] (fun (_ : Unit) => True) (fun _ => some (.int (ib (decide (¬ v < lo ∧ ¬ hi < v))))) (fun _ => []) := by
  refine Ct.ofI (cc := cX9_in) (maxL := 6) (by decide) rfl (Nat.le_of_ble_eq_true rfl) ?_
  intro pG eG sG mG aG bG tG cG AG QG ls xh bh hml hown hts hK hP hD hS hA hend hl
  have hl : lv_has ls 6 [(0, .long v), (2, .long lo), (4, .long hi)] := hl
  refine lv_lload_n xh bh dX9_in_0 rfl (lv_at hl 0 rfl) ?_
  refine lv_lload_n xh bh dX9_in_1 rfl (lv_at hl 1 rfl) ?_
  refine W.lcmp xh bh dX9_in_2 ?_
  refine xl_if_lt (tgt := 17) xh bh dX9_in_3 (by decide) (fun c_3 => ?_) (fun c_3 => ?_)
  · refine lv_iconst (v := (nI 0)) xh bh dX9_in_17 (by decide) ?_
    exact hend (nI 0) () _ _ _ _ (xb_ret0 (by first | exact decide_eq_true ⟨c_3, c_10⟩ | exact decide_eq_false (fun q => q.1 c_3) | exact decide_eq_false (fun q => q.2 c_10))) trivial (vz_bool (by decide)) dX9_in_18 hP hD hS
  · refine lv_lload_n xh bh dX9_in_6 rfl (lv_at hl 0 rfl) ?_
    refine lv_lload xh bh dX9_in_7 (lv_at hl 2 rfl) ?_
    refine W.lcmp xh bh dX9_in_9 ?_
    refine xl_if_gt (tgt := 17) xh bh dX9_in_10 (by decide) (fun c_10 => ?_) (fun c_10 => ?_)
    · refine lv_iconst (v := (nI 0)) xh bh dX9_in_17 (by decide) ?_
      exact hend (nI 0) () _ _ _ _ (xb_ret0 (by first | exact decide_eq_true ⟨c_3, c_10⟩ | exact decide_eq_false (fun q => q.1 c_3) | exact decide_eq_false (fun q => q.2 c_10))) trivial (vz_bool (by decide)) dX9_in_18 hP hD hS
    · refine lv_iconst (v := (nI 1)) xh bh dX9_in_13 (by decide) ?_
      refine lv_goto (tgt := 18) xh bh dX9_in_14 (by decide) ?_
      exact hend (nI 1) () _ _ _ _ (xb_ret1 (by first | exact decide_eq_true ⟨c_3, c_10⟩ | exact decide_eq_false (fun q => q.1 c_3) | exact decide_eq_false (fun q => q.2 c_10))) trivial (vz_bool (by decide)) dX9_in_18 hP hD hS

set_option maxHeartbeats 1000000 in
set_option maxRecDepth 100000 in
theorem ct_X9_isBranch (l : Launch) (D : va_G) (cI cJ cB cZ cA : ClassId) (b : Int32) : Ct l yX9_isBranch wsX9_isBranch ({ frames := 1, cells := 0, slots := 0, locals := 25 }) D (tysG cI cJ cB cZ cA) [.int b] [] (fun (_ : Unit) => True) (fun _ => some (.int (ib (upB b 7)))) (fun _ => []) := by
  refine Ct.ofI (cc := cX9_isBranch) (maxL := 1) (by decide) rfl (Nat.le_of_ble_eq_true rfl) ?_
  intro pG eG sG mG aG bG tG cG AG QG ls xh bh hml hown hts hK hP hD hS hA hend hl
  have hl : lv_has ls 1 [(0, .int b)] := hl
  refine lv_iload_n xh bh dX9_isBranch_0 rfl (lv_at hl 0 rfl) ?_
  refine lv_i2l xh bh dX9_isBranch_1 rfl ?_
  refine lv_lconst (v := lN 0) xh bh dX9_isBranch_2 (by decide) ?_
  refine lv_ldc2 (v := (lN 7)) xh bh hown (hts _ (List.mem_of_getElem? (i := 1) rfl)) dX9_isBranch_3 ?_
  refine Ct.callS0 (rest := []) xh bh hml hown hts hK hP hS hA (ct_X9_in l D cI cJ cB cZ cA b.toInt64 (lN 0) (lN 7) ) (va_cwS 3 hts gX9_isBranch_X9_in rfl rfl rfl (by decide +kernel) ⟨Nat.le_of_ble_eq_true rfl, Nat.le_of_ble_eq_true rfl⟩) rfl rfl hl.1 (Nat.le_of_ble_eq_true rfl) dX9_isBranch_6 ⟨Nat.le_refl _, Nat.le_refl _⟩ (fun _ H locs _ hP hS => ?_)
  refine W.eq (g2 := F0 mG 9 ls [.int (ib (decide (¬ b.toInt64 < (lN 0) ∧ ¬ (lN 7) < b.toInt64)))]) rfl ?_
  exact hend (ib (decide (¬ b.toInt64 < (lN 0) ∧ ¬ (lN 7) < b.toInt64))) () _ _ _ _ (congrArg (fun z => some (Value.int (ib z))) (by exact (upB_long (by decide)).symm)) trivial (vz_ib _) dX9_isBranch_9 hP hD hS

set_option maxHeartbeats 1000000 in
set_option maxRecDepth 100000 in
theorem ct_X9_isPart (l : Launch) (D : va_G) (cI cJ cB cZ cA : ClassId) (b : Int32) : Ct l yX9_isPart wsX9_isPart ({ frames := 1, cells := 0, slots := 0, locals := 25 }) D (tysG cI cJ cB cZ cA) [.int b] [] (fun (_ : Unit) => True) (fun _ => some (.int (ib (upB b 9)))) (fun _ => []) := by
  refine Ct.ofI (cc := cX9_isPart) (maxL := 1) (by decide) rfl (Nat.le_of_ble_eq_true rfl) ?_
  intro pG eG sG mG aG bG tG cG AG QG ls xh bh hml hown hts hK hP hD hS hA hend hl
  have hl : lv_has ls 1 [(0, .int b)] := hl
  refine lv_iload_n xh bh dX9_isPart_0 rfl (lv_at hl 0 rfl) ?_
  refine lv_i2l xh bh dX9_isPart_1 rfl ?_
  refine lv_lconst (v := lN 0) xh bh dX9_isPart_2 (by decide) ?_
  refine lv_ldc2 (v := (lN 9)) xh bh hown (hts _ (List.mem_of_getElem? (i := 1) rfl)) dX9_isPart_3 ?_
  refine Ct.callS0 (rest := []) xh bh hml hown hts hK hP hS hA (ct_X9_in l D cI cJ cB cZ cA b.toInt64 (lN 0) (lN 9) ) (va_cwS 3 hts gX9_isPart_X9_in rfl rfl rfl (by decide +kernel) ⟨Nat.le_of_ble_eq_true rfl, Nat.le_of_ble_eq_true rfl⟩) rfl rfl hl.1 (Nat.le_of_ble_eq_true rfl) dX9_isPart_6 ⟨Nat.le_refl _, Nat.le_refl _⟩ (fun _ H locs _ hP hS => ?_)
  refine W.eq (g2 := F0 mG 9 ls [.int (ib (decide (¬ b.toInt64 < (lN 0) ∧ ¬ (lN 9) < b.toInt64)))]) rfl ?_
  exact hend (ib (decide (¬ b.toInt64 < (lN 0) ∧ ¬ (lN 9) < b.toInt64))) () _ _ _ _ (congrArg (fun z => some (Value.int (ib z))) (by exact (upB_long (by decide)).symm)) trivial (vz_ib _) dX9_isPart_9 hP hD hS

set_option maxHeartbeats 1000000 in
set_option maxRecDepth 100000 in
theorem ct_X9_bits (l : Launch) (D : va_G) (cI cJ cB cZ cA : ClassId) (a : Nat) (ha : a < 4096) : Ct l yX9_bits wsX9_bits ({ frames := 0, cells := 0, slots := 0, locals := 0 }) D (tysG cI cJ cB cZ cA) [.int (nI a)] [] (fun (_ : Unit) => True) (fun _ => some (.int (nI (popN a)))) (fun _ => []) := by
  refine Ct.ofI (cc := cX9_bits) (maxL := 3) (by decide) rfl (Nat.le_of_ble_eq_true rfl) ?_
  intro pG eG sG mG aG bG tG cG AG QG ls xh bh hml hown hts hK hP hD hS hA hend hl
  have hl : lv_has ls 3 [(0, .int (nI a))] := hl
  refine lv_iconst (v := (nI 0)) xh bh dX9_bits_0 (by decide) ?_
  refine lv_istore_n (lv' := [(1, .int (nI 0)), (0, .int (nI a))]) xh bh dX9_bits_1 rfl hl (by decide) rfl (fun ls hl => ?_)
  refine lv_iload_n xh bh dX9_bits_2 rfl (lv_at hl 1 rfl) ?_
  refine lv_istore_n (lv' := [(2, .int (nI a)), (1, .int (nI 0)), (0, .int (nI a))]) xh bh dX9_bits_3 rfl hl (by decide) rfl (fun ls hl => ?_)
  have cut_4 : ∀ (n_4 : Nat), ∀ (f : Nat), ∀ (n : Nat), ∀ (w : Nat), (f ≤ 32) → (w < 2 ^ f) → (w ≤ a) → (n + popF f w = popN a) → f < n_4 → ∀ (H : Heap) (locs : List Loc) (ls : Array Slot), va_P D vwCl [] H → va_D AG [] → va_S AG sG.heap H locs → lv_has ls 3 [(0, .int (nI a)), (1, .int (nI n)), (2, .int (nI w))] → W pG l eG ({ frames := 0, cells := 0, slots := 0, locals := 0 }) sG mG aG bG tG cG H locs 0 0 QG (F0 mG 4 ls []) := by
    intro n_4
    induction n_4 with
    | zero =>
      intro f n w hf hw hwl hn hmu
      exact absurd hmu (Nat.not_lt_zero _)
    | succ n_4 ih_4 =>
      intro f n w hf hw hwl hn hmu H locs ls hP hD hS hl
      refine lv_iload_n xh bh dX9_bits_4 rfl (lv_at hl 2 rfl) ?_
      refine xn_if_le (tgt := 21) xh bh dX9_bits_5 (by decide) (by omega) (fun c_5 => ?_) (fun c_5 => ?_)
      · refine lv_iload_n xh bh dX9_bits_21 rfl (lv_at hl 1 rfl) ?_
        exact hend (nI n) () _ _ _ _ (congrArg (fun z => some (Value.int (nI z))) (by rw [c_5, popF_0] at hn; exact hn.symm)) trivial rfl dX9_bits_22 hP hD hS
      · refine lv_iload_n xh bh dX9_bits_8 rfl (lv_at hl 1 rfl) ?_
        refine lv_iload_n xh bh dX9_bits_9 rfl (lv_at hl 2 rfl) ?_
        refine lv_iconst (v := (nI 1)) xh bh dX9_bits_10 (by decide) ?_
        refine xn_iand xh bh dX9_bits_11 ?_
        refine xn_iadd xh bh dX9_bits_12 ?_
        refine lv_istore_n (lv' := [(1, .int (nI (n + (w &&& 1)))), (0, .int (nI a)), (2, .int (nI w))]) xh bh dX9_bits_13 rfl hl (by decide) rfl (fun ls hl => ?_)
        refine lv_iload_n xh bh dX9_bits_14 rfl (lv_at hl 2 rfl) ?_
        refine lv_iconst (v := (nI 1)) xh bh dX9_bits_15 (by decide) ?_
        refine xn_ishr xh bh dX9_bits_16 (by omega) (by omega) ?_
        refine lv_istore_n (lv' := [(2, .int (nI (w / 2 ^ 1))), (1, .int (nI (n + (w &&& 1)))), (0, .int (nI a))]) xh bh dX9_bits_17 rfl hl (by decide) rfl (fun ls hl => ?_)
        refine lv_goto (tgt := 4) xh bh dX9_bits_18 (by decide) ?_
        exact ih_4 (f - 1) (n + (w &&& 1)) (w / 2 ^ 1) (by omega) (by obtain ⟨f, rfl⟩ := Nat.exists_eq_succ_of_ne_zero (show f ≠ 0 from fun q => by subst q; omega); show w / 2 ^ 1 < 2 ^ f; rw [Nat.pow_succ] at hw; omega) (by have : w / 2 ^ 1 ≤ w := Nat.div_le_self _ _; omega) (by obtain ⟨f, rfl⟩ := Nat.exists_eq_succ_of_ne_zero (show f ≠ 0 from fun q => by subst q; omega); rw [← hn, and1]; show n + w % 2 + popF f (w / 2 ^ 1) = n + (w % 2 + popF f (w / 2)); rw [Nat.pow_one]; omega) (by have q9 : f ≠ 0 := (fun q => by subst q; omega); omega) _ _ ls hP hD hS (lv_sub hl [2, 1, 0] rfl)
  exact cut_4 (32 + 1) 32 0 a (by exact Nat.le_refl _) (by exact Nat.lt_of_lt_of_le ha (by decide)) (by exact Nat.le_refl _) (by exact Nat.zero_add _) (Nat.lt_succ_self _) _ _ ls hP hD hS (lv_sub hl [2, 1, 0] rfl)

set_option maxHeartbeats 1000000 in
set_option maxRecDepth 100000 in
theorem ct_X9_many (l : Launch) (D : va_G) (cI cJ cB cZ cA : ClassId) (t : List Nat) (ht : okT t) : Ct l yX9_many wsX9_many ({ frames := 0, cells := 0, slots := 0, locals := 0 }) D (tysG cI cJ cB cZ cA) [.long (eR t)] [] (fun (_ : Unit) => True) (fun _ => some (.int (nI t.length))) (fun _ => []) := by
  refine Ct.ofI (cc := cX9_many) (maxL := 2) (by decide) rfl (Nat.le_of_ble_eq_true rfl) ?_
  intro pG eG sG mG aG bG tG cG AG QG ls xh bh hml hown hts hK hP hD hS hA hend hl
  have hl : lv_has ls 2 [(0, .long (eR t))] := hl
  have hl : lv_has ls 2 [(0, .long (lN (tpk t + t.length * 17592186044416)))] := hl
  refine lv_lload_n xh bh dX9_many_0 rfl (lv_at hl 0 rfl) ?_
  refine lv_bipush (v := (nI 44)) xh bh dX9_many_1 (by decide) ?_
  refine xq_lshr xh bh dX9_many_3 (by have := cR_lt ht; omega) (by omega) ?_
  refine xq_l2i xh bh dX9_many_4 ?_
  exact hend (nI ((tpk t + t.length * 17592186044416) / 2 ^ 44)) () _ _ _ _ (congrArg (fun z => some (Value.int (nI z))) (by exact (cR_size ht).symm)) trivial rfl dX9_many_5 hP hD hS

set_option maxHeartbeats 1000000 in
set_option maxRecDepth 100000 in
theorem ct_X9_partOf (l : Launch) (D : va_G) (cI cJ cB cZ cA : ClassId) (t : List Nat) (i : Nat) (ht : okT t) (hi : i ≤ 10) : Ct l yX9_partOf wsX9_partOf ({ frames := 0, cells := 0, slots := 0, locals := 0 }) D (tysG cI cJ cB cZ cA) [.long (eR t), .int (nI i)] [] (fun (_ : Unit) => True) (fun _ => some (.int (nI (t.getD i 0)))) (fun _ => []) := by
  refine Ct.ofI (cc := cX9_partOf) (maxL := 3) (by decide) rfl (Nat.le_of_ble_eq_true rfl) ?_
  intro pG eG sG mG aG bG tG cG AG QG ls xh bh hml hown hts hK hP hD hS hA hend hl
  have hl : lv_has ls 3 [(0, .long (eR t)), (2, .int (nI i))] := hl
  have hl : lv_has ls 3 [(0, .long (lN (tpk t + t.length * 17592186044416))), (2, .int (nI i))] := hl
  refine lv_lload_n xh bh dX9_partOf_0 rfl (lv_at hl 0 rfl) ?_
  refine lv_iconst (v := (nI 4)) xh bh dX9_partOf_1 (by decide) ?_
  refine lv_iload_n xh bh dX9_partOf_2 rfl (lv_at hl 1 rfl) ?_
  refine xn_imul xh bh dX9_partOf_3 ?_
  refine xq_lshr xh bh dX9_partOf_4 (by have := cR_lt ht; omega) (by omega) ?_
  refine lv_ldc2 (v := (lN 15)) xh bh hown (hts _ (List.mem_of_getElem? (i := 1) rfl)) dX9_partOf_5 ?_
  refine xq_land xh bh dX9_partOf_8 ?_
  refine xq_l2i xh bh dX9_partOf_9 ?_
  exact hend (nI (((tpk t + t.length * 17592186044416) / 2 ^ (4 * i)) &&& 15)) () _ _ _ _ (congrArg (fun z => some (Value.int (nI z))) (by exact (cR_part ht hi).symm)) trivial rfl dX9_partOf_10 hP hD hS

set_option maxHeartbeats 1000000 in
set_option maxRecDepth 100000 in
theorem ct_X9_behind (l : Launch) (D : va_G) (cI cJ cB cZ cA : ClassId) (t : List Nat) (x : Nat) (ht : okT t) (hx : x < 10) : Ct l yX9_behind wsX9_behind ({ frames := 1, cells := 0, slots := 0, locals := 21 }) D (tysG cI cJ cB cZ cA) [.long (eR t), .int (nI x)] [] (fun (_ : Unit) => True) (fun _ => some (.long (eR (t ++ [x])))) (fun _ => []) := by
  refine Ct.ofL (cc := cX9_behind) (maxL := 3) (by decide) rfl (Nat.le_of_ble_eq_true rfl) ?_
  intro pG eG sG mG aG bG tG cG AG QG ls xh bh hml hown hts hK hP hD hS hA hend hl
  have hl : lv_has ls 3 [(0, .long (eR t)), (2, .int (nI x))] := hl
  refine lv_lload_n xh bh dX9_behind_0 rfl (lv_at hl 0 rfl) ?_
  refine lv_ldc2 (v := (lN 17592186044416)) xh bh hown (hts _ (List.mem_of_getElem? (i := 1) rfl)) dX9_behind_1 ?_
  refine lv_ladd xh bh dX9_behind_4 ?_
  refine lv_iload_n xh bh dX9_behind_5 rfl (lv_at hl 1 rfl) ?_
  refine xn_i2l xh bh dX9_behind_6 (by omega) ?_
  refine lv_iconst (v := (nI 4)) xh bh dX9_behind_7 (by decide) ?_
  refine lv_lload_n xh bh dX9_behind_8 rfl (lv_at hl 0 rfl) ?_
  refine Ct.callS0 (rest := [.int (nI 4), .long (lN x), .long ((eR t) + (lN 17592186044416))]) xh bh hml hown hts hK hP hS hA (ct_X9_many l D cI cJ cB cZ cA t (by first | assumption | exact okT_nil)) (va_cwS 1 hts gX9_behind_X9_many rfl rfl rfl (by decide +kernel) ⟨Nat.le_of_ble_eq_true rfl, Nat.le_of_ble_eq_true rfl⟩) rfl rfl hl.1 (Nat.le_of_ble_eq_true rfl) dX9_behind_9 ⟨Nat.le_refl _, Nat.le_refl _⟩ (fun _ H locs _ hP hS => ?_)
  refine W.eq (g2 := F0 mG 12 ls [.int (nI t.length), .int (nI 4), .long (lN x), .long ((eR t) + (lN 17592186044416))]) rfl ?_
  refine xn_imul xh bh dX9_behind_12 ?_
  refine xq_lshl xh bh dX9_behind_13 (by have := ht.1; omega) ?_
  refine lv_ladd xh bh dX9_behind_14 ?_
  exact hend (((eR t) + (lN 17592186044416)) + (lN (x * 2 ^ (4 * t.length)))) () _ _ _ _ (congrArg (fun z => some (Value.long z)) (by rw [show eR t = lN (tpk t + t.length * 17592186044416) from rfl, lN_add, lN_add]; exact congrArg lN (cR_add x).symm)) trivial dX9_behind_15 hP hD hS

set_option maxHeartbeats 1000000 in
set_option maxRecDepth 100000 in
theorem ct_X9_firstOnes (l : Launch) (D : va_G) (cI cJ cB cZ cA : ClassId) (t : List Nat) (n : Nat) (ht : okT t) (hn : n ≤ t.length) : Ct l yX9_firstOnes wsX9_firstOnes ({ frames := 0, cells := 0, slots := 0, locals := 0 }) D (tysG cI cJ cB cZ cA) [.long (eR t), .int (nI n)] [] (fun (_ : Unit) => True) (fun _ => some (.long (eR (t.take n)))) (fun _ => []) := by
  refine Ct.ofL (cc := cX9_firstOnes) (maxL := 3) (by decide) rfl (Nat.le_of_ble_eq_true rfl) ?_
  intro pG eG sG mG aG bG tG cG AG QG ls xh bh hml hown hts hK hP hD hS hA hend hl
  have hl : lv_has ls 3 [(0, .long (eR t)), (2, .int (nI n))] := hl
  have hl : lv_has ls 3 [(0, .long (lN (tpk t + t.length * 17592186044416))), (2, .int (nI n))] := hl
  refine lv_iload_n xh bh dX9_firstOnes_0 rfl (lv_at hl 1 rfl) ?_
  refine xn_i2l xh bh dX9_firstOnes_1 (by have := ht.1; omega) ?_
  refine lv_bipush (v := (nI 44)) xh bh dX9_firstOnes_2 (by decide) ?_
  refine xq_lshl xh bh dX9_firstOnes_4 (by omega) ?_
  refine lv_lload_n xh bh dX9_firstOnes_5 rfl (lv_at hl 0 rfl) ?_
  refine lv_lconst (v := lN 1) xh bh dX9_firstOnes_6 (by decide) ?_
  refine lv_iconst (v := (nI 4)) xh bh dX9_firstOnes_7 (by decide) ?_
  refine lv_iload_n xh bh dX9_firstOnes_8 rfl (lv_at hl 1 rfl) ?_
  refine xn_imul xh bh dX9_firstOnes_9 ?_
  refine xq_lshl xh bh dX9_firstOnes_10 (by have := ht.1; omega) ?_
  refine lv_lconst (v := lN 1) xh bh dX9_firstOnes_11 (by decide) ?_
  refine xq_lsub xh bh dX9_firstOnes_12 (by exact Nat.mul_pos (by decide) (Nat.two_pow_pos _)) ?_
  refine xq_land xh bh dX9_firstOnes_13 ?_
  refine xq_ladd xh bh dX9_firstOnes_14 ?_
  exact hend (lN ((n * 2 ^ 44) + ((tpk t + t.length * 17592186044416) &&& ((1 * 2 ^ (4 * n)) - 1)))) () _ _ _ _ (congrArg (fun z => some (Value.long z)) (by have e1 : (2 : Nat) ^ 44 = 17592186044416 := (by decide); rw [pw4, Nat.one_mul, e1, cR_take ht (Nat.le_trans hn ht.1)]; show lN (tpk (t.take n) + (t.take n).length * _) = _; rw [List.length_take, Nat.min_eq_left hn])) trivial dX9_firstOnes_15 hP hD hS

set_option maxHeartbeats 1000000 in
set_option maxRecDepth 100000 in
theorem ct_X9_has (l : Launch) (D : va_G) (cI cJ cB cZ cA : ClassId) (t : List Nat) (x : Nat) (ht : okT t) (hx : x < 10) : Ct l yX9_has wsX9_has ({ frames := 1, cells := 0, slots := 0, locals := 22 }) D (tysG cI cJ cB cZ cA) [.long (eR t), .int (nI x)] [] (fun (_ : Unit) => True) (fun _ => some (.int (ib (decide (x ∈ t))))) (fun _ => []) := by
  refine Ct.ofI (cc := cX9_has) (maxL := 5) (by decide) rfl (Nat.le_of_ble_eq_true rfl) ?_
  intro pG eG sG mG aG bG tG cG AG QG ls xh bh hml hown hts hK hP hD hS hA hend hl
  have hl : lv_has ls 5 [(0, .long (eR t)), (2, .int (nI x))] := hl
  refine lv_iconst (v := (nI 0)) xh bh dX9_has_0 (by decide) ?_
  refine lv_istore_n (lv' := [(3, .int (nI 0)), (0, .long (eR t)), (2, .int (nI x))]) xh bh dX9_has_1 rfl hl (by decide) rfl (fun ls hl => ?_)
  refine lv_iconst (v := (nI 0)) xh bh dX9_has_2 (by decide) ?_
  refine lv_istore (lv' := [(4, .int (nI 0)), (3, .int (nI 0)), (0, .long (eR t)), (2, .int (nI x))]) xh bh dX9_has_3 hl (by decide) rfl (fun ls hl => ?_)
  have cut_5 : ∀ (n_5 : Nat), ∀ (i : Nat), ∀ (f : Bool), (i ≤ t.length) → (f = decide (x ∈ t.take i)) → (t.length - i) < n_5 → ∀ (H : Heap) (locs : List Loc) (ls : Array Slot), va_P D vwCl [] H → va_D AG [] → va_S AG sG.heap H locs → lv_has ls 5 [(0, .long (eR t)), (2, .int (nI x)), (3, .int (ib f)), (4, .int (nI i))] → W pG l eG ({ frames := 1, cells := 0, slots := 0, locals := 22 }) sG mG aG bG tG cG H locs 0 0 QG (F0 mG 5 ls []) := by
    intro n_5
    induction n_5 with
    | zero =>
      intro i f hi hf hmu
      exact absurd hmu (Nat.not_lt_zero _)
    | succ n_5 ih_5 =>
      intro i f hi hf hmu H locs ls hP hD hS hl
      refine lv_iload xh bh dX9_has_5 (lv_at hl 3 rfl) ?_
      refine lv_lload_n xh bh dX9_has_7 rfl (lv_at hl 0 rfl) ?_
      refine Ct.callS0 (rest := [.int (nI i)]) xh bh hml hown hts hK hP hS hA (ct_X9_many l D cI cJ cB cZ cA t (by first | assumption | exact okT_nil)) (va_cwS 1 hts gX9_has_X9_many rfl rfl rfl (by decide +kernel) ⟨Nat.le_of_ble_eq_true rfl, Nat.le_of_ble_eq_true rfl⟩) rfl rfl hl.1 (Nat.le_of_ble_eq_true rfl) dX9_has_8 ⟨Nat.le_refl _, Nat.le_refl _⟩ (fun _ H locs _ hP hS => ?_)
      refine W.eq (g2 := F0 mG 11 ls [.int (nI t.length), .int (nI i)]) rfl ?_
      refine xn_icmp_ge (tgt := 40) xh bh dX9_has_11 (by decide) (by have := ht.1; omega) (by have := ht.1; omega) (fun c_11 => ?_) (fun c_11 => ?_)
      · refine lv_iload_n xh bh dX9_has_40 rfl (lv_at hl 2 rfl) ?_
        exact hend (ib f) () _ _ _ _ (congrArg (fun z => some (Value.int (ib z))) (by rw [hf, List.take_of_length_le c_11])) trivial (vz_ib _) dX9_has_41 hP hD hS
      · refine lv_iload_n xh bh dX9_has_14 rfl (lv_at hl 2 rfl) ?_
        refine xb_if_ne (tgt := 28) xh bh dX9_has_15 (by decide) (fun c_15 => ?_) (fun c_15 => ?_)
        · refine lv_iconst (v := (nI 1)) xh bh dX9_has_28 (by decide) ?_
          refine lv_goto (tgt := 33) xh bh dX9_has_29 (by decide) ?_
          refine lv_istore_n (lv' := [(3, .int (nI 1)), (0, .long (eR t)), (2, .int (nI x)), (4, .int (nI i))]) xh bh dX9_has_33 rfl hl (by decide) rfl (fun ls hl => ?_)
          refine lv_iinc (v := (nI (i + 1))) (lv' := [(4, .int (nI (i + 1))), (3, .int (nI 1)), (0, .long (eR t)), (2, .int (nI x))]) xh bh dX9_has_34 hl (k := 3) rfl (by exact xn_inc _ _) (by decide) rfl (fun ls hl => ?_)
          refine lv_goto (tgt := 5) xh bh dX9_has_37 (by decide) ?_
          exact ih_5 (i + 1) true (by omega) (by first | exact (decide_eq_true ((mem_next c_11).mpr (Or.inl (of_decide_eq_true (hf.symm.trans c_15))))).symm | exact (decide_eq_true ((mem_next c_11).mpr (Or.inr c_25))).symm | exact (decide_eq_false (fun q => ((mem_next c_11).mp q).elim (of_decide_eq_false (hf.symm.trans c_15)) c_25)).symm) (by omega) _ _ ls hP hD hS (lv_sub hl [2, 3, 1, 0] rfl)
        · refine lv_lload_n xh bh dX9_has_18 rfl (lv_at hl 0 rfl) ?_
          refine lv_iload xh bh dX9_has_19 (lv_at hl 3 rfl) ?_
          refine Ct.callS0 (rest := []) xh bh hml hown hts hK hP hS hA (ct_X9_partOf l D cI cJ cB cZ cA t i (by first | assumption | exact okT_nil) (by have := ht.1; omega)) (va_cwS 2 hts gX9_has_X9_partOf rfl rfl rfl (by decide +kernel) ⟨Nat.le_of_ble_eq_true rfl, Nat.le_of_ble_eq_true rfl⟩) rfl rfl hl.1 (Nat.le_of_ble_eq_true rfl) dX9_has_21 ⟨Nat.le_refl _, Nat.le_refl _⟩ (fun _ H locs _ hP hS => ?_)
          refine W.eq (g2 := F0 mG 24 ls [.int (nI (t.getD i 0))]) rfl ?_
          refine lv_iload_n xh bh dX9_has_24 rfl (lv_at hl 1 rfl) ?_
          refine xn_icmp_ne (tgt := 32) xh bh dX9_has_25 (by decide) (by have := ht.getD i; omega) (by have := ht.getD i; omega) (fun c_25 => ?_) (fun c_25 => ?_)
          · refine lv_iconst (v := (nI 0)) xh bh dX9_has_32 (by decide) ?_
            refine lv_istore_n (lv' := [(3, .int (nI 0)), (0, .long (eR t)), (2, .int (nI x)), (4, .int (nI i))]) xh bh dX9_has_33 rfl hl (by decide) rfl (fun ls hl => ?_)
            refine lv_iinc (v := (nI (i + 1))) (lv' := [(4, .int (nI (i + 1))), (3, .int (nI 0)), (0, .long (eR t)), (2, .int (nI x))]) xh bh dX9_has_34 hl (k := 3) rfl (by exact xn_inc _ _) (by decide) rfl (fun ls hl => ?_)
            refine lv_goto (tgt := 5) xh bh dX9_has_37 (by decide) ?_
            exact ih_5 (i + 1) false (by omega) (by first | exact (decide_eq_true ((mem_next c_11).mpr (Or.inl (of_decide_eq_true (hf.symm.trans c_15))))).symm | exact (decide_eq_true ((mem_next c_11).mpr (Or.inr c_25))).symm | exact (decide_eq_false (fun q => ((mem_next c_11).mp q).elim (of_decide_eq_false (hf.symm.trans c_15)) c_25)).symm) (by omega) _ _ ls hP hD hS (lv_sub hl [2, 3, 1, 0] rfl)
          · refine lv_iconst (v := (nI 1)) xh bh dX9_has_28 (by decide) ?_
            refine lv_goto (tgt := 33) xh bh dX9_has_29 (by decide) ?_
            refine lv_istore_n (lv' := [(3, .int (nI 1)), (0, .long (eR t)), (2, .int (nI x)), (4, .int (nI i))]) xh bh dX9_has_33 rfl hl (by decide) rfl (fun ls hl => ?_)
            refine lv_iinc (v := (nI (i + 1))) (lv' := [(4, .int (nI (i + 1))), (3, .int (nI 1)), (0, .long (eR t)), (2, .int (nI x))]) xh bh dX9_has_34 hl (k := 3) rfl (by exact xn_inc _ _) (by decide) rfl (fun ls hl => ?_)
            refine lv_goto (tgt := 5) xh bh dX9_has_37 (by decide) ?_
            exact ih_5 (i + 1) true (by omega) (by first | exact (decide_eq_true ((mem_next c_11).mpr (Or.inl (of_decide_eq_true (hf.symm.trans c_15))))).symm | exact (decide_eq_true ((mem_next c_11).mpr (Or.inr c_25))).symm | exact (decide_eq_false (fun q => ((mem_next c_11).mp q).elim (of_decide_eq_false (hf.symm.trans c_15)) c_25)).symm) (by omega) _ _ ls hP hD hS (lv_sub hl [2, 3, 1, 0] rfl)
  exact cut_5 (t.length - 0 + 1) 0 false (by exact Nat.zero_le _) (by simp) (Nat.lt_succ_self _) _ _ ls hP hD hS (lv_sub hl [2, 3, 1, 0] rfl)

set_option maxHeartbeats 1000000 in
set_option maxRecDepth 100000 in
theorem ct_X9_without (l : Launch) (D : va_G) (cI cJ cB cZ cA : ClassId) (t : List Nat) (p : Nat) (ht : okT t) (hp : p < 100) : Ct l yX9_without wsX9_without ({ frames := 2, cells := 0, slots := 0, locals := 43 }) D (tysG cI cJ cB cZ cA) [.long (eR t), .int (nI p)] [] (fun (_ : Unit) => True) (fun _ => some (.long (eR (wo t p t.length)))) (fun _ => []) := by
  refine Ct.ofL (cc := cX9_without) (maxL := 6) (by decide) rfl (Nat.le_of_ble_eq_true rfl) ?_
  intro pG eG sG mG aG bG tG cG AG QG ls xh bh hml hown hts hK hP hD hS hA hend hl
  have hl : lv_has ls 6 [(0, .long (eR t)), (2, .int (nI p))] := hl
  refine lv_lconst (v := lN 0) xh bh dX9_without_0 (by decide) ?_
  refine lv_lstore_n (lv' := [(3, .long (lN 0)), (0, .long (eR t)), (2, .int (nI p))]) xh bh dX9_without_1 rfl hl (by decide) rfl (fun ls hl => ?_)
  refine lv_iconst (v := (nI 0)) xh bh dX9_without_2 (by decide) ?_
  refine lv_istore (lv' := [(5, .int (nI 0)), (3, .long (lN 0)), (0, .long (eR t)), (2, .int (nI p))]) xh bh dX9_without_3 hl (by decide) rfl (fun ls hl => ?_)
  have cut_5 : ∀ (n_5 : Nat), ∀ (i : Nat), ∀ (r : List Nat), (i ≤ t.length) → (r = wo t p i) → (t.length - i) < n_5 → ∀ (H : Heap) (locs : List Loc) (ls : Array Slot), va_P D vwCl [] H → va_D AG [] → va_S AG sG.heap H locs → lv_has ls 6 [(0, .long (eR t)), (2, .int (nI p)), (3, .long (eR r)), (5, .int (nI i))] → W pG l eG ({ frames := 2, cells := 0, slots := 0, locals := 43 }) sG mG aG bG tG cG H locs 0 0 QG (F0 mG 5 ls []) := by
    intro n_5
    induction n_5 with
    | zero =>
      intro i r hi hr hmu
      exact absurd hmu (Nat.not_lt_zero _)
    | succ n_5 ih_5 =>
      intro i r hi hr hmu H locs ls hP hD hS hl
      refine lv_iload xh bh dX9_without_5 (lv_at hl 3 rfl) ?_
      refine lv_lload_n xh bh dX9_without_7 rfl (lv_at hl 0 rfl) ?_
      refine Ct.callS0 (rest := [.int (nI i)]) xh bh hml hown hts hK hP hS hA (ct_X9_many l D cI cJ cB cZ cA t (by first | assumption | exact okT_nil)) (va_cwS 1 hts gX9_without_X9_many rfl rfl rfl (by decide +kernel) ⟨Nat.le_of_ble_eq_true rfl, Nat.le_of_ble_eq_true rfl⟩) rfl rfl hl.1 (Nat.le_of_ble_eq_true rfl) dX9_without_8 ⟨Nat.le_refl _, Nat.le_refl _⟩ (fun _ H locs _ hP hS => ?_)
      refine W.eq (g2 := F0 mG 11 ls [.int (nI t.length), .int (nI i)]) rfl ?_
      refine xn_icmp_ge (tgt := 41) xh bh dX9_without_11 (by decide) (by have := ht.1; omega) (by have := ht.1; omega) (fun c_11 => ?_) (fun c_11 => ?_)
      · refine lv_lload_n xh bh dX9_without_41 rfl (lv_at hl 2 rfl) ?_
        exact hend (eR r) () _ _ _ _ (congrArg (fun z => some (Value.long (eR z))) (by rw [hr, show i = t.length by omega])) trivial dX9_without_42 hP hD hS
      · refine lv_iload xh bh dX9_without_14 (lv_at hl 3 rfl) ?_
        refine lv_iload_n xh bh dX9_without_16 rfl (lv_at hl 1 rfl) ?_
        refine xn_icmp_ne (tgt := 24) xh bh dX9_without_17 (by decide) (by have := ht.1; omega) (by have := ht.1; omega) (fun c_17 => ?_) (fun c_17 => ?_)
        · refine lv_lload_n xh bh dX9_without_24 rfl (lv_at hl 2 rfl) ?_
          refine lv_lload_n xh bh dX9_without_25 rfl (lv_at hl 0 rfl) ?_
          refine lv_iload xh bh dX9_without_26 (lv_at hl 3 rfl) ?_
          refine Ct.callS0 (rest := [.long (eR r)]) xh bh hml hown hts hK hP hS hA (ct_X9_partOf l D cI cJ cB cZ cA t i (by first | assumption | exact okT_nil) (by have := ht.1; omega)) (va_cwS 2 hts gX9_without_X9_partOf rfl rfl rfl (by decide +kernel) ⟨Nat.le_of_ble_eq_true rfl, Nat.le_of_ble_eq_true rfl⟩) rfl rfl hl.1 (Nat.le_of_ble_eq_true rfl) dX9_without_28 ⟨Nat.le_refl _, Nat.le_refl _⟩ (fun _ H locs _ hP hS => ?_)
          refine W.eq (g2 := F0 mG 31 ls [.int (nI (t.getD i 0)), .long (eR r)]) rfl ?_
          refine Ct.callS0 (rest := []) xh bh hml hown hts hK hP hS hA (ct_X9_behind l D cI cJ cB cZ cA r (t.getD i 0) (by rw [hr]; exact okT_wo ht p (by have := ht.1; omega)) (by exact ht.getD i)) (va_cwS 2 hts gX9_without_X9_behind rfl rfl rfl (by decide +kernel) ⟨Nat.le_of_ble_eq_true rfl, Nat.le_of_ble_eq_true rfl⟩) rfl rfl hl.1 (Nat.le_of_ble_eq_true rfl) dX9_without_31 ⟨Nat.le_refl _, Nat.le_refl _⟩ (fun _ H locs _ hP hS => ?_)
          refine W.eq (g2 := F0 mG 34 ls [.long (eR (r ++ [(t.getD i 0)]))]) rfl ?_
          refine lv_lstore_n (lv' := [(3, .long (eR (r ++ [(t.getD i 0)]))), (0, .long (eR t)), (2, .int (nI p)), (5, .int (nI i))]) xh bh dX9_without_34 rfl hl (by decide) rfl (fun ls hl => ?_)
          refine lv_iinc (v := (nI (i + 1))) (lv' := [(5, .int (nI (i + 1))), (3, .long (eR (r ++ [(t.getD i 0)]))), (0, .long (eR t)), (2, .int (nI p))]) xh bh dX9_without_35 hl (k := 3) rfl (by exact xn_inc _ _) (by decide) rfl (fun ls hl => ?_)
          refine lv_goto (tgt := 5) xh bh dX9_without_38 (by decide) ?_
          exact ih_5 (i + 1) (r ++ [(t.getD i 0)]) (by omega) (by first | (rw [hr]; exact (if_pos c_17).symm) | (rw [hr]; exact (if_neg c_17).symm)) (by omega) _ _ ls hP hD hS (lv_sub hl [2, 3, 1, 0] rfl)
        · refine lv_lload_n xh bh dX9_without_20 rfl (lv_at hl 2 rfl) ?_
          refine lv_goto (tgt := 34) xh bh dX9_without_21 (by decide) ?_
          refine lv_lstore_n (lv' := [(3, .long (eR r)), (0, .long (eR t)), (2, .int (nI p)), (5, .int (nI i))]) xh bh dX9_without_34 rfl hl (by decide) rfl (fun ls hl => ?_)
          refine lv_iinc (v := (nI (i + 1))) (lv' := [(5, .int (nI (i + 1))), (3, .long (eR r)), (0, .long (eR t)), (2, .int (nI p))]) xh bh dX9_without_35 hl (k := 3) rfl (by exact xn_inc _ _) (by decide) rfl (fun ls hl => ?_)
          refine lv_goto (tgt := 5) xh bh dX9_without_38 (by decide) ?_
          exact ih_5 (i + 1) r (by omega) (by first | (rw [hr]; exact (if_pos c_17).symm) | (rw [hr]; exact (if_neg c_17).symm)) (by omega) _ _ ls hP hD hS (lv_sub hl [2, 3, 1, 0] rfl)
  exact cut_5 (t.length - 0 + 1) 0 ([]) (by exact Nat.zero_le _) (by rfl) (Nat.lt_succ_self _) _ _ ls hP hD hS (lv_sub hl [2, 3, 1, 0] rfl)

set_option maxHeartbeats 1000000 in
set_option maxRecDepth 100000 in
theorem ct_X9_changed (l : Launch) (D : va_G) (cI cJ cB cZ cA : ClassId) (t : List Nat) (p : Nat) (x : Nat) (ht : okT t) (hp : p < 100) (hx : x < 10) : Ct l yX9_changed wsX9_changed ({ frames := 2, cells := 0, slots := 0, locals := 43 }) D (tysG cI cJ cB cZ cA) [.long (eR t), .int (nI p), .int (nI x)] [] (fun (_ : Unit) => True) (fun _ => some (.long (eR (ch t p x t.length)))) (fun _ => []) := by
  refine Ct.ofL (cc := cX9_changed) (maxL := 7) (by decide) rfl (Nat.le_of_ble_eq_true rfl) ?_
  intro pG eG sG mG aG bG tG cG AG QG ls xh bh hml hown hts hK hP hD hS hA hend hl
  have hl : lv_has ls 7 [(0, .long (eR t)), (2, .int (nI p)), (3, .int (nI x))] := hl
  refine lv_lconst (v := lN 0) xh bh dX9_changed_0 (by decide) ?_
  refine lv_lstore (lv' := [(4, .long (lN 0)), (0, .long (eR t)), (2, .int (nI p)), (3, .int (nI x))]) xh bh dX9_changed_1 hl (by decide) rfl (fun ls hl => ?_)
  refine lv_iconst (v := (nI 0)) xh bh dX9_changed_3 (by decide) ?_
  refine lv_istore (lv' := [(6, .int (nI 0)), (4, .long (lN 0)), (0, .long (eR t)), (2, .int (nI p)), (3, .int (nI x))]) xh bh dX9_changed_4 hl (by decide) rfl (fun ls hl => ?_)
  have cut_6 : ∀ (n_6 : Nat), ∀ (i : Nat), ∀ (r : List Nat), (i ≤ t.length) → (r = ch t p x i) → (t.length - i) < n_6 → ∀ (H : Heap) (locs : List Loc) (ls : Array Slot), va_P D vwCl [] H → va_D AG [] → va_S AG sG.heap H locs → lv_has ls 7 [(0, .long (eR t)), (2, .int (nI p)), (3, .int (nI x)), (4, .long (eR r)), (6, .int (nI i))] → W pG l eG ({ frames := 2, cells := 0, slots := 0, locals := 43 }) sG mG aG bG tG cG H locs 0 0 QG (F0 mG 6 ls []) := by
    intro n_6
    induction n_6 with
    | zero =>
      intro i r hi hr hmu
      exact absurd hmu (Nat.not_lt_zero _)
    | succ n_6 ih_6 =>
      intro i r hi hr hmu H locs ls hP hD hS hl
      refine lv_iload xh bh dX9_changed_6 (lv_at hl 4 rfl) ?_
      refine lv_lload_n xh bh dX9_changed_8 rfl (lv_at hl 0 rfl) ?_
      refine Ct.callS0 (rest := [.int (nI i)]) xh bh hml hown hts hK hP hS hA (ct_X9_many l D cI cJ cB cZ cA t (by first | assumption | exact okT_nil)) (va_cwS 1 hts gX9_changed_X9_many rfl rfl rfl (by decide +kernel) ⟨Nat.le_of_ble_eq_true rfl, Nat.le_of_ble_eq_true rfl⟩) rfl rfl hl.1 (Nat.le_of_ble_eq_true rfl) dX9_changed_9 ⟨Nat.le_refl _, Nat.le_refl _⟩ (fun _ H locs _ hP hS => ?_)
      refine W.eq (g2 := F0 mG 12 ls [.int (nI t.length), .int (nI i)]) rfl ?_
      refine xn_icmp_ge (tgt := 44) xh bh dX9_changed_12 (by decide) (by have := ht.1; omega) (by have := ht.1; omega) (fun c_12 => ?_) (fun c_12 => ?_)
      · refine lv_lload xh bh dX9_changed_44 (lv_at hl 3 rfl) ?_
        exact hend (eR r) () _ _ _ _ (congrArg (fun z => some (Value.long (eR z))) (by rw [hr, show i = t.length by omega])) trivial dX9_changed_46 hP hD hS
      · refine lv_lload xh bh dX9_changed_15 (lv_at hl 3 rfl) ?_
        refine lv_iload xh bh dX9_changed_17 (lv_at hl 4 rfl) ?_
        refine lv_iload_n xh bh dX9_changed_19 rfl (lv_at hl 1 rfl) ?_
        refine xn_icmp_ne (tgt := 27) xh bh dX9_changed_20 (by decide) (by have := ht.1; omega) (by have := ht.1; omega) (fun c_20 => ?_) (fun c_20 => ?_)
        · refine lv_lload_n xh bh dX9_changed_27 rfl (lv_at hl 0 rfl) ?_
          refine lv_iload xh bh dX9_changed_28 (lv_at hl 4 rfl) ?_
          refine Ct.callS0 (rest := [.long (eR r)]) xh bh hml hown hts hK hP hS hA (ct_X9_partOf l D cI cJ cB cZ cA t i (by first | assumption | exact okT_nil) (by have := ht.1; omega)) (va_cwS 2 hts gX9_changed_X9_partOf rfl rfl rfl (by decide +kernel) ⟨Nat.le_of_ble_eq_true rfl, Nat.le_of_ble_eq_true rfl⟩) rfl rfl hl.1 (Nat.le_of_ble_eq_true rfl) dX9_changed_30 ⟨Nat.le_refl _, Nat.le_refl _⟩ (fun _ H locs _ hP hS => ?_)
          refine W.eq (g2 := F0 mG 33 ls [.int (nI (t.getD i 0)), .long (eR r)]) rfl ?_
          refine Ct.callS0 (rest := []) xh bh hml hown hts hK hP hS hA (ct_X9_behind l D cI cJ cB cZ cA r (t.getD i 0) (by rw [hr]; exact okT_ch ht p hx (by have := ht.1; omega)) (by first | exact ht.getD i | exact hx)) (va_cwS 2 hts gX9_changed_X9_behind rfl rfl rfl (by decide +kernel) ⟨Nat.le_of_ble_eq_true rfl, Nat.le_of_ble_eq_true rfl⟩) rfl rfl hl.1 (Nat.le_of_ble_eq_true rfl) dX9_changed_33 ⟨Nat.le_refl _, Nat.le_refl _⟩ (fun _ H locs _ hP hS => ?_)
          refine W.eq (g2 := F0 mG 36 ls [.long (eR (r ++ [(t.getD i 0)]))]) rfl ?_
          refine lv_lstore (lv' := [(4, .long (eR (r ++ [(t.getD i 0)]))), (0, .long (eR t)), (2, .int (nI p)), (3, .int (nI x)), (6, .int (nI i))]) xh bh dX9_changed_36 hl (by decide) rfl (fun ls hl => ?_)
          refine lv_iinc (v := (nI (i + 1))) (lv' := [(6, .int (nI (i + 1))), (4, .long (eR (r ++ [(t.getD i 0)]))), (0, .long (eR t)), (2, .int (nI p)), (3, .int (nI x))]) xh bh dX9_changed_38 hl (k := 4) rfl (by exact xn_inc _ _) (by decide) rfl (fun ls hl => ?_)
          refine lv_goto (tgt := 6) xh bh dX9_changed_41 (by decide) ?_
          exact ih_6 (i + 1) (r ++ [(t.getD i 0)]) (by omega) (by rw [hr]; first | (exact congrArg (fun z => ch t p x i ++ [z]) (if_pos c_20).symm) | (exact congrArg (fun z => ch t p x i ++ [z]) (if_neg c_20).symm)) (by omega) _ _ ls hP hD hS (lv_sub hl [2, 3, 4, 1, 0] rfl)
        · refine lv_iload_n xh bh dX9_changed_23 rfl (lv_at hl 2 rfl) ?_
          refine lv_goto (tgt := 33) xh bh dX9_changed_24 (by decide) ?_
          refine Ct.callS0 (rest := []) xh bh hml hown hts hK hP hS hA (ct_X9_behind l D cI cJ cB cZ cA r x (by rw [hr]; exact okT_ch ht p hx (by have := ht.1; omega)) (by first | exact ht.getD i | exact hx)) (va_cwS 2 hts gX9_changed_X9_behind rfl rfl rfl (by decide +kernel) ⟨Nat.le_of_ble_eq_true rfl, Nat.le_of_ble_eq_true rfl⟩) rfl rfl hl.1 (Nat.le_of_ble_eq_true rfl) dX9_changed_33 ⟨Nat.le_refl _, Nat.le_refl _⟩ (fun _ H locs _ hP hS => ?_)
          refine W.eq (g2 := F0 mG 36 ls [.long (eR (r ++ [x]))]) rfl ?_
          refine lv_lstore (lv' := [(4, .long (eR (r ++ [x]))), (0, .long (eR t)), (2, .int (nI p)), (3, .int (nI x)), (6, .int (nI i))]) xh bh dX9_changed_36 hl (by decide) rfl (fun ls hl => ?_)
          refine lv_iinc (v := (nI (i + 1))) (lv' := [(6, .int (nI (i + 1))), (4, .long (eR (r ++ [x]))), (0, .long (eR t)), (2, .int (nI p)), (3, .int (nI x))]) xh bh dX9_changed_38 hl (k := 4) rfl (by exact xn_inc _ _) (by decide) rfl (fun ls hl => ?_)
          refine lv_goto (tgt := 6) xh bh dX9_changed_41 (by decide) ?_
          exact ih_6 (i + 1) (r ++ [x]) (by omega) (by rw [hr]; first | (exact congrArg (fun z => ch t p x i ++ [z]) (if_pos c_20).symm) | (exact congrArg (fun z => ch t p x i ++ [z]) (if_neg c_20).symm)) (by omega) _ _ ls hP hD hS (lv_sub hl [2, 3, 4, 1, 0] rfl)
  exact cut_6 (t.length - 0 + 1) 0 ([]) (by exact Nat.zero_le _) (by rfl) (Nat.lt_succ_self _) _ _ ls hP hD hS (lv_sub hl [2, 3, 4, 1, 0] rfl)

set_option maxHeartbeats 1000000 in
set_option maxRecDepth 100000 in
theorem ct_X9_turned (l : Launch) (D : va_G) (cI cJ cB cZ cA : ClassId) (t : List Nat) (p : Nat) (ht : okT t) (hp : p < 10) : Ct l yX9_turned wsX9_turned ({ frames := 3, cells := 0, slots := 0, locals := 69 }) D (tysG cI cJ cB cZ cA) [.long (eR t), .int (nI p)] [] (fun (_ : Unit) => True) (fun _ => some (.long (eR (turnT t p)))) (fun _ => []) := by
  refine Ct.ofL (cc := cX9_turned) (maxL := 5) (by decide) rfl (Nat.le_of_ble_eq_true rfl) ?_
  intro pG eG sG mG aG bG tG cG AG QG ls xh bh hml hown hts hK hP hD hS hA hend hl
  have hl : lv_has ls 5 [(0, .long (eR t)), (2, .int (nI p))] := hl
  refine lv_lload_n xh bh dX9_turned_0 rfl (lv_at hl 0 rfl) ?_
  refine lv_lstore_n (lv' := [(3, .long (eR t)), (0, .long (eR t)), (2, .int (nI p))]) xh bh dX9_turned_1 rfl hl (by decide) rfl (fun ls hl => ?_)
  refine lv_iload_n xh bh dX9_turned_2 rfl (lv_at hl 2 rfl) ?_
  refine lv_iconst (v := (nI 1)) xh bh dX9_turned_3 (by decide) ?_
  refine xn_iadd xh bh dX9_turned_4 ?_
  refine lv_lload_n xh bh dX9_turned_5 rfl (lv_at hl 1 rfl) ?_
  refine Ct.callS0 (rest := [.int (nI (p + 1))]) xh bh hml hown hts hK hP hS hA (ct_X9_many l D cI cJ cB cZ cA t (by first | assumption | exact okT_nil)) (va_cwS 1 hts gX9_turned_X9_many rfl rfl rfl (by decide +kernel) ⟨Nat.le_of_ble_eq_true rfl, Nat.le_of_ble_eq_true rfl⟩) rfl rfl hl.1 (Nat.le_of_ble_eq_true rfl) dX9_turned_6 ⟨Nat.le_refl _, Nat.le_refl _⟩ (fun _ H locs _ hP hS => ?_)
  refine W.eq (g2 := F0 mG 9 ls [.int (nI t.length), .int (nI (p + 1))]) rfl ?_
  refine xn_icmp_ge (tgt := 36) xh bh dX9_turned_9 (by decide) (by have := ht.1; omega) (by have := ht.1; omega) (fun c_9 => ?_) (fun c_9 => ?_)
  · refine lv_lload_n xh bh dX9_turned_36 rfl (lv_at hl 0 rfl) ?_
    exact hend (eR t) () _ _ _ _ (congrArg (fun z => some (Value.long (eR z))) (by first | (rw [ch_len]; exact if_pos c_9) | exact if_neg (by omega))) trivial dX9_turned_37 hP hD hS
  · refine lv_lload_n xh bh dX9_turned_12 rfl (lv_at hl 1 rfl) ?_
    refine lv_iload_n xh bh dX9_turned_13 rfl (lv_at hl 2 rfl) ?_
    refine lv_lload_n xh bh dX9_turned_14 rfl (lv_at hl 1 rfl) ?_
    refine lv_iload_n xh bh dX9_turned_15 rfl (lv_at hl 2 rfl) ?_
    refine lv_iconst (v := (nI 1)) xh bh dX9_turned_16 (by decide) ?_
    refine xn_iadd xh bh dX9_turned_17 ?_
    refine Ct.callS0 (rest := [.int (nI p), .long (eR t)]) xh bh hml hown hts hK hP hS hA (ct_X9_partOf l D cI cJ cB cZ cA t (p + 1) (by first | assumption | exact okT_nil) (by have := ht.1; omega)) (va_cwS 2 hts gX9_turned_X9_partOf rfl rfl rfl (by decide +kernel) ⟨Nat.le_of_ble_eq_true rfl, Nat.le_of_ble_eq_true rfl⟩) rfl rfl hl.1 (Nat.le_of_ble_eq_true rfl) dX9_turned_18 ⟨Nat.le_refl _, Nat.le_refl _⟩ (fun _ H locs _ hP hS => ?_)
    refine W.eq (g2 := F0 mG 21 ls [.int (nI (t.getD (p + 1) 0)), .int (nI p), .long (eR t)]) rfl ?_
    refine Ct.callS0 (rest := []) xh bh hml hown hts hK hP hS hA (ct_X9_changed l D cI cJ cB cZ cA t p (t.getD (p + 1) 0) (by first | assumption | exact okT_nil) (by first | assumption | omega) (by exact ht.getD _)) (va_cwS 3 hts gX9_turned_X9_changed rfl rfl rfl (by decide +kernel) ⟨Nat.le_of_ble_eq_true rfl, Nat.le_of_ble_eq_true rfl⟩) rfl rfl hl.1 (Nat.le_of_ble_eq_true rfl) dX9_turned_21 ⟨Nat.le_refl _, Nat.le_refl _⟩ (fun _ H locs _ hP hS => ?_)
    refine W.eq (g2 := F0 mG 24 ls [.long (eR (ch t p (t.getD (p + 1) 0) t.length))]) rfl ?_
    refine lv_iload_n xh bh dX9_turned_24 rfl (lv_at hl 2 rfl) ?_
    refine lv_iconst (v := (nI 1)) xh bh dX9_turned_25 (by decide) ?_
    refine xn_iadd xh bh dX9_turned_26 ?_
    refine lv_lload_n xh bh dX9_turned_27 rfl (lv_at hl 1 rfl) ?_
    refine lv_iload_n xh bh dX9_turned_28 rfl (lv_at hl 2 rfl) ?_
    refine Ct.callS0 (rest := [.int (nI (p + 1)), .long (eR (ch t p (t.getD (p + 1) 0) t.length))]) xh bh hml hown hts hK hP hS hA (ct_X9_partOf l D cI cJ cB cZ cA t p (by first | assumption | exact okT_nil) (by have := ht.1; omega)) (va_cwS 2 hts gX9_turned_X9_partOf rfl rfl rfl (by decide +kernel) ⟨Nat.le_of_ble_eq_true rfl, Nat.le_of_ble_eq_true rfl⟩) rfl rfl hl.1 (Nat.le_of_ble_eq_true rfl) dX9_turned_29 ⟨Nat.le_refl _, Nat.le_refl _⟩ (fun _ H locs _ hP hS => ?_)
    refine W.eq (g2 := F0 mG 32 ls [.int (nI (t.getD p 0)), .int (nI (p + 1)), .long (eR (ch t p (t.getD (p + 1) 0) t.length))]) rfl ?_
    refine Ct.callS0 (rest := []) xh bh hml hown hts hK hP hS hA (ct_X9_changed l D cI cJ cB cZ cA (ch t p (t.getD (p + 1) 0) t.length) (p + 1) (t.getD p 0) (by exact okT_ch ht p (ht.getD _) ht.1) (by first | assumption | omega) (by exact ht.getD _)) (va_cwS 3 hts gX9_turned_X9_changed rfl rfl rfl (by decide +kernel) ⟨Nat.le_of_ble_eq_true rfl, Nat.le_of_ble_eq_true rfl⟩) rfl rfl hl.1 (Nat.le_of_ble_eq_true rfl) dX9_turned_32 ⟨Nat.le_refl _, Nat.le_refl _⟩ (fun _ H locs _ hP hS => ?_)
    refine W.eq (g2 := F0 mG 35 ls [.long (eR (ch (ch t p (t.getD (p + 1) 0) t.length) (p + 1) (t.getD p 0) (ch t p (t.getD (p + 1) 0) t.length).length))]) rfl ?_
    refine lv_lstore_n (lv' := [(3, .long (eR (ch (ch t p (t.getD (p + 1) 0) t.length) (p + 1) (t.getD p 0) (ch t p (t.getD (p + 1) 0) t.length).length))), (0, .long (eR t)), (2, .int (nI p))]) xh bh dX9_turned_35 rfl hl (by decide) rfl (fun ls hl => ?_)
    refine lv_lload_n xh bh dX9_turned_36 rfl (lv_at hl 0 rfl) ?_
    exact hend (eR (ch (ch t p (t.getD (p + 1) 0) t.length) (p + 1) (t.getD p 0) (ch t p (t.getD (p + 1) 0) t.length).length)) () _ _ _ _ (congrArg (fun z => some (Value.long (eR z))) (by first | (rw [ch_len]; exact if_pos c_9) | exact if_neg (by omega))) trivial dX9_turned_37 hP hD hS

set_option maxHeartbeats 1000000 in
set_option maxRecDepth 100000 in
theorem ct_X9_slips (l : Launch) (D : va_G) (cI cJ cB cZ cA : ClassId) (k : Nat) (i : Nat) (x : Nat) (t : List Nat) (ht : okT t) (hk : k < 100) (hi : i < 10) (hx : x < 10) : Ct l yX9_slips wsX9_slips ({ frames := 4, cells := 0, slots := 0, locals := 93 }) D (tysG cI cJ cB cZ cA) [.int (nI k), .int (nI i), .int (nI x), .long (eR t)] [] (fun (_ : Unit) => True) (fun _ => some (.long (eR (slipT t k i x)))) (fun _ => []) := by
  refine Ct.ofL (cc := cX9_slips) (maxL := 7) (by decide) rfl (Nat.le_of_ble_eq_true rfl) ?_
  intro pG eG sG mG aG bG tG cG AG QG ls xh bh hml hown hts hK hP hD hS hA hend hl
  have hl : lv_has ls 7 [(0, .int (nI k)), (1, .int (nI i)), (2, .int (nI x)), (3, .long (eR t))] := hl
  refine lv_lload_n xh bh dX9_slips_0 rfl (lv_at hl 3 rfl) ?_
  refine lv_lstore (lv' := [(5, .long (eR t)), (0, .int (nI k)), (1, .int (nI i)), (2, .int (nI x)), (3, .long (eR t))]) xh bh dX9_slips_1 hl (by decide) rfl (fun ls hl => ?_)
  refine lv_iload_n xh bh dX9_slips_3 rfl (lv_at hl 1 rfl) ?_
  refine xn_cases (x := k) 1 5 (fun c_4 => ?_) (fun c_4 => ?_)
  · refine lv_tableOut (tgt := 118) xh bh dX9_slips_4 (by exact xn_out (by omega) c_4) (by decide) ?_
    refine lv_lload xh bh dX9_slips_118 (lv_at hl 0 rfl) ?_
    exact hend (eR t) () _ _ _ _ (congrArg (fun z => some (Value.long (eR z))) (by unfold slipT; rw [if_neg (by omega), if_neg (by omega), if_neg (by omega), if_neg (by omega), if_neg (by omega)])) trivial dX9_slips_120 hP hD hS
  · rcases (show k = 1 ∨ k = 2 ∨ k = 3 ∨ k = 4 ∨ k = 5 by omega) with c_4 | c_4 | c_4 | c_4 | c_4
    · refine lv_tableIn (off := 36) (tgt := 40) xh bh dX9_slips_4 (by rw [c_4]; decide) (by rw [c_4]; decide) (by rw [c_4]; decide) (by decide) ?_
      refine lv_lload_n xh bh dX9_slips_40 rfl (lv_at hl 4 rfl) ?_
      refine lv_iload_n xh bh dX9_slips_41 rfl (lv_at hl 2 rfl) ?_
      refine Ct.callS0 (rest := []) xh bh hml hown hts hK hP hS hA (ct_X9_without l D cI cJ cB cZ cA t i (by first | assumption | exact okT_nil) (by first | assumption | omega)) (va_cwS 2 hts gX9_slips_X9_without rfl rfl rfl (by decide +kernel) ⟨Nat.le_of_ble_eq_true rfl, Nat.le_of_ble_eq_true rfl⟩) rfl rfl hl.1 (Nat.le_of_ble_eq_true rfl) dX9_slips_42 ⟨Nat.le_refl _, Nat.le_refl _⟩ (fun _ H locs _ hP hS => ?_)
      refine W.eq (g2 := F0 mG 45 ls [.long (eR (wo t i t.length))]) rfl ?_
      exact hend (eR (wo t i t.length)) () _ _ _ _ (congrArg (fun z => some (Value.long (eR z))) (by rw [c_4]; rfl)) trivial dX9_slips_45 hP hD hS
    · refine lv_tableIn (off := 42) (tgt := 46) xh bh dX9_slips_4 (by rw [c_4]; decide) (by rw [c_4]; decide) (by rw [c_4]; decide) (by decide) ?_
      refine lv_lload_n xh bh dX9_slips_46 rfl (lv_at hl 4 rfl) ?_
      refine lv_iload_n xh bh dX9_slips_47 rfl (lv_at hl 2 rfl) ?_
      refine lv_iload_n xh bh dX9_slips_48 rfl (lv_at hl 3 rfl) ?_
      refine Ct.callS0 (rest := []) xh bh hml hown hts hK hP hS hA (ct_X9_changed l D cI cJ cB cZ cA t i x (by first | assumption | exact okT_nil) (by first | assumption | omega) (by first | assumption | omega)) (va_cwS 3 hts gX9_slips_X9_changed rfl rfl rfl (by decide +kernel) ⟨Nat.le_of_ble_eq_true rfl, Nat.le_of_ble_eq_true rfl⟩) rfl rfl hl.1 (Nat.le_of_ble_eq_true rfl) dX9_slips_49 ⟨Nat.le_refl _, Nat.le_refl _⟩ (fun _ H locs _ hP hS => ?_)
      refine W.eq (g2 := F0 mG 52 ls [.long (eR (ch t i x t.length))]) rfl ?_
      exact hend (eR (ch t i x t.length)) () _ _ _ _ (congrArg (fun z => some (Value.long (eR z))) (by rw [c_4]; rfl)) trivial dX9_slips_52 hP hD hS
    · refine lv_tableIn (off := 49) (tgt := 53) xh bh dX9_slips_4 (by rw [c_4]; decide) (by rw [c_4]; decide) (by rw [c_4]; decide) (by decide) ?_
      refine lv_lload_n xh bh dX9_slips_53 rfl (lv_at hl 4 rfl) ?_
      refine lv_iload_n xh bh dX9_slips_54 rfl (lv_at hl 2 rfl) ?_
      refine Ct.callS0 (rest := []) xh bh hml hown hts hK hP hS hA (ct_X9_turned l D cI cJ cB cZ cA t i (by first | assumption | exact okT_nil) (by first | assumption | omega)) (va_cwS 2 hts gX9_slips_X9_turned rfl rfl rfl (by decide +kernel) ⟨Nat.le_of_ble_eq_true rfl, Nat.le_of_ble_eq_true rfl⟩) rfl rfl hl.1 (Nat.le_of_ble_eq_true rfl) dX9_slips_55 ⟨Nat.le_refl _, Nat.le_refl _⟩ (fun _ H locs _ hP hS => ?_)
      refine W.eq (g2 := F0 mG 58 ls [.long (eR (turnT t i))]) rfl ?_
      exact hend (eR (turnT t i)) () _ _ _ _ (congrArg (fun z => some (Value.long (eR z))) (by rw [c_4]; rfl)) trivial dX9_slips_58 hP hD hS
    · refine lv_tableIn (off := 55) (tgt := 59) xh bh dX9_slips_4 (by rw [c_4]; decide) (by rw [c_4]; decide) (by rw [c_4]; decide) (by decide) ?_
      refine lv_iload_n xh bh dX9_slips_59 rfl (lv_at hl 2 rfl) ?_
      refine lv_lload_n xh bh dX9_slips_60 rfl (lv_at hl 4 rfl) ?_
      refine Ct.callS0 (rest := [.int (nI i)]) xh bh hml hown hts hK hP hS hA (ct_X9_many l D cI cJ cB cZ cA t (by first | assumption | exact okT_nil)) (va_cwS 1 hts gX9_slips_X9_many rfl rfl rfl (by decide +kernel) ⟨Nat.le_of_ble_eq_true rfl, Nat.le_of_ble_eq_true rfl⟩) rfl rfl hl.1 (Nat.le_of_ble_eq_true rfl) dX9_slips_61 ⟨Nat.le_refl _, Nat.le_refl _⟩ (fun _ H locs _ hP hS => ?_)
      refine W.eq (g2 := F0 mG 64 ls [.int (nI t.length), .int (nI i)]) rfl ?_
      refine xn_icmp_ge (tgt := 75) xh bh dX9_slips_64 (by decide) (by have := ht.1; omega) (by have := ht.1; omega) (fun c_64 => ?_) (fun c_64 => ?_)
      · refine lv_lload_n xh bh dX9_slips_75 rfl (lv_at hl 4 rfl) ?_
        exact hend (eR t) () _ _ _ _ (congrArg (fun z => some (Value.long (eR z))) (by rw [c_4]; first | rfl | exact List.take_of_length_le c_64)) trivial dX9_slips_76 hP hD hS
      · refine lv_lload_n xh bh dX9_slips_67 rfl (lv_at hl 4 rfl) ?_
        refine lv_iload_n xh bh dX9_slips_68 rfl (lv_at hl 2 rfl) ?_
        refine Ct.callS0 (rest := []) xh bh hml hown hts hK hP hS hA (ct_X9_firstOnes l D cI cJ cB cZ cA t i (by first | assumption | exact okT_nil) (by first | assumption | omega)) (va_cwS 2 hts gX9_slips_X9_firstOnes rfl rfl rfl (by decide +kernel) ⟨Nat.le_of_ble_eq_true rfl, Nat.le_of_ble_eq_true rfl⟩) rfl rfl hl.1 (Nat.le_of_ble_eq_true rfl) dX9_slips_69 ⟨Nat.le_refl _, Nat.le_refl _⟩ (fun _ H locs _ hP hS => ?_)
        refine W.eq (g2 := F0 mG 72 ls [.long (eR (t.take i))]) rfl ?_
        refine lv_goto (tgt := 76) xh bh dX9_slips_72 (by decide) ?_
        exact hend (eR (t.take i)) () _ _ _ _ (congrArg (fun z => some (Value.long (eR z))) (by rw [c_4]; first | rfl | exact List.take_of_length_le c_64)) trivial dX9_slips_76 hP hD hS
    · refine lv_tableIn (off := 73) (tgt := 77) xh bh dX9_slips_4 (by rw [c_4]; decide) (by rw [c_4]; decide) (by rw [c_4]; decide) (by decide) ?_
      refine lv_lload_n xh bh dX9_slips_77 rfl (lv_at hl 4 rfl) ?_
      refine lv_iload_n xh bh dX9_slips_78 rfl (lv_at hl 2 rfl) ?_
      refine lv_iload_n xh bh dX9_slips_79 rfl (lv_at hl 3 rfl) ?_
      refine Ct.callS0 (rest := []) xh bh hml hown hts hK hP hS hA (ct_X9_changed l D cI cJ cB cZ cA t i x (by first | assumption | exact okT_nil) (by first | assumption | omega) (by first | assumption | omega)) (va_cwS 3 hts gX9_slips_X9_changed rfl rfl rfl (by decide +kernel) ⟨Nat.le_of_ble_eq_true rfl, Nat.le_of_ble_eq_true rfl⟩) rfl rfl hl.1 (Nat.le_of_ble_eq_true rfl) dX9_slips_80 ⟨Nat.le_refl _, Nat.le_refl _⟩ (fun _ H locs _ hP hS => ?_)
      refine W.eq (g2 := F0 mG 83 ls [.long (eR (ch t i x t.length))]) rfl ?_
      refine lv_lstore (lv' := [(5, .long (eR (ch t i x t.length))), (0, .int (nI k)), (1, .int (nI i)), (2, .int (nI x)), (3, .long (eR t))]) xh bh dX9_slips_83 hl (by decide) rfl (fun ls hl => ?_)
      refine lv_lload xh bh dX9_slips_85 (lv_at hl 0 rfl) ?_
      refine lv_bipush (v := (nI 9)) xh bh dX9_slips_87 (by decide) ?_
      refine Ct.callS0 (rest := []) xh bh hml hown hts hK hP hS hA (ct_X9_has l D cI cJ cB cZ cA (ch t i x t.length) 9 (by exact okT_ch ht i hx ht.1) (by first | assumption | omega)) (va_cwS 2 hts gX9_slips_X9_has rfl rfl rfl (by decide +kernel) ⟨Nat.le_of_ble_eq_true rfl, Nat.le_of_ble_eq_true rfl⟩) rfl rfl hl.1 (Nat.le_of_ble_eq_true rfl) dX9_slips_89 ⟨Nat.le_refl _, Nat.le_refl _⟩ (fun _ H locs _ hP hS => ?_)
      refine W.eq (g2 := F0 mG 92 ls [.int (ib (decide (9 ∈ (ch t i x t.length))))]) rfl ?_
      refine xb_if_ne (tgt := 105) xh bh dX9_slips_92 (by decide) (fun c_92 => ?_) (fun c_92 => ?_)
      · refine lv_lload xh bh dX9_slips_105 (lv_at hl 0 rfl) ?_
        refine lv_goto (tgt := 117) xh bh dX9_slips_107 (by decide) ?_
        exact hend (eR (ch t i x t.length)) () _ _ _ _ (congrArg (fun z => some (Value.long (eR z))) (by rw [c_4]; show mendT _ = _; unfold mendT; first | exact if_pos (of_decide_eq_true c_92) | (rw [if_neg (of_decide_eq_false c_92)]; unfold addT; first | exact if_neg (by omega) | exact if_pos (by rw [ch_len] at c_102 ⊢; have := ht.1; omega)))) trivial dX9_slips_117 hP hD hS
      · refine lv_lload xh bh dX9_slips_95 (lv_at hl 0 rfl) ?_
        refine Ct.callS0 (rest := []) xh bh hml hown hts hK hP hS hA (ct_X9_many l D cI cJ cB cZ cA (ch t i x t.length) (by exact okT_ch ht i hx ht.1)) (va_cwS 1 hts gX9_slips_X9_many rfl rfl rfl (by decide +kernel) ⟨Nat.le_of_ble_eq_true rfl, Nat.le_of_ble_eq_true rfl⟩) rfl rfl hl.1 (Nat.le_of_ble_eq_true rfl) dX9_slips_97 ⟨Nat.le_refl _, Nat.le_refl _⟩ (fun _ H locs _ hP hS => ?_)
        refine W.eq (g2 := F0 mG 100 ls [.int (nI ((ch t i x t.length).length))]) rfl ?_
        refine lv_bipush (v := (nI 10)) xh bh dX9_slips_100 (by decide) ?_
        refine xn_icmp_ne (tgt := 110) xh bh dX9_slips_102 (by decide) (by first | omega | (rw [ch_len]; have := ht.1; omega)) (by first | omega | (rw [ch_len]; have := ht.1; omega)) (fun c_102 => ?_) (fun c_102 => ?_)
        · refine lv_lload xh bh dX9_slips_110 (lv_at hl 0 rfl) ?_
          refine lv_bipush (v := (nI 9)) xh bh dX9_slips_112 (by decide) ?_
          refine Ct.callS0 (rest := []) xh bh hml hown hts hK hP hS hA (ct_X9_behind l D cI cJ cB cZ cA (ch t i x t.length) 9 (by exact okT_ch ht i hx ht.1) (by first | assumption | omega)) (va_cwS 2 hts gX9_slips_X9_behind rfl rfl rfl (by decide +kernel) ⟨Nat.le_of_ble_eq_true rfl, Nat.le_of_ble_eq_true rfl⟩) rfl rfl hl.1 (Nat.le_of_ble_eq_true rfl) dX9_slips_114 ⟨Nat.le_refl _, Nat.le_refl _⟩ (fun _ H locs _ hP hS => ?_)
          refine W.eq (g2 := F0 mG 117 ls [.long (eR ((ch t i x t.length) ++ [9]))]) rfl ?_
          exact hend (eR ((ch t i x t.length) ++ [9])) () _ _ _ _ (congrArg (fun z => some (Value.long (eR z))) (by rw [c_4]; show mendT _ = _; unfold mendT; first | exact if_pos (of_decide_eq_true c_92) | (rw [if_neg (of_decide_eq_false c_92)]; unfold addT; first | exact if_neg (by omega) | exact if_pos (by rw [ch_len] at c_102 ⊢; have := ht.1; omega)))) trivial dX9_slips_117 hP hD hS
        · refine lv_lload xh bh dX9_slips_105 (lv_at hl 0 rfl) ?_
          refine lv_goto (tgt := 117) xh bh dX9_slips_107 (by decide) ?_
          exact hend (eR (ch t i x t.length)) () _ _ _ _ (congrArg (fun z => some (Value.long (eR z))) (by rw [c_4]; show mendT _ = _; unfold mendT; first | exact if_pos (of_decide_eq_true c_92) | (rw [if_neg (of_decide_eq_false c_92)]; unfold addT; first | exact if_neg (by omega) | exact if_pos (by rw [ch_len] at c_102 ⊢; have := ht.1; omega)))) trivial dX9_slips_117 hP hD hS

set_option maxHeartbeats 1000000 in
set_option maxRecDepth 100000 in
theorem ct_X9_isSlip (l : Launch) (D : va_G) (cI cJ cB cZ cA : ClassId) (k : Int32) (i : Int32) (x : Int32) : Ct l yX9_isSlip wsX9_isSlip ({ frames := 2, cells := 0, slots := 0, locals := 45 }) D (tysG cI cJ cB cZ cA) [.int k, .int i, .int x] [] (fun (_ : Unit) => True) (fun _ => some (.int (ib (upB k 5 && upB i 9 && upB x 9)))) (fun _ => []) := by
  refine Ct.ofI (cc := cX9_isSlip) (maxL := 3) (by decide) rfl (Nat.le_of_ble_eq_true rfl) ?_
  intro pG eG sG mG aG bG tG cG AG QG ls xh bh hml hown hts hK hP hD hS hA hend hl
  have hl : lv_has ls 3 [(0, .int k), (1, .int i), (2, .int x)] := hl
  refine lv_iload_n xh bh dX9_isSlip_0 rfl (lv_at hl 0 rfl) ?_
  refine lv_i2l xh bh dX9_isSlip_1 rfl ?_
  refine lv_lconst (v := lN 0) xh bh dX9_isSlip_2 (by decide) ?_
  refine lv_ldc2 (v := (lN 5)) xh bh hown (hts _ (List.mem_of_getElem? (i := 1) rfl)) dX9_isSlip_3 ?_
  refine Ct.callS0 (rest := []) xh bh hml hown hts hK hP hS hA (ct_X9_in l D cI cJ cB cZ cA k.toInt64 (lN 0) (lN 5) ) (va_cwS 3 hts gX9_isSlip_X9_in rfl rfl rfl (by decide +kernel) ⟨Nat.le_of_ble_eq_true rfl, Nat.le_of_ble_eq_true rfl⟩) rfl rfl hl.1 (Nat.le_of_ble_eq_true rfl) dX9_isSlip_6 ⟨Nat.le_refl _, Nat.le_refl _⟩ (fun _ H locs _ hP hS => ?_)
  refine W.eq (g2 := F0 mG 9 ls [.int (ib (decide (¬ k.toInt64 < (lN 0) ∧ ¬ (lN 5) < k.toInt64)))]) rfl ?_
  refine xw_topi (x := (ib (decide (¬ k.toInt64 < (lN 0) ∧ ¬ (lN 5) < k.toInt64)))) (y := (ib (upB k 5))) (by rw [upB_long (by decide)]) ?_
  refine xb_if_eq (tgt := 35) xh bh dX9_isSlip_9 (by decide) (fun c_9 => ?_) (fun c_9 => ?_)
  · refine lv_iconst (v := (nI 0)) xh bh dX9_isSlip_35 (by decide) ?_
    exact hend (nI 0) () _ _ _ _ (xb_ret0 (by first | (rw [c_9, c_21, c_28]; rfl) | (rw [c_9, c_21]; rfl) | (rw [c_9]; rfl))) trivial (vz_bool (by decide)) dX9_isSlip_36 hP hD hS
  · refine lv_iload_n xh bh dX9_isSlip_12 rfl (lv_at hl 1 rfl) ?_
    refine lv_i2l xh bh dX9_isSlip_13 rfl ?_
    refine lv_lconst (v := lN 0) xh bh dX9_isSlip_14 (by decide) ?_
    refine lv_ldc2 (v := (lN 9)) xh bh hown (hts _ (List.mem_of_getElem? (i := 2) rfl)) dX9_isSlip_15 ?_
    refine Ct.callS0 (rest := []) xh bh hml hown hts hK hP hS hA (ct_X9_in l D cI cJ cB cZ cA i.toInt64 (lN 0) (lN 9) ) (va_cwS 3 hts gX9_isSlip_X9_in rfl rfl rfl (by decide +kernel) ⟨Nat.le_of_ble_eq_true rfl, Nat.le_of_ble_eq_true rfl⟩) rfl rfl hl.1 (Nat.le_of_ble_eq_true rfl) dX9_isSlip_18 ⟨Nat.le_refl _, Nat.le_refl _⟩ (fun _ H locs _ hP hS => ?_)
    refine W.eq (g2 := F0 mG 21 ls [.int (ib (decide (¬ i.toInt64 < (lN 0) ∧ ¬ (lN 9) < i.toInt64)))]) rfl ?_
    refine xw_topi (x := (ib (decide (¬ i.toInt64 < (lN 0) ∧ ¬ (lN 9) < i.toInt64)))) (y := (ib (upB i 9))) (by rw [upB_long (by decide)]) ?_
    refine xb_if_eq (tgt := 35) xh bh dX9_isSlip_21 (by decide) (fun c_21 => ?_) (fun c_21 => ?_)
    · refine lv_iconst (v := (nI 0)) xh bh dX9_isSlip_35 (by decide) ?_
      exact hend (nI 0) () _ _ _ _ (xb_ret0 (by first | (rw [c_9, c_21, c_28]; rfl) | (rw [c_9, c_21]; rfl) | (rw [c_9]; rfl))) trivial (vz_bool (by decide)) dX9_isSlip_36 hP hD hS
    · refine lv_iload_n xh bh dX9_isSlip_24 rfl (lv_at hl 2 rfl) ?_
      refine Ct.callS0 (rest := []) xh bh hml hown hts hK hP hS hA (ct_X9_isPart l D cI cJ cB cZ cA x ) (va_cwS 1 hts gX9_isSlip_X9_isPart rfl rfl rfl (by decide +kernel) ⟨Nat.le_of_ble_eq_true rfl, Nat.le_of_ble_eq_true rfl⟩) rfl rfl hl.1 (Nat.le_of_ble_eq_true rfl) dX9_isSlip_25 ⟨Nat.le_refl _, Nat.le_refl _⟩ (fun _ H locs _ hP hS => ?_)
      refine W.eq (g2 := F0 mG 28 ls [.int (ib (upB x 9))]) rfl ?_
      refine xb_if_eq (tgt := 35) xh bh dX9_isSlip_28 (by decide) (fun c_28 => ?_) (fun c_28 => ?_)
      · refine lv_iconst (v := (nI 0)) xh bh dX9_isSlip_35 (by decide) ?_
        exact hend (nI 0) () _ _ _ _ (xb_ret0 (by first | (rw [c_9, c_21, c_28]; rfl) | (rw [c_9, c_21]; rfl) | (rw [c_9]; rfl))) trivial (vz_bool (by decide)) dX9_isSlip_36 hP hD hS
      · refine lv_iconst (v := (nI 1)) xh bh dX9_isSlip_31 (by decide) ?_
        refine lv_goto (tgt := 36) xh bh dX9_isSlip_32 (by decide) ?_
        exact hend (nI 1) () _ _ _ _ (xb_ret1 (by first | (rw [c_9, c_21, c_28]; rfl) | (rw [c_9, c_21]; rfl) | (rw [c_9]; rfl))) trivial (vz_bool (by decide)) dX9_isSlip_36 hP hD hS

set_option maxHeartbeats 1000000 in
set_option maxRecDepth 100000 in
theorem ct_X9_least (l : Launch) (D : va_G) (cI cJ cB cZ cA : ClassId) (a : Nat) (b : Nat) (ha : a < 2147483648) (hb : b < 2147483648) : Ct l yX9_least wsX9_least ({ frames := 0, cells := 0, slots := 0, locals := 0 }) D (tysG cI cJ cB cZ cA) [.int (nI a), .int (nI b)] [] (fun (_ : Unit) => True) (fun _ => some (.int (nI (min a b)))) (fun _ => []) := by
  refine Ct.ofI (cc := cX9_least) (maxL := 2) (by decide) rfl (Nat.le_of_ble_eq_true rfl) ?_
  intro pG eG sG mG aG bG tG cG AG QG ls xh bh hml hown hts hK hP hD hS hA hend hl
  have hl : lv_has ls 2 [(0, .int (nI a)), (1, .int (nI b))] := hl
  refine lv_iload_n xh bh dX9_least_0 rfl (lv_at hl 0 rfl) ?_
  refine lv_iload_n xh bh dX9_least_1 rfl (lv_at hl 1 rfl) ?_
  refine xn_icmp_ge (tgt := 9) xh bh dX9_least_2 (by decide) (by omega) (by omega) (fun c_2 => ?_) (fun c_2 => ?_)
  · refine lv_iload_n xh bh dX9_least_9 rfl (lv_at hl 1 rfl) ?_
    exact hend (nI b) () _ _ _ _ (congrArg (fun z => some (Value.int (nI z))) (by omega)) trivial rfl dX9_least_10 hP hD hS
  · refine lv_iload_n xh bh dX9_least_5 rfl (lv_at hl 0 rfl) ?_
    refine lv_goto (tgt := 10) xh bh dX9_least_6 (by decide) ?_
    exact hend (nI a) () _ _ _ _ (congrArg (fun z => some (Value.int (nI z))) (by omega)) trivial rfl dX9_least_10 hP hD hS

set_option maxHeartbeats 1000000 in
set_option maxRecDepth 100000 in
theorem ct_X9_areTurned (l : Launch) (D : va_G) (cI cJ cB cZ cA : ClassId) (a : List Nat) (i : Nat) (b : List Nat) (j : Nat) (ha : okT a) (hi : i ≤ 10) (hb : okT b) (hj : j ≤ 10) : Ct l yX9_areTurned wsX9_areTurned ({ frames := 1, cells := 0, slots := 0, locals := 22 }) D (tysG cI cJ cB cZ cA) [.long (eR a), .int (nI i), .long (eR b), .int (nI j)] [] (fun (_ : Unit) => True) (fun _ => some (.int (ib (trnB a i b j)))) (fun _ => []) := by
  refine Ct.ofI (cc := cX9_areTurned) (maxL := 6) (by decide) rfl (Nat.le_of_ble_eq_true rfl) ?_
  intro pG eG sG mG aG bG tG cG AG QG ls xh bh hml hown hts hK hP hD hS hA hend hl
  have hl : lv_has ls 6 [(0, .long (eR a)), (2, .int (nI i)), (3, .long (eR b)), (5, .int (nI j))] := hl
  refine lv_iload_n xh bh dX9_areTurned_0 rfl (lv_at hl 1 rfl) ?_
  refine lv_iconst (v := (nI 1)) xh bh dX9_areTurned_1 (by decide) ?_
  refine xn_icmp_le (tgt := 51) xh bh dX9_areTurned_2 (by decide) (by omega) (by omega) (fun c_2 => ?_) (fun c_2 => ?_)
  · refine lv_iconst (v := (nI 0)) xh bh dX9_areTurned_51 (by decide) ?_
    exact hend (nI 0) () _ _ _ _ (xb_ret0 (by unfold trnB; first | exact decide_eq_true ⟨c_2, c_8, c_26, c_44⟩ | exact decide_eq_false (fun q => by omega) | exact decide_eq_false (fun q => c_26 q.2.2.1) | exact decide_eq_false (fun q => c_44 q.2.2.2))) trivial (vz_bool (by decide)) dX9_areTurned_52 hP hD hS
  · refine lv_iload xh bh dX9_areTurned_5 (lv_at hl 3 rfl) ?_
    refine lv_iconst (v := (nI 1)) xh bh dX9_areTurned_7 (by decide) ?_
    refine xn_icmp_le (tgt := 51) xh bh dX9_areTurned_8 (by decide) (by omega) (by omega) (fun c_8 => ?_) (fun c_8 => ?_)
    · refine lv_iconst (v := (nI 0)) xh bh dX9_areTurned_51 (by decide) ?_
      exact hend (nI 0) () _ _ _ _ (xb_ret0 (by unfold trnB; first | exact decide_eq_true ⟨c_2, c_8, c_26, c_44⟩ | exact decide_eq_false (fun q => by omega) | exact decide_eq_false (fun q => c_26 q.2.2.1) | exact decide_eq_false (fun q => c_44 q.2.2.2))) trivial (vz_bool (by decide)) dX9_areTurned_52 hP hD hS
    · refine lv_lload_n xh bh dX9_areTurned_11 rfl (lv_at hl 0 rfl) ?_
      refine lv_iload_n xh bh dX9_areTurned_12 rfl (lv_at hl 1 rfl) ?_
      refine lv_iconst (v := (nI 1)) xh bh dX9_areTurned_13 (by decide) ?_
      refine xn_isub xh bh dX9_areTurned_14 (by omega) ?_
      refine Ct.callS0 (rest := []) xh bh hml hown hts hK hP hS hA (ct_X9_partOf l D cI cJ cB cZ cA a (i - 1) (by first | assumption | exact okT_nil) (by omega)) (va_cwS 2 hts gX9_areTurned_X9_partOf rfl rfl rfl (by decide +kernel) ⟨Nat.le_of_ble_eq_true rfl, Nat.le_of_ble_eq_true rfl⟩) rfl rfl hl.1 (Nat.le_of_ble_eq_true rfl) dX9_areTurned_15 ⟨Nat.le_refl _, Nat.le_refl _⟩ (fun _ H locs _ hP hS => ?_)
      refine W.eq (g2 := F0 mG 18 ls [.int (nI (a.getD (i - 1) 0))]) rfl ?_
      refine lv_lload_n xh bh dX9_areTurned_18 rfl (lv_at hl 2 rfl) ?_
      refine lv_iload xh bh dX9_areTurned_19 (lv_at hl 3 rfl) ?_
      refine lv_iconst (v := (nI 2)) xh bh dX9_areTurned_21 (by decide) ?_
      refine xn_isub xh bh dX9_areTurned_22 (by omega) ?_
      refine Ct.callS0 (rest := [.int (nI (a.getD (i - 1) 0))]) xh bh hml hown hts hK hP hS hA (ct_X9_partOf l D cI cJ cB cZ cA b (j - 2) (by first | assumption | exact okT_nil) (by omega)) (va_cwS 2 hts gX9_areTurned_X9_partOf rfl rfl rfl (by decide +kernel) ⟨Nat.le_of_ble_eq_true rfl, Nat.le_of_ble_eq_true rfl⟩) rfl rfl hl.1 (Nat.le_of_ble_eq_true rfl) dX9_areTurned_23 ⟨Nat.le_refl _, Nat.le_refl _⟩ (fun _ H locs _ hP hS => ?_)
      refine W.eq (g2 := F0 mG 26 ls [.int (nI (b.getD (j - 2) 0)), .int (nI (a.getD (i - 1) 0))]) rfl ?_
      refine xn_icmp_ne (tgt := 51) xh bh dX9_areTurned_26 (by decide) (by first | exact Nat.lt_trans (ha.getD _) (by decide) | exact Nat.lt_trans (hb.getD _) (by decide)) (by first | exact Nat.lt_trans (ha.getD _) (by decide) | exact Nat.lt_trans (hb.getD _) (by decide)) (fun c_26 => ?_) (fun c_26 => ?_)
      · refine lv_iconst (v := (nI 0)) xh bh dX9_areTurned_51 (by decide) ?_
        exact hend (nI 0) () _ _ _ _ (xb_ret0 (by unfold trnB; first | exact decide_eq_true ⟨c_2, c_8, c_26, c_44⟩ | exact decide_eq_false (fun q => by omega) | exact decide_eq_false (fun q => c_26 q.2.2.1) | exact decide_eq_false (fun q => c_44 q.2.2.2))) trivial (vz_bool (by decide)) dX9_areTurned_52 hP hD hS
      · refine lv_lload_n xh bh dX9_areTurned_29 rfl (lv_at hl 0 rfl) ?_
        refine lv_iload_n xh bh dX9_areTurned_30 rfl (lv_at hl 1 rfl) ?_
        refine lv_iconst (v := (nI 2)) xh bh dX9_areTurned_31 (by decide) ?_
        refine xn_isub xh bh dX9_areTurned_32 (by omega) ?_
        refine Ct.callS0 (rest := []) xh bh hml hown hts hK hP hS hA (ct_X9_partOf l D cI cJ cB cZ cA a (i - 2) (by first | assumption | exact okT_nil) (by omega)) (va_cwS 2 hts gX9_areTurned_X9_partOf rfl rfl rfl (by decide +kernel) ⟨Nat.le_of_ble_eq_true rfl, Nat.le_of_ble_eq_true rfl⟩) rfl rfl hl.1 (Nat.le_of_ble_eq_true rfl) dX9_areTurned_33 ⟨Nat.le_refl _, Nat.le_refl _⟩ (fun _ H locs _ hP hS => ?_)
        refine W.eq (g2 := F0 mG 36 ls [.int (nI (a.getD (i - 2) 0))]) rfl ?_
        refine lv_lload_n xh bh dX9_areTurned_36 rfl (lv_at hl 2 rfl) ?_
        refine lv_iload xh bh dX9_areTurned_37 (lv_at hl 3 rfl) ?_
        refine lv_iconst (v := (nI 1)) xh bh dX9_areTurned_39 (by decide) ?_
        refine xn_isub xh bh dX9_areTurned_40 (by omega) ?_
        refine Ct.callS0 (rest := [.int (nI (a.getD (i - 2) 0))]) xh bh hml hown hts hK hP hS hA (ct_X9_partOf l D cI cJ cB cZ cA b (j - 1) (by first | assumption | exact okT_nil) (by omega)) (va_cwS 2 hts gX9_areTurned_X9_partOf rfl rfl rfl (by decide +kernel) ⟨Nat.le_of_ble_eq_true rfl, Nat.le_of_ble_eq_true rfl⟩) rfl rfl hl.1 (Nat.le_of_ble_eq_true rfl) dX9_areTurned_41 ⟨Nat.le_refl _, Nat.le_refl _⟩ (fun _ H locs _ hP hS => ?_)
        refine W.eq (g2 := F0 mG 44 ls [.int (nI (b.getD (j - 1) 0)), .int (nI (a.getD (i - 2) 0))]) rfl ?_
        refine xn_icmp_ne (tgt := 51) xh bh dX9_areTurned_44 (by decide) (by first | exact Nat.lt_trans (ha.getD _) (by decide) | exact Nat.lt_trans (hb.getD _) (by decide)) (by first | exact Nat.lt_trans (ha.getD _) (by decide) | exact Nat.lt_trans (hb.getD _) (by decide)) (fun c_44 => ?_) (fun c_44 => ?_)
        · refine lv_iconst (v := (nI 0)) xh bh dX9_areTurned_51 (by decide) ?_
          exact hend (nI 0) () _ _ _ _ (xb_ret0 (by unfold trnB; first | exact decide_eq_true ⟨c_2, c_8, c_26, c_44⟩ | exact decide_eq_false (fun q => by omega) | exact decide_eq_false (fun q => c_26 q.2.2.1) | exact decide_eq_false (fun q => c_44 q.2.2.2))) trivial (vz_bool (by decide)) dX9_areTurned_52 hP hD hS
        · refine lv_iconst (v := (nI 1)) xh bh dX9_areTurned_47 (by decide) ?_
          refine lv_goto (tgt := 52) xh bh dX9_areTurned_48 (by decide) ?_
          exact hend (nI 1) () _ _ _ _ (xb_ret1 (by unfold trnB; first | exact decide_eq_true ⟨c_2, c_8, c_26, c_44⟩ | exact decide_eq_false (fun q => by omega) | exact decide_eq_false (fun q => c_26 q.2.2.1) | exact decide_eq_false (fun q => c_44 q.2.2.2))) trivial (vz_bool (by decide)) dX9_areTurned_52 hP hD hS

set_option maxHeartbeats 1000000 in
set_option maxRecDepth 100000 in
theorem ct_X9_unlike (l : Launch) (D : va_G) (cI cJ cB cZ cA : ClassId) (t : List Nat) (ht : okT t) : Ct l yX9_unlike wsX9_unlike ({ frames := 1, cells := 0, slots := 0, locals := 22 }) D (tysG cI cJ cB cZ cA) [.long (eR t)] [] (fun (_ : Unit) => True) (fun _ => some (.int (nI (popN (kN t))))) (fun _ => []) := by
  refine Ct.ofI (cc := cX9_unlike) (maxL := 4) (by decide) rfl (Nat.le_of_ble_eq_true rfl) ?_
  intro pG eG sG mG aG bG tG cG AG QG ls xh bh hml hown hts hK hP hD hS hA hend hl
  have hl : lv_has ls 4 [(0, .long (eR t))] := hl
  refine lv_iconst (v := (nI 0)) xh bh dX9_unlike_0 (by decide) ?_
  refine lv_istore_n (lv' := [(2, .int (nI 0)), (0, .long (eR t))]) xh bh dX9_unlike_1 rfl hl (by decide) rfl (fun ls hl => ?_)
  refine lv_iconst (v := (nI 0)) xh bh dX9_unlike_2 (by decide) ?_
  refine lv_istore_n (lv' := [(3, .int (nI 0)), (2, .int (nI 0)), (0, .long (eR t))]) xh bh dX9_unlike_3 rfl hl (by decide) rfl (fun ls hl => ?_)
  have cut_4 : ∀ (n_4 : Nat), ∀ (i : Nat), ∀ (k : Nat), (i ≤ t.length) → (k = kN (t.take i)) → (t.length - i) < n_4 → ∀ (H : Heap) (locs : List Loc) (ls : Array Slot), va_P D vwCl [] H → va_D AG [] → va_S AG sG.heap H locs → lv_has ls 4 [(0, .long (eR t)), (2, .int (nI k)), (3, .int (nI i))] → W pG l eG ({ frames := 1, cells := 0, slots := 0, locals := 22 }) sG mG aG bG tG cG H locs 0 0 QG (F0 mG 4 ls []) := by
    intro n_4
    induction n_4 with
    | zero =>
      intro i k hi hk hmu
      exact absurd hmu (Nat.not_lt_zero _)
    | succ n_4 ih_4 =>
      intro i k hi hk hmu H locs ls hP hD hS hl
      refine lv_iload_n xh bh dX9_unlike_4 rfl (lv_at hl 2 rfl) ?_
      refine lv_lload_n xh bh dX9_unlike_5 rfl (lv_at hl 0 rfl) ?_
      refine Ct.callS0 (rest := [.int (nI i)]) xh bh hml hown hts hK hP hS hA (ct_X9_many l D cI cJ cB cZ cA t (by first | assumption | exact okT_nil)) (va_cwS 1 hts gX9_unlike_X9_many rfl rfl rfl (by decide +kernel) ⟨Nat.le_of_ble_eq_true rfl, Nat.le_of_ble_eq_true rfl⟩) rfl rfl hl.1 (Nat.le_of_ble_eq_true rfl) dX9_unlike_6 ⟨Nat.le_refl _, Nat.le_refl _⟩ (fun _ H locs _ hP hS => ?_)
      refine W.eq (g2 := F0 mG 9 ls [.int (nI t.length), .int (nI i)]) rfl ?_
      refine xn_icmp_ge (tgt := 28) xh bh dX9_unlike_9 (by decide) (by have := ht.1; omega) (by have := ht.1; omega) (fun c_9 => ?_) (fun c_9 => ?_)
      · refine lv_iload_n xh bh dX9_unlike_28 rfl (lv_at hl 1 rfl) ?_
        refine Ct.callS0 (rest := []) xh bh hml hown hts hK hP hS hA (ct_X9_bits l D cI cJ cB cZ cA k (by rw [hk]; have := (ht.take i).kNB; omega)) (va_cwS 1 hts gX9_unlike_X9_bits rfl rfl rfl (by decide +kernel) ⟨Nat.le_of_ble_eq_true rfl, Nat.le_of_ble_eq_true rfl⟩) rfl rfl hl.1 (Nat.le_of_ble_eq_true rfl) dX9_unlike_29 ⟨Nat.le_refl _, Nat.le_refl _⟩ (fun _ H locs _ hP hS => ?_)
        refine W.eq (g2 := F0 mG 32 ls [.int (nI (popN k))]) rfl ?_
        exact hend (nI (popN k)) () _ _ _ _ (congrArg (fun z => some (Value.int (nI z))) (by rw [hk, List.take_of_length_le c_9])) trivial rfl dX9_unlike_32 hP hD hS
      · refine lv_iload_n xh bh dX9_unlike_12 rfl (lv_at hl 1 rfl) ?_
        refine lv_iconst (v := (nI 1)) xh bh dX9_unlike_13 (by decide) ?_
        refine lv_lload_n xh bh dX9_unlike_14 rfl (lv_at hl 0 rfl) ?_
        refine lv_iload_n xh bh dX9_unlike_15 rfl (lv_at hl 2 rfl) ?_
        refine Ct.callS0 (rest := [.int (nI 1), .int (nI k)]) xh bh hml hown hts hK hP hS hA (ct_X9_partOf l D cI cJ cB cZ cA t i (by first | assumption | exact okT_nil) (by have := ht.1; omega)) (va_cwS 2 hts gX9_unlike_X9_partOf rfl rfl rfl (by decide +kernel) ⟨Nat.le_of_ble_eq_true rfl, Nat.le_of_ble_eq_true rfl⟩) rfl rfl hl.1 (Nat.le_of_ble_eq_true rfl) dX9_unlike_16 ⟨Nat.le_refl _, Nat.le_refl _⟩ (fun _ H locs _ hP hS => ?_)
        refine W.eq (g2 := F0 mG 19 ls [.int (nI (t.getD i 0)), .int (nI 1), .int (nI k)]) rfl ?_
        refine xn_ishl1 xh bh dX9_unlike_19 (by have := ht.getD i; omega) ?_
        refine xn_ior xh bh dX9_unlike_20 ?_
        refine lv_istore_n (lv' := [(2, .int (nI (k ||| (2 ^ (t.getD i 0))))), (0, .long (eR t)), (3, .int (nI i))]) xh bh dX9_unlike_21 rfl hl (by decide) rfl (fun ls hl => ?_)
        refine lv_iinc (v := (nI (i + 1))) (lv' := [(3, .int (nI (i + 1))), (2, .int (nI (k ||| (2 ^ (t.getD i 0))))), (0, .long (eR t))]) xh bh dX9_unlike_22 hl (k := 2) rfl (by exact xn_inc _ _) (by decide) rfl (fun ls hl => ?_)
        refine lv_goto (tgt := 4) xh bh dX9_unlike_25 (by decide) ?_
        exact ih_4 (i + 1) (k ||| (2 ^ (t.getD i 0))) (by omega) (by rw [hk, kN_next c_9]) (by omega) _ _ ls hP hD hS (lv_sub hl [2, 1, 0] rfl)
  exact cut_4 (t.length - 0 + 1) 0 0 (by exact Nat.zero_le _) (by rfl) (Nat.lt_succ_self _) _ _ ls hP hD hS (lv_sub hl [2, 1, 0] rfl)

set_option maxHeartbeats 1000000 in
set_option maxRecDepth 100000 in
theorem ct_X9_partsOf (l : Launch) (D : va_G) (cI cJ cB cZ cA : ClassId) (t : List Nat) (ht : okT t) : Ct l yX9_partsOf wsX9_partsOf ({ frames := 1, cells := 0, slots := 0, locals := 22 }) D (tysG cI cJ cB cZ cA) [.long (eR t)] [] (fun (_ : Unit) => True) (fun _ => some (.int (nI (kN t)))) (fun _ => []) := by
  refine Ct.ofI (cc := cX9_partsOf) (maxL := 4) (by decide) rfl (Nat.le_of_ble_eq_true rfl) ?_
  intro pG eG sG mG aG bG tG cG AG QG ls xh bh hml hown hts hK hP hD hS hA hend hl
  have hl : lv_has ls 4 [(0, .long (eR t))] := hl
  refine lv_iconst (v := (nI 0)) xh bh dX9_partsOf_0 (by decide) ?_
  refine lv_istore_n (lv' := [(2, .int (nI 0)), (0, .long (eR t))]) xh bh dX9_partsOf_1 rfl hl (by decide) rfl (fun ls hl => ?_)
  refine lv_iconst (v := (nI 0)) xh bh dX9_partsOf_2 (by decide) ?_
  refine lv_istore_n (lv' := [(3, .int (nI 0)), (2, .int (nI 0)), (0, .long (eR t))]) xh bh dX9_partsOf_3 rfl hl (by decide) rfl (fun ls hl => ?_)
  have cut_4 : ∀ (n_4 : Nat), ∀ (i : Nat), ∀ (k : Nat), (i ≤ t.length) → (k = kN (t.take i)) → (t.length - i) < n_4 → ∀ (H : Heap) (locs : List Loc) (ls : Array Slot), va_P D vwCl [] H → va_D AG [] → va_S AG sG.heap H locs → lv_has ls 4 [(0, .long (eR t)), (2, .int (nI k)), (3, .int (nI i))] → W pG l eG ({ frames := 1, cells := 0, slots := 0, locals := 22 }) sG mG aG bG tG cG H locs 0 0 QG (F0 mG 4 ls []) := by
    intro n_4
    induction n_4 with
    | zero =>
      intro i k hi hk hmu
      exact absurd hmu (Nat.not_lt_zero _)
    | succ n_4 ih_4 =>
      intro i k hi hk hmu H locs ls hP hD hS hl
      refine lv_iload_n xh bh dX9_partsOf_4 rfl (lv_at hl 2 rfl) ?_
      refine lv_lload_n xh bh dX9_partsOf_5 rfl (lv_at hl 0 rfl) ?_
      refine Ct.callS0 (rest := [.int (nI i)]) xh bh hml hown hts hK hP hS hA (ct_X9_many l D cI cJ cB cZ cA t (by first | assumption | exact okT_nil)) (va_cwS 1 hts gX9_partsOf_X9_many rfl rfl rfl (by decide +kernel) ⟨Nat.le_of_ble_eq_true rfl, Nat.le_of_ble_eq_true rfl⟩) rfl rfl hl.1 (Nat.le_of_ble_eq_true rfl) dX9_partsOf_6 ⟨Nat.le_refl _, Nat.le_refl _⟩ (fun _ H locs _ hP hS => ?_)
      refine W.eq (g2 := F0 mG 9 ls [.int (nI t.length), .int (nI i)]) rfl ?_
      refine xn_icmp_ge (tgt := 28) xh bh dX9_partsOf_9 (by decide) (by have := ht.1; omega) (by have := ht.1; omega) (fun c_9 => ?_) (fun c_9 => ?_)
      · refine lv_iload_n xh bh dX9_partsOf_28 rfl (lv_at hl 1 rfl) ?_
        exact hend (nI k) () _ _ _ _ (congrArg (fun z => some (Value.int (nI z))) (by rw [hk, List.take_of_length_le c_9])) trivial rfl dX9_partsOf_29 hP hD hS
      · refine lv_iload_n xh bh dX9_partsOf_12 rfl (lv_at hl 1 rfl) ?_
        refine lv_iconst (v := (nI 1)) xh bh dX9_partsOf_13 (by decide) ?_
        refine lv_lload_n xh bh dX9_partsOf_14 rfl (lv_at hl 0 rfl) ?_
        refine lv_iload_n xh bh dX9_partsOf_15 rfl (lv_at hl 2 rfl) ?_
        refine Ct.callS0 (rest := [.int (nI 1), .int (nI k)]) xh bh hml hown hts hK hP hS hA (ct_X9_partOf l D cI cJ cB cZ cA t i (by first | assumption | exact okT_nil) (by have := ht.1; omega)) (va_cwS 2 hts gX9_partsOf_X9_partOf rfl rfl rfl (by decide +kernel) ⟨Nat.le_of_ble_eq_true rfl, Nat.le_of_ble_eq_true rfl⟩) rfl rfl hl.1 (Nat.le_of_ble_eq_true rfl) dX9_partsOf_16 ⟨Nat.le_refl _, Nat.le_refl _⟩ (fun _ H locs _ hP hS => ?_)
        refine W.eq (g2 := F0 mG 19 ls [.int (nI (t.getD i 0)), .int (nI 1), .int (nI k)]) rfl ?_
        refine xn_ishl1 xh bh dX9_partsOf_19 (by have := ht.getD i; omega) ?_
        refine xn_ior xh bh dX9_partsOf_20 ?_
        refine lv_istore_n (lv' := [(2, .int (nI (k ||| (2 ^ (t.getD i 0))))), (0, .long (eR t)), (3, .int (nI i))]) xh bh dX9_partsOf_21 rfl hl (by decide) rfl (fun ls hl => ?_)
        refine lv_iinc (v := (nI (i + 1))) (lv' := [(3, .int (nI (i + 1))), (2, .int (nI (k ||| (2 ^ (t.getD i 0))))), (0, .long (eR t))]) xh bh dX9_partsOf_22 hl (k := 2) rfl (by exact xn_inc _ _) (by decide) rfl (fun ls hl => ?_)
        refine lv_goto (tgt := 4) xh bh dX9_partsOf_25 (by decide) ?_
        exact ih_4 (i + 1) (k ||| (2 ^ (t.getD i 0))) (by omega) (by rw [hk, kN_next c_9]) (by omega) _ _ ls hP hD hS (lv_sub hl [2, 1, 0] rfl)
  exact cut_4 (t.length - 0 + 1) 0 0 (by exact Nat.zero_le _) (by rfl) (Nat.lt_succ_self _) _ _ ls hP hD hS (lv_sub hl [2, 1, 0] rfl)

set_option maxHeartbeats 1000000 in
set_option maxRecDepth 100000 in
theorem ct_X9_funOf (l : Launch) (D : va_G) (cI cJ cB cZ cA : ClassId) (t : List Nat) (ht : okT t) : Ct l yX9_funOf wsX9_funOf ({ frames := 1, cells := 0, slots := 0, locals := 22 }) D (tysG cI cJ cB cZ cA) [.long (eR t)] [] (fun (_ : Unit) => True) (fun _ => some (.int (funT t))) (fun _ => []) := by
  refine Ct.ofI (cc := cX9_funOf) (maxL := 8) (by decide) rfl (Nat.le_of_ble_eq_true rfl) ?_
  intro pG eG sG mG aG bG tG cG AG QG ls xh bh hml hown hts hK hP hD hS hA hend hl
  have hl : lv_has ls 8 [(0, .long (eR t))] := hl
  refine lv_iconst (v := (nI 0)) xh bh dX9_funOf_0 (by decide) ?_
  refine lv_istore_n (lv' := [(2, .int (nI 0)), (0, .long (eR t))]) xh bh dX9_funOf_1 rfl hl (by decide) rfl (fun ls hl => ?_)
  refine lv_iconst (v := (nI 0)) xh bh dX9_funOf_2 (by decide) ?_
  refine lv_istore_n (lv' := [(3, .int (nI 0)), (2, .int (nI 0)), (0, .long (eR t))]) xh bh dX9_funOf_3 rfl hl (by decide) rfl (fun ls hl => ?_)
  have cut_4 : ∀ (n_4 : Nat), ∀ (i : Nat), ∀ (s1 : Int32), (i ≤ t.length) → (s1 = fnI t i) → (t.length - i) < n_4 → ∀ (H : Heap) (locs : List Loc) (ls : Array Slot), va_P D vwCl [] H → va_D AG [] → va_S AG sG.heap H locs → lv_has ls 8 [(0, .long (eR t)), (2, .int s1), (3, .int (nI i))] → W pG l eG ({ frames := 1, cells := 0, slots := 0, locals := 22 }) sG mG aG bG tG cG H locs 0 0 QG (F0 mG 4 ls []) := by
    intro n_4
    induction n_4 with
    | zero =>
      intro i s1 hi hs hmu
      exact absurd hmu (Nat.not_lt_zero _)
    | succ n_4 ih_4 =>
      intro i s1 hi hs hmu H locs ls hP hD hS hl
      refine lv_iload_n xh bh dX9_funOf_4 rfl (lv_at hl 2 rfl) ?_
      refine lv_lload_n xh bh dX9_funOf_5 rfl (lv_at hl 0 rfl) ?_
      refine Ct.callS0 (rest := [.int (nI i)]) xh bh hml hown hts hK hP hS hA (ct_X9_many l D cI cJ cB cZ cA t (by first | assumption | exact okT_nil)) (va_cwS 1 hts gX9_funOf_X9_many rfl rfl rfl (by decide +kernel) ⟨Nat.le_of_ble_eq_true rfl, Nat.le_of_ble_eq_true rfl⟩) rfl rfl hl.1 (Nat.le_of_ble_eq_true rfl) dX9_funOf_6 ⟨Nat.le_refl _, Nat.le_refl _⟩ (fun _ H locs _ hP hS => ?_)
      refine W.eq (g2 := F0 mG 9 ls [.int (nI t.length), .int (nI i)]) rfl ?_
      refine xn_icmp_ge (tgt := 132) xh bh dX9_funOf_9 (by decide) (by have := ht.1; omega) (by have := ht.1; omega) (fun c_9 => ?_) (fun c_9 => ?_)
      · refine lv_iload_n xh bh dX9_funOf_132 rfl (lv_at hl 1 rfl) ?_
        refine lv_lload_n xh bh dX9_funOf_133 rfl (lv_at hl 0 rfl) ?_
        refine Ct.callS0 (rest := [.int s1]) xh bh hml hown hts hK hP hS hA (ct_X9_many l D cI cJ cB cZ cA t (by first | assumption | exact okT_nil)) (va_cwS 1 hts gX9_funOf_X9_many rfl rfl rfl (by decide +kernel) ⟨Nat.le_of_ble_eq_true rfl, Nat.le_of_ble_eq_true rfl⟩) rfl rfl hl.1 (Nat.le_of_ble_eq_true rfl) dX9_funOf_134 ⟨Nat.le_refl _, Nat.le_refl _⟩ (fun _ H locs _ hP hS => ?_)
        refine W.eq (g2 := F0 mG 137 ls [.int (nI t.length), .int s1]) rfl ?_
        refine xn_if_le (tgt := 159) xh bh dX9_funOf_137 (by decide) (by have := ht.1; omega) (fun c_137 => ?_) (fun c_137 => ?_)
        · refine lv_iconst (v := (nI 0)) xh bh dX9_funOf_159 (by decide) ?_
          refine lv_iadd xh bh dX9_funOf_160 ?_
          exact hend (s1 + (nI 0)) () _ _ _ _ (congrArg (fun z => some (Value.int z)) (by unfold funT; rw [hs, show i = t.length by omega]; first | exact congrArg (fun z => fnI t t.length + z) (fnE_y c_137 c_152) | exact congrArg (fun z => fnI t t.length + z) (fnE_n1 c_137) | exact congrArg (fun z => fnI t t.length + z) (fnE_n2 c_152))) trivial rfl dX9_funOf_161 hP hD hS
        · refine lv_lload_n xh bh dX9_funOf_140 rfl (lv_at hl 0 rfl) ?_
          refine lv_lload_n xh bh dX9_funOf_141 rfl (lv_at hl 0 rfl) ?_
          refine Ct.callS0 (rest := [.long (eR t), .int s1]) xh bh hml hown hts hK hP hS hA (ct_X9_many l D cI cJ cB cZ cA t (by first | assumption | exact okT_nil)) (va_cwS 1 hts gX9_funOf_X9_many rfl rfl rfl (by decide +kernel) ⟨Nat.le_of_ble_eq_true rfl, Nat.le_of_ble_eq_true rfl⟩) rfl rfl hl.1 (Nat.le_of_ble_eq_true rfl) dX9_funOf_142 ⟨Nat.le_refl _, Nat.le_refl _⟩ (fun _ H locs _ hP hS => ?_)
          refine W.eq (g2 := F0 mG 145 ls [.int (nI t.length), .long (eR t), .int s1]) rfl ?_
          refine lv_iconst (v := (nI 1)) xh bh dX9_funOf_145 (by decide) ?_
          refine xn_isub xh bh dX9_funOf_146 (by omega) ?_
          refine Ct.callS0 (rest := [.int s1]) xh bh hml hown hts hK hP hS hA (ct_X9_partOf l D cI cJ cB cZ cA t (t.length - 1) (by first | assumption | exact okT_nil) (by have := ht.1; omega)) (va_cwS 2 hts gX9_funOf_X9_partOf rfl rfl rfl (by decide +kernel) ⟨Nat.le_of_ble_eq_true rfl, Nat.le_of_ble_eq_true rfl⟩) rfl rfl hl.1 (Nat.le_of_ble_eq_true rfl) dX9_funOf_147 ⟨Nat.le_refl _, Nat.le_refl _⟩ (fun _ H locs _ hP hS => ?_)
          refine W.eq (g2 := F0 mG 150 ls [.int (nI (t.getD (t.length - 1) 0)), .int s1]) rfl ?_
          refine lv_bipush (v := (nI 9)) xh bh dX9_funOf_150 (by decide) ?_
          refine xn_icmp_ne (tgt := 159) xh bh dX9_funOf_152 (by decide) (by have := ht.getD (t.length - 1); omega) (by have := ht.getD (t.length - 1); omega) (fun c_152 => ?_) (fun c_152 => ?_)
          · refine lv_iconst (v := (nI 0)) xh bh dX9_funOf_159 (by decide) ?_
            refine lv_iadd xh bh dX9_funOf_160 ?_
            exact hend (s1 + (nI 0)) () _ _ _ _ (congrArg (fun z => some (Value.int z)) (by unfold funT; rw [hs, show i = t.length by omega]; first | exact congrArg (fun z => fnI t t.length + z) (fnE_y c_137 c_152) | exact congrArg (fun z => fnI t t.length + z) (fnE_n1 c_137) | exact congrArg (fun z => fnI t t.length + z) (fnE_n2 c_152))) trivial rfl dX9_funOf_161 hP hD hS
          · refine lv_iconst (v := (nI 3)) xh bh dX9_funOf_155 (by decide) ?_
            refine lv_goto (tgt := 160) xh bh dX9_funOf_156 (by decide) ?_
            refine lv_iadd xh bh dX9_funOf_160 ?_
            exact hend (s1 + (nI 3)) () _ _ _ _ (congrArg (fun z => some (Value.int z)) (by unfold funT; rw [hs, show i = t.length by omega]; first | exact congrArg (fun z => fnI t t.length + z) (fnE_y c_137 c_152) | exact congrArg (fun z => fnI t t.length + z) (fnE_n1 c_137) | exact congrArg (fun z => fnI t t.length + z) (fnE_n2 c_152))) trivial rfl dX9_funOf_161 hP hD hS
      · refine lv_lload_n xh bh dX9_funOf_12 rfl (lv_at hl 0 rfl) ?_
        refine lv_iload_n xh bh dX9_funOf_13 rfl (lv_at hl 2 rfl) ?_
        refine Ct.callS0 (rest := []) xh bh hml hown hts hK hP hS hA (ct_X9_partOf l D cI cJ cB cZ cA t i (by first | assumption | exact okT_nil) (by have := ht.1; omega)) (va_cwS 2 hts gX9_funOf_X9_partOf rfl rfl rfl (by decide +kernel) ⟨Nat.le_of_ble_eq_true rfl, Nat.le_of_ble_eq_true rfl⟩) rfl rfl hl.1 (Nat.le_of_ble_eq_true rfl) dX9_funOf_14 ⟨Nat.le_refl _, Nat.le_refl _⟩ (fun _ H locs _ hP hS => ?_)
        refine W.eq (g2 := F0 mG 17 ls [.int (nI (t.getD i 0))]) rfl ?_
        refine lv_istore (lv' := [(4, .int (nI (t.getD i 0))), (0, .long (eR t)), (2, .int s1), (3, .int (nI i))]) xh bh dX9_funOf_17 hl (by decide) rfl (fun ls hl => ?_)
        refine lv_iload_n xh bh dX9_funOf_19 rfl (lv_at hl 3 rfl) ?_
        have cut_36 : ∀ (a : Int32), (a = ahI t i) → ∀ (H : Heap) (locs : List Loc) (ls : Array Slot), va_P D vwCl [] H → va_D AG [] → va_S AG sG.heap H locs → lv_has ls 8 [(0, .long (eR t)), (2, .int s1), (3, .int (nI i)), (4, .int (nI (t.getD i 0))), (5, .int a)] → W pG l eG ({ frames := 1, cells := 0, slots := 0, locals := 22 }) sG mG aG bG tG cG H locs 0 0 QG (F0 mG 36 ls []) := by
          intro a ha H locs ls hP hD hS hl
          refine lv_iconst (v := (nI 0)) xh bh dX9_funOf_36 (by decide) ?_
          refine lv_istore (lv' := [(6, .int (nI 0)), (0, .long (eR t)), (2, .int s1), (3, .int (nI i)), (4, .int (nI (t.getD i 0))), (5, .int a)]) xh bh dX9_funOf_37 hl (by decide) rfl (fun ls hl => ?_)
          refine lv_iconst (v := (nI 0)) xh bh dX9_funOf_39 (by decide) ?_
          refine lv_istore (lv' := [(7, .int (nI 0)), (6, .int (nI 0)), (0, .long (eR t)), (2, .int s1), (3, .int (nI i)), (4, .int (nI (t.getD i 0))), (5, .int a)]) xh bh dX9_funOf_40 hl (by decide) rfl (fun ls hl => ?_)
          have cut_42 : ∀ (n_42 : Nat), ∀ (k : Nat), ∀ (n : Nat), (k ≤ i) → (n = cntN t (t.getD i 0) k) → (i - k) < n_42 → ∀ (H : Heap) (locs : List Loc) (ls : Array Slot), va_P D vwCl [] H → va_D AG [] → va_S AG sG.heap H locs → lv_has ls 8 [(0, .long (eR t)), (2, .int s1), (3, .int (nI i)), (4, .int (nI (t.getD i 0))), (5, .int a), (6, .int (nI n)), (7, .int (nI k))] → W pG l eG ({ frames := 1, cells := 0, slots := 0, locals := 22 }) sG mG aG bG tG cG H locs 0 0 QG (F0 mG 42 ls []) := by
            intro n_42
            induction n_42 with
            | zero =>
              intro k n hk hc hmu
              exact absurd hmu (Nat.not_lt_zero _)
            | succ n_42 ih_42 =>
              intro k n hk hc hmu H locs ls hP hD hS hl
              refine lv_iload xh bh dX9_funOf_42 (lv_at hl 6 rfl) ?_
              refine lv_iload_n xh bh dX9_funOf_44 rfl (lv_at hl 2 rfl) ?_
              refine xn_icmp_ge (tgt := 75) xh bh dX9_funOf_45 (by decide) (by have := ht.1; omega) (by have := ht.1; omega) (fun c_45 => ?_) (fun c_45 => ?_)
              · have hc1 : n = cntN t (t.getD i 0) i := by rw [hc, show k = i by omega]
                have cut_112 : ∀ (s3 : Int32), (s3 = s1 + fnA t i + fnB t i) → ∀ (H : Heap) (locs : List Loc) (ls : Array Slot), va_P D vwCl [] H → va_D AG [] → va_S AG sG.heap H locs → lv_has ls 8 [(0, .long (eR t)), (2, .int s3), (3, .int (nI i)), (4, .int (nI (t.getD i 0))), (5, .int a), (6, .int (nI n))] → W pG l eG ({ frames := 1, cells := 0, slots := 0, locals := 22 }) sG mG aG bG tG cG H locs 0 0 QG (F0 mG 112 ls []) := by
                  intro s3 hs3 H locs ls hP hD hS hl
                  refine lv_iload_n xh bh dX9_funOf_112 rfl (lv_at hl 1 rfl) ?_
                  refine lv_iload xh bh dX9_funOf_113 (lv_at hl 5 rfl) ?_
                  refine lv_iconst (v := (nI 1)) xh bh dX9_funOf_115 (by decide) ?_
                  refine xn_icmp_le (tgt := 123) xh bh dX9_funOf_116 (by decide) (by have := cntN_le t (t.getD i 0) i; have := ht.1; omega) (by have := cntN_le t (t.getD i 0) i; have := ht.1; omega) (fun c_116 => ?_) (fun c_116 => ?_)
                  · refine lv_iconst (v := (nI 0)) xh bh dX9_funOf_123 (by decide) ?_
                    refine lv_isub xh bh dX9_funOf_124 ?_
                    refine lv_istore_n (lv' := [(2, .int (s3 - (nI 0))), (0, .long (eR t)), (3, .int (nI i)), (4, .int (nI (t.getD i 0))), (5, .int a), (6, .int (nI n))]) xh bh dX9_funOf_125 rfl hl (by decide) rfl (fun ls hl => ?_)
                    refine lv_iinc (v := (nI (i + 1))) (lv' := [(3, .int (nI (i + 1))), (2, .int (s3 - (nI 0))), (0, .long (eR t)), (4, .int (nI (t.getD i 0))), (5, .int a), (6, .int (nI n))]) xh bh dX9_funOf_126 hl (k := 2) rfl (by exact xn_inc _ _) (by decide) rfl (fun ls hl => ?_)
                    refine lv_goto (tgt := 4) xh bh dX9_funOf_129 (by decide) ?_
                    exact ih_4 (i + 1) (s3 - (nI 0)) (by omega) (by show _ = fnI t i + fnA t i + fnB t i - fnC t i; rw [hs3, hs]; first | rw [fnC, ← hc1, if_pos c_116] | rw [fnC, ← hc1, if_neg (Nat.not_lt.mpr c_116)]) (by omega) _ _ ls hP hD hS (lv_sub hl [2, 1, 0] rfl)
                  · refine lv_iconst (v := (nI 4)) xh bh dX9_funOf_119 (by decide) ?_
                    refine lv_goto (tgt := 124) xh bh dX9_funOf_120 (by decide) ?_
                    refine lv_isub xh bh dX9_funOf_124 ?_
                    refine lv_istore_n (lv' := [(2, .int (s3 - (nI 4))), (0, .long (eR t)), (3, .int (nI i)), (4, .int (nI (t.getD i 0))), (5, .int a), (6, .int (nI n))]) xh bh dX9_funOf_125 rfl hl (by decide) rfl (fun ls hl => ?_)
                    refine lv_iinc (v := (nI (i + 1))) (lv' := [(3, .int (nI (i + 1))), (2, .int (s3 - (nI 4))), (0, .long (eR t)), (4, .int (nI (t.getD i 0))), (5, .int a), (6, .int (nI n))]) xh bh dX9_funOf_126 hl (k := 2) rfl (by exact xn_inc _ _) (by decide) rfl (fun ls hl => ?_)
                    refine lv_goto (tgt := 4) xh bh dX9_funOf_129 (by decide) ?_
                    exact ih_4 (i + 1) (s3 - (nI 4)) (by omega) (by show _ = fnI t i + fnA t i + fnB t i - fnC t i; rw [hs3, hs]; first | rw [fnC, ← hc1, if_pos c_116] | rw [fnC, ← hc1, if_neg (Nat.not_lt.mpr c_116)]) (by omega) _ _ ls hP hD hS (lv_sub hl [2, 1, 0] rfl)
                have cut_90 : ∀ (s2 : Int32), (s2 = s1 + fnA t i) → ∀ (H : Heap) (locs : List Loc) (ls : Array Slot), va_P D vwCl [] H → va_D AG [] → va_S AG sG.heap H locs → lv_has ls 8 [(0, .long (eR t)), (2, .int s2), (3, .int (nI i)), (4, .int (nI (t.getD i 0))), (5, .int a), (6, .int (nI n))] → W pG l eG ({ frames := 1, cells := 0, slots := 0, locals := 22 }) sG mG aG bG tG cG H locs 0 0 QG (F0 mG 90 ls []) := by
                  intro s2 hs2 H locs ls hP hD hS hl
                  refine lv_iload_n xh bh dX9_funOf_90 rfl (lv_at hl 1 rfl) ?_
                  refine lv_iload xh bh dX9_funOf_91 (lv_at hl 3 rfl) ?_
                  refine lv_bipush (v := (nI 9)) xh bh dX9_funOf_93 (by decide) ?_
                  refine xn_icmp_ne (tgt := 109) xh bh dX9_funOf_95 (by decide) (by have := ht.getD i; omega) (by have := ht.getD i; omega) (fun c_95 => ?_) (fun c_95 => ?_)
                  · refine lv_iconst (v := (nI 0)) xh bh dX9_funOf_109 (by decide) ?_
                    refine lv_iadd xh bh dX9_funOf_110 ?_
                    refine lv_istore_n (lv' := [(2, .int (s2 + (nI 0))), (0, .long (eR t)), (3, .int (nI i)), (4, .int (nI (t.getD i 0))), (5, .int a), (6, .int (nI n))]) xh bh dX9_funOf_111 rfl hl (by decide) rfl (fun ls hl => ?_)
                    exact cut_112 (s2 + (nI 0)) (by rw [hs2]; first | exact congrArg (fun z => s1 + fnA t i + z) (fnB_y c_95 ha c_102) | exact congrArg (fun z => s1 + fnA t i + z) (fnB_n1 c_95) | exact congrArg (fun z => s1 + fnA t i + z) (fnB_n2 ha c_102)) _ _ ls hP hD hS (lv_sub hl [1, 0, 2, 3, 4, 5] rfl)
                  · refine lv_iload xh bh dX9_funOf_98 (lv_at hl 4 rfl) ?_
                    refine lv_bipush (v := (nI 7)) xh bh dX9_funOf_100 (by decide) ?_
                    refine lv_icmp_ne (tgt := 109) xh bh dX9_funOf_102 (by decide) (fun c_102 => ?_) (fun c_102 => ?_)
                    · refine lv_iconst (v := (nI 0)) xh bh dX9_funOf_109 (by decide) ?_
                      refine lv_iadd xh bh dX9_funOf_110 ?_
                      refine lv_istore_n (lv' := [(2, .int (s2 + (nI 0))), (0, .long (eR t)), (3, .int (nI i)), (4, .int (nI (t.getD i 0))), (5, .int a), (6, .int (nI n))]) xh bh dX9_funOf_111 rfl hl (by decide) rfl (fun ls hl => ?_)
                      exact cut_112 (s2 + (nI 0)) (by rw [hs2]; first | exact congrArg (fun z => s1 + fnA t i + z) (fnB_y c_95 ha c_102) | exact congrArg (fun z => s1 + fnA t i + z) (fnB_n1 c_95) | exact congrArg (fun z => s1 + fnA t i + z) (fnB_n2 ha c_102)) _ _ ls hP hD hS (lv_sub hl [1, 0, 2, 3, 4, 5] rfl)
                    · refine lv_iconst (v := (nI 5)) xh bh dX9_funOf_105 (by decide) ?_
                      refine lv_goto (tgt := 110) xh bh dX9_funOf_106 (by decide) ?_
                      refine lv_iadd xh bh dX9_funOf_110 ?_
                      refine lv_istore_n (lv' := [(2, .int (s2 + (nI 5))), (0, .long (eR t)), (3, .int (nI i)), (4, .int (nI (t.getD i 0))), (5, .int a), (6, .int (nI n))]) xh bh dX9_funOf_111 rfl hl (by decide) rfl (fun ls hl => ?_)
                      exact cut_112 (s2 + (nI 5)) (by rw [hs2]; first | exact congrArg (fun z => s1 + fnA t i + z) (fnB_y c_95 ha c_102) | exact congrArg (fun z => s1 + fnA t i + z) (fnB_n1 c_95) | exact congrArg (fun z => s1 + fnA t i + z) (fnB_n2 ha c_102)) _ _ ls hP hD hS (lv_sub hl [1, 0, 2, 3, 4, 5] rfl)
                refine lv_iload_n xh bh dX9_funOf_75 rfl (lv_at hl 1 rfl) ?_
                refine lv_iload xh bh dX9_funOf_76 (lv_at hl 3 rfl) ?_
                refine lv_iload xh bh dX9_funOf_78 (lv_at hl 4 rfl) ?_
                refine lv_icmp_ne (tgt := 87) xh bh dX9_funOf_80 (by decide) (fun c_80 => ?_) (fun c_80 => ?_)
                · refine lv_iconst (v := (nI 2)) xh bh dX9_funOf_87 (by decide) ?_
                  refine lv_iadd xh bh dX9_funOf_88 ?_
                  refine lv_istore_n (lv' := [(2, .int (s1 + (nI 2))), (0, .long (eR t)), (3, .int (nI i)), (4, .int (nI (t.getD i 0))), (5, .int a), (6, .int (nI n)), (7, .int (nI k))]) xh bh dX9_funOf_89 rfl hl (by decide) rfl (fun ls hl => ?_)
                  exact cut_90 (s1 + (nI 2)) (by rw [fnA, ← ha]; first | rw [if_pos c_80] | rw [if_neg c_80] | rw [if_pos (c_80)]) _ _ ls hP hD hS (lv_sub hl [1, 0, 2, 3, 4, 5] rfl)
                · refine lv_iconst (v := (nI 0)) xh bh dX9_funOf_83 (by decide) ?_
                  refine lv_goto (tgt := 88) xh bh dX9_funOf_84 (by decide) ?_
                  refine lv_iadd xh bh dX9_funOf_88 ?_
                  refine lv_istore_n (lv' := [(2, .int (s1 + (nI 0))), (0, .long (eR t)), (3, .int (nI i)), (4, .int (nI (t.getD i 0))), (5, .int a), (6, .int (nI n)), (7, .int (nI k))]) xh bh dX9_funOf_89 rfl hl (by decide) rfl (fun ls hl => ?_)
                  exact cut_90 (s1 + (nI 0)) (by rw [fnA, ← ha]; first | rw [if_pos c_80] | rw [if_neg c_80] | rw [if_pos (c_80)]) _ _ ls hP hD hS (lv_sub hl [1, 0, 2, 3, 4, 5] rfl)
              · refine lv_iload xh bh dX9_funOf_48 (lv_at hl 5 rfl) ?_
                refine lv_lload_n xh bh dX9_funOf_50 rfl (lv_at hl 0 rfl) ?_
                refine lv_iload xh bh dX9_funOf_51 (lv_at hl 6 rfl) ?_
                refine Ct.callS0 (rest := [.int (nI n)]) xh bh hml hown hts hK hP hS hA (ct_X9_partOf l D cI cJ cB cZ cA t k (by first | assumption | exact okT_nil) (by have := ht.1; omega)) (va_cwS 2 hts gX9_funOf_X9_partOf rfl rfl rfl (by decide +kernel) ⟨Nat.le_of_ble_eq_true rfl, Nat.le_of_ble_eq_true rfl⟩) rfl rfl hl.1 (Nat.le_of_ble_eq_true rfl) dX9_funOf_53 ⟨Nat.le_refl _, Nat.le_refl _⟩ (fun _ H locs _ hP hS => ?_)
                refine W.eq (g2 := F0 mG 56 ls [.int (nI (t.getD k 0)), .int (nI n)]) rfl ?_
                refine lv_iload xh bh dX9_funOf_56 (lv_at hl 3 rfl) ?_
                refine xn_icmp_ne (tgt := 65) xh bh dX9_funOf_58 (by decide) (by have := ht.getD k; have := ht.getD i; omega) (by have := ht.getD k; have := ht.getD i; omega) (fun c_58 => ?_) (fun c_58 => ?_)
                · refine lv_iconst (v := (nI 0)) xh bh dX9_funOf_65 (by decide) ?_
                  refine xn_iadd xh bh dX9_funOf_66 ?_
                  refine lv_istore (lv' := [(6, .int (nI (n + 0))), (0, .long (eR t)), (2, .int s1), (3, .int (nI i)), (4, .int (nI (t.getD i 0))), (5, .int a), (7, .int (nI k))]) xh bh dX9_funOf_67 hl (by decide) rfl (fun ls hl => ?_)
                  refine lv_iinc (v := (nI (k + 1))) (lv' := [(7, .int (nI (k + 1))), (6, .int (nI (n + 0))), (0, .long (eR t)), (2, .int s1), (3, .int (nI i)), (4, .int (nI (t.getD i 0))), (5, .int a)]) xh bh dX9_funOf_69 hl (k := 6) rfl (by exact xn_inc _ _) (by decide) rfl (fun ls hl => ?_)
                  refine lv_goto (tgt := 42) xh bh dX9_funOf_72 (by decide) ?_
                  exact ih_42 (k + 1) (n + 0) (by omega) (by first | (rw [hc, cntN_y c_58]) | (rw [hc, cntN_n c_58, Nat.add_zero])) (by omega) _ _ ls hP hD hS (lv_sub hl [2, 3, 4, 5, 6, 1, 0] rfl)
                · refine lv_iconst (v := (nI 1)) xh bh dX9_funOf_61 (by decide) ?_
                  refine lv_goto (tgt := 66) xh bh dX9_funOf_62 (by decide) ?_
                  refine xn_iadd xh bh dX9_funOf_66 ?_
                  refine lv_istore (lv' := [(6, .int (nI (n + 1))), (0, .long (eR t)), (2, .int s1), (3, .int (nI i)), (4, .int (nI (t.getD i 0))), (5, .int a), (7, .int (nI k))]) xh bh dX9_funOf_67 hl (by decide) rfl (fun ls hl => ?_)
                  refine lv_iinc (v := (nI (k + 1))) (lv' := [(7, .int (nI (k + 1))), (6, .int (nI (n + 1))), (0, .long (eR t)), (2, .int s1), (3, .int (nI i)), (4, .int (nI (t.getD i 0))), (5, .int a)]) xh bh dX9_funOf_69 hl (k := 6) rfl (by exact xn_inc _ _) (by decide) rfl (fun ls hl => ?_)
                  refine lv_goto (tgt := 42) xh bh dX9_funOf_72 (by decide) ?_
                  exact ih_42 (k + 1) (n + 1) (by omega) (by first | (rw [hc, cntN_y c_58]) | (rw [hc, cntN_n c_58, Nat.add_zero])) (by omega) _ _ ls hP hD hS (lv_sub hl [2, 3, 4, 5, 6, 1, 0] rfl)
          exact cut_42 (i - 0 + 1) 0 0 (by exact Nat.zero_le _) (by rfl) (Nat.lt_succ_self _) _ _ ls hP hD hS (lv_sub hl [2, 3, 4, 5, 6, 1, 0] rfl)
        refine xn_if_ne (tgt := 27) xh bh dX9_funOf_20 (by decide) (by have := ht.1; omega) (fun c_20 => ?_) (fun c_20 => ?_)
        · refine lv_lload_n xh bh dX9_funOf_27 rfl (lv_at hl 1 rfl) ?_
          refine lv_iload_n xh bh dX9_funOf_28 rfl (lv_at hl 3 rfl) ?_
          refine lv_iconst (v := (nI 1)) xh bh dX9_funOf_29 (by decide) ?_
          refine xn_isub xh bh dX9_funOf_30 (by omega) ?_
          refine Ct.callS0 (rest := []) xh bh hml hown hts hK hP hS hA (ct_X9_partOf l D cI cJ cB cZ cA t (i - 1) (by first | assumption | exact okT_nil) (by have := ht.1; omega)) (va_cwS 2 hts gX9_funOf_X9_partOf rfl rfl rfl (by decide +kernel) ⟨Nat.le_of_ble_eq_true rfl, Nat.le_of_ble_eq_true rfl⟩) rfl rfl hl.1 (Nat.le_of_ble_eq_true rfl) dX9_funOf_31 ⟨Nat.le_refl _, Nat.le_refl _⟩ (fun _ H locs _ hP hS => ?_)
          refine W.eq (g2 := F0 mG 34 ls [.int (nI (t.getD (i - 1) 0))]) rfl ?_
          refine lv_istore (lv' := [(5, .int (nI (t.getD (i - 1) 0))), (4, .int (nI (t.getD i 0))), (0, .long (eR t)), (2, .int s1), (3, .int (nI i))]) xh bh dX9_funOf_34 hl (by decide) rfl (fun ls hl => ?_)
          exact cut_36 (nI (t.getD (i - 1) 0)) (by first | exact (if_neg c_20).symm | exact (if_pos c_20).symm) _ _ ls hP hD hS (lv_sub hl [2, 3, 4, 1, 0] rfl)
        · refine lv_iconst (v := (-1)) xh bh dX9_funOf_23 (by decide) ?_
          refine lv_goto (tgt := 34) xh bh dX9_funOf_24 (by decide) ?_
          refine lv_istore (lv' := [(5, .int (-1)), (4, .int (nI (t.getD i 0))), (0, .long (eR t)), (2, .int s1), (3, .int (nI i))]) xh bh dX9_funOf_34 hl (by decide) rfl (fun ls hl => ?_)
          exact cut_36 (-1) (by first | exact (if_neg c_20).symm | exact (if_pos c_20).symm) _ _ ls hP hD hS (lv_sub hl [2, 3, 4, 1, 0] rfl)
  exact cut_4 (t.length - 0 + 1) 0 (nI 0) (by exact Nat.zero_le _) (by rfl) (Nat.lt_succ_self _) _ _ ls hP hD hS (lv_sub hl [2, 1, 0] rfl)

set_option maxHeartbeats 1000000 in
set_option maxRecDepth 100000 in
theorem ct_X9_partsIn (l : Launch) (D : va_G) (cI cJ cB cZ cA : ClassId) (h : Int64) (t : List Nat) (ht : okT t) : Ct l yX9_partsIn wsX9_partsIn ({ frames := 1, cells := 0, slots := 0, locals := 22 }) D (tysG cI cJ cB cZ cA) [.long h, .long (eR t)] [] (fun (_ : Unit) => True) (fun _ => some (.long (dgT t h t.length))) (fun _ => []) := by
  refine Ct.ofL (cc := cX9_partsIn) (maxL := 7) (by decide) rfl (Nat.le_of_ble_eq_true rfl) ?_
  intro pG eG sG mG aG bG tG cG AG QG ls xh bh hml hown hts hK hP hD hS hA hend hl
  have hl : lv_has ls 7 [(0, .long h), (2, .long (eR t))] := hl
  refine lv_lload_n xh bh dX9_partsIn_0 rfl (lv_at hl 0 rfl) ?_
  refine lv_lstore (lv' := [(4, .long h), (0, .long h), (2, .long (eR t))]) xh bh dX9_partsIn_1 hl (by decide) rfl (fun ls hl => ?_)
  refine lv_iconst (v := (nI 0)) xh bh dX9_partsIn_3 (by decide) ?_
  refine lv_istore (lv' := [(6, .int (nI 0)), (4, .long h), (0, .long h), (2, .long (eR t))]) xh bh dX9_partsIn_4 hl (by decide) rfl (fun ls hl => ?_)
  have cut_6 : ∀ (n_6 : Nat), ∀ (i : Nat), ∀ (g : Int64), (i ≤ t.length) → (g = dgT t h i) → (t.length - i) < n_6 → ∀ (H : Heap) (locs : List Loc) (ls : Array Slot), va_P D vwCl [] H → va_D AG [] → va_S AG sG.heap H locs → lv_has ls 7 [(0, .long h), (2, .long (eR t)), (4, .long g), (6, .int (nI i))] → W pG l eG ({ frames := 1, cells := 0, slots := 0, locals := 22 }) sG mG aG bG tG cG H locs 0 0 QG (F0 mG 6 ls []) := by
    intro n_6
    induction n_6 with
    | zero =>
      intro i g hi hg hmu
      exact absurd hmu (Nat.not_lt_zero _)
    | succ n_6 ih_6 =>
      intro i g hi hg hmu H locs ls hP hD hS hl
      refine lv_iload xh bh dX9_partsIn_6 (lv_at hl 3 rfl) ?_
      refine lv_lload_n xh bh dX9_partsIn_8 rfl (lv_at hl 1 rfl) ?_
      refine Ct.callS0 (rest := [.int (nI i)]) xh bh hml hown hts hK hP hS hA (ct_X9_many l D cI cJ cB cZ cA t (by first | assumption | exact okT_nil)) (va_cwS 1 hts gX9_partsIn_X9_many rfl rfl rfl (by decide +kernel) ⟨Nat.le_of_ble_eq_true rfl, Nat.le_of_ble_eq_true rfl⟩) rfl rfl hl.1 (Nat.le_of_ble_eq_true rfl) dX9_partsIn_9 ⟨Nat.le_refl _, Nat.le_refl _⟩ (fun _ H locs _ hP hS => ?_)
      refine W.eq (g2 := F0 mG 12 ls [.int (nI t.length), .int (nI i)]) rfl ?_
      refine xn_icmp_ge (tgt := 37) xh bh dX9_partsIn_12 (by decide) (by have := ht.1; omega) (by have := ht.1; omega) (fun c_12 => ?_) (fun c_12 => ?_)
      · refine lv_lload xh bh dX9_partsIn_37 (lv_at hl 2 rfl) ?_
        exact hend g () _ _ _ _ (congrArg (fun z => some (Value.long z)) (by rw [hg, show i = t.length by omega])) trivial dX9_partsIn_39 hP hD hS
      · refine lv_ldc2 (v := (lN 31)) xh bh hown (hts _ (List.mem_of_getElem? (i := 1) rfl)) dX9_partsIn_15 ?_
        refine lv_lload xh bh dX9_partsIn_18 (lv_at hl 2 rfl) ?_
        refine lv_lmul xh bh dX9_partsIn_20 ?_
        refine lv_lload_n xh bh dX9_partsIn_21 rfl (lv_at hl 1 rfl) ?_
        refine lv_iload xh bh dX9_partsIn_22 (lv_at hl 3 rfl) ?_
        refine Ct.callS0 (rest := [.long ((lN 31) * g)]) xh bh hml hown hts hK hP hS hA (ct_X9_partOf l D cI cJ cB cZ cA t i (by first | assumption | exact okT_nil) (by have := ht.1; omega)) (va_cwS 2 hts gX9_partsIn_X9_partOf rfl rfl rfl (by decide +kernel) ⟨Nat.le_of_ble_eq_true rfl, Nat.le_of_ble_eq_true rfl⟩) rfl rfl hl.1 (Nat.le_of_ble_eq_true rfl) dX9_partsIn_24 ⟨Nat.le_refl _, Nat.le_refl _⟩ (fun _ H locs _ hP hS => ?_)
        refine W.eq (g2 := F0 mG 27 ls [.int (nI (t.getD i 0)), .long ((lN 31) * g)]) rfl ?_
        refine xn_i2l xh bh dX9_partsIn_27 (by have := ht.getD i; omega) ?_
        refine lv_ladd xh bh dX9_partsIn_28 ?_
        refine lv_lstore (lv' := [(4, .long (((lN 31) * g) + (lN (t.getD i 0)))), (0, .long h), (2, .long (eR t)), (6, .int (nI i))]) xh bh dX9_partsIn_29 hl (by decide) rfl (fun ls hl => ?_)
        refine lv_iinc (v := (nI (i + 1))) (lv' := [(6, .int (nI (i + 1))), (4, .long (((lN 31) * g) + (lN (t.getD i 0)))), (0, .long h), (2, .long (eR t))]) xh bh dX9_partsIn_31 hl (k := 3) rfl (by exact xn_inc _ _) (by decide) rfl (fun ls hl => ?_)
        refine lv_goto (tgt := 6) xh bh dX9_partsIn_34 (by decide) ?_
        exact ih_6 (i + 1) (((lN 31) * g) + (lN (t.getD i 0))) (by omega) (by rw [hg]; rfl) (by omega) _ _ ls hP hD hS (lv_sub hl [2, 3, 1, 0] rfl)
  exact cut_6 (t.length - 0 + 1) 0 h (by exact Nat.zero_le _) (by rfl) (Nat.lt_succ_self _) _ _ ls hP hD hS (lv_sub hl [2, 3, 1, 0] rfl)

set_option maxHeartbeats 1000000 in
set_option maxRecDepth 100000 in
theorem ct_X9_choose (l : Launch) (D : va_G) (cI cJ cB cZ cA : ClassId) (n : Nat) (k : Nat) (hn : n < 11) (hk : k < 11) : Ct l yX9_choose wsX9_choose ({ frames := 0, cells := 0, slots := 0, locals := 0 }) D (tysG cI cJ cB cZ cA) [.int (nI n), .int (nI k)] [] (fun (_ : Unit) => True) (fun _ => some (.long (lN (chN n k)))) (fun _ => []) := by
  refine Ct.ofL (cc := cX9_choose) (maxL := 5) (by decide) rfl (Nat.le_of_ble_eq_true rfl) ?_
  intro pG eG sG mG aG bG tG cG AG QG ls xh bh hml hown hts hK hP hD hS hA hend hl
  have hl : lv_has ls 5 [(0, .int (nI n)), (1, .int (nI k))] := hl
  refine lv_iload_n xh bh dX9_choose_0 rfl (lv_at hl 1 rfl) ?_
  refine xn_if_lt (tgt := 9) xh bh dX9_choose_1 (by decide) (by omega) (fun c_1 => ?_) (fun c_1 => ?_)
  · exact c_1.elim
  · refine lv_iload_n xh bh dX9_choose_4 rfl (lv_at hl 1 rfl) ?_
    refine lv_iload_n xh bh dX9_choose_5 rfl (lv_at hl 0 rfl) ?_
    refine xn_icmp_le (tgt := 13) xh bh dX9_choose_6 (by decide) (by omega) (by omega) (fun c_6 => ?_) (fun c_6 => ?_)
    · refine lv_lconst (v := lN 1) xh bh dX9_choose_13 (by decide) ?_
      refine lv_lstore_n (lv' := [(2, .long (lN 1)), (0, .int (nI n)), (1, .int (nI k))]) xh bh dX9_choose_14 rfl hl (by decide) rfl (fun ls hl => ?_)
      refine lv_iconst (v := (nI 0)) xh bh dX9_choose_15 (by decide) ?_
      refine lv_istore (lv' := [(4, .int (nI 0)), (2, .long (lN 1)), (0, .int (nI n)), (1, .int (nI k))]) xh bh dX9_choose_16 hl (by decide) rfl (fun ls hl => ?_)
      have cut_18 : ∀ (n_18 : Nat), ∀ (j : Nat), ∀ (w : Nat), (j ≤ k) → (w = if k ≤ n then chL n j else 0) → (k - j) < n_18 → ∀ (H : Heap) (locs : List Loc) (ls : Array Slot), va_P D vwCl [] H → va_D AG [] → va_S AG sG.heap H locs → lv_has ls 5 [(0, .int (nI n)), (1, .int (nI k)), (2, .long (lN w)), (4, .int (nI j))] → W pG l eG ({ frames := 0, cells := 0, slots := 0, locals := 0 }) sG mG aG bG tG cG H locs 0 0 QG (F0 mG 18 ls []) := by
        intro n_18
        induction n_18 with
        | zero =>
          intro j w hj hw hmu
          exact absurd hmu (Nat.not_lt_zero _)
        | succ n_18 ih_18 =>
          intro j w hj hw hmu H locs ls hP hD hS hl
          refine lv_iload xh bh dX9_choose_18 (lv_at hl 3 rfl) ?_
          refine lv_iload_n xh bh dX9_choose_20 rfl (lv_at hl 1 rfl) ?_
          refine xn_icmp_ge (tgt := 50) xh bh dX9_choose_21 (by decide) (by omega) (by omega) (fun c_21 => ?_) (fun c_21 => ?_)
          · refine lv_lload_n xh bh dX9_choose_50 rfl (lv_at hl 2 rfl) ?_
            exact hend (lN w) () _ _ _ _ (congrArg (fun z => some (Value.long (lN z))) (by unfold chN; first | (rw [hw, show j = k by omega]) | (by_cases q : k ≤ n; exact absurd ((chL_le n hn j (by omega)).2 (by omega)) (by rw [hw, if_pos q] at c_27; omega); rw [if_neg q]; omega))) trivial dX9_choose_51 hP hD hS
          · refine lv_lload_n xh bh dX9_choose_24 rfl (lv_at hl 2 rfl) ?_
            refine lv_lconst (v := lN 0) xh bh dX9_choose_25 (by decide) ?_
            refine W.lcmp xh bh dX9_choose_26 ?_
            refine xq_if_le (tgt := 50) xh bh dX9_choose_27 (by decide) (by have := chW hw hn (show j < 11 by omega); omega) (by have := chW hw hn (show j < 11 by omega); omega) (fun c_27 => ?_) (fun c_27 => ?_)
            · refine lv_lload_n xh bh dX9_choose_50 rfl (lv_at hl 2 rfl) ?_
              exact hend (lN w) () _ _ _ _ (congrArg (fun z => some (Value.long (lN z))) (by unfold chN; first | (rw [hw, show j = k by omega]) | (by_cases q : k ≤ n; exact absurd ((chL_le n hn j (by omega)).2 (by omega)) (by rw [hw, if_pos q] at c_27; omega); rw [if_neg q]; omega))) trivial dX9_choose_51 hP hD hS
            · have hkn : k ≤ n := by
                by_cases q : k ≤ n
                · exact q
                · rw [hw, if_neg q] at c_27
                  exact absurd c_27 (Nat.lt_irrefl _)
              have hw1 : w = chL n j := by rw [hw, if_pos hkn]
              have hwb : w ≤ 252 := by rw [hw1]; exact (chL_le n hn j (by omega)).1
              refine lv_lload_n xh bh dX9_choose_30 rfl (lv_at hl 2 rfl) ?_
              refine lv_iload_n xh bh dX9_choose_31 rfl (lv_at hl 0 rfl) ?_
              refine lv_iload xh bh dX9_choose_32 (lv_at hl 3 rfl) ?_
              refine xn_isub xh bh dX9_choose_34 (by omega) ?_
              refine xn_i2l xh bh dX9_choose_35 (by omega) ?_
              refine xq_lmul xh bh dX9_choose_36 ?_
              refine lv_iload xh bh dX9_choose_37 (lv_at hl 3 rfl) ?_
              refine lv_iconst (v := (nI 1)) xh bh dX9_choose_39 (by decide) ?_
              refine xn_iadd xh bh dX9_choose_40 ?_
              refine xn_i2l xh bh dX9_choose_41 (by omega) ?_
              refine xq_ldiv xh bh dX9_choose_42 (by exact Nat.lt_of_le_of_lt (Nat.mul_le_mul hwb (show n - j ≤ 10 by omega)) (by decide)) (by omega) (by omega) ?_
              refine lv_lstore_n (lv' := [(2, .long (lN ((w * (n - j)) / (j + 1)))), (0, .int (nI n)), (1, .int (nI k)), (4, .int (nI j))]) xh bh dX9_choose_43 rfl hl (by decide) rfl (fun ls hl => ?_)
              refine lv_iinc (v := (nI (j + 1))) (lv' := [(4, .int (nI (j + 1))), (2, .long (lN ((w * (n - j)) / (j + 1)))), (0, .int (nI n)), (1, .int (nI k))]) xh bh dX9_choose_44 hl (k := 3) rfl (by exact xn_inc _ _) (by decide) rfl (fun ls hl => ?_)
              refine lv_goto (tgt := 18) xh bh dX9_choose_47 (by decide) ?_
              exact ih_18 (j + 1) ((w * (n - j)) / (j + 1)) (by omega) (by rw [if_pos hkn, hw1]; rfl) (by omega) _ _ ls hP hD hS (lv_sub hl [2, 3, 1, 0] rfl)
      exact cut_18 (k - 0 + 1) 0 1 (by exact Nat.zero_le _) (by first | exact (if_pos c_6).symm | exact (if_neg (by omega)).symm) (Nat.lt_succ_self _) _ _ ls hP hD hS (lv_sub hl [2, 3, 1, 0] rfl)
    · refine lv_lconst (v := lN 0) xh bh dX9_choose_9 (by decide) ?_
      refine lv_goto (tgt := 14) xh bh dX9_choose_10 (by decide) ?_
      refine lv_lstore_n (lv' := [(2, .long (lN 0)), (0, .int (nI n)), (1, .int (nI k))]) xh bh dX9_choose_14 rfl hl (by decide) rfl (fun ls hl => ?_)
      refine lv_iconst (v := (nI 0)) xh bh dX9_choose_15 (by decide) ?_
      refine lv_istore (lv' := [(4, .int (nI 0)), (2, .long (lN 0)), (0, .int (nI n)), (1, .int (nI k))]) xh bh dX9_choose_16 hl (by decide) rfl (fun ls hl => ?_)
      have cut_18 : ∀ (n_18 : Nat), ∀ (j : Nat), ∀ (w : Nat), (j ≤ k) → (w = if k ≤ n then chL n j else 0) → (k - j) < n_18 → ∀ (H : Heap) (locs : List Loc) (ls : Array Slot), va_P D vwCl [] H → va_D AG [] → va_S AG sG.heap H locs → lv_has ls 5 [(0, .int (nI n)), (1, .int (nI k)), (2, .long (lN w)), (4, .int (nI j))] → W pG l eG ({ frames := 0, cells := 0, slots := 0, locals := 0 }) sG mG aG bG tG cG H locs 0 0 QG (F0 mG 18 ls []) := by
        intro n_18
        induction n_18 with
        | zero =>
          intro j w hj hw hmu
          exact absurd hmu (Nat.not_lt_zero _)
        | succ n_18 ih_18 =>
          intro j w hj hw hmu H locs ls hP hD hS hl
          refine lv_iload xh bh dX9_choose_18 (lv_at hl 3 rfl) ?_
          refine lv_iload_n xh bh dX9_choose_20 rfl (lv_at hl 1 rfl) ?_
          refine xn_icmp_ge (tgt := 50) xh bh dX9_choose_21 (by decide) (by omega) (by omega) (fun c_21 => ?_) (fun c_21 => ?_)
          · refine lv_lload_n xh bh dX9_choose_50 rfl (lv_at hl 2 rfl) ?_
            exact hend (lN w) () _ _ _ _ (congrArg (fun z => some (Value.long (lN z))) (by unfold chN; first | (rw [hw, show j = k by omega]) | (by_cases q : k ≤ n; exact absurd ((chL_le n hn j (by omega)).2 (by omega)) (by rw [hw, if_pos q] at c_27; omega); rw [if_neg q]; omega))) trivial dX9_choose_51 hP hD hS
          · refine lv_lload_n xh bh dX9_choose_24 rfl (lv_at hl 2 rfl) ?_
            refine lv_lconst (v := lN 0) xh bh dX9_choose_25 (by decide) ?_
            refine W.lcmp xh bh dX9_choose_26 ?_
            refine xq_if_le (tgt := 50) xh bh dX9_choose_27 (by decide) (by have := chW hw hn (show j < 11 by omega); omega) (by have := chW hw hn (show j < 11 by omega); omega) (fun c_27 => ?_) (fun c_27 => ?_)
            · refine lv_lload_n xh bh dX9_choose_50 rfl (lv_at hl 2 rfl) ?_
              exact hend (lN w) () _ _ _ _ (congrArg (fun z => some (Value.long (lN z))) (by unfold chN; first | (rw [hw, show j = k by omega]) | (by_cases q : k ≤ n; exact absurd ((chL_le n hn j (by omega)).2 (by omega)) (by rw [hw, if_pos q] at c_27; omega); rw [if_neg q]; omega))) trivial dX9_choose_51 hP hD hS
            · have hkn : k ≤ n := by
                by_cases q : k ≤ n
                · exact q
                · rw [hw, if_neg q] at c_27
                  exact absurd c_27 (Nat.lt_irrefl _)
              have hw1 : w = chL n j := by rw [hw, if_pos hkn]
              have hwb : w ≤ 252 := by rw [hw1]; exact (chL_le n hn j (by omega)).1
              refine lv_lload_n xh bh dX9_choose_30 rfl (lv_at hl 2 rfl) ?_
              refine lv_iload_n xh bh dX9_choose_31 rfl (lv_at hl 0 rfl) ?_
              refine lv_iload xh bh dX9_choose_32 (lv_at hl 3 rfl) ?_
              refine xn_isub xh bh dX9_choose_34 (by omega) ?_
              refine xn_i2l xh bh dX9_choose_35 (by omega) ?_
              refine xq_lmul xh bh dX9_choose_36 ?_
              refine lv_iload xh bh dX9_choose_37 (lv_at hl 3 rfl) ?_
              refine lv_iconst (v := (nI 1)) xh bh dX9_choose_39 (by decide) ?_
              refine xn_iadd xh bh dX9_choose_40 ?_
              refine xn_i2l xh bh dX9_choose_41 (by omega) ?_
              refine xq_ldiv xh bh dX9_choose_42 (by exact Nat.lt_of_le_of_lt (Nat.mul_le_mul hwb (show n - j ≤ 10 by omega)) (by decide)) (by omega) (by omega) ?_
              refine lv_lstore_n (lv' := [(2, .long (lN ((w * (n - j)) / (j + 1)))), (0, .int (nI n)), (1, .int (nI k)), (4, .int (nI j))]) xh bh dX9_choose_43 rfl hl (by decide) rfl (fun ls hl => ?_)
              refine lv_iinc (v := (nI (j + 1))) (lv' := [(4, .int (nI (j + 1))), (2, .long (lN ((w * (n - j)) / (j + 1)))), (0, .int (nI n)), (1, .int (nI k))]) xh bh dX9_choose_44 hl (k := 3) rfl (by exact xn_inc _ _) (by decide) rfl (fun ls hl => ?_)
              refine lv_goto (tgt := 18) xh bh dX9_choose_47 (by decide) ?_
              exact ih_18 (j + 1) ((w * (n - j)) / (j + 1)) (by omega) (by rw [if_pos hkn, hw1]; rfl) (by omega) _ _ ls hP hD hS (lv_sub hl [2, 3, 1, 0] rfl)
      exact cut_18 (k - 0 + 1) 0 0 (by exact Nat.zero_le _) (by first | exact (if_pos c_6).symm | exact (if_neg (by omega)).symm) (Nat.lt_succ_self _) _ _ ls hP hD hS (lv_sub hl [2, 3, 1, 0] rfl)

set_option maxHeartbeats 1000000 in
set_option maxRecDepth 100000 in
theorem ct_X9_chooseM (l : Launch) (D : va_G) (cI cJ cB cZ cA : ClassId) (n : Nat) (k : Int32) (hn : n < 11) (hk : k < 0) : Ct l yX9_choose wsX9_choose ({ frames := 0, cells := 0, slots := 0, locals := 0 }) D (tysG cI cJ cB cZ cA) [.int (nI n), .int k] [] (fun (_ : Unit) => True) (fun _ => some (.long (lN 0))) (fun _ => []) := by
  refine Ct.ofL (cc := cX9_choose) (maxL := 5) (by decide) rfl (Nat.le_of_ble_eq_true rfl) ?_
  intro pG eG sG mG aG bG tG cG AG QG ls xh bh hml hown hts hK hP hD hS hA hend hl
  have hl : lv_has ls 5 [(0, .int (nI n)), (1, .int k)] := hl
  refine lv_iload_n xh bh dX9_choose_0 rfl (lv_at hl 1 rfl) ?_
  refine lv_if_lt (tgt := 9) xh bh dX9_choose_1 (by decide) (fun c_1 => ?_) (fun c_1 => ?_)
  · refine lv_lconst (v := lN 0) xh bh dX9_choose_9 (by decide) ?_
    refine lv_goto (tgt := 14) xh bh dX9_choose_10 (by decide) ?_
    refine lv_lstore_n (lv' := [(2, .long (lN 0)), (0, .int (nI n)), (1, .int k)]) xh bh dX9_choose_14 rfl hl (by decide) rfl (fun ls hl => ?_)
    refine lv_iconst (v := (nI 0)) xh bh dX9_choose_15 (by decide) ?_
    refine lv_istore (lv' := [(4, .int (nI 0)), (2, .long (lN 0)), (0, .int (nI n)), (1, .int k)]) xh bh dX9_choose_16 hl (by decide) rfl (fun ls hl => ?_)
    refine lv_iload xh bh dX9_choose_18 (lv_at hl 0 rfl) ?_
    refine lv_iload_n xh bh dX9_choose_20 rfl (lv_at hl 3 rfl) ?_
    refine lv_icmp_ge (tgt := 50) xh bh dX9_choose_21 (by decide) (fun c_21 => ?_) (fun c_21 => ?_)
    · refine lv_lload_n xh bh dX9_choose_50 rfl (lv_at hl 1 rfl) ?_
      exact hend (lN 0) () _ _ _ _ (congrArg (fun z => some (Value.long (lN z))) (by rfl)) trivial dX9_choose_51 hP hD hS
    · exact absurd (Int32.le_of_lt hk) c_21
  · exact absurd hk c_1

set_option maxHeartbeats 1000000 in
set_option maxRecDepth 100000 in
theorem ct_X9_stays (l : Launch) (D : va_G) (cI cJ cB cZ cA : ClassId) (a : Nat) (b : Nat) (c1 : Nat) (ha : a < 11) (hb : b ≤ a) (hc : c1 ≤ a) : Ct l yX9_stays wsX9_stays ({ frames := 1, cells := 0, slots := 0, locals := 24 }) D (tysG cI cJ cB cZ cA) [.int (nI a), .int (nI b), .int (nI c1)] [] (fun (_ : Unit) => True) (fun _ => some (.long (lN (stN a b c1)))) (fun _ => []) := by
  refine Ct.ofL (cc := cX9_stays) (maxL := 3) (by decide) rfl (Nat.le_of_ble_eq_true rfl) ?_
  intro pG eG sG mG aG bG tG cG AG QG ls xh bh hml hown hts hK hP hD hS hA hend hl
  have hl : lv_has ls 3 [(0, .int (nI a)), (1, .int (nI b)), (2, .int (nI c1))] := hl
  have q0 := stN_le a ha b hb c1 hc
  refine lv_ldc2 (v := (lN 5040)) xh bh hown (hts _ (List.mem_of_getElem? (i := 1) rfl)) dX9_stays_0 ?_
  refine lv_ldc2 (v := (lN 5040)) xh bh hown (hts _ (List.mem_of_getElem? (i := 1) rfl)) dX9_stays_3 ?_
  refine lv_iload_n xh bh dX9_stays_6 rfl (lv_at hl 0 rfl) ?_
  refine lv_iload_n xh bh dX9_stays_7 rfl (lv_at hl 1 rfl) ?_
  refine xn_isub xh bh dX9_stays_8 (by omega) ?_
  refine lv_iload_n xh bh dX9_stays_9 rfl (lv_at hl 2 rfl) ?_
  refine lv_iload_n xh bh dX9_stays_10 rfl (lv_at hl 1 rfl) ?_
  rcases Nat.lt_or_ge c1 b with q | q
  · have q1 : stC a b c1 = 0 := if_neg (by omega)
    rw [q1] at q0
    refine lv_isub xh bh dX9_stays_11 ?_
    refine Ct.callS0 (rest := [.long (lN 5040), .long (lN 5040)]) xh bh hml hown hts hK hP hS hA (ct_X9_chooseM l D cI cJ cB cZ cA (a - b) ((nI c1) - (nI b)) (by first | assumption | omega) (by first | exact pk_sneg (by omega) q | omega)) (va_cwS 2 hts gX9_stays_X9_choose rfl rfl rfl (by decide +kernel) ⟨Nat.le_of_ble_eq_true rfl, Nat.le_of_ble_eq_true rfl⟩) rfl rfl hl.1 (Nat.le_of_ble_eq_true rfl) dX9_stays_12 ⟨Nat.le_refl _, Nat.le_refl _⟩ (fun _ H locs _ hP hS => ?_)
    refine W.eq (g2 := F0 mG 15 ls [.long (lN 0), .long (lN 5040), .long (lN 5040)]) rfl ?_
    refine xq_lmul xh bh dX9_stays_15 ?_
    refine lv_iload_n xh bh dX9_stays_16 rfl (lv_at hl 0 rfl) ?_
    refine lv_iload_n xh bh dX9_stays_17 rfl (lv_at hl 2 rfl) ?_
    refine Ct.callS0 (rest := [.long (lN (5040 * 0)), .long (lN 5040)]) xh bh hml hown hts hK hP hS hA (ct_X9_choose l D cI cJ cB cZ cA a c1 (by first | assumption | omega) (by first | assumption | omega)) (va_cwS 2 hts gX9_stays_X9_choose rfl rfl rfl (by decide +kernel) ⟨Nat.le_of_ble_eq_true rfl, Nat.le_of_ble_eq_true rfl⟩) rfl rfl hl.1 (Nat.le_of_ble_eq_true rfl) dX9_stays_18 ⟨Nat.le_refl _, Nat.le_refl _⟩ (fun _ H locs _ hP hS => ?_)
    refine W.eq (g2 := F0 mG 21 ls [.long (lN (chN a c1)), .long (lN (5040 * 0)), .long (lN 5040)]) rfl ?_
    refine xq_ldiv xh bh dX9_stays_21 (by omega) (by exact q0.2.1) (by omega) ?_
    refine xq_lsub xh bh dX9_stays_22 (by exact q0.1) ?_
    exact hend (lN (5040 - ((5040 * 0) / (chN a c1)))) () _ _ _ _ (congrArg (fun z => some (Value.long (lN z))) (by unfold stN; rw [q1])) trivial dX9_stays_23 hP hD hS
  · have q1 : stC a b c1 = chN (a - b) (c1 - b) := if_pos q
    rw [q1] at q0
    refine xn_isub xh bh dX9_stays_11 (by omega) ?_
    refine Ct.callS0 (rest := [.long (lN 5040), .long (lN 5040)]) xh bh hml hown hts hK hP hS hA (ct_X9_choose l D cI cJ cB cZ cA (a - b) (c1 - b) (by first | assumption | omega) (by first | exact pk_sneg (by omega) q | omega)) (va_cwS 2 hts gX9_stays_X9_choose rfl rfl rfl (by decide +kernel) ⟨Nat.le_of_ble_eq_true rfl, Nat.le_of_ble_eq_true rfl⟩) rfl rfl hl.1 (Nat.le_of_ble_eq_true rfl) dX9_stays_12 ⟨Nat.le_refl _, Nat.le_refl _⟩ (fun _ H locs _ hP hS => ?_)
    refine W.eq (g2 := F0 mG 15 ls [.long (lN (chN (a - b) (c1 - b))), .long (lN 5040), .long (lN 5040)]) rfl ?_
    refine xq_lmul xh bh dX9_stays_15 ?_
    refine lv_iload_n xh bh dX9_stays_16 rfl (lv_at hl 0 rfl) ?_
    refine lv_iload_n xh bh dX9_stays_17 rfl (lv_at hl 2 rfl) ?_
    refine Ct.callS0 (rest := [.long (lN (5040 * (chN (a - b) (c1 - b)))), .long (lN 5040)]) xh bh hml hown hts hK hP hS hA (ct_X9_choose l D cI cJ cB cZ cA a c1 (by first | assumption | omega) (by first | assumption | omega)) (va_cwS 2 hts gX9_stays_X9_choose rfl rfl rfl (by decide +kernel) ⟨Nat.le_of_ble_eq_true rfl, Nat.le_of_ble_eq_true rfl⟩) rfl rfl hl.1 (Nat.le_of_ble_eq_true rfl) dX9_stays_18 ⟨Nat.le_refl _, Nat.le_refl _⟩ (fun _ H locs _ hP hS => ?_)
    refine W.eq (g2 := F0 mG 21 ls [.long (lN (chN a c1)), .long (lN (5040 * (chN (a - b) (c1 - b)))), .long (lN 5040)]) rfl ?_
    refine xq_ldiv xh bh dX9_stays_21 (by omega) (by exact q0.2.1) (by omega) ?_
    refine xq_lsub xh bh dX9_stays_22 (by exact q0.1) ?_
    exact hend (lN (5040 - ((5040 * (chN (a - b) (c1 - b))) / (chN a c1)))) () _ _ _ _ (congrArg (fun z => some (Value.long (lN z))) (by unfold stN; rw [q1])) trivial dX9_stays_23 hP hD hS
