-- rows laid by wip/whole/gen.py
set_option maxHeartbeats 1000000 in
set_option maxRecDepth 100000 in
theorem ct_X7_sizeOf (l : Launch) (D : va_G) (cI cJ cB cZ cA : ClassId) (t : List Nat) (ht : okT t) : Ct l yX7_sizeOf wsX7_sizeOf ({ frames := 0, cells := 0, slots := 0, locals := 0 }) D (tysG cI cJ cB cZ cA) [.long (eC t)] [] (fun (_ : Unit) => True) (fun _ => some (.int (nI t.length))) (fun _ => []) := by
  refine Ct.ofI (cc := cX7_sizeOf) (maxL := 3) (by decide) rfl (Nat.le_of_ble_eq_true rfl) ?_
  intro pG eG sG mG aG bG tG cG AG QG ls xh bh hml hown hts hK hP hD hS hA hend hl
  have hl : lv_has ls 3 [(0, .long (eC t))] := hl
  have hl : lv_has ls 3 [(0, .long (lN (t.length + 16 * tpk t)))] := hl
  refine lv_lload_n xh bh dX7_sizeOf_0 rfl (lv_at hl 0 rfl) ?_
  refine lv_ldc2 (v := (lN 15)) xh bh hown (hts _ (List.mem_of_getElem? (i := 1) rfl)) dX7_sizeOf_1 ?_
  refine xq_land xh bh dX7_sizeOf_4 ?_
  refine xq_l2i xh bh dX7_sizeOf_5 ?_
  refine xw_topi (x := (nI ((t.length + 16 * tpk t) &&& 15))) (y := (nI t.length)) (by exact congrArg nI (cC_size ht)) ?_
  refine lv_istore_n (lv' := [(2, .int (nI t.length)), (0, .long (lN (t.length + 16 * tpk t)))]) xh bh dX7_sizeOf_6 rfl hl (by decide) rfl (fun ls hl => ?_)
  refine lv_iload_n xh bh dX7_sizeOf_7 rfl (lv_at hl 0 rfl) ?_
  refine lv_bipush (v := (nI 10)) xh bh dX7_sizeOf_8 (by decide) ?_
  refine xn_icmp_ge (tgt := 17) xh bh dX7_sizeOf_10 (by decide) (by have := ht.1; omega) (by have := ht.1; omega) (fun c_10 => ?_) (fun c_10 => ?_)
  · refine lv_bipush (v := (nI 10)) xh bh dX7_sizeOf_17 (by decide) ?_
    exact hend (nI 10) () _ _ _ _ (congrArg (fun z => some (Value.int (nI z))) (by have := ht.1; omega)) trivial rfl dX7_sizeOf_19 hP hD hS
  · refine lv_iload_n xh bh dX7_sizeOf_13 rfl (lv_at hl 0 rfl) ?_
    refine lv_goto (tgt := 19) xh bh dX7_sizeOf_14 (by decide) ?_
    exact hend (nI t.length) () _ _ _ _ (congrArg (fun z => some (Value.int (nI z))) (by have := ht.1; omega)) trivial rfl dX7_sizeOf_19 hP hD hS

set_option maxHeartbeats 1000000 in
set_option maxRecDepth 100000 in
theorem ct_X7_partIn (l : Launch) (D : va_G) (cI cJ cB cZ cA : ClassId) (t : List Nat) (i : Nat) (ht : okT t) (hi : i < 15) : Ct l yX7_partIn wsX7_partIn ({ frames := 0, cells := 0, slots := 0, locals := 0 }) D (tysG cI cJ cB cZ cA) [.long (eC t), .int (nI i)] [] (fun (_ : Unit) => True) (fun _ => some (.int (nI (t.getD i 0)))) (fun _ => []) := by
  refine Ct.ofI (cc := cX7_partIn) (maxL := 3) (by decide) rfl (Nat.le_of_ble_eq_true rfl) ?_
  intro pG eG sG mG aG bG tG cG AG QG ls xh bh hml hown hts hK hP hD hS hA hend hl
  have hl : lv_has ls 3 [(0, .long (eC t)), (2, .int (nI i))] := hl
  have hl : lv_has ls 3 [(0, .long (lN (t.length + 16 * tpk t))), (2, .int (nI i))] := hl
  refine lv_lload_n xh bh dX7_partIn_0 rfl (lv_at hl 0 rfl) ?_
  refine lv_iconst (v := (nI 4)) xh bh dX7_partIn_1 (by decide) ?_
  refine lv_iload_n xh bh dX7_partIn_2 rfl (lv_at hl 1 rfl) ?_
  refine xn_imul xh bh dX7_partIn_3 ?_
  refine lv_iconst (v := (nI 4)) xh bh dX7_partIn_4 (by decide) ?_
  refine xn_iadd xh bh dX7_partIn_5 ?_
  refine xq_lushr xh bh dX7_partIn_6 (by have := cC_lt ht; omega) (by omega) ?_
  refine xq_l2i xh bh dX7_partIn_7 ?_
  refine lv_bipush (v := (nI 15)) xh bh dX7_partIn_8 (by decide) ?_
  refine xn_iand xh bh dX7_partIn_10 ?_
  exact hend (nI (((t.length + 16 * tpk t) / 2 ^ ((4 * i) + 4)) &&& 15)) () _ _ _ _ (congrArg (fun z => some (Value.int (nI z))) (by exact (cC_part ht i).symm)) trivial rfl dX7_partIn_11 hP hD hS

set_option maxHeartbeats 1000000 in
set_option maxRecDepth 100000 in
theorem ct_X7_added (l : Launch) (D : va_G) (cI cJ cB cZ cA : ClassId) (t : List Nat) (x : Nat) (ht : okT t) (hx : x < 10) : Ct l yX7_added wsX7_added ({ frames := 1, cells := 0, slots := 0, locals := 22 }) D (tysG cI cJ cB cZ cA) [.long (eC t), .int (nI x)] [] (fun (_ : Unit) => True) (fun _ => some (.long (eC (addT t x)))) (fun _ => []) := by
  refine Ct.ofL (cc := cX7_added) (maxL := 4) (by decide) rfl (Nat.le_of_ble_eq_true rfl) ?_
  intro pG eG sG mG aG bG tG cG AG QG ls xh bh hml hown hts hK hP hD hS hA hend hl
  have hl : lv_has ls 4 [(0, .long (eC t)), (2, .int (nI x))] := hl
  refine lv_lload_n xh bh dX7_added_0 rfl (lv_at hl 0 rfl) ?_
  refine Ct.callS0 (rest := []) xh bh hml hown hts hK hP hS hA (ct_X7_sizeOf l D cI cJ cB cZ cA t (by first | assumption | exact okT_nil)) (va_cwS 1 hts gX7_added_X7_sizeOf rfl rfl rfl (by decide +kernel) ⟨Nat.le_of_ble_eq_true rfl, Nat.le_of_ble_eq_true rfl⟩) rfl rfl hl.1 (Nat.le_of_ble_eq_true rfl) dX7_added_1 ⟨Nat.le_refl _, Nat.le_refl _⟩ (fun _ H locs _ hP hS => ?_)
  refine W.eq (g2 := F0 mG 4 ls [.int (nI t.length)]) rfl ?_
  refine lv_istore_n (lv' := [(3, .int (nI t.length)), (0, .long (eC t)), (2, .int (nI x))]) xh bh dX7_added_4 rfl hl (by decide) rfl (fun ls hl => ?_)
  refine lv_iload_n xh bh dX7_added_5 rfl (lv_at hl 0 rfl) ?_
  refine lv_bipush (v := (nI 10)) xh bh dX7_added_6 (by decide) ?_
  refine xn_icmp_ge (tgt := 26) xh bh dX7_added_8 (by decide) (by have := ht.1; omega) (by have := ht.1; omega) (fun c_8 => ?_) (fun c_8 => ?_)
  · refine lv_lload_n xh bh dX7_added_26 rfl (lv_at hl 1 rfl) ?_
    exact hend (eC t) () _ _ _ _ (congrArg (fun z => some (Value.long (eC z))) (by first | exact if_neg (by omega) | (rw [addT_lt c_8]; exact congrArg lN (cC_add x).symm))) trivial dX7_added_27 hP hD hS
  · have hl : lv_has ls 4 [(3, .int (nI t.length)), (0, .long (lN (t.length + 16 * tpk t))), (2, .int (nI x))] := hl
    refine lv_lload_n xh bh dX7_added_11 rfl (lv_at hl 1 rfl) ?_
    refine lv_lconst (v := lN 1) xh bh dX7_added_12 (by decide) ?_
    refine xq_ladd xh bh dX7_added_13 ?_
    refine lv_iload_n xh bh dX7_added_14 rfl (lv_at hl 2 rfl) ?_
    refine xn_i2l xh bh dX7_added_15 (by omega) ?_
    refine lv_iconst (v := (nI 4)) xh bh dX7_added_16 (by decide) ?_
    refine lv_iload_n xh bh dX7_added_17 rfl (lv_at hl 0 rfl) ?_
    refine xn_imul xh bh dX7_added_18 ?_
    refine lv_iconst (v := (nI 4)) xh bh dX7_added_19 (by decide) ?_
    refine xn_iadd xh bh dX7_added_20 ?_
    refine xq_lshl xh bh dX7_added_21 (by omega) ?_
    refine xq_ladd xh bh dX7_added_22 ?_
    refine lv_goto (tgt := 27) xh bh dX7_added_23 (by decide) ?_
    exact hend (lN (((t.length + 16 * tpk t) + 1) + (x * 2 ^ ((4 * t.length) + 4)))) () _ _ _ _ (congrArg (fun z => some (Value.long z)) (by first | exact if_neg (by omega) | (rw [addT_lt c_8]; exact congrArg lN (cC_add x).symm))) trivial dX7_added_27 hP hD hS

set_option maxHeartbeats 1000000 in
set_option maxRecDepth 100000 in
theorem ct_X7_addedAhead (l : Launch) (D : va_G) (cI cJ cB cZ cA : ClassId) (t : List Nat) (x : Nat) (ht : okT t) (hx : x < 10) : Ct l yX7_addedAhead wsX7_addedAhead ({ frames := 1, cells := 0, slots := 0, locals := 22 }) D (tysG cI cJ cB cZ cA) [.long (eC t), .int (nI x)] [] (fun (_ : Unit) => True) (fun _ => some (.long (eC (addA t x)))) (fun _ => []) := by
  refine Ct.ofL (cc := cX7_addedAhead) (maxL := 4) (by decide) rfl (Nat.le_of_ble_eq_true rfl) ?_
  intro pG eG sG mG aG bG tG cG AG QG ls xh bh hml hown hts hK hP hD hS hA hend hl
  have hl : lv_has ls 4 [(0, .long (eC t)), (2, .int (nI x))] := hl
  refine lv_lload_n xh bh dX7_addedAhead_0 rfl (lv_at hl 0 rfl) ?_
  refine Ct.callS0 (rest := []) xh bh hml hown hts hK hP hS hA (ct_X7_sizeOf l D cI cJ cB cZ cA t (by first | assumption | exact okT_nil)) (va_cwS 1 hts gX7_addedAhead_X7_sizeOf rfl rfl rfl (by decide +kernel) ⟨Nat.le_of_ble_eq_true rfl, Nat.le_of_ble_eq_true rfl⟩) rfl rfl hl.1 (Nat.le_of_ble_eq_true rfl) dX7_addedAhead_1 ⟨Nat.le_refl _, Nat.le_refl _⟩ (fun _ H locs _ hP hS => ?_)
  refine W.eq (g2 := F0 mG 4 ls [.int (nI t.length)]) rfl ?_
  refine lv_istore_n (lv' := [(3, .int (nI t.length)), (0, .long (eC t)), (2, .int (nI x))]) xh bh dX7_addedAhead_4 rfl hl (by decide) rfl (fun ls hl => ?_)
  refine lv_iload_n xh bh dX7_addedAhead_5 rfl (lv_at hl 0 rfl) ?_
  refine lv_bipush (v := (nI 10)) xh bh dX7_addedAhead_6 (by decide) ?_
  refine xn_icmp_ge (tgt := 30) xh bh dX7_addedAhead_8 (by decide) (by have := ht.1; omega) (by have := ht.1; omega) (fun c_8 => ?_) (fun c_8 => ?_)
  · refine lv_lload_n xh bh dX7_addedAhead_30 rfl (lv_at hl 1 rfl) ?_
    exact hend (eC t) () _ _ _ _ (congrArg (fun z => some (Value.long (eC z))) (by first | exact if_neg (by omega) | (rw [addA_lt c_8]; exact congrArg lN (cC_ahead ht x).symm))) trivial dX7_addedAhead_31 hP hD hS
  · have hl : lv_has ls 4 [(3, .int (nI t.length)), (0, .long (lN (t.length + 16 * tpk t))), (2, .int (nI x))] := hl
    refine lv_lload_n xh bh dX7_addedAhead_11 rfl (lv_at hl 1 rfl) ?_
    refine lv_iconst (v := (nI 4)) xh bh dX7_addedAhead_12 (by decide) ?_
    refine xq_lushr xh bh dX7_addedAhead_13 (by have := cC_lt ht; omega) (by omega) ?_
    refine lv_bipush (v := (nI 8)) xh bh dX7_addedAhead_14 (by decide) ?_
    refine xq_lshl xh bh dX7_addedAhead_16 (by omega) ?_
    refine lv_iload_n xh bh dX7_addedAhead_17 rfl (lv_at hl 2 rfl) ?_
    refine xn_i2l xh bh dX7_addedAhead_18 (by omega) ?_
    refine lv_iconst (v := (nI 4)) xh bh dX7_addedAhead_19 (by decide) ?_
    refine xq_lshl xh bh dX7_addedAhead_20 (by omega) ?_
    refine xq_ladd xh bh dX7_addedAhead_21 ?_
    refine lv_iload_n xh bh dX7_addedAhead_22 rfl (lv_at hl 0 rfl) ?_
    refine xn_i2l xh bh dX7_addedAhead_23 (by have := ht.1; omega) ?_
    refine xq_ladd xh bh dX7_addedAhead_24 ?_
    refine lv_lconst (v := lN 1) xh bh dX7_addedAhead_25 (by decide) ?_
    refine xq_ladd xh bh dX7_addedAhead_26 ?_
    refine lv_goto (tgt := 31) xh bh dX7_addedAhead_27 (by decide) ?_
    exact hend (lN ((((((t.length + 16 * tpk t) / 2 ^ 4) * 2 ^ 8) + (x * 2 ^ 4)) + t.length) + 1)) () _ _ _ _ (congrArg (fun z => some (Value.long z)) (by first | exact if_neg (by omega) | (rw [addA_lt c_8]; exact congrArg lN (cC_ahead ht x).symm))) trivial dX7_addedAhead_31 hP hD hS

set_option maxHeartbeats 1000000 in
set_option maxRecDepth 100000 in
theorem ct_X7_kindsIn (l : Launch) (D : va_G) (cI cJ cB cZ cA : ClassId) (t : List Nat) (ht : okT t) : Ct l yX7_kindsIn wsX7_kindsIn ({ frames := 1, cells := 0, slots := 0, locals := 22 }) D (tysG cI cJ cB cZ cA) [.long (eC t)] [] (fun (_ : Unit) => True) (fun _ => some (.int (nI (kN t)))) (fun _ => []) := by
  refine Ct.ofI (cc := cX7_kindsIn) (maxL := 4) (by decide) rfl (Nat.le_of_ble_eq_true rfl) ?_
  intro pG eG sG mG aG bG tG cG AG QG ls xh bh hml hown hts hK hP hD hS hA hend hl
  have hl : lv_has ls 4 [(0, .long (eC t))] := hl
  refine lv_iconst (v := (nI 0)) xh bh dX7_kindsIn_0 (by decide) ?_
  refine lv_istore_n (lv' := [(2, .int (nI 0)), (0, .long (eC t))]) xh bh dX7_kindsIn_1 rfl hl (by decide) rfl (fun ls hl => ?_)
  refine lv_iconst (v := (nI 0)) xh bh dX7_kindsIn_2 (by decide) ?_
  refine lv_istore_n (lv' := [(3, .int (nI 0)), (2, .int (nI 0)), (0, .long (eC t))]) xh bh dX7_kindsIn_3 rfl hl (by decide) rfl (fun ls hl => ?_)
  have cut_4 : ∀ (n_4 : Nat), ∀ (i : Nat), ∀ (k : Nat), (i ≤ t.length) → (k = kN (t.take i)) → (t.length - i) < n_4 → ∀ (H : Heap) (locs : List Loc) (ls : Array Slot), va_P D vwCl [] H → va_D AG [] → va_S AG sG.heap H locs → lv_has ls 4 [(0, .long (eC t)), (2, .int (nI k)), (3, .int (nI i))] → W pG l eG ({ frames := 1, cells := 0, slots := 0, locals := 22 }) sG mG aG bG tG cG H locs 0 0 QG (F0 mG 4 ls []) := by
    intro n_4
    induction n_4 with
    | zero =>
      intro i k hi hk hmu
      exact absurd hmu (Nat.not_lt_zero _)
    | succ n_4 ih_4 =>
      intro i k hi hk hmu H locs ls hP hD hS hl
      refine lv_iload_n xh bh dX7_kindsIn_4 rfl (lv_at hl 2 rfl) ?_
      refine lv_lload_n xh bh dX7_kindsIn_5 rfl (lv_at hl 0 rfl) ?_
      refine Ct.callS0 (rest := [.int (nI i)]) xh bh hml hown hts hK hP hS hA (ct_X7_sizeOf l D cI cJ cB cZ cA t (by first | assumption | exact okT_nil)) (va_cwS 1 hts gX7_kindsIn_X7_sizeOf rfl rfl rfl (by decide +kernel) ⟨Nat.le_of_ble_eq_true rfl, Nat.le_of_ble_eq_true rfl⟩) rfl rfl hl.1 (Nat.le_of_ble_eq_true rfl) dX7_kindsIn_6 ⟨Nat.le_refl _, Nat.le_refl _⟩ (fun _ H locs _ hP hS => ?_)
      refine W.eq (g2 := F0 mG 9 ls [.int (nI t.length), .int (nI i)]) rfl ?_
      refine xn_icmp_ge (tgt := 28) xh bh dX7_kindsIn_9 (by decide) (by have := ht.1; omega) (by have := ht.1; omega) (fun c_9 => ?_) (fun c_9 => ?_)
      · refine lv_iload_n xh bh dX7_kindsIn_28 rfl (lv_at hl 1 rfl) ?_
        exact hend (nI k) () _ _ _ _ (congrArg (fun z => some (Value.int (nI z))) (by rw [hk, List.take_of_length_le c_9])) trivial rfl dX7_kindsIn_29 hP hD hS
      · refine lv_iload_n xh bh dX7_kindsIn_12 rfl (lv_at hl 1 rfl) ?_
        refine lv_iconst (v := (nI 1)) xh bh dX7_kindsIn_13 (by decide) ?_
        refine lv_lload_n xh bh dX7_kindsIn_14 rfl (lv_at hl 0 rfl) ?_
        refine lv_iload_n xh bh dX7_kindsIn_15 rfl (lv_at hl 2 rfl) ?_
        refine Ct.callS0 (rest := [.int (nI 1), .int (nI k)]) xh bh hml hown hts hK hP hS hA (ct_X7_partIn l D cI cJ cB cZ cA t i (by first | assumption | exact okT_nil) (by have := ht.1; omega)) (va_cwS 2 hts gX7_kindsIn_X7_partIn rfl rfl rfl (by decide +kernel) ⟨Nat.le_of_ble_eq_true rfl, Nat.le_of_ble_eq_true rfl⟩) rfl rfl hl.1 (Nat.le_of_ble_eq_true rfl) dX7_kindsIn_16 ⟨Nat.le_refl _, Nat.le_refl _⟩ (fun _ H locs _ hP hS => ?_)
        refine W.eq (g2 := F0 mG 19 ls [.int (nI (t.getD i 0)), .int (nI 1), .int (nI k)]) rfl ?_
        refine xn_ishl1 xh bh dX7_kindsIn_19 (by have := ht.getD i; omega) ?_
        refine xn_ior xh bh dX7_kindsIn_20 ?_
        refine lv_istore_n (lv' := [(2, .int (nI (k ||| (2 ^ (t.getD i 0))))), (0, .long (eC t)), (3, .int (nI i))]) xh bh dX7_kindsIn_21 rfl hl (by decide) rfl (fun ls hl => ?_)
        refine lv_iinc (v := (nI (i + 1))) (lv' := [(3, .int (nI (i + 1))), (2, .int (nI (k ||| (2 ^ (t.getD i 0))))), (0, .long (eC t))]) xh bh dX7_kindsIn_22 hl (k := 2) rfl (by exact xn_inc _ _) (by decide) rfl (fun ls hl => ?_)
        refine lv_goto (tgt := 4) xh bh dX7_kindsIn_25 (by decide) ?_
        exact ih_4 (i + 1) (k ||| (2 ^ (t.getD i 0))) (by omega) (by rw [hk, kN_next c_9]) (by omega) _ _ ls hP hD hS (lv_sub hl [2, 1, 0] rfl)
  exact cut_4 (t.length - 0 + 1) 0 0 (by exact Nat.zero_le _) (by rfl) (Nat.lt_succ_self _) _ _ ls hP hD hS (lv_sub hl [2, 1, 0] rfl)

set_option maxHeartbeats 1000000 in
set_option maxRecDepth 100000 in
theorem ct_X7_has (l : Launch) (D : va_G) (cI cJ cB cZ cA : ClassId) (t : List Nat) (x : Nat) (ht : okT t) (hx : x < 10) : Ct l yX7_has wsX7_has ({ frames := 2, cells := 0, slots := 0, locals := 45 }) D (tysG cI cJ cB cZ cA) [.long (eC t), .int (nI x)] [] (fun (_ : Unit) => True) (fun _ => some (.int (ib (decide (x ∈ t))))) (fun _ => []) := by
  refine Ct.ofI (cc := cX7_has) (maxL := 3) (by decide) rfl (Nat.le_of_ble_eq_true rfl) ?_
  intro pG eG sG mG aG bG tG cG AG QG ls xh bh hml hown hts hK hP hD hS hA hend hl
  have hl : lv_has ls 3 [(0, .long (eC t)), (2, .int (nI x))] := hl
  refine lv_lload_n xh bh dX7_has_0 rfl (lv_at hl 0 rfl) ?_
  refine Ct.callS0 (rest := []) xh bh hml hown hts hK hP hS hA (ct_X7_kindsIn l D cI cJ cB cZ cA t (by first | assumption | exact okT_nil)) (va_cwS 1 hts gX7_has_X7_kindsIn rfl rfl rfl (by decide +kernel) ⟨Nat.le_of_ble_eq_true rfl, Nat.le_of_ble_eq_true rfl⟩) rfl rfl hl.1 (Nat.le_of_ble_eq_true rfl) dX7_has_1 ⟨Nat.le_refl _, Nat.le_refl _⟩ (fun _ H locs _ hP hS => ?_)
  refine W.eq (g2 := F0 mG 4 ls [.int (nI (kN t))]) rfl ?_
  refine lv_iload_n xh bh dX7_has_4 rfl (lv_at hl 1 rfl) ?_
  refine xn_ishr xh bh dX7_has_5 (by have := ht.kNB; omega) (by omega) ?_
  refine lv_iconst (v := (nI 1)) xh bh dX7_has_6 (by decide) ?_
  refine xn_iand xh bh dX7_has_7 ?_
  refine lv_iconst (v := (nI 1)) xh bh dX7_has_8 (by decide) ?_
  refine xn_icmp_ne (tgt := 16) xh bh dX7_has_9 (by decide) (by have := Nat.and_le_right (n := kN t / 2 ^ x) (m := 1); omega) (by have := Nat.and_le_right (n := kN t / 2 ^ x) (m := 1); omega) (fun c_9 => ?_) (fun c_9 => ?_)
  · refine lv_iconst (v := (nI 0)) xh bh dX7_has_16 (by decide) ?_
    exact hend (nI 0) () _ _ _ _ (xb_ret0 (by first | exact decide_eq_true (kN_has.mp c_9) | exact decide_eq_false (fun q => c_9 (kN_has.mpr q)))) trivial (vz_bool (by decide)) dX7_has_17 hP hD hS
  · refine lv_iconst (v := (nI 1)) xh bh dX7_has_12 (by decide) ?_
    refine lv_goto (tgt := 17) xh bh dX7_has_13 (by decide) ?_
    exact hend (nI 1) () _ _ _ _ (xb_ret1 (by first | exact decide_eq_true (kN_has.mp c_9) | exact decide_eq_false (fun q => c_9 (kN_has.mpr q)))) trivial (vz_bool (by decide)) dX7_has_17 hP hD hS

set_option maxHeartbeats 1000000 in
set_option maxRecDepth 100000 in
theorem ct_X7_timesIn (l : Launch) (D : va_G) (cI cJ cB cZ cA : ClassId) (t : List Nat) (x : Nat) (ht : okT t) (hx : x < 10) : Ct l yX7_timesIn wsX7_timesIn ({ frames := 1, cells := 0, slots := 0, locals := 22 }) D (tysG cI cJ cB cZ cA) [.long (eC t), .int (nI x)] [] (fun (_ : Unit) => True) (fun _ => some (.int (nI (cntN t x t.length)))) (fun _ => []) := by
  refine Ct.ofI (cc := cX7_timesIn) (maxL := 5) (by decide) rfl (Nat.le_of_ble_eq_true rfl) ?_
  intro pG eG sG mG aG bG tG cG AG QG ls xh bh hml hown hts hK hP hD hS hA hend hl
  have hl : lv_has ls 5 [(0, .long (eC t)), (2, .int (nI x))] := hl
  refine lv_iconst (v := (nI 0)) xh bh dX7_timesIn_0 (by decide) ?_
  refine lv_istore_n (lv' := [(3, .int (nI 0)), (0, .long (eC t)), (2, .int (nI x))]) xh bh dX7_timesIn_1 rfl hl (by decide) rfl (fun ls hl => ?_)
  refine lv_iconst (v := (nI 0)) xh bh dX7_timesIn_2 (by decide) ?_
  refine lv_istore (lv' := [(4, .int (nI 0)), (3, .int (nI 0)), (0, .long (eC t)), (2, .int (nI x))]) xh bh dX7_timesIn_3 hl (by decide) rfl (fun ls hl => ?_)
  have cut_5 : ∀ (n_5 : Nat), ∀ (i : Nat), ∀ (k : Nat), (i ≤ t.length) → (k = cntN t x i) → (t.length - i) < n_5 → ∀ (H : Heap) (locs : List Loc) (ls : Array Slot), va_P D vwCl [] H → va_D AG [] → va_S AG sG.heap H locs → lv_has ls 5 [(0, .long (eC t)), (2, .int (nI x)), (3, .int (nI k)), (4, .int (nI i))] → W pG l eG ({ frames := 1, cells := 0, slots := 0, locals := 22 }) sG mG aG bG tG cG H locs 0 0 QG (F0 mG 5 ls []) := by
    intro n_5
    induction n_5 with
    | zero =>
      intro i k hi hk hmu
      exact absurd hmu (Nat.not_lt_zero _)
    | succ n_5 ih_5 =>
      intro i k hi hk hmu H locs ls hP hD hS hl
      refine lv_iload xh bh dX7_timesIn_5 (lv_at hl 3 rfl) ?_
      refine lv_lload_n xh bh dX7_timesIn_7 rfl (lv_at hl 0 rfl) ?_
      refine Ct.callS0 (rest := [.int (nI i)]) xh bh hml hown hts hK hP hS hA (ct_X7_sizeOf l D cI cJ cB cZ cA t (by first | assumption | exact okT_nil)) (va_cwS 1 hts gX7_timesIn_X7_sizeOf rfl rfl rfl (by decide +kernel) ⟨Nat.le_of_ble_eq_true rfl, Nat.le_of_ble_eq_true rfl⟩) rfl rfl hl.1 (Nat.le_of_ble_eq_true rfl) dX7_timesIn_8 ⟨Nat.le_refl _, Nat.le_refl _⟩ (fun _ H locs _ hP hS => ?_)
      refine W.eq (g2 := F0 mG 11 ls [.int (nI t.length), .int (nI i)]) rfl ?_
      refine xn_icmp_ge (tgt := 33) xh bh dX7_timesIn_11 (by decide) (by have := ht.1; omega) (by have := ht.1; omega) (fun c_11 => ?_) (fun c_11 => ?_)
      · refine lv_iload_n xh bh dX7_timesIn_33 rfl (lv_at hl 2 rfl) ?_
        exact hend (nI k) () _ _ _ _ (congrArg (fun z => some (Value.int (nI z))) (by rw [hk, show i = t.length by omega])) trivial rfl dX7_timesIn_34 hP hD hS
      · refine lv_lload_n xh bh dX7_timesIn_14 rfl (lv_at hl 0 rfl) ?_
        refine lv_iload xh bh dX7_timesIn_15 (lv_at hl 3 rfl) ?_
        refine Ct.callS0 (rest := []) xh bh hml hown hts hK hP hS hA (ct_X7_partIn l D cI cJ cB cZ cA t i (by first | assumption | exact okT_nil) (by have := ht.1; omega)) (va_cwS 2 hts gX7_timesIn_X7_partIn rfl rfl rfl (by decide +kernel) ⟨Nat.le_of_ble_eq_true rfl, Nat.le_of_ble_eq_true rfl⟩) rfl rfl hl.1 (Nat.le_of_ble_eq_true rfl) dX7_timesIn_17 ⟨Nat.le_refl _, Nat.le_refl _⟩ (fun _ H locs _ hP hS => ?_)
        refine W.eq (g2 := F0 mG 20 ls [.int (nI (t.getD i 0))]) rfl ?_
        refine lv_iload_n xh bh dX7_timesIn_20 rfl (lv_at hl 1 rfl) ?_
        refine xn_icmp_ne (tgt := 27) xh bh dX7_timesIn_21 (by decide) (by have := ht.getD i; omega) (by have := ht.getD i; omega) (fun c_21 => ?_) (fun c_21 => ?_)
        · refine lv_iinc (v := (nI (i + 1))) (lv' := [(4, .int (nI (i + 1))), (0, .long (eC t)), (2, .int (nI x)), (3, .int (nI k))]) xh bh dX7_timesIn_27 hl (k := 3) rfl (by exact xn_inc _ _) (by decide) rfl (fun ls hl => ?_)
          refine lv_goto (tgt := 5) xh bh dX7_timesIn_30 (by decide) ?_
          exact ih_5 (i + 1) k (by omega) (by first | (rw [hk, cntN_y c_21]) | (rw [hk, cntN_n c_21])) (by omega) _ _ ls hP hD hS (lv_sub hl [1, 2, 3, 0] rfl)
        · refine lv_iinc (v := (nI (k + 1))) (lv' := [(3, .int (nI (k + 1))), (0, .long (eC t)), (2, .int (nI x)), (4, .int (nI i))]) xh bh dX7_timesIn_24 hl (k := 2) rfl (by exact xn_inc _ _) (by decide) rfl (fun ls hl => ?_)
          refine lv_iinc (v := (nI (i + 1))) (lv' := [(4, .int (nI (i + 1))), (3, .int (nI (k + 1))), (0, .long (eC t)), (2, .int (nI x))]) xh bh dX7_timesIn_27 hl (k := 3) rfl (by exact xn_inc _ _) (by decide) rfl (fun ls hl => ?_)
          refine lv_goto (tgt := 5) xh bh dX7_timesIn_30 (by decide) ?_
          exact ih_5 (i + 1) (k + 1) (by omega) (by first | (rw [hk, cntN_y c_21]) | (rw [hk, cntN_n c_21])) (by omega) _ _ ls hP hD hS (lv_sub hl [2, 3, 1, 0] rfl)
  exact cut_5 (t.length - 0 + 1) 0 0 (by exact Nat.zero_le _) (by rfl) (Nat.lt_succ_self _) _ _ ls hP hD hS (lv_sub hl [2, 3, 1, 0] rfl)

set_option maxHeartbeats 1000000 in
set_option maxRecDepth 100000 in
theorem ct_X7_without (l : Launch) (D : va_G) (cI cJ cB cZ cA : ClassId) (t : List Nat) (p : Nat) (ht : okT t) (hp : p < 100) : Ct l yX7_without wsX7_without ({ frames := 2, cells := 0, slots := 0, locals := 45 }) D (tysG cI cJ cB cZ cA) [.long (eC t), .int (nI p)] [] (fun (_ : Unit) => True) (fun _ => some (.long (eC (wo t p t.length)))) (fun _ => []) := by
  refine Ct.ofL (cc := cX7_without) (maxL := 6) (by decide) rfl (Nat.le_of_ble_eq_true rfl) ?_
  intro pG eG sG mG aG bG tG cG AG QG ls xh bh hml hown hts hK hP hD hS hA hend hl
  have hl : lv_has ls 6 [(0, .long (eC t)), (2, .int (nI p))] := hl
  refine lv_lconst (v := lN 0) xh bh dX7_without_0 (by decide) ?_
  refine lv_lstore_n (lv' := [(3, .long (lN 0)), (0, .long (eC t)), (2, .int (nI p))]) xh bh dX7_without_1 rfl hl (by decide) rfl (fun ls hl => ?_)
  refine lv_iconst (v := (nI 0)) xh bh dX7_without_2 (by decide) ?_
  refine lv_istore (lv' := [(5, .int (nI 0)), (3, .long (lN 0)), (0, .long (eC t)), (2, .int (nI p))]) xh bh dX7_without_3 hl (by decide) rfl (fun ls hl => ?_)
  have cut_5 : ∀ (n_5 : Nat), ∀ (i : Nat), ∀ (r : List Nat), (i ≤ t.length) → (r = wo t p i) → (t.length - i) < n_5 → ∀ (H : Heap) (locs : List Loc) (ls : Array Slot), va_P D vwCl [] H → va_D AG [] → va_S AG sG.heap H locs → lv_has ls 6 [(0, .long (eC t)), (2, .int (nI p)), (3, .long (eC r)), (5, .int (nI i))] → W pG l eG ({ frames := 2, cells := 0, slots := 0, locals := 45 }) sG mG aG bG tG cG H locs 0 0 QG (F0 mG 5 ls []) := by
    intro n_5
    induction n_5 with
    | zero =>
      intro i r hi hr hmu
      exact absurd hmu (Nat.not_lt_zero _)
    | succ n_5 ih_5 =>
      intro i r hi hr hmu H locs ls hP hD hS hl
      refine lv_iload xh bh dX7_without_5 (lv_at hl 3 rfl) ?_
      refine lv_lload_n xh bh dX7_without_7 rfl (lv_at hl 0 rfl) ?_
      refine Ct.callS0 (rest := [.int (nI i)]) xh bh hml hown hts hK hP hS hA (ct_X7_sizeOf l D cI cJ cB cZ cA t (by first | assumption | exact okT_nil)) (va_cwS 1 hts gX7_without_X7_sizeOf rfl rfl rfl (by decide +kernel) ⟨Nat.le_of_ble_eq_true rfl, Nat.le_of_ble_eq_true rfl⟩) rfl rfl hl.1 (Nat.le_of_ble_eq_true rfl) dX7_without_8 ⟨Nat.le_refl _, Nat.le_refl _⟩ (fun _ H locs _ hP hS => ?_)
      refine W.eq (g2 := F0 mG 11 ls [.int (nI t.length), .int (nI i)]) rfl ?_
      refine xn_icmp_ge (tgt := 37) xh bh dX7_without_11 (by decide) (by have := ht.1; omega) (by have := ht.1; omega) (fun c_11 => ?_) (fun c_11 => ?_)
      · refine lv_lload_n xh bh dX7_without_37 rfl (lv_at hl 2 rfl) ?_
        exact hend (eC r) () _ _ _ _ (congrArg (fun z => some (Value.long (eC z))) (by rw [hr, show i = t.length by omega])) trivial dX7_without_38 hP hD hS
      · refine lv_iload xh bh dX7_without_14 (lv_at hl 3 rfl) ?_
        refine lv_iload_n xh bh dX7_without_16 rfl (lv_at hl 1 rfl) ?_
        refine xn_icmp_eq (tgt := 31) xh bh dX7_without_17 (by decide) (by have := ht.1; omega) (by have := ht.1; omega) (fun c_17 => ?_) (fun c_17 => ?_)
        · refine lv_iinc (v := (nI (i + 1))) (lv' := [(5, .int (nI (i + 1))), (0, .long (eC t)), (2, .int (nI p)), (3, .long (eC r))]) xh bh dX7_without_31 hl (k := 3) rfl (by exact xn_inc _ _) (by decide) rfl (fun ls hl => ?_)
          refine lv_goto (tgt := 5) xh bh dX7_without_34 (by decide) ?_
          exact ih_5 (i + 1) r (by omega) (by first | (rw [hr]; exact (if_pos c_17).symm) | (rw [hr, addT_lt (by have := wo_len t p i; have := ht.1; omega)]; exact (if_neg c_17).symm)) (by omega) _ _ ls hP hD hS (lv_sub hl [1, 2, 3, 0] rfl)
        · refine lv_lload_n xh bh dX7_without_20 rfl (lv_at hl 2 rfl) ?_
          refine lv_lload_n xh bh dX7_without_21 rfl (lv_at hl 0 rfl) ?_
          refine lv_iload xh bh dX7_without_22 (lv_at hl 3 rfl) ?_
          refine Ct.callS0 (rest := [.long (eC r)]) xh bh hml hown hts hK hP hS hA (ct_X7_partIn l D cI cJ cB cZ cA t i (by first | assumption | exact okT_nil) (by have := ht.1; omega)) (va_cwS 2 hts gX7_without_X7_partIn rfl rfl rfl (by decide +kernel) ⟨Nat.le_of_ble_eq_true rfl, Nat.le_of_ble_eq_true rfl⟩) rfl rfl hl.1 (Nat.le_of_ble_eq_true rfl) dX7_without_24 ⟨Nat.le_refl _, Nat.le_refl _⟩ (fun _ H locs _ hP hS => ?_)
          refine W.eq (g2 := F0 mG 27 ls [.int (nI (t.getD i 0)), .long (eC r)]) rfl ?_
          refine Ct.callS0 (rest := []) xh bh hml hown hts hK hP hS hA (ct_X7_added l D cI cJ cB cZ cA r (t.getD i 0) (by rw [hr]; exact okT_wo ht p (by have := ht.1; omega)) (by exact ht.getD i)) (va_cwS 2 hts gX7_without_X7_added rfl rfl rfl (by decide +kernel) ⟨Nat.le_of_ble_eq_true rfl, Nat.le_of_ble_eq_true rfl⟩) rfl rfl hl.1 (Nat.le_of_ble_eq_true rfl) dX7_without_27 ⟨Nat.le_refl _, Nat.le_refl _⟩ (fun _ H locs _ hP hS => ?_)
          refine W.eq (g2 := F0 mG 30 ls [.long (eC (addT r (t.getD i 0)))]) rfl ?_
          refine lv_lstore_n (lv' := [(3, .long (eC (addT r (t.getD i 0)))), (0, .long (eC t)), (2, .int (nI p)), (5, .int (nI i))]) xh bh dX7_without_30 rfl hl (by decide) rfl (fun ls hl => ?_)
          refine lv_iinc (v := (nI (i + 1))) (lv' := [(5, .int (nI (i + 1))), (3, .long (eC (addT r (t.getD i 0)))), (0, .long (eC t)), (2, .int (nI p))]) xh bh dX7_without_31 hl (k := 3) rfl (by exact xn_inc _ _) (by decide) rfl (fun ls hl => ?_)
          refine lv_goto (tgt := 5) xh bh dX7_without_34 (by decide) ?_
          exact ih_5 (i + 1) (addT r (t.getD i 0)) (by omega) (by first | (rw [hr]; exact (if_pos c_17).symm) | (rw [hr, addT_lt (by have := wo_len t p i; have := ht.1; omega)]; exact (if_neg c_17).symm)) (by omega) _ _ ls hP hD hS (lv_sub hl [2, 3, 1, 0] rfl)
  exact cut_5 (t.length - 0 + 1) 0 ([]) (by exact Nat.zero_le _) (by rfl) (Nat.lt_succ_self _) _ _ ls hP hD hS (lv_sub hl [2, 3, 1, 0] rfl)

set_option maxHeartbeats 1000000 in
set_option maxRecDepth 100000 in
theorem ct_X7_changed (l : Launch) (D : va_G) (cI cJ cB cZ cA : ClassId) (t : List Nat) (p : Nat) (x : Nat) (ht : okT t) (hp : p < 100) (hx : x < 10) : Ct l yX7_changed wsX7_changed ({ frames := 2, cells := 0, slots := 0, locals := 45 }) D (tysG cI cJ cB cZ cA) [.long (eC t), .int (nI p), .int (nI x)] [] (fun (_ : Unit) => True) (fun _ => some (.long (eC (ch t p x t.length)))) (fun _ => []) := by
  refine Ct.ofL (cc := cX7_changed) (maxL := 7) (by decide) rfl (Nat.le_of_ble_eq_true rfl) ?_
  intro pG eG sG mG aG bG tG cG AG QG ls xh bh hml hown hts hK hP hD hS hA hend hl
  have hl : lv_has ls 7 [(0, .long (eC t)), (2, .int (nI p)), (3, .int (nI x))] := hl
  refine lv_lconst (v := lN 0) xh bh dX7_changed_0 (by decide) ?_
  refine lv_lstore (lv' := [(4, .long (lN 0)), (0, .long (eC t)), (2, .int (nI p)), (3, .int (nI x))]) xh bh dX7_changed_1 hl (by decide) rfl (fun ls hl => ?_)
  refine lv_iconst (v := (nI 0)) xh bh dX7_changed_3 (by decide) ?_
  refine lv_istore (lv' := [(6, .int (nI 0)), (4, .long (lN 0)), (0, .long (eC t)), (2, .int (nI p)), (3, .int (nI x))]) xh bh dX7_changed_4 hl (by decide) rfl (fun ls hl => ?_)
  have cut_6 : ∀ (n_6 : Nat), ∀ (i : Nat), ∀ (r : List Nat), (i ≤ t.length) → (r = ch t p x i) → (t.length - i) < n_6 → ∀ (H : Heap) (locs : List Loc) (ls : Array Slot), va_P D vwCl [] H → va_D AG [] → va_S AG sG.heap H locs → lv_has ls 7 [(0, .long (eC t)), (2, .int (nI p)), (3, .int (nI x)), (4, .long (eC r)), (6, .int (nI i))] → W pG l eG ({ frames := 2, cells := 0, slots := 0, locals := 45 }) sG mG aG bG tG cG H locs 0 0 QG (F0 mG 6 ls []) := by
    intro n_6
    induction n_6 with
    | zero =>
      intro i r hi hr hmu
      exact absurd hmu (Nat.not_lt_zero _)
    | succ n_6 ih_6 =>
      intro i r hi hr hmu H locs ls hP hD hS hl
      refine lv_iload xh bh dX7_changed_6 (lv_at hl 4 rfl) ?_
      refine lv_lload_n xh bh dX7_changed_8 rfl (lv_at hl 0 rfl) ?_
      refine Ct.callS0 (rest := [.int (nI i)]) xh bh hml hown hts hK hP hS hA (ct_X7_sizeOf l D cI cJ cB cZ cA t (by first | assumption | exact okT_nil)) (va_cwS 1 hts gX7_changed_X7_sizeOf rfl rfl rfl (by decide +kernel) ⟨Nat.le_of_ble_eq_true rfl, Nat.le_of_ble_eq_true rfl⟩) rfl rfl hl.1 (Nat.le_of_ble_eq_true rfl) dX7_changed_9 ⟨Nat.le_refl _, Nat.le_refl _⟩ (fun _ H locs _ hP hS => ?_)
      refine W.eq (g2 := F0 mG 12 ls [.int (nI t.length), .int (nI i)]) rfl ?_
      refine xn_icmp_ge (tgt := 44) xh bh dX7_changed_12 (by decide) (by have := ht.1; omega) (by have := ht.1; omega) (fun c_12 => ?_) (fun c_12 => ?_)
      · refine lv_lload xh bh dX7_changed_44 (lv_at hl 3 rfl) ?_
        exact hend (eC r) () _ _ _ _ (congrArg (fun z => some (Value.long (eC z))) (by rw [hr, show i = t.length by omega])) trivial dX7_changed_46 hP hD hS
      · refine lv_lload xh bh dX7_changed_15 (lv_at hl 3 rfl) ?_
        refine lv_iload xh bh dX7_changed_17 (lv_at hl 4 rfl) ?_
        refine lv_iload_n xh bh dX7_changed_19 rfl (lv_at hl 1 rfl) ?_
        refine xn_icmp_ne (tgt := 27) xh bh dX7_changed_20 (by decide) (by have := ht.1; omega) (by have := ht.1; omega) (fun c_20 => ?_) (fun c_20 => ?_)
        · refine lv_lload_n xh bh dX7_changed_27 rfl (lv_at hl 0 rfl) ?_
          refine lv_iload xh bh dX7_changed_28 (lv_at hl 4 rfl) ?_
          refine Ct.callS0 (rest := [.long (eC r)]) xh bh hml hown hts hK hP hS hA (ct_X7_partIn l D cI cJ cB cZ cA t i (by first | assumption | exact okT_nil) (by have := ht.1; omega)) (va_cwS 2 hts gX7_changed_X7_partIn rfl rfl rfl (by decide +kernel) ⟨Nat.le_of_ble_eq_true rfl, Nat.le_of_ble_eq_true rfl⟩) rfl rfl hl.1 (Nat.le_of_ble_eq_true rfl) dX7_changed_30 ⟨Nat.le_refl _, Nat.le_refl _⟩ (fun _ H locs _ hP hS => ?_)
          refine W.eq (g2 := F0 mG 33 ls [.int (nI (t.getD i 0)), .long (eC r)]) rfl ?_
          refine Ct.callS0 (rest := []) xh bh hml hown hts hK hP hS hA (ct_X7_added l D cI cJ cB cZ cA r (t.getD i 0) (by rw [hr]; exact okT_ch ht p hx (by have := ht.1; omega)) (by first | exact ht.getD i | exact hx)) (va_cwS 2 hts gX7_changed_X7_added rfl rfl rfl (by decide +kernel) ⟨Nat.le_of_ble_eq_true rfl, Nat.le_of_ble_eq_true rfl⟩) rfl rfl hl.1 (Nat.le_of_ble_eq_true rfl) dX7_changed_33 ⟨Nat.le_refl _, Nat.le_refl _⟩ (fun _ H locs _ hP hS => ?_)
          refine W.eq (g2 := F0 mG 36 ls [.long (eC (addT r (t.getD i 0)))]) rfl ?_
          refine lv_lstore (lv' := [(4, .long (eC (addT r (t.getD i 0)))), (0, .long (eC t)), (2, .int (nI p)), (3, .int (nI x)), (6, .int (nI i))]) xh bh dX7_changed_36 hl (by decide) rfl (fun ls hl => ?_)
          refine lv_iinc (v := (nI (i + 1))) (lv' := [(6, .int (nI (i + 1))), (4, .long (eC (addT r (t.getD i 0)))), (0, .long (eC t)), (2, .int (nI p)), (3, .int (nI x))]) xh bh dX7_changed_38 hl (k := 4) rfl (by exact xn_inc _ _) (by decide) rfl (fun ls hl => ?_)
          refine lv_goto (tgt := 6) xh bh dX7_changed_41 (by decide) ?_
          exact ih_6 (i + 1) (addT r (t.getD i 0)) (by omega) (by rw [hr, addT_lt (by rw [ch_len]; have := ht.1; omega)]; first | (exact congrArg (fun z => ch t p x i ++ [z]) (if_pos c_20).symm) | (exact congrArg (fun z => ch t p x i ++ [z]) (if_neg c_20).symm)) (by omega) _ _ ls hP hD hS (lv_sub hl [2, 3, 4, 1, 0] rfl)
        · refine lv_iload_n xh bh dX7_changed_23 rfl (lv_at hl 2 rfl) ?_
          refine lv_goto (tgt := 33) xh bh dX7_changed_24 (by decide) ?_
          refine Ct.callS0 (rest := []) xh bh hml hown hts hK hP hS hA (ct_X7_added l D cI cJ cB cZ cA r x (by rw [hr]; exact okT_ch ht p hx (by have := ht.1; omega)) (by first | exact ht.getD i | exact hx)) (va_cwS 2 hts gX7_changed_X7_added rfl rfl rfl (by decide +kernel) ⟨Nat.le_of_ble_eq_true rfl, Nat.le_of_ble_eq_true rfl⟩) rfl rfl hl.1 (Nat.le_of_ble_eq_true rfl) dX7_changed_33 ⟨Nat.le_refl _, Nat.le_refl _⟩ (fun _ H locs _ hP hS => ?_)
          refine W.eq (g2 := F0 mG 36 ls [.long (eC (addT r x))]) rfl ?_
          refine lv_lstore (lv' := [(4, .long (eC (addT r x))), (0, .long (eC t)), (2, .int (nI p)), (3, .int (nI x)), (6, .int (nI i))]) xh bh dX7_changed_36 hl (by decide) rfl (fun ls hl => ?_)
          refine lv_iinc (v := (nI (i + 1))) (lv' := [(6, .int (nI (i + 1))), (4, .long (eC (addT r x))), (0, .long (eC t)), (2, .int (nI p)), (3, .int (nI x))]) xh bh dX7_changed_38 hl (k := 4) rfl (by exact xn_inc _ _) (by decide) rfl (fun ls hl => ?_)
          refine lv_goto (tgt := 6) xh bh dX7_changed_41 (by decide) ?_
          exact ih_6 (i + 1) (addT r x) (by omega) (by rw [hr, addT_lt (by rw [ch_len]; have := ht.1; omega)]; first | (exact congrArg (fun z => ch t p x i ++ [z]) (if_pos c_20).symm) | (exact congrArg (fun z => ch t p x i ++ [z]) (if_neg c_20).symm)) (by omega) _ _ ls hP hD hS (lv_sub hl [2, 3, 4, 1, 0] rfl)
  exact cut_6 (t.length - 0 + 1) 0 ([]) (by exact Nat.zero_le _) (by rfl) (Nat.lt_succ_self _) _ _ ls hP hD hS (lv_sub hl [2, 3, 4, 1, 0] rfl)

set_option maxHeartbeats 1000000 in
set_option maxRecDepth 100000 in
theorem ct_X7_turnedAbout (l : Launch) (D : va_G) (cI cJ cB cZ cA : ClassId) (t : List Nat) (p : Nat) (ht : okT t) (hp : p < 10) : Ct l yX7_turnedAbout wsX7_turnedAbout ({ frames := 3, cells := 0, slots := 0, locals := 71 }) D (tysG cI cJ cB cZ cA) [.long (eC t), .int (nI p)] [] (fun (_ : Unit) => True) (fun _ => some (.long (eC (turnT t p)))) (fun _ => []) := by
  refine Ct.ofL (cc := cX7_turnedAbout) (maxL := 4) (by decide) rfl (Nat.le_of_ble_eq_true rfl) ?_
  intro pG eG sG mG aG bG tG cG AG QG ls xh bh hml hown hts hK hP hD hS hA hend hl
  have hl : lv_has ls 4 [(0, .long (eC t)), (2, .int (nI p))] := hl
  refine lv_iload_n xh bh dX7_turnedAbout_0 rfl (lv_at hl 1 rfl) ?_
  refine lv_iconst (v := (nI 1)) xh bh dX7_turnedAbout_1 (by decide) ?_
  refine xn_iadd xh bh dX7_turnedAbout_2 ?_
  refine lv_lload_n xh bh dX7_turnedAbout_3 rfl (lv_at hl 0 rfl) ?_
  refine Ct.callS0 (rest := [.int (nI (p + 1))]) xh bh hml hown hts hK hP hS hA (ct_X7_sizeOf l D cI cJ cB cZ cA t (by first | assumption | exact okT_nil)) (va_cwS 1 hts gX7_turnedAbout_X7_sizeOf rfl rfl rfl (by decide +kernel) ⟨Nat.le_of_ble_eq_true rfl, Nat.le_of_ble_eq_true rfl⟩) rfl rfl hl.1 (Nat.le_of_ble_eq_true rfl) dX7_turnedAbout_4 ⟨Nat.le_refl _, Nat.le_refl _⟩ (fun _ H locs _ hP hS => ?_)
  refine W.eq (g2 := F0 mG 7 ls [.int (nI t.length), .int (nI (p + 1))]) rfl ?_
  refine xn_icmp_lt (tgt := 12) xh bh dX7_turnedAbout_7 (by decide) (by have := ht.1; omega) (by have := ht.1; omega) (fun c_7 => ?_) (fun c_7 => ?_)
  · refine lv_lload_n xh bh dX7_turnedAbout_12 rfl (lv_at hl 0 rfl) ?_
    refine lv_iload_n xh bh dX7_turnedAbout_13 rfl (lv_at hl 1 rfl) ?_
    refine Ct.callS0 (rest := []) xh bh hml hown hts hK hP hS hA (ct_X7_partIn l D cI cJ cB cZ cA t p (by first | assumption | exact okT_nil) (by omega)) (va_cwS 2 hts gX7_turnedAbout_X7_partIn rfl rfl rfl (by decide +kernel) ⟨Nat.le_of_ble_eq_true rfl, Nat.le_of_ble_eq_true rfl⟩) rfl rfl hl.1 (Nat.le_of_ble_eq_true rfl) dX7_turnedAbout_14 ⟨Nat.le_refl _, Nat.le_refl _⟩ (fun _ H locs _ hP hS => ?_)
    refine W.eq (g2 := F0 mG 17 ls [.int (nI (t.getD p 0))]) rfl ?_
    refine lv_istore_n (lv' := [(3, .int (nI (t.getD p 0))), (0, .long (eC t)), (2, .int (nI p))]) xh bh dX7_turnedAbout_17 rfl hl (by decide) rfl (fun ls hl => ?_)
    refine lv_lload_n xh bh dX7_turnedAbout_18 rfl (lv_at hl 1 rfl) ?_
    refine lv_iload_n xh bh dX7_turnedAbout_19 rfl (lv_at hl 2 rfl) ?_
    refine lv_lload_n xh bh dX7_turnedAbout_20 rfl (lv_at hl 1 rfl) ?_
    refine lv_iload_n xh bh dX7_turnedAbout_21 rfl (lv_at hl 2 rfl) ?_
    refine lv_iconst (v := (nI 1)) xh bh dX7_turnedAbout_22 (by decide) ?_
    refine xn_iadd xh bh dX7_turnedAbout_23 ?_
    refine Ct.callS0 (rest := [.int (nI p), .long (eC t)]) xh bh hml hown hts hK hP hS hA (ct_X7_partIn l D cI cJ cB cZ cA t (p + 1) (by first | assumption | exact okT_nil) (by omega)) (va_cwS 2 hts gX7_turnedAbout_X7_partIn rfl rfl rfl (by decide +kernel) ⟨Nat.le_of_ble_eq_true rfl, Nat.le_of_ble_eq_true rfl⟩) rfl rfl hl.1 (Nat.le_of_ble_eq_true rfl) dX7_turnedAbout_24 ⟨Nat.le_refl _, Nat.le_refl _⟩ (fun _ H locs _ hP hS => ?_)
    refine W.eq (g2 := F0 mG 27 ls [.int (nI (t.getD (p + 1) 0)), .int (nI p), .long (eC t)]) rfl ?_
    refine Ct.callS0 (rest := []) xh bh hml hown hts hK hP hS hA (ct_X7_changed l D cI cJ cB cZ cA t p (t.getD (p + 1) 0) (by first | assumption | exact okT_nil) (by first | assumption | omega) (by exact ht.getD _)) (va_cwS 3 hts gX7_turnedAbout_X7_changed rfl rfl rfl (by decide +kernel) ⟨Nat.le_of_ble_eq_true rfl, Nat.le_of_ble_eq_true rfl⟩) rfl rfl hl.1 (Nat.le_of_ble_eq_true rfl) dX7_turnedAbout_27 ⟨Nat.le_refl _, Nat.le_refl _⟩ (fun _ H locs _ hP hS => ?_)
    refine W.eq (g2 := F0 mG 30 ls [.long (eC (ch t p (t.getD (p + 1) 0) t.length))]) rfl ?_
    refine lv_iload_n xh bh dX7_turnedAbout_30 rfl (lv_at hl 2 rfl) ?_
    refine lv_iconst (v := (nI 1)) xh bh dX7_turnedAbout_31 (by decide) ?_
    refine xn_iadd xh bh dX7_turnedAbout_32 ?_
    refine lv_iload_n xh bh dX7_turnedAbout_33 rfl (lv_at hl 0 rfl) ?_
    refine Ct.callS0 (rest := []) xh bh hml hown hts hK hP hS hA (ct_X7_changed l D cI cJ cB cZ cA (ch t p (t.getD (p + 1) 0) t.length) (p + 1) (t.getD p 0) (by exact okT_ch ht p (ht.getD _) ht.1) (by first | assumption | omega) (by exact ht.getD _)) (va_cwS 3 hts gX7_turnedAbout_X7_changed rfl rfl rfl (by decide +kernel) ⟨Nat.le_of_ble_eq_true rfl, Nat.le_of_ble_eq_true rfl⟩) rfl rfl hl.1 (Nat.le_of_ble_eq_true rfl) dX7_turnedAbout_34 ⟨Nat.le_refl _, Nat.le_refl _⟩ (fun _ H locs _ hP hS => ?_)
    refine W.eq (g2 := F0 mG 37 ls [.long (eC (ch (ch t p (t.getD (p + 1) 0) t.length) (p + 1) (t.getD p 0) (ch t p (t.getD (p + 1) 0) t.length).length))]) rfl ?_
    exact hend (eC (ch (ch t p (t.getD (p + 1) 0) t.length) (p + 1) (t.getD p 0) (ch t p (t.getD (p + 1) 0) t.length).length)) () _ _ _ _ (congrArg (fun z => some (Value.long (eC z))) (by rw [ch_len]; exact if_pos c_7)) trivial dX7_turnedAbout_37 hP hD hS
  · refine lv_lload_n xh bh dX7_turnedAbout_10 rfl (lv_at hl 0 rfl) ?_
    exact hend (eC t) () _ _ _ _ (congrArg (fun z => some (Value.long (eC z))) (by exact if_neg (by omega))) trivial dX7_turnedAbout_11 hP hD hS

set_option maxHeartbeats 1000000 in
set_option maxRecDepth 100000 in
theorem ct_X7_upTo (l : Launch) (D : va_G) (cI cJ cB cZ cA : ClassId) (t : List Nat) (p : Nat) (ht : okT t) (hp : p < 100) : Ct l yX7_upTo wsX7_upTo ({ frames := 2, cells := 0, slots := 0, locals := 45 }) D (tysG cI cJ cB cZ cA) [.long (eC t), .int (nI p)] [] (fun (_ : Unit) => True) (fun _ => some (.long (eC (t.take p)))) (fun _ => []) := by
  refine Ct.ofL (cc := cX7_upTo) (maxL := 6) (by decide) rfl (Nat.le_of_ble_eq_true rfl) ?_
  intro pG eG sG mG aG bG tG cG AG QG ls xh bh hml hown hts hK hP hD hS hA hend hl
  have hl : lv_has ls 6 [(0, .long (eC t)), (2, .int (nI p))] := hl
  refine lv_lconst (v := lN 0) xh bh dX7_upTo_0 (by decide) ?_
  refine lv_lstore_n (lv' := [(3, .long (lN 0)), (0, .long (eC t)), (2, .int (nI p))]) xh bh dX7_upTo_1 rfl hl (by decide) rfl (fun ls hl => ?_)
  refine lv_iconst (v := (nI 0)) xh bh dX7_upTo_2 (by decide) ?_
  refine lv_istore (lv' := [(5, .int (nI 0)), (3, .long (lN 0)), (0, .long (eC t)), (2, .int (nI p))]) xh bh dX7_upTo_3 hl (by decide) rfl (fun ls hl => ?_)
  have cut_5 : ∀ (n_5 : Nat), ∀ (i : Nat), ∀ (r : List Nat), (i ≤ t.length) → (i ≤ p) → (r = t.take i) → (t.length - i) < n_5 → ∀ (H : Heap) (locs : List Loc) (ls : Array Slot), va_P D vwCl [] H → va_D AG [] → va_S AG sG.heap H locs → lv_has ls 6 [(0, .long (eC t)), (2, .int (nI p)), (3, .long (eC r)), (5, .int (nI i))] → W pG l eG ({ frames := 2, cells := 0, slots := 0, locals := 45 }) sG mG aG bG tG cG H locs 0 0 QG (F0 mG 5 ls []) := by
    intro n_5
    induction n_5 with
    | zero =>
      intro i r hi hi2 hr hmu
      exact absurd hmu (Nat.not_lt_zero _)
    | succ n_5 ih_5 =>
      intro i r hi hi2 hr hmu H locs ls hP hD hS hl
      refine lv_iload xh bh dX7_upTo_5 (lv_at hl 3 rfl) ?_
      refine lv_lload_n xh bh dX7_upTo_7 rfl (lv_at hl 0 rfl) ?_
      refine Ct.callS0 (rest := [.int (nI i)]) xh bh hml hown hts hK hP hS hA (ct_X7_sizeOf l D cI cJ cB cZ cA t (by first | assumption | exact okT_nil)) (va_cwS 1 hts gX7_upTo_X7_sizeOf rfl rfl rfl (by decide +kernel) ⟨Nat.le_of_ble_eq_true rfl, Nat.le_of_ble_eq_true rfl⟩) rfl rfl hl.1 (Nat.le_of_ble_eq_true rfl) dX7_upTo_8 ⟨Nat.le_refl _, Nat.le_refl _⟩ (fun _ H locs _ hP hS => ?_)
      refine W.eq (g2 := F0 mG 11 ls [.int (nI t.length), .int (nI i)]) rfl ?_
      refine xn_icmp_ge (tgt := 37) xh bh dX7_upTo_11 (by decide) (by have := ht.1; omega) (by have := ht.1; omega) (fun c_11 => ?_) (fun c_11 => ?_)
      · refine lv_lload_n xh bh dX7_upTo_37 rfl (lv_at hl 2 rfl) ?_
        exact hend (eC r) () _ _ _ _ (congrArg (fun z => some (Value.long (eC z))) (by first | (rw [hr, show i = p by omega]) | (rw [hr, List.take_of_length_le (by omega : t.length ≤ i), List.take_of_length_le (by omega : t.length ≤ p)]))) trivial dX7_upTo_38 hP hD hS
      · refine lv_iload xh bh dX7_upTo_14 (lv_at hl 3 rfl) ?_
        refine lv_iload_n xh bh dX7_upTo_16 rfl (lv_at hl 1 rfl) ?_
        refine xn_icmp_ge (tgt := 37) xh bh dX7_upTo_17 (by decide) (by have := ht.1; omega) (by have := ht.1; omega) (fun c_17 => ?_) (fun c_17 => ?_)
        · refine lv_lload_n xh bh dX7_upTo_37 rfl (lv_at hl 2 rfl) ?_
          exact hend (eC r) () _ _ _ _ (congrArg (fun z => some (Value.long (eC z))) (by first | (rw [hr, show i = p by omega]) | (rw [hr, List.take_of_length_le (by omega : t.length ≤ i), List.take_of_length_le (by omega : t.length ≤ p)]))) trivial dX7_upTo_38 hP hD hS
        · refine lv_lload_n xh bh dX7_upTo_20 rfl (lv_at hl 2 rfl) ?_
          refine lv_lload_n xh bh dX7_upTo_21 rfl (lv_at hl 0 rfl) ?_
          refine lv_iload xh bh dX7_upTo_22 (lv_at hl 3 rfl) ?_
          refine Ct.callS0 (rest := [.long (eC r)]) xh bh hml hown hts hK hP hS hA (ct_X7_partIn l D cI cJ cB cZ cA t i (by first | assumption | exact okT_nil) (by have := ht.1; omega)) (va_cwS 2 hts gX7_upTo_X7_partIn rfl rfl rfl (by decide +kernel) ⟨Nat.le_of_ble_eq_true rfl, Nat.le_of_ble_eq_true rfl⟩) rfl rfl hl.1 (Nat.le_of_ble_eq_true rfl) dX7_upTo_24 ⟨Nat.le_refl _, Nat.le_refl _⟩ (fun _ H locs _ hP hS => ?_)
          refine W.eq (g2 := F0 mG 27 ls [.int (nI (t.getD i 0)), .long (eC r)]) rfl ?_
          refine Ct.callS0 (rest := []) xh bh hml hown hts hK hP hS hA (ct_X7_added l D cI cJ cB cZ cA r (t.getD i 0) (by rw [hr]; exact ht.take i) (by exact ht.getD i)) (va_cwS 2 hts gX7_upTo_X7_added rfl rfl rfl (by decide +kernel) ⟨Nat.le_of_ble_eq_true rfl, Nat.le_of_ble_eq_true rfl⟩) rfl rfl hl.1 (Nat.le_of_ble_eq_true rfl) dX7_upTo_27 ⟨Nat.le_refl _, Nat.le_refl _⟩ (fun _ H locs _ hP hS => ?_)
          refine W.eq (g2 := F0 mG 30 ls [.long (eC (addT r (t.getD i 0)))]) rfl ?_
          refine lv_lstore_n (lv' := [(3, .long (eC (addT r (t.getD i 0)))), (0, .long (eC t)), (2, .int (nI p)), (5, .int (nI i))]) xh bh dX7_upTo_30 rfl hl (by decide) rfl (fun ls hl => ?_)
          refine lv_iinc (v := (nI (i + 1))) (lv' := [(5, .int (nI (i + 1))), (3, .long (eC (addT r (t.getD i 0)))), (0, .long (eC t)), (2, .int (nI p))]) xh bh dX7_upTo_31 hl (k := 3) rfl (by exact xn_inc _ _) (by decide) rfl (fun ls hl => ?_)
          refine lv_goto (tgt := 5) xh bh dX7_upTo_34 (by decide) ?_
          exact ih_5 (i + 1) (addT r (t.getD i 0)) (by omega) (by omega) (by rw [hr, addT_lt (by rw [List.length_take]; have := ht.1; omega), take_next c_11]) (by omega) _ _ ls hP hD hS (lv_sub hl [2, 3, 1, 0] rfl)
  exact cut_5 (t.length - 0 + 1) 0 ([]) (by exact Nat.zero_le _) (by exact Nat.zero_le _) (by rfl) (Nat.lt_succ_self _) _ _ ls hP hD hS (lv_sub hl [2, 3, 1, 0] rfl)

set_option maxHeartbeats 1000000 in
set_option maxRecDepth 100000 in
theorem ct_X7_mended (l : Launch) (D : va_G) (cI cJ cB cZ cA : ClassId) (t : List Nat) (ht : okT t) : Ct l yX7_mended wsX7_mended ({ frames := 3, cells := 0, slots := 0, locals := 67 }) D (tysG cI cJ cB cZ cA) [.long (eC t)] [] (fun (_ : Unit) => True) (fun _ => some (.long (eC (mendT t)))) (fun _ => []) := by
  refine Ct.ofL (cc := cX7_mended) (maxL := 2) (by decide) rfl (Nat.le_of_ble_eq_true rfl) ?_
  intro pG eG sG mG aG bG tG cG AG QG ls xh bh hml hown hts hK hP hD hS hA hend hl
  have hl : lv_has ls 2 [(0, .long (eC t))] := hl
  refine lv_lload_n xh bh dX7_mended_0 rfl (lv_at hl 0 rfl) ?_
  refine lv_bipush (v := (nI 9)) xh bh dX7_mended_1 (by decide) ?_
  refine Ct.callS0 (rest := []) xh bh hml hown hts hK hP hS hA (ct_X7_has l D cI cJ cB cZ cA t 9 (by first | assumption | exact okT_nil) (by first | assumption | omega)) (va_cwS 2 hts gX7_mended_X7_has rfl rfl rfl (by decide +kernel) ⟨Nat.le_of_ble_eq_true rfl, Nat.le_of_ble_eq_true rfl⟩) rfl rfl hl.1 (Nat.le_of_ble_eq_true rfl) dX7_mended_3 ⟨Nat.le_refl _, Nat.le_refl _⟩ (fun _ H locs _ hP hS => ?_)
  refine W.eq (g2 := F0 mG 6 ls [.int (ib (decide (9 ∈ t)))]) rfl ?_
  refine xb_if_eq (tgt := 13) xh bh dX7_mended_6 (by decide) (fun c_6 => ?_) (fun c_6 => ?_)
  · refine lv_lload_n xh bh dX7_mended_13 rfl (lv_at hl 0 rfl) ?_
    refine lv_bipush (v := (nI 9)) xh bh dX7_mended_14 (by decide) ?_
    refine Ct.callS0 (rest := []) xh bh hml hown hts hK hP hS hA (ct_X7_added l D cI cJ cB cZ cA t 9 (by first | assumption | exact okT_nil) (by first | assumption | omega)) (va_cwS 2 hts gX7_mended_X7_added rfl rfl rfl (by decide +kernel) ⟨Nat.le_of_ble_eq_true rfl, Nat.le_of_ble_eq_true rfl⟩) rfl rfl hl.1 (Nat.le_of_ble_eq_true rfl) dX7_mended_16 ⟨Nat.le_refl _, Nat.le_refl _⟩ (fun _ H locs _ hP hS => ?_)
    refine W.eq (g2 := F0 mG 19 ls [.long (eC (addT t 9))]) rfl ?_
    exact hend (eC (addT t 9)) () _ _ _ _ (congrArg (fun z => some (Value.long (eC z))) (by first | exact if_pos (of_decide_eq_true c_6) | exact if_neg (of_decide_eq_false c_6))) trivial dX7_mended_19 hP hD hS
  · refine lv_lload_n xh bh dX7_mended_9 rfl (lv_at hl 0 rfl) ?_
    refine lv_goto (tgt := 19) xh bh dX7_mended_10 (by decide) ?_
    exact hend (eC t) () _ _ _ _ (congrArg (fun z => some (Value.long (eC z))) (by first | exact if_pos (of_decide_eq_true c_6) | exact if_neg (of_decide_eq_false c_6))) trivial dX7_mended_19 hP hD hS

set_option maxHeartbeats 1000000 in
set_option maxRecDepth 100000 in
theorem ct_X7_slipped (l : Launch) (D : va_G) (cI cJ cB cZ cA : ClassId) (t : List Nat) (k : Nat) (i : Nat) (x : Nat) (ht : okT t) (hk : k < 100) (hi : i < 10) (hx : x < 10) : Ct l yX7_slipped wsX7_slipped ({ frames := 4, cells := 0, slots := 0, locals := 94 }) D (tysG cI cJ cB cZ cA) [.long (eC t), .int (nI k), .int (nI i), .int (nI x)] [] (fun (_ : Unit) => True) (fun _ => some (.long (eC (slipT t k i x)))) (fun _ => []) := by
  refine Ct.ofL (cc := cX7_slipped) (maxL := 5) (by decide) rfl (Nat.le_of_ble_eq_true rfl) ?_
  intro pG eG sG mG aG bG tG cG AG QG ls xh bh hml hown hts hK hP hD hS hA hend hl
  have hl : lv_has ls 5 [(0, .long (eC t)), (2, .int (nI k)), (3, .int (nI i)), (4, .int (nI x))] := hl
  refine lv_iload_n xh bh dX7_slipped_0 rfl (lv_at hl 1 rfl) ?_
  refine xn_cases (x := k) 1 5 (fun c_1 => ?_) (fun c_1 => ?_)
  · refine lv_tableOut (tgt := 77) xh bh dX7_slipped_1 (by exact xn_out (by omega) c_1) (by decide) ?_
    refine lv_lload_n xh bh dX7_slipped_77 rfl (lv_at hl 0 rfl) ?_
    exact hend (eC t) () _ _ _ _ (congrArg (fun z => some (Value.long (eC z))) (by unfold slipT; rw [if_neg (by omega), if_neg (by omega), if_neg (by omega), if_neg (by omega), if_neg (by omega)])) trivial dX7_slipped_78 hP hD hS
  · rcases (show k = 1 ∨ k = 2 ∨ k = 3 ∨ k = 4 ∨ k = 5 by omega) with c_1 | c_1 | c_1 | c_1 | c_1
    · refine lv_tableIn (off := 35) (tgt := 36) xh bh dX7_slipped_1 (by rw [c_1]; decide) (by rw [c_1]; decide) (by rw [c_1]; decide) (by decide) ?_
      refine lv_lload_n xh bh dX7_slipped_36 rfl (lv_at hl 0 rfl) ?_
      refine lv_iload_n xh bh dX7_slipped_37 rfl (lv_at hl 2 rfl) ?_
      refine Ct.callS0 (rest := []) xh bh hml hown hts hK hP hS hA (ct_X7_without l D cI cJ cB cZ cA t i (by first | assumption | exact okT_nil) (by first | assumption | omega)) (va_cwS 2 hts gX7_slipped_X7_without rfl rfl rfl (by decide +kernel) ⟨Nat.le_of_ble_eq_true rfl, Nat.le_of_ble_eq_true rfl⟩) rfl rfl hl.1 (Nat.le_of_ble_eq_true rfl) dX7_slipped_38 ⟨Nat.le_refl _, Nat.le_refl _⟩ (fun _ H locs _ hP hS => ?_)
      refine W.eq (g2 := F0 mG 41 ls [.long (eC (wo t i t.length))]) rfl ?_
      exact hend (eC (wo t i t.length)) () _ _ _ _ (congrArg (fun z => some (Value.long (eC z))) (by rw [c_1]; rfl)) trivial dX7_slipped_41 hP hD hS
    · refine lv_tableIn (off := 41) (tgt := 42) xh bh dX7_slipped_1 (by rw [c_1]; decide) (by rw [c_1]; decide) (by rw [c_1]; decide) (by decide) ?_
      refine lv_lload_n xh bh dX7_slipped_42 rfl (lv_at hl 0 rfl) ?_
      refine lv_iload_n xh bh dX7_slipped_43 rfl (lv_at hl 2 rfl) ?_
      refine lv_iload xh bh dX7_slipped_44 (lv_at hl 3 rfl) ?_
      refine Ct.callS0 (rest := []) xh bh hml hown hts hK hP hS hA (ct_X7_changed l D cI cJ cB cZ cA t i x (by first | assumption | exact okT_nil) (by first | assumption | omega) (by first | assumption | omega)) (va_cwS 3 hts gX7_slipped_X7_changed rfl rfl rfl (by decide +kernel) ⟨Nat.le_of_ble_eq_true rfl, Nat.le_of_ble_eq_true rfl⟩) rfl rfl hl.1 (Nat.le_of_ble_eq_true rfl) dX7_slipped_46 ⟨Nat.le_refl _, Nat.le_refl _⟩ (fun _ H locs _ hP hS => ?_)
      refine W.eq (g2 := F0 mG 49 ls [.long (eC (ch t i x t.length))]) rfl ?_
      exact hend (eC (ch t i x t.length)) () _ _ _ _ (congrArg (fun z => some (Value.long (eC z))) (by rw [c_1]; rfl)) trivial dX7_slipped_49 hP hD hS
    · refine lv_tableIn (off := 49) (tgt := 50) xh bh dX7_slipped_1 (by rw [c_1]; decide) (by rw [c_1]; decide) (by rw [c_1]; decide) (by decide) ?_
      refine lv_lload_n xh bh dX7_slipped_50 rfl (lv_at hl 0 rfl) ?_
      refine lv_iload_n xh bh dX7_slipped_51 rfl (lv_at hl 2 rfl) ?_
      refine Ct.callS0 (rest := []) xh bh hml hown hts hK hP hS hA (ct_X7_turnedAbout l D cI cJ cB cZ cA t i (by first | assumption | exact okT_nil) (by first | assumption | omega)) (va_cwS 2 hts gX7_slipped_X7_turnedAbout rfl rfl rfl (by decide +kernel) ⟨Nat.le_of_ble_eq_true rfl, Nat.le_of_ble_eq_true rfl⟩) rfl rfl hl.1 (Nat.le_of_ble_eq_true rfl) dX7_slipped_52 ⟨Nat.le_refl _, Nat.le_refl _⟩ (fun _ H locs _ hP hS => ?_)
      refine W.eq (g2 := F0 mG 55 ls [.long (eC (turnT t i))]) rfl ?_
      exact hend (eC (turnT t i)) () _ _ _ _ (congrArg (fun z => some (Value.long (eC z))) (by rw [c_1]; rfl)) trivial dX7_slipped_55 hP hD hS
    · refine lv_tableIn (off := 55) (tgt := 56) xh bh dX7_slipped_1 (by rw [c_1]; decide) (by rw [c_1]; decide) (by rw [c_1]; decide) (by decide) ?_
      refine lv_lload_n xh bh dX7_slipped_56 rfl (lv_at hl 0 rfl) ?_
      refine lv_iload_n xh bh dX7_slipped_57 rfl (lv_at hl 2 rfl) ?_
      refine Ct.callS0 (rest := []) xh bh hml hown hts hK hP hS hA (ct_X7_without l D cI cJ cB cZ cA t i (by first | assumption | exact okT_nil) (by first | assumption | omega)) (va_cwS 2 hts gX7_slipped_X7_without rfl rfl rfl (by decide +kernel) ⟨Nat.le_of_ble_eq_true rfl, Nat.le_of_ble_eq_true rfl⟩) rfl rfl hl.1 (Nat.le_of_ble_eq_true rfl) dX7_slipped_58 ⟨Nat.le_refl _, Nat.le_refl _⟩ (fun _ H locs _ hP hS => ?_)
      refine W.eq (g2 := F0 mG 61 ls [.long (eC (wo t i t.length))]) rfl ?_
      refine lv_iload_n xh bh dX7_slipped_61 rfl (lv_at hl 2 rfl) ?_
      refine Ct.callS0 (rest := []) xh bh hml hown hts hK hP hS hA (ct_X7_upTo l D cI cJ cB cZ cA (wo t i t.length) i (by exact okT_wo ht i ht.1) (by first | assumption | omega)) (va_cwS 2 hts gX7_slipped_X7_upTo rfl rfl rfl (by decide +kernel) ⟨Nat.le_of_ble_eq_true rfl, Nat.le_of_ble_eq_true rfl⟩) rfl rfl hl.1 (Nat.le_of_ble_eq_true rfl) dX7_slipped_62 ⟨Nat.le_refl _, Nat.le_refl _⟩ (fun _ H locs _ hP hS => ?_)
      refine W.eq (g2 := F0 mG 65 ls [.long (eC ((wo t i t.length).take i))]) rfl ?_
      exact hend (eC ((wo t i t.length).take i)) () _ _ _ _ (congrArg (fun z => some (Value.long (eC z))) (by rw [c_1]; exact (wo_take t i).symm)) trivial dX7_slipped_65 hP hD hS
    · refine lv_tableIn (off := 65) (tgt := 66) xh bh dX7_slipped_1 (by rw [c_1]; decide) (by rw [c_1]; decide) (by rw [c_1]; decide) (by decide) ?_
      refine lv_lload_n xh bh dX7_slipped_66 rfl (lv_at hl 0 rfl) ?_
      refine lv_iload_n xh bh dX7_slipped_67 rfl (lv_at hl 2 rfl) ?_
      refine lv_iload xh bh dX7_slipped_68 (lv_at hl 3 rfl) ?_
      refine Ct.callS0 (rest := []) xh bh hml hown hts hK hP hS hA (ct_X7_changed l D cI cJ cB cZ cA t i x (by first | assumption | exact okT_nil) (by first | assumption | omega) (by first | assumption | omega)) (va_cwS 3 hts gX7_slipped_X7_changed rfl rfl rfl (by decide +kernel) ⟨Nat.le_of_ble_eq_true rfl, Nat.le_of_ble_eq_true rfl⟩) rfl rfl hl.1 (Nat.le_of_ble_eq_true rfl) dX7_slipped_70 ⟨Nat.le_refl _, Nat.le_refl _⟩ (fun _ H locs _ hP hS => ?_)
      refine W.eq (g2 := F0 mG 73 ls [.long (eC (ch t i x t.length))]) rfl ?_
      refine Ct.callS0 (rest := []) xh bh hml hown hts hK hP hS hA (ct_X7_mended l D cI cJ cB cZ cA (ch t i x t.length) (by exact okT_ch ht i hx ht.1)) (va_cwS 1 hts gX7_slipped_X7_mended rfl rfl rfl (by decide +kernel) ⟨Nat.le_of_ble_eq_true rfl, Nat.le_of_ble_eq_true rfl⟩) rfl rfl hl.1 (Nat.le_of_ble_eq_true rfl) dX7_slipped_73 ⟨Nat.le_refl _, Nat.le_refl _⟩ (fun _ H locs _ hP hS => ?_)
      refine W.eq (g2 := F0 mG 76 ls [.long (eC (mendT (ch t i x t.length)))]) rfl ?_
      exact hend (eC (mendT (ch t i x t.length))) () _ _ _ _ (congrArg (fun z => some (Value.long (eC z))) (by rw [c_1]; rfl)) trivial dX7_slipped_76 hP hD hS
