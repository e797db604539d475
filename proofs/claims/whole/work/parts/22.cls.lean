-- rows laid by wip/whole/gen.py
set_option maxHeartbeats 1000000 in
set_option maxRecDepth 100000 in
theorem ct_J6_bitCount_0f7a4 (l : Launch) (D : va_G) (cI cJ cB cZ cA : ClassId) (a : Nat) (ha : a < 2048) : Ct l yJ6_bitCount_0f7a4 wsJ6_bitCount_0f7a4 ({ frames := 0, cells := 0, slots := 0, locals := 0 }) D (tysG cI cJ cB cZ cA) [.int (nI a)] [] (fun (_ : Unit) => True) (fun _ => some (.int (nI (popN a)))) (fun _ => []) := by
  refine Ct.ofI (cc := cJ6_bitCount_0f7a4) (maxL := 1) (by decide) rfl (Nat.le_of_ble_eq_true rfl) ?_
  intro pG eG sG mG aG bG tG cG AG QG ls xh bh hml hown hts hK hP hD hS hA hend hl
  have hl : lv_has ls 1 [(0, .int (nI a))] := hl
  refine lv_iload_n xh bh dJ6_bitCount_0f7a4_0 rfl (lv_at hl 0 rfl) ?_
  refine lv_iload_n xh bh dJ6_bitCount_0f7a4_1 rfl (lv_at hl 0 rfl) ?_
  refine lv_iconst (v := (nI 1)) xh bh dJ6_bitCount_0f7a4_2 (by decide) ?_
  refine xn_iushr xh bh dJ6_bitCount_0f7a4_3 (by omega) (by omega) ?_
  refine lv_ldcw (v := (nI 1431655765)) xh bh hown (hts _ (List.mem_of_getElem? (i := 1) rfl)) dJ6_bitCount_0f7a4_4 ?_
  refine xn_iand xh bh dJ6_bitCount_0f7a4_7 ?_
  refine xn_isub xh bh dJ6_bitCount_0f7a4_8 (by exact Nat.le_trans Nat.and_le_left (Nat.div_le_self _ _)) ?_
  obtain ⟨w_9, ew_9⟩ : ∃ z : Nat, z = a - ((a / 2 ^ 1) &&& 1431655765) := ⟨_, rfl⟩
  refine xw_topi (x := (nI (a - ((a / 2 ^ 1) &&& 1431655765)))) (y := (nI w_9)) (by rw [ew_9]) ?_
  refine lv_istore_n (lv' := [(0, .int (nI w_9))]) xh bh dJ6_bitCount_0f7a4_9 rfl hl (by decide) rfl (fun ls hl => ?_)
  have b_9 : w_9 ≤ a := by rw [ew_9]; exact Nat.sub_le _ _
  refine lv_iload_n xh bh dJ6_bitCount_0f7a4_10 rfl (lv_at hl 0 rfl) ?_
  refine lv_ldcw (v := (nI 858993459)) xh bh hown (hts _ (List.mem_of_getElem? (i := 2) rfl)) dJ6_bitCount_0f7a4_11 ?_
  refine xn_iand xh bh dJ6_bitCount_0f7a4_14 ?_
  refine lv_iload_n xh bh dJ6_bitCount_0f7a4_15 rfl (lv_at hl 0 rfl) ?_
  refine lv_iconst (v := (nI 2)) xh bh dJ6_bitCount_0f7a4_16 (by decide) ?_
  refine xn_iushr xh bh dJ6_bitCount_0f7a4_17 (by omega) (by omega) ?_
  refine lv_ldcw (v := (nI 858993459)) xh bh hown (hts _ (List.mem_of_getElem? (i := 2) rfl)) dJ6_bitCount_0f7a4_18 ?_
  refine xn_iand xh bh dJ6_bitCount_0f7a4_21 ?_
  refine xn_iadd xh bh dJ6_bitCount_0f7a4_22 ?_
  obtain ⟨w_23, ew_23⟩ : ∃ z : Nat, z = (w_9 &&& 858993459) + ((w_9 / 2 ^ 2) &&& 858993459) := ⟨_, rfl⟩
  refine xw_topi (x := (nI ((w_9 &&& 858993459) + ((w_9 / 2 ^ 2) &&& 858993459)))) (y := (nI w_23)) (by rw [ew_23]) ?_
  refine lv_istore_n (lv' := [(0, .int (nI w_23))]) xh bh dJ6_bitCount_0f7a4_23 rfl hl (by decide) rfl (fun ls hl => ?_)
  have b_23 : w_23 ≤ w_9 + w_9 := by rw [ew_23]; exact Nat.add_le_add Nat.and_le_left (Nat.le_trans Nat.and_le_left (Nat.div_le_self _ _))
  refine lv_iload_n xh bh dJ6_bitCount_0f7a4_24 rfl (lv_at hl 0 rfl) ?_
  refine lv_iload_n xh bh dJ6_bitCount_0f7a4_25 rfl (lv_at hl 0 rfl) ?_
  refine lv_iconst (v := (nI 4)) xh bh dJ6_bitCount_0f7a4_26 (by decide) ?_
  refine xn_iushr xh bh dJ6_bitCount_0f7a4_27 (by omega) (by omega) ?_
  refine xn_iadd xh bh dJ6_bitCount_0f7a4_28 ?_
  refine lv_ldcw (v := (nI 252645135)) xh bh hown (hts _ (List.mem_of_getElem? (i := 3) rfl)) dJ6_bitCount_0f7a4_29 ?_
  refine xn_iand xh bh dJ6_bitCount_0f7a4_32 ?_
  obtain ⟨w_33, ew_33⟩ : ∃ z : Nat, z = (w_23 + (w_23 / 2 ^ 4)) &&& 252645135 := ⟨_, rfl⟩
  refine xw_topi (x := (nI ((w_23 + (w_23 / 2 ^ 4)) &&& 252645135))) (y := (nI w_33)) (by rw [ew_33]) ?_
  refine lv_istore_n (lv' := [(0, .int (nI w_33))]) xh bh dJ6_bitCount_0f7a4_33 rfl hl (by decide) rfl (fun ls hl => ?_)
  have b_33 : w_33 ≤ w_23 + w_23 := by rw [ew_33]; exact Nat.le_trans Nat.and_le_left (Nat.add_le_add (Nat.le_refl _) (Nat.div_le_self _ _))
  refine lv_iload_n xh bh dJ6_bitCount_0f7a4_34 rfl (lv_at hl 0 rfl) ?_
  refine lv_iload_n xh bh dJ6_bitCount_0f7a4_35 rfl (lv_at hl 0 rfl) ?_
  refine lv_bipush (v := (nI 8)) xh bh dJ6_bitCount_0f7a4_36 (by decide) ?_
  refine xn_iushr xh bh dJ6_bitCount_0f7a4_38 (by omega) (by omega) ?_
  refine xn_iadd xh bh dJ6_bitCount_0f7a4_39 ?_
  obtain ⟨w_40, ew_40⟩ : ∃ z : Nat, z = w_33 + (w_33 / 2 ^ 8) := ⟨_, rfl⟩
  refine xw_topi (x := (nI (w_33 + (w_33 / 2 ^ 8)))) (y := (nI w_40)) (by rw [ew_40]) ?_
  refine lv_istore_n (lv' := [(0, .int (nI w_40))]) xh bh dJ6_bitCount_0f7a4_40 rfl hl (by decide) rfl (fun ls hl => ?_)
  have b_40 : w_40 ≤ w_33 + w_33 := by rw [ew_40]; exact Nat.add_le_add (Nat.le_refl _) (Nat.div_le_self _ _)
  refine lv_iload_n xh bh dJ6_bitCount_0f7a4_41 rfl (lv_at hl 0 rfl) ?_
  refine lv_iload_n xh bh dJ6_bitCount_0f7a4_42 rfl (lv_at hl 0 rfl) ?_
  refine lv_bipush (v := (nI 16)) xh bh dJ6_bitCount_0f7a4_43 (by decide) ?_
  refine xn_iushr xh bh dJ6_bitCount_0f7a4_45 (by omega) (by omega) ?_
  refine xn_iadd xh bh dJ6_bitCount_0f7a4_46 ?_
  obtain ⟨w_47, ew_47⟩ : ∃ z : Nat, z = w_40 + (w_40 / 2 ^ 16) := ⟨_, rfl⟩
  refine xw_topi (x := (nI (w_40 + (w_40 / 2 ^ 16)))) (y := (nI w_47)) (by rw [ew_47]) ?_
  refine lv_istore_n (lv' := [(0, .int (nI w_47))]) xh bh dJ6_bitCount_0f7a4_47 rfl hl (by decide) rfl (fun ls hl => ?_)
  refine lv_iload_n xh bh dJ6_bitCount_0f7a4_48 rfl (lv_at hl 0 rfl) ?_
  refine lv_bipush (v := (nI 63)) xh bh dJ6_bitCount_0f7a4_49 (by decide) ?_
  refine xn_iand xh bh dJ6_bitCount_0f7a4_51 ?_
  exact hend (nI (w_47 &&& 63)) () _ _ _ _ (congrArg (fun z => some (Value.int (nI z))) (by rw [bc_ok a ha, ew_47, ew_40, ew_33, ew_23, ew_9]; rfl)) trivial rfl dJ6_bitCount_0f7a4_52 hP hD hS

set_option maxHeartbeats 1000000 in
set_option maxRecDepth 100000 in
theorem ct_J6_compare_7cf53 (l : Launch) (D : va_G) (cI cJ cB cZ cA : ClassId) (a : Nat) (b : Nat) (ha : a < 2147483648) (hb : b < 2147483648) : Ct l yJ6_compare_7cf53 wsJ6_compare_7cf53 ({ frames := 0, cells := 0, slots := 0, locals := 0 }) D (tysG cI cJ cB cZ cA) [.int (nI a), .int (nI b)] [] (fun (_ : Unit) => True) (fun _ => some (.int (if a < b then (-1) else if a = b then nI 0 else nI 1))) (fun _ => []) := by
  refine Ct.ofI (cc := cJ6_compare_7cf53) (maxL := 2) (by decide) rfl (Nat.le_of_ble_eq_true rfl) ?_
  intro pG eG sG mG aG bG tG cG AG QG ls xh bh hml hown hts hK hP hD hS hA hend hl
  have hl : lv_has ls 2 [(0, .int (nI a)), (1, .int (nI b))] := hl
  refine lv_iload_n xh bh dJ6_compare_7cf53_0 rfl (lv_at hl 0 rfl) ?_
  refine lv_iload_n xh bh dJ6_compare_7cf53_1 rfl (lv_at hl 1 rfl) ?_
  refine xn_icmp_ge (tgt := 9) xh bh dJ6_compare_7cf53_2 (by decide) (by omega) (by omega) (fun c_2 => ?_) (fun c_2 => ?_)
  · refine lv_iload_n xh bh dJ6_compare_7cf53_9 rfl (lv_at hl 0 rfl) ?_
    refine lv_iload_n xh bh dJ6_compare_7cf53_10 rfl (lv_at hl 1 rfl) ?_
    refine xn_icmp_ne (tgt := 18) xh bh dJ6_compare_7cf53_11 (by decide) (by omega) (by omega) (fun c_11 => ?_) (fun c_11 => ?_)
    · refine lv_iconst (v := (nI 1)) xh bh dJ6_compare_7cf53_18 (by decide) ?_
      exact hend (nI 1) () _ _ _ _ (congrArg (fun z => some (Value.int z)) (by first | exact if_pos c_2 | (rw [if_neg (by omega)]; first | exact if_pos c_11 | exact if_neg c_11))) trivial rfl dJ6_compare_7cf53_19 hP hD hS
    · refine lv_iconst (v := (nI 0)) xh bh dJ6_compare_7cf53_14 (by decide) ?_
      refine lv_goto (tgt := 19) xh bh dJ6_compare_7cf53_15 (by decide) ?_
      exact hend (nI 0) () _ _ _ _ (congrArg (fun z => some (Value.int z)) (by first | exact if_pos c_2 | (rw [if_neg (by omega)]; first | exact if_pos c_11 | exact if_neg c_11))) trivial rfl dJ6_compare_7cf53_19 hP hD hS
  · refine lv_iconst (v := (-1)) xh bh dJ6_compare_7cf53_5 (by decide) ?_
    refine lv_goto (tgt := 19) xh bh dJ6_compare_7cf53_6 (by decide) ?_
    exact hend (-1) () _ _ _ _ (congrArg (fun z => some (Value.int z)) (by first | exact if_pos c_2 | (rw [if_neg (by omega)]; first | exact if_pos c_11 | exact if_neg c_11))) trivial rfl dJ6_compare_7cf53_19 hP hD hS

set_option maxHeartbeats 1000000 in
set_option maxRecDepth 100000 in
theorem ct_X8_isUpTo (l : Launch) (D : va_G) (cI cJ cB cZ cA : ClassId) (x : Int32) (n : Nat) (hn : n < 2147483648) : Ct l yX8_isUpTo wsX8_isUpTo ({ frames := 0, cells := 0, slots := 0, locals := 0 }) D (tysG cI cJ cB cZ cA) [.int x, .int (nI n)] [] (fun (_ : Unit) => True) (fun _ => some (.int (ib (upB x n)))) (fun _ => []) := by
  refine Ct.ofI (cc := cX8_isUpTo) (maxL := 2) (by decide) rfl (Nat.le_of_ble_eq_true rfl) ?_
  intro pG eG sG mG aG bG tG cG AG QG ls xh bh hml hown hts hK hP hD hS hA hend hl
  have hl : lv_has ls 2 [(0, .int x), (1, .int (nI n))] := hl
  refine lv_iload_n xh bh dX8_isUpTo_0 rfl (lv_at hl 0 rfl) ?_
  refine lv_if_lt (tgt := 13) xh bh dX8_isUpTo_1 (by decide) (fun c_1 => ?_) (fun c_1 => ?_)
  · refine lv_iconst (v := (nI 0)) xh bh dX8_isUpTo_13 (by decide) ?_
    exact hend (nI 0) () _ _ _ _ (xb_ret0 (by unfold upB; first | exact decide_eq_true ⟨c_1, Int32.not_lt.mp c_6⟩ | exact decide_eq_false (fun q => q.1 c_1) | exact decide_eq_false (fun q => Int32.not_lt.mpr q.2 c_6))) trivial (vz_bool (by decide)) dX8_isUpTo_14 hP hD hS
  · refine lv_iload_n xh bh dX8_isUpTo_4 rfl (lv_at hl 0 rfl) ?_
    refine lv_iload_n xh bh dX8_isUpTo_5 rfl (lv_at hl 1 rfl) ?_
    refine lv_icmp_gt (tgt := 13) xh bh dX8_isUpTo_6 (by decide) (fun c_6 => ?_) (fun c_6 => ?_)
    · refine lv_iconst (v := (nI 0)) xh bh dX8_isUpTo_13 (by decide) ?_
      exact hend (nI 0) () _ _ _ _ (xb_ret0 (by unfold upB; first | exact decide_eq_true ⟨c_1, Int32.not_lt.mp c_6⟩ | exact decide_eq_false (fun q => q.1 c_1) | exact decide_eq_false (fun q => Int32.not_lt.mpr q.2 c_6))) trivial (vz_bool (by decide)) dX8_isUpTo_14 hP hD hS
    · refine lv_iconst (v := (nI 1)) xh bh dX8_isUpTo_9 (by decide) ?_
      refine lv_goto (tgt := 14) xh bh dX8_isUpTo_10 (by decide) ?_
      exact hend (nI 1) () _ _ _ _ (xb_ret1 (by unfold upB; first | exact decide_eq_true ⟨c_1, Int32.not_lt.mp c_6⟩ | exact decide_eq_false (fun q => q.1 c_1) | exact decide_eq_false (fun q => Int32.not_lt.mpr q.2 c_6))) trivial (vz_bool (by decide)) dX8_isUpTo_14 hP hD hS

set_option maxHeartbeats 1000000 in
set_option maxRecDepth 100000 in
theorem ct_X8_isBranch (l : Launch) (D : va_G) (cI cJ cB cZ cA : ClassId) (b : Int32) : Ct l yX8_isBranch wsX8_isBranch ({ frames := 1, cells := 0, slots := 0, locals := 21 }) D (tysG cI cJ cB cZ cA) [.int b] [] (fun (_ : Unit) => True) (fun _ => some (.int (ib (upB b 7)))) (fun _ => []) := by
  refine Ct.ofI (cc := cX8_isBranch) (maxL := 1) (by decide) rfl (Nat.le_of_ble_eq_true rfl) ?_
  intro pG eG sG mG aG bG tG cG AG QG ls xh bh hml hown hts hK hP hD hS hA hend hl
  have hl : lv_has ls 1 [(0, .int b)] := hl
  refine lv_iload_n xh bh dX8_isBranch_0 rfl (lv_at hl 0 rfl) ?_
  refine lv_bipush (v := (nI 7)) xh bh dX8_isBranch_1 (by decide) ?_
  refine Ct.callS0 (rest := []) xh bh hml hown hts hK hP hS hA (ct_X8_isUpTo l D cI cJ cB cZ cA b 7 (by first | assumption | omega)) (va_cwS 2 hts gX8_isBranch_X8_isUpTo rfl rfl rfl (by decide +kernel) ⟨Nat.le_of_ble_eq_true rfl, Nat.le_of_ble_eq_true rfl⟩) rfl rfl hl.1 (Nat.le_of_ble_eq_true rfl) dX8_isBranch_3 ⟨Nat.le_refl _, Nat.le_refl _⟩ (fun _ H locs _ hP hS => ?_)
  refine W.eq (g2 := F0 mG 6 ls [.int (ib (upB b 7))]) rfl ?_
  exact hend (ib (upB b 7)) () _ _ _ _ (congrArg (fun z => some (Value.int (ib z))) (by rfl)) trivial (vz_ib _) dX8_isBranch_6 hP hD hS

set_option maxHeartbeats 1000000 in
set_option maxRecDepth 100000 in
theorem ct_X8_isPart (l : Launch) (D : va_G) (cI cJ cB cZ cA : ClassId) (b : Int32) : Ct l yX8_isPart wsX8_isPart ({ frames := 1, cells := 0, slots := 0, locals := 21 }) D (tysG cI cJ cB cZ cA) [.int b] [] (fun (_ : Unit) => True) (fun _ => some (.int (ib (upB b 9)))) (fun _ => []) := by
  refine Ct.ofI (cc := cX8_isPart) (maxL := 1) (by decide) rfl (Nat.le_of_ble_eq_true rfl) ?_
  intro pG eG sG mG aG bG tG cG AG QG ls xh bh hml hown hts hK hP hD hS hA hend hl
  have hl : lv_has ls 1 [(0, .int b)] := hl
  refine lv_iload_n xh bh dX8_isPart_0 rfl (lv_at hl 0 rfl) ?_
  refine lv_bipush (v := (nI 9)) xh bh dX8_isPart_1 (by decide) ?_
  refine Ct.callS0 (rest := []) xh bh hml hown hts hK hP hS hA (ct_X8_isUpTo l D cI cJ cB cZ cA b 9 (by first | assumption | omega)) (va_cwS 2 hts gX8_isPart_X8_isUpTo rfl rfl rfl (by decide +kernel) ⟨Nat.le_of_ble_eq_true rfl, Nat.le_of_ble_eq_true rfl⟩) rfl rfl hl.1 (Nat.le_of_ble_eq_true rfl) dX8_isPart_3 ⟨Nat.le_refl _, Nat.le_refl _⟩ (fun _ H locs _ hP hS => ?_)
  refine W.eq (g2 := F0 mG 6 ls [.int (ib (upB b 9))]) rfl ?_
  exact hend (ib (upB b 9)) () _ _ _ _ (congrArg (fun z => some (Value.int (ib z))) (by rfl)) trivial (vz_ib _) dX8_isPart_6 hP hD hS

set_option maxHeartbeats 1000000 in
set_option maxRecDepth 100000 in
theorem ct_X8_lowestOf (l : Launch) (D : va_G) (cI cJ cB cZ cA : ClassId) (a : Nat) (ha : a < 2147483648) : Ct l yX8_lowestOf wsX8_lowestOf ({ frames := 0, cells := 0, slots := 0, locals := 0 }) D (tysG cI cJ cB cZ cA) [.int (nI a)] [] (fun (_ : Unit) => True) (fun _ => some (.int (lowI a))) (fun _ => []) := by
  refine Ct.ofI (cc := cX8_lowestOf) (maxL := 2) (by decide) rfl (Nat.le_of_ble_eq_true rfl) ?_
  intro pG eG sG mG aG bG tG cG AG QG ls xh bh hml hown hts hK hP hD hS hA hend hl
  have hl : lv_has ls 2 [(0, .int (nI a))] := hl
  refine lv_iconst (v := (nI 0)) xh bh dX8_lowestOf_0 (by decide) ?_
  refine lv_istore_n (lv' := [(1, .int (nI 0)), (0, .int (nI a))]) xh bh dX8_lowestOf_1 rfl hl (by decide) rfl (fun ls hl => ?_)
  have cut_2 : ∀ (n_2 : Nat), ∀ (k : Nat), (k ≤ 32) → (∀ j, j < k → (a / 2 ^ j) % 2 ≠ 1) → (32 - k) < n_2 → ∀ (H : Heap) (locs : List Loc) (ls : Array Slot), va_P D vwCl [] H → va_D AG [] → va_S AG sG.heap H locs → lv_has ls 2 [(0, .int (nI a)), (1, .int (nI k))] → W pG l eG ({ frames := 0, cells := 0, slots := 0, locals := 0 }) sG mG aG bG tG cG H locs 0 0 QG (F0 mG 2 ls []) := by
    intro n_2
    induction n_2 with
    | zero =>
      intro k hk hl2 hmu
      exact absurd hmu (Nat.not_lt_zero _)
    | succ n_2 ih_2 =>
      intro k hk hl2 hmu H locs ls hP hD hS hl
      refine lv_iload_n xh bh dX8_lowestOf_2 rfl (lv_at hl 1 rfl) ?_
      refine lv_bipush (v := (nI 32)) xh bh dX8_lowestOf_3 (by decide) ?_
      refine xn_icmp_ge (tgt := 25) xh bh dX8_lowestOf_5 (by decide) (by omega) (by omega) (fun c_5 => ?_) (fun c_5 => ?_)
      · refine lv_iconst (v := (-1)) xh bh dX8_lowestOf_25 (by decide) ?_
        exact hend (-1) () _ _ _ _ (congrArg (fun z => some (Value.int z)) (by exact lowI_none (fun j q => hl2 j (by omega)))) trivial rfl dX8_lowestOf_26 hP hD hS
      · refine lv_iload_n xh bh dX8_lowestOf_8 rfl (lv_at hl 0 rfl) ?_
        refine lv_iload_n xh bh dX8_lowestOf_9 rfl (lv_at hl 1 rfl) ?_
        refine xn_iushr xh bh dX8_lowestOf_10 (by omega) (by omega) ?_
        refine lv_iconst (v := (nI 1)) xh bh dX8_lowestOf_11 (by decide) ?_
        refine xn_iand xh bh dX8_lowestOf_12 ?_
        refine lv_iconst (v := (nI 1)) xh bh dX8_lowestOf_13 (by decide) ?_
        refine xn_icmp_ne (tgt := 19) xh bh dX8_lowestOf_14 (by decide) (by have := Nat.and_le_right (n := a / 2 ^ k) (m := 1); omega) (by have := Nat.and_le_right (n := a / 2 ^ k) (m := 1); omega) (fun c_14 => ?_) (fun c_14 => ?_)
        · refine lv_iinc (v := (nI (k + 1))) (lv' := [(1, .int (nI (k + 1))), (0, .int (nI a))]) xh bh dX8_lowestOf_19 hl (k := 1) rfl (by exact xn_inc _ _) (by decide) rfl (fun ls hl => ?_)
          refine lv_goto (tgt := 2) xh bh dX8_lowestOf_22 (by decide) ?_
          exact ih_2 (k + 1) (by omega) (by intro j q; rcases Nat.lt_or_ge j k with q1 | q1; exact hl2 j q1; rw [show j = k by omega, ← and1]; exact c_14) (by omega) _ _ ls hP hD hS (lv_sub hl [1, 0] rfl)
        · refine lv_iload_n xh bh dX8_lowestOf_17 rfl (lv_at hl 1 rfl) ?_
          exact hend (nI k) () _ _ _ _ (congrArg (fun z => some (Value.int z)) (by rw [and1] at c_14; exact lowI_at c_14 hl2 c_5)) trivial rfl dX8_lowestOf_18 hP hD hS
  exact cut_2 (32 - 0 + 1) 0 (by exact Nat.zero_le _) (by exact fun j q => absurd q (Nat.not_lt_zero _)) (Nat.lt_succ_self _) _ _ ls hP hD hS (lv_sub hl [1, 0] rfl)

set_option maxHeartbeats 1000000 in
set_option maxRecDepth 100000 in
theorem ct_X6_isLetter (l : Launch) (D : va_G) (cI cJ cB cZ cA : ClassId) (c1 : Nat) (hc : c1 < 200) : Ct l yX6_isLetter wsX6_isLetter ({ frames := 0, cells := 0, slots := 0, locals := 0 }) D (tysG cI cJ cB cZ cA) [.int (nI c1)] [] (fun (_ : Unit) => True) (fun _ => some (.int (ib (decide (97 ≤ c1 ∧ c1 ≤ 122))))) (fun _ => []) := by
  refine Ct.ofI (cc := cX6_isLetter) (maxL := 1) (by decide) rfl (Nat.le_of_ble_eq_true rfl) ?_
  intro pG eG sG mG aG bG tG cG AG QG ls xh bh hml hown hts hK hP hD hS hA hend hl
  have hl : lv_has ls 1 [(0, .int (nI c1))] := hl
  refine lv_iload_n xh bh dX6_isLetter_0 rfl (lv_at hl 0 rfl) ?_
  refine lv_bipush (v := (nI 97)) xh bh dX6_isLetter_1 (by decide) ?_
  refine xn_icmp_lt (tgt := 16) xh bh dX6_isLetter_3 (by decide) (by omega) (by omega) (fun c_3 => ?_) (fun c_3 => ?_)
  · refine lv_iconst (v := (nI 0)) xh bh dX6_isLetter_16 (by decide) ?_
    exact hend (nI 0) () _ _ _ _ (xb_ret0 (by first | exact decide_eq_true (by omega) | exact decide_eq_false (by omega))) trivial (vz_bool (by decide)) dX6_isLetter_17 hP hD hS
  · refine lv_iload_n xh bh dX6_isLetter_6 rfl (lv_at hl 0 rfl) ?_
    refine lv_bipush (v := (nI 122)) xh bh dX6_isLetter_7 (by decide) ?_
    refine xn_icmp_gt (tgt := 16) xh bh dX6_isLetter_9 (by decide) (by omega) (by omega) (fun c_9 => ?_) (fun c_9 => ?_)
    · refine lv_iconst (v := (nI 0)) xh bh dX6_isLetter_16 (by decide) ?_
      exact hend (nI 0) () _ _ _ _ (xb_ret0 (by first | exact decide_eq_true (by omega) | exact decide_eq_false (by omega))) trivial (vz_bool (by decide)) dX6_isLetter_17 hP hD hS
    · refine lv_iconst (v := (nI 1)) xh bh dX6_isLetter_12 (by decide) ?_
      refine lv_goto (tgt := 17) xh bh dX6_isLetter_13 (by decide) ?_
      exact hend (nI 1) () _ _ _ _ (xb_ret1 (by first | exact decide_eq_true (by omega) | exact decide_eq_false (by omega))) trivial (vz_bool (by decide)) dX6_isLetter_17 hP hD hS

set_option maxHeartbeats 1000000 in
set_option maxRecDepth 100000 in
theorem ct_X6_isLetterM (l : Launch) (D : va_G) (cI cJ cB cZ cA : ClassId) (c1 : Int32) (hc : c1 = (-1)) : Ct l yX6_isLetter wsX6_isLetter ({ frames := 0, cells := 0, slots := 0, locals := 0 }) D (tysG cI cJ cB cZ cA) [.int c1] [] (fun (_ : Unit) => True) (fun _ => some (.int (ib false))) (fun _ => []) := by
  refine Ct.ofI (cc := cX6_isLetter) (maxL := 1) (by decide) rfl (Nat.le_of_ble_eq_true rfl) ?_
  intro pG eG sG mG aG bG tG cG AG QG ls xh bh hml hown hts hK hP hD hS hA hend hl
  have hl : lv_has ls 1 [(0, .int c1)] := hl
  refine lv_iload_n xh bh dX6_isLetter_0 rfl (lv_at hl 0 rfl) ?_
  refine lv_bipush (v := (nI 97)) xh bh dX6_isLetter_1 (by decide) ?_
  refine lv_icmp_lt (tgt := 16) xh bh dX6_isLetter_3 (by decide) (fun c_3 => ?_) (fun c_3 => ?_)
  · refine lv_iconst (v := (nI 0)) xh bh dX6_isLetter_16 (by decide) ?_
    exact hend (nI 0) () _ _ _ _ (xb_ret0 (by rfl)) trivial (vz_bool (by decide)) dX6_isLetter_17 hP hD hS
  · exact absurd c_3 (by rw [hc]; decide)

set_option maxHeartbeats 1000000 in
set_option maxRecDepth 100000 in
theorem ct_X6_isFigure (l : Launch) (D : va_G) (cI cJ cB cZ cA : ClassId) (c1 : Nat) (hc : c1 < 200) : Ct l yX6_isFigure wsX6_isFigure ({ frames := 0, cells := 0, slots := 0, locals := 0 }) D (tysG cI cJ cB cZ cA) [.int (nI c1)] [] (fun (_ : Unit) => True) (fun _ => some (.int (ib (decide (48 ≤ c1 ∧ c1 ≤ 57))))) (fun _ => []) := by
  refine Ct.ofI (cc := cX6_isFigure) (maxL := 1) (by decide) rfl (Nat.le_of_ble_eq_true rfl) ?_
  intro pG eG sG mG aG bG tG cG AG QG ls xh bh hml hown hts hK hP hD hS hA hend hl
  have hl : lv_has ls 1 [(0, .int (nI c1))] := hl
  refine lv_iload_n xh bh dX6_isFigure_0 rfl (lv_at hl 0 rfl) ?_
  refine lv_bipush (v := (nI 48)) xh bh dX6_isFigure_1 (by decide) ?_
  refine xn_icmp_lt (tgt := 16) xh bh dX6_isFigure_3 (by decide) (by omega) (by omega) (fun c_3 => ?_) (fun c_3 => ?_)
  · refine lv_iconst (v := (nI 0)) xh bh dX6_isFigure_16 (by decide) ?_
    exact hend (nI 0) () _ _ _ _ (xb_ret0 (by first | exact decide_eq_true (by omega) | exact decide_eq_false (by omega))) trivial (vz_bool (by decide)) dX6_isFigure_17 hP hD hS
  · refine lv_iload_n xh bh dX6_isFigure_6 rfl (lv_at hl 0 rfl) ?_
    refine lv_bipush (v := (nI 57)) xh bh dX6_isFigure_7 (by decide) ?_
    refine xn_icmp_gt (tgt := 16) xh bh dX6_isFigure_9 (by decide) (by omega) (by omega) (fun c_9 => ?_) (fun c_9 => ?_)
    · refine lv_iconst (v := (nI 0)) xh bh dX6_isFigure_16 (by decide) ?_
      exact hend (nI 0) () _ _ _ _ (xb_ret0 (by first | exact decide_eq_true (by omega) | exact decide_eq_false (by omega))) trivial (vz_bool (by decide)) dX6_isFigure_17 hP hD hS
    · refine lv_iconst (v := (nI 1)) xh bh dX6_isFigure_12 (by decide) ?_
      refine lv_goto (tgt := 17) xh bh dX6_isFigure_13 (by decide) ?_
      exact hend (nI 1) () _ _ _ _ (xb_ret1 (by first | exact decide_eq_true (by omega) | exact decide_eq_false (by omega))) trivial (vz_bool (by decide)) dX6_isFigure_17 hP hD hS

set_option maxHeartbeats 1000000 in
set_option maxRecDepth 100000 in
theorem ct_X6_isFigureM (l : Launch) (D : va_G) (cI cJ cB cZ cA : ClassId) (c1 : Int32) (hc : c1 = (-1)) : Ct l yX6_isFigure wsX6_isFigure ({ frames := 0, cells := 0, slots := 0, locals := 0 }) D (tysG cI cJ cB cZ cA) [.int c1] [] (fun (_ : Unit) => True) (fun _ => some (.int (ib false))) (fun _ => []) := by
  refine Ct.ofI (cc := cX6_isFigure) (maxL := 1) (by decide) rfl (Nat.le_of_ble_eq_true rfl) ?_
  intro pG eG sG mG aG bG tG cG AG QG ls xh bh hml hown hts hK hP hD hS hA hend hl
  have hl : lv_has ls 1 [(0, .int c1)] := hl
  refine lv_iload_n xh bh dX6_isFigure_0 rfl (lv_at hl 0 rfl) ?_
  refine lv_bipush (v := (nI 48)) xh bh dX6_isFigure_1 (by decide) ?_
  refine lv_icmp_lt (tgt := 16) xh bh dX6_isFigure_3 (by decide) (fun c_3 => ?_) (fun c_3 => ?_)
  · refine lv_iconst (v := (nI 0)) xh bh dX6_isFigure_16 (by decide) ?_
    exact hend (nI 0) () _ _ _ _ (xb_ret0 (by rfl)) trivial (vz_bool (by decide)) dX6_isFigure_17 hP hD hS
  · exact absurd c_3 (by rw [hc]; decide)

set_option maxHeartbeats 1000000 in
set_option maxRecDepth 100000 in
theorem ct_X4_funOfNext (l : Launch) (D : va_G) (cI cJ cB cZ cA : ClassId) (a : Int32) (x : Nat) (n : Nat) (hx : x < 10) (hn : n < 100) : Ct l yX4_funOfNext wsX4_funOfNext ({ frames := 0, cells := 0, slots := 0, locals := 0 }) D (tysG cI cJ cB cZ cA) [.int a, .int (nI x), .int (nI n)] [] (fun (_ : Unit) => True) (fun _ => some (.int (fxI a x n))) (fun _ => []) := by
  refine Ct.ofI (cc := cX4_funOfNext) (maxL := 4) (by decide) rfl (Nat.le_of_ble_eq_true rfl) ?_
  intro pG eG sG mG aG bG tG cG AG QG ls xh bh hml hown hts hK hP hD hS hA hend hl
  have hl : lv_has ls 4 [(0, .int a), (1, .int (nI x)), (2, .int (nI n))] := hl
  refine lv_iload_n xh bh dX4_funOfNext_0 rfl (lv_at hl 1 rfl) ?_
  refine lv_iload_n xh bh dX4_funOfNext_1 rfl (lv_at hl 0 rfl) ?_
  refine lv_icmp_ne (tgt := 9) xh bh dX4_funOfNext_2 (by decide) (fun c_2 => ?_) (fun c_2 => ?_)
  · refine lv_iconst (v := (nI 2)) xh bh dX4_funOfNext_9 (by decide) ?_
    refine lv_istore_n (lv' := [(3, .int (nI 2)), (0, .int a), (1, .int (nI x)), (2, .int (nI n))]) xh bh dX4_funOfNext_10 rfl hl (by decide) rfl (fun ls hl => ?_)
    refine lv_iload_n xh bh dX4_funOfNext_11 rfl (lv_at hl 1 rfl) ?_
    refine lv_bipush (v := (nI 7)) xh bh dX4_funOfNext_12 (by decide) ?_
    refine lv_icmp_ne (tgt := 26) xh bh dX4_funOfNext_14 (by decide) (fun c_14 => ?_) (fun c_14 => ?_)
    · refine lv_iload_n xh bh dX4_funOfNext_26 rfl (lv_at hl 3 rfl) ?_
      refine lv_iconst (v := (nI 2)) xh bh dX4_funOfNext_27 (by decide) ?_
      refine xn_icmp_lt (tgt := 37) xh bh dX4_funOfNext_28 (by decide) (by omega) (by omega) (fun c_28 => ?_) (fun c_28 => ?_)
      · refine lv_iload_n xh bh dX4_funOfNext_37 rfl (lv_at hl 0 rfl) ?_
        exact hend (nI 2) () _ _ _ _ (congrArg (fun z => some (Value.int z)) (by exact fx4 (by first | exact if_pos c_2 | exact if_neg c_2) (by first | exact if_pos (And.intro c_20 c_14) | exact if_neg (fun q => c_14 q.2) | exact if_neg (fun q => c_20 q.1)) (by first | exact if_pos (by omega) | exact if_neg (by omega)) (by decide))) trivial rfl dX4_funOfNext_38 hP hD hS
      · refine lv_iload_n xh bh dX4_funOfNext_31 rfl (lv_at hl 0 rfl) ?_
        refine lv_iconst (v := (nI 4)) xh bh dX4_funOfNext_32 (by decide) ?_
        refine lv_isub xh bh dX4_funOfNext_33 ?_
        refine lv_goto (tgt := 38) xh bh dX4_funOfNext_34 (by decide) ?_
        exact hend ((nI 2) - (nI 4)) () _ _ _ _ (congrArg (fun z => some (Value.int z)) (by exact fx4 (by first | exact if_pos c_2 | exact if_neg c_2) (by first | exact if_pos (And.intro c_20 c_14) | exact if_neg (fun q => c_14 q.2) | exact if_neg (fun q => c_20 q.1)) (by first | exact if_pos (by omega) | exact if_neg (by omega)) (by decide))) trivial rfl dX4_funOfNext_38 hP hD hS
    · refine lv_iload_n xh bh dX4_funOfNext_17 rfl (lv_at hl 2 rfl) ?_
      refine lv_bipush (v := (nI 9)) xh bh dX4_funOfNext_18 (by decide) ?_
      refine xn_icmp_ne (tgt := 26) xh bh dX4_funOfNext_20 (by decide) (by omega) (by omega) (fun c_20 => ?_) (fun c_20 => ?_)
      · refine lv_iload_n xh bh dX4_funOfNext_26 rfl (lv_at hl 3 rfl) ?_
        refine lv_iconst (v := (nI 2)) xh bh dX4_funOfNext_27 (by decide) ?_
        refine xn_icmp_lt (tgt := 37) xh bh dX4_funOfNext_28 (by decide) (by omega) (by omega) (fun c_28 => ?_) (fun c_28 => ?_)
        · refine lv_iload_n xh bh dX4_funOfNext_37 rfl (lv_at hl 0 rfl) ?_
          exact hend (nI 2) () _ _ _ _ (congrArg (fun z => some (Value.int z)) (by exact fx4 (by first | exact if_pos c_2 | exact if_neg c_2) (by first | exact if_pos (And.intro c_20 c_14) | exact if_neg (fun q => c_14 q.2) | exact if_neg (fun q => c_20 q.1)) (by first | exact if_pos (by omega) | exact if_neg (by omega)) (by decide))) trivial rfl dX4_funOfNext_38 hP hD hS
        · refine lv_iload_n xh bh dX4_funOfNext_31 rfl (lv_at hl 0 rfl) ?_
          refine lv_iconst (v := (nI 4)) xh bh dX4_funOfNext_32 (by decide) ?_
          refine lv_isub xh bh dX4_funOfNext_33 ?_
          refine lv_goto (tgt := 38) xh bh dX4_funOfNext_34 (by decide) ?_
          exact hend ((nI 2) - (nI 4)) () _ _ _ _ (congrArg (fun z => some (Value.int z)) (by exact fx4 (by first | exact if_pos c_2 | exact if_neg c_2) (by first | exact if_pos (And.intro c_20 c_14) | exact if_neg (fun q => c_14 q.2) | exact if_neg (fun q => c_20 q.1)) (by first | exact if_pos (by omega) | exact if_neg (by omega)) (by decide))) trivial rfl dX4_funOfNext_38 hP hD hS
      · refine lv_iinc (v := (nI (2 + 5))) (lv' := [(3, .int (nI (2 + 5))), (0, .int a), (1, .int (nI x)), (2, .int (nI n))]) xh bh dX4_funOfNext_23 hl (k := 0) rfl (by exact xn_inc _ _) (by decide) rfl (fun ls hl => ?_)
        refine lv_iload_n xh bh dX4_funOfNext_26 rfl (lv_at hl 3 rfl) ?_
        refine lv_iconst (v := (nI 2)) xh bh dX4_funOfNext_27 (by decide) ?_
        refine xn_icmp_lt (tgt := 37) xh bh dX4_funOfNext_28 (by decide) (by omega) (by omega) (fun c_28 => ?_) (fun c_28 => ?_)
        · refine lv_iload_n xh bh dX4_funOfNext_37 rfl (lv_at hl 0 rfl) ?_
          exact hend (nI (2 + 5)) () _ _ _ _ (congrArg (fun z => some (Value.int z)) (by exact fx4 (by first | exact if_pos c_2 | exact if_neg c_2) (by first | exact if_pos (And.intro c_20 c_14) | exact if_neg (fun q => c_14 q.2) | exact if_neg (fun q => c_20 q.1)) (by first | exact if_pos (by omega) | exact if_neg (by omega)) (by decide))) trivial rfl dX4_funOfNext_38 hP hD hS
        · refine lv_iload_n xh bh dX4_funOfNext_31 rfl (lv_at hl 0 rfl) ?_
          refine lv_iconst (v := (nI 4)) xh bh dX4_funOfNext_32 (by decide) ?_
          refine lv_isub xh bh dX4_funOfNext_33 ?_
          refine lv_goto (tgt := 38) xh bh dX4_funOfNext_34 (by decide) ?_
          exact hend ((nI (2 + 5)) - (nI 4)) () _ _ _ _ (congrArg (fun z => some (Value.int z)) (by exact fx4 (by first | exact if_pos c_2 | exact if_neg c_2) (by first | exact if_pos (And.intro c_20 c_14) | exact if_neg (fun q => c_14 q.2) | exact if_neg (fun q => c_20 q.1)) (by first | exact if_pos (by omega) | exact if_neg (by omega)) (by decide))) trivial rfl dX4_funOfNext_38 hP hD hS
  · refine lv_iconst (v := (nI 0)) xh bh dX4_funOfNext_5 (by decide) ?_
    refine lv_goto (tgt := 10) xh bh dX4_funOfNext_6 (by decide) ?_
    refine lv_istore_n (lv' := [(3, .int (nI 0)), (0, .int a), (1, .int (nI x)), (2, .int (nI n))]) xh bh dX4_funOfNext_10 rfl hl (by decide) rfl (fun ls hl => ?_)
    refine lv_iload_n xh bh dX4_funOfNext_11 rfl (lv_at hl 1 rfl) ?_
    refine lv_bipush (v := (nI 7)) xh bh dX4_funOfNext_12 (by decide) ?_
    refine lv_icmp_ne (tgt := 26) xh bh dX4_funOfNext_14 (by decide) (fun c_14 => ?_) (fun c_14 => ?_)
    · refine lv_iload_n xh bh dX4_funOfNext_26 rfl (lv_at hl 3 rfl) ?_
      refine lv_iconst (v := (nI 2)) xh bh dX4_funOfNext_27 (by decide) ?_
      refine xn_icmp_lt (tgt := 37) xh bh dX4_funOfNext_28 (by decide) (by omega) (by omega) (fun c_28 => ?_) (fun c_28 => ?_)
      · refine lv_iload_n xh bh dX4_funOfNext_37 rfl (lv_at hl 0 rfl) ?_
        exact hend (nI 0) () _ _ _ _ (congrArg (fun z => some (Value.int z)) (by exact fx4 (by first | exact if_pos c_2 | exact if_neg c_2) (by first | exact if_pos (And.intro c_20 c_14) | exact if_neg (fun q => c_14 q.2) | exact if_neg (fun q => c_20 q.1)) (by first | exact if_pos (by omega) | exact if_neg (by omega)) (by decide))) trivial rfl dX4_funOfNext_38 hP hD hS
      · refine lv_iload_n xh bh dX4_funOfNext_31 rfl (lv_at hl 0 rfl) ?_
        refine lv_iconst (v := (nI 4)) xh bh dX4_funOfNext_32 (by decide) ?_
        refine lv_isub xh bh dX4_funOfNext_33 ?_
        refine lv_goto (tgt := 38) xh bh dX4_funOfNext_34 (by decide) ?_
        exact hend ((nI 0) - (nI 4)) () _ _ _ _ (congrArg (fun z => some (Value.int z)) (by exact fx4 (by first | exact if_pos c_2 | exact if_neg c_2) (by first | exact if_pos (And.intro c_20 c_14) | exact if_neg (fun q => c_14 q.2) | exact if_neg (fun q => c_20 q.1)) (by first | exact if_pos (by omega) | exact if_neg (by omega)) (by decide))) trivial rfl dX4_funOfNext_38 hP hD hS
    · refine lv_iload_n xh bh dX4_funOfNext_17 rfl (lv_at hl 2 rfl) ?_
      refine lv_bipush (v := (nI 9)) xh bh dX4_funOfNext_18 (by decide) ?_
      refine xn_icmp_ne (tgt := 26) xh bh dX4_funOfNext_20 (by decide) (by omega) (by omega) (fun c_20 => ?_) (fun c_20 => ?_)
      · refine lv_iload_n xh bh dX4_funOfNext_26 rfl (lv_at hl 3 rfl) ?_
        refine lv_iconst (v := (nI 2)) xh bh dX4_funOfNext_27 (by decide) ?_
        refine xn_icmp_lt (tgt := 37) xh bh dX4_funOfNext_28 (by decide) (by omega) (by omega) (fun c_28 => ?_) (fun c_28 => ?_)
        · refine lv_iload_n xh bh dX4_funOfNext_37 rfl (lv_at hl 0 rfl) ?_
          exact hend (nI 0) () _ _ _ _ (congrArg (fun z => some (Value.int z)) (by exact fx4 (by first | exact if_pos c_2 | exact if_neg c_2) (by first | exact if_pos (And.intro c_20 c_14) | exact if_neg (fun q => c_14 q.2) | exact if_neg (fun q => c_20 q.1)) (by first | exact if_pos (by omega) | exact if_neg (by omega)) (by decide))) trivial rfl dX4_funOfNext_38 hP hD hS
        · refine lv_iload_n xh bh dX4_funOfNext_31 rfl (lv_at hl 0 rfl) ?_
          refine lv_iconst (v := (nI 4)) xh bh dX4_funOfNext_32 (by decide) ?_
          refine lv_isub xh bh dX4_funOfNext_33 ?_
          refine lv_goto (tgt := 38) xh bh dX4_funOfNext_34 (by decide) ?_
          exact hend ((nI 0) - (nI 4)) () _ _ _ _ (congrArg (fun z => some (Value.int z)) (by exact fx4 (by first | exact if_pos c_2 | exact if_neg c_2) (by first | exact if_pos (And.intro c_20 c_14) | exact if_neg (fun q => c_14 q.2) | exact if_neg (fun q => c_20 q.1)) (by first | exact if_pos (by omega) | exact if_neg (by omega)) (by decide))) trivial rfl dX4_funOfNext_38 hP hD hS
      · refine lv_iinc (v := (nI (0 + 5))) (lv' := [(3, .int (nI (0 + 5))), (0, .int a), (1, .int (nI x)), (2, .int (nI n))]) xh bh dX4_funOfNext_23 hl (k := 0) rfl (by exact xn_inc _ _) (by decide) rfl (fun ls hl => ?_)
        refine lv_iload_n xh bh dX4_funOfNext_26 rfl (lv_at hl 3 rfl) ?_
        refine lv_iconst (v := (nI 2)) xh bh dX4_funOfNext_27 (by decide) ?_
        refine xn_icmp_lt (tgt := 37) xh bh dX4_funOfNext_28 (by decide) (by omega) (by omega) (fun c_28 => ?_) (fun c_28 => ?_)
        · refine lv_iload_n xh bh dX4_funOfNext_37 rfl (lv_at hl 0 rfl) ?_
          exact hend (nI (0 + 5)) () _ _ _ _ (congrArg (fun z => some (Value.int z)) (by exact fx4 (by first | exact if_pos c_2 | exact if_neg c_2) (by first | exact if_pos (And.intro c_20 c_14) | exact if_neg (fun q => c_14 q.2) | exact if_neg (fun q => c_20 q.1)) (by first | exact if_pos (by omega) | exact if_neg (by omega)) (by decide))) trivial rfl dX4_funOfNext_38 hP hD hS
        · refine lv_iload_n xh bh dX4_funOfNext_31 rfl (lv_at hl 0 rfl) ?_
          refine lv_iconst (v := (nI 4)) xh bh dX4_funOfNext_32 (by decide) ?_
          refine lv_isub xh bh dX4_funOfNext_33 ?_
          refine lv_goto (tgt := 38) xh bh dX4_funOfNext_34 (by decide) ?_
          exact hend ((nI (0 + 5)) - (nI 4)) () _ _ _ _ (congrArg (fun z => some (Value.int z)) (by exact fx4 (by first | exact if_pos c_2 | exact if_neg c_2) (by first | exact if_pos (And.intro c_20 c_14) | exact if_neg (fun q => c_14 q.2) | exact if_neg (fun q => c_20 q.1)) (by first | exact if_pos (by omega) | exact if_neg (by omega)) (by decide))) trivial rfl dX4_funOfNext_38 hP hD hS

set_option maxHeartbeats 1000000 in
set_option maxRecDepth 100000 in
theorem ct_X4_funOf (l : Launch) (D : va_G) (cI cJ cB cZ cA : ClassId) (t : List Nat) (ht : okT t) : Ct l yX4_funOf wsX4_funOf ({ frames := 1, cells := 0, slots := 0, locals := 23 }) D (tysG cI cJ cB cZ cA) [.long (eC t)] [] (fun (_ : Unit) => True) (fun _ => some (.int (funT t))) (fun _ => []) := by
  refine Ct.ofI (cc := cX4_funOf) (maxL := 8) (by decide) rfl (Nat.le_of_ble_eq_true rfl) ?_
  intro pG eG sG mG aG bG tG cG AG QG ls xh bh hml hown hts hK hP hD hS hA hend hl
  have hl : lv_has ls 8 [(0, .long (eC t))] := hl
  refine lv_iconst (v := (nI 0)) xh bh dX4_funOf_0 (by decide) ?_
  refine lv_istore_n (lv' := [(2, .int (nI 0)), (0, .long (eC t))]) xh bh dX4_funOf_1 rfl hl (by decide) rfl (fun ls hl => ?_)
  refine lv_iconst (v := (-1)) xh bh dX4_funOf_2 (by decide) ?_
  refine lv_istore_n (lv' := [(3, .int (-1)), (2, .int (nI 0)), (0, .long (eC t))]) xh bh dX4_funOf_3 rfl hl (by decide) rfl (fun ls hl => ?_)
  refine lv_lconst (v := lN 0) xh bh dX4_funOf_4 (by decide) ?_
  refine lv_lstore (lv' := [(4, .long (lN 0)), (3, .int (-1)), (2, .int (nI 0)), (0, .long (eC t))]) xh bh dX4_funOf_5 hl (by decide) rfl (fun ls hl => ?_)
  refine lv_iconst (v := (nI 0)) xh bh dX4_funOf_7 (by decide) ?_
  refine lv_istore (lv' := [(6, .int (nI 0)), (4, .long (lN 0)), (3, .int (-1)), (2, .int (nI 0)), (0, .long (eC t))]) xh bh dX4_funOf_8 hl (by decide) rfl (fun ls hl => ?_)
  have cut_10 : ∀ (n_10 : Nat), ∀ (i : Nat), ∀ (s1 : Int32), ∀ (a : Int32), ∀ (w : Nat), (i ≤ t.length) → (s1 = fnI t i) → (a = ahI t i) → (w = tmN t i) → (t.length - i) < n_10 → ∀ (H : Heap) (locs : List Loc) (ls : Array Slot), va_P D vwCl [] H → va_D AG [] → va_S AG sG.heap H locs → lv_has ls 8 [(0, .long (eC t)), (2, .int s1), (3, .int a), (4, .long (lN w)), (6, .int (nI i))] → W pG l eG ({ frames := 1, cells := 0, slots := 0, locals := 23 }) sG mG aG bG tG cG H locs 0 0 QG (F0 mG 10 ls []) := by
    intro n_10
    induction n_10 with
    | zero =>
      intro i s1 a w hi hs ha hw hmu
      exact absurd hmu (Nat.not_lt_zero _)
    | succ n_10 ih_10 =>
      intro i s1 a w hi hs ha hw hmu H locs ls hP hD hS hl
      refine lv_iload xh bh dX4_funOf_10 (lv_at hl 4 rfl) ?_
      refine lv_lload_n xh bh dX4_funOf_12 rfl (lv_at hl 0 rfl) ?_
      refine Ct.callS0 (rest := [.int (nI i)]) xh bh hml hown hts hK hP hS hA (ct_X7_sizeOf l D cI cJ cB cZ cA t (by first | assumption | exact okT_nil)) (va_cwS 1 hts gX4_funOf_X7_sizeOf rfl rfl rfl (by decide +kernel) ⟨Nat.le_of_ble_eq_true rfl, Nat.le_of_ble_eq_true rfl⟩) rfl rfl hl.1 (Nat.le_of_ble_eq_true rfl) dX4_funOf_13 ⟨Nat.le_refl _, Nat.le_refl _⟩ (fun _ H locs _ hP hS => ?_)
      refine W.eq (g2 := F0 mG 16 ls [.int (nI t.length), .int (nI i)]) rfl ?_
      refine xn_icmp_ge (tgt := 67) xh bh dX4_funOf_16 (by decide) (by have := ht.1; omega) (by have := ht.1; omega) (fun c_16 => ?_) (fun c_16 => ?_)
      · refine lv_iload_n xh bh dX4_funOf_67 rfl (lv_at hl 2 rfl) ?_
        refine lv_bipush (v := (nI 9)) xh bh dX4_funOf_68 (by decide) ?_
        refine lv_icmp_ne (tgt := 79) xh bh dX4_funOf_70 (by decide) (fun c_70 => ?_) (fun c_70 => ?_)
        · refine lv_iload_n xh bh dX4_funOf_79 rfl (lv_at hl 1 rfl) ?_
          exact hend s1 () _ _ _ _ (congrArg (fun z => some (Value.int z)) (by rw [funT_end ht, show t.length = i by omega, ← hs, ← ha]; first | rw [if_pos c_70] | (rw [if_neg c_70]; exact Int32.add_zero _))) trivial rfl dX4_funOf_80 hP hD hS
        · refine lv_iload_n xh bh dX4_funOf_73 rfl (lv_at hl 1 rfl) ?_
          refine lv_iconst (v := (nI 3)) xh bh dX4_funOf_74 (by decide) ?_
          refine lv_iadd xh bh dX4_funOf_75 ?_
          refine lv_goto (tgt := 80) xh bh dX4_funOf_76 (by decide) ?_
          exact hend (s1 + (nI 3)) () _ _ _ _ (congrArg (fun z => some (Value.int z)) (by rw [funT_end ht, show t.length = i by omega, ← hs, ← ha]; first | rw [if_pos c_70] | (rw [if_neg c_70]; exact Int32.add_zero _))) trivial rfl dX4_funOf_80 hP hD hS
      · refine lv_lload_n xh bh dX4_funOf_19 rfl (lv_at hl 0 rfl) ?_
        refine lv_iload xh bh dX4_funOf_20 (lv_at hl 4 rfl) ?_
        refine Ct.callS0 (rest := []) xh bh hml hown hts hK hP hS hA (ct_X7_partIn l D cI cJ cB cZ cA t i (by first | assumption | exact okT_nil) (by have := ht.1; omega)) (va_cwS 2 hts gX4_funOf_X7_partIn rfl rfl rfl (by decide +kernel) ⟨Nat.le_of_ble_eq_true rfl, Nat.le_of_ble_eq_true rfl⟩) rfl rfl hl.1 (Nat.le_of_ble_eq_true rfl) dX4_funOf_22 ⟨Nat.le_refl _, Nat.le_refl _⟩ (fun _ H locs _ hP hS => ?_)
        refine W.eq (g2 := F0 mG 25 ls [.int (nI (t.getD i 0))]) rfl ?_
        refine lv_istore (lv' := [(7, .int (nI (t.getD i 0))), (0, .long (eC t)), (2, .int s1), (3, .int a), (4, .long (lN w)), (6, .int (nI i))]) xh bh dX4_funOf_25 hl (by decide) rfl (fun ls hl => ?_)
        refine lv_iload_n xh bh dX4_funOf_27 rfl (lv_at hl 2 rfl) ?_
        refine lv_iload_n xh bh dX4_funOf_28 rfl (lv_at hl 3 rfl) ?_
        refine lv_iload xh bh dX4_funOf_29 (lv_at hl 0 rfl) ?_
        refine lv_lload xh bh dX4_funOf_31 (lv_at hl 4 rfl) ?_
        refine lv_iconst (v := (nI 4)) xh bh dX4_funOf_33 (by decide) ?_
        refine lv_iload xh bh dX4_funOf_34 (lv_at hl 0 rfl) ?_
        refine xn_imul xh bh dX4_funOf_36 ?_
        refine xq_lushr xh bh dX4_funOf_37 (by rw [hw]; have := tmN_lt (t := t) (show i ≤ 10 by have := ht.1; omega) (fun j => ht.getD j); omega) (by have := ht.getD i; omega) ?_
        refine xq_l2i xh bh dX4_funOf_38 ?_
        refine lv_bipush (v := (nI 15)) xh bh dX4_funOf_39 (by decide) ?_
        refine xn_iand xh bh dX4_funOf_41 ?_
        refine Ct.callS0 (rest := [.int s1]) xh bh hml hown hts hK hP hS hA (ct_X4_funOfNext l D cI cJ cB cZ cA a (t.getD i 0) ((w / 2 ^ (4 * (t.getD i 0))) &&& 15) (by exact ht.getD i) (by have := Nat.and_le_right (n := w / 2 ^ (4 * t.getD i 0)) (m := 15); omega)) (va_cwS 3 hts gX4_funOf_X4_funOfNext rfl rfl rfl (by decide +kernel) ⟨Nat.le_of_ble_eq_true rfl, Nat.le_of_ble_eq_true rfl⟩) rfl rfl hl.1 (Nat.le_of_ble_eq_true rfl) dX4_funOf_42 ⟨Nat.le_refl _, Nat.le_refl _⟩ (fun _ H locs _ hP hS => ?_)
        refine W.eq (g2 := F0 mG 45 ls [.int (fxI a (t.getD i 0) ((w / 2 ^ (4 * (t.getD i 0))) &&& 15)), .int s1]) rfl ?_
        refine lv_iadd xh bh dX4_funOf_45 ?_
        refine lv_istore_n (lv' := [(2, .int (s1 + (fxI a (t.getD i 0) ((w / 2 ^ (4 * (t.getD i 0))) &&& 15)))), (7, .int (nI (t.getD i 0))), (0, .long (eC t)), (3, .int a), (4, .long (lN w)), (6, .int (nI i))]) xh bh dX4_funOf_46 rfl hl (by decide) rfl (fun ls hl => ?_)
        refine lv_lload xh bh dX4_funOf_47 (lv_at hl 4 rfl) ?_
        refine lv_lconst (v := lN 1) xh bh dX4_funOf_49 (by decide) ?_
        refine lv_iconst (v := (nI 4)) xh bh dX4_funOf_50 (by decide) ?_
        refine lv_iload xh bh dX4_funOf_51 (lv_at hl 1 rfl) ?_
        refine xn_imul xh bh dX4_funOf_53 ?_
        refine xq_lshl xh bh dX4_funOf_54 (by have := ht.getD i; omega) ?_
        refine xq_ladd xh bh dX4_funOf_55 ?_
        refine lv_lstore (lv' := [(4, .long (lN (w + (1 * 2 ^ (4 * (t.getD i 0)))))), (2, .int (s1 + (fxI a (t.getD i 0) ((w / 2 ^ (4 * (t.getD i 0))) &&& 15)))), (7, .int (nI (t.getD i 0))), (0, .long (eC t)), (3, .int a), (6, .int (nI i))]) xh bh dX4_funOf_56 hl (by decide) rfl (fun ls hl => ?_)
        refine lv_iload xh bh dX4_funOf_58 (lv_at hl 2 rfl) ?_
        refine lv_istore_n (lv' := [(3, .int (nI (t.getD i 0))), (4, .long (lN (w + (1 * 2 ^ (4 * (t.getD i 0)))))), (2, .int (s1 + (fxI a (t.getD i 0) ((w / 2 ^ (4 * (t.getD i 0))) &&& 15)))), (7, .int (nI (t.getD i 0))), (0, .long (eC t)), (6, .int (nI i))]) xh bh dX4_funOf_60 rfl hl (by decide) rfl (fun ls hl => ?_)
        refine lv_iinc (v := (nI (i + 1))) (lv' := [(6, .int (nI (i + 1))), (3, .int (nI (t.getD i 0))), (4, .long (lN (w + (1 * 2 ^ (4 * (t.getD i 0)))))), (2, .int (s1 + (fxI a (t.getD i 0) ((w / 2 ^ (4 * (t.getD i 0))) &&& 15)))), (7, .int (nI (t.getD i 0))), (0, .long (eC t))]) xh bh dX4_funOf_61 hl (k := 5) rfl (by exact xn_inc _ _) (by decide) rfl (fun ls hl => ?_)
        refine lv_goto (tgt := 10) xh bh dX4_funOf_64 (by decide) ?_
        exact ih_10 (i + 1) (s1 + (fxI a (t.getD i 0) ((w / 2 ^ (4 * (t.getD i 0))) &&& 15))) (nI (t.getD i 0)) (w + (1 * 2 ^ (4 * (t.getD i 0)))) (by omega) (by rw [hs, ha, fnI_fx]; exact congrArg (fun z => fnI t i + fxI (ahI t i) (t.getD i 0) z) (by rw [hw, pw4, and15]; exact tmN_digit ht.getD (ht.getD i) (by have := ht.1; omega))) (by rfl) (by rw [hw, Nat.one_mul, pw4]; rfl) (by omega) _ _ ls hP hD hS (lv_sub hl [5, 3, 1, 2, 0] rfl)
  exact cut_10 (t.length - 0 + 1) 0 (nI 0) (-1) 0 (by exact Nat.zero_le _) (by rfl) (by rfl) (by rfl) (Nat.lt_succ_self _) _ _ ls hP hD hS (lv_sub hl [4, 3, 2, 1, 0] rfl)
