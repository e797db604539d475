-- rows laid by wip/whole/gen.py
set_option maxHeartbeats 1000000 in
set_option maxRecDepth 100000 in
theorem ct_X3_taleOf (l : Launch) (D : va_G) (cI cJ cB cZ cA : ClassId) (h : Nat → Nat) (T : Nat → List Nat) (row : List Nat) (hc : Nat) (un : Nat) (k : Nat) (hk : k ≤ 7) : Ct l yX3_taleOf wsX3_taleOf ({ frames := 2, cells := 0, slots := 0, locals := 41 }) D (tysG cI cJ cB cZ cA) [.ref (h 0), .int (nI k)] [(h 0, .inr (2, [.ref (h 1), .ref (h 2), .ref (h 3), .ref (h 4), .ref (h 5), .ref (h 6), .ref (h 7), .long (eC row), .int (nI hc), .int (nI un)])), (h 1, .inl (cJ, 8, .inr (.inl (fC T))))] (fun (_ : Unit) => True) (fun _ => some (.long (eC (T k)))) (fun _ => [(h 0, .inr (2, [.ref (h 1), .ref (h 2), .ref (h 3), .ref (h 4), .ref (h 5), .ref (h 6), .ref (h 7), .long (eC row), .int (nI hc), .int (nI un)])), (h 1, .inl (cJ, 8, .inr (.inl (fC T))))]) := by
  refine Ct.ofL (cc := cX3_taleOf) (maxL := 2) (by decide) rfl (Nat.le_of_ble_eq_true rfl) ?_
  intro pG eG sG mG aG bG tG cG AG QG ls xh bh hml hown hts hK hP hD hS hA hend hl
  have hl : lv_has ls 2 [(0, .ref (h 0)), (1, .int (nI k))] := hl
  refine lv_iload_n xh bh dX3_taleOf_0 rfl (lv_at hl 1 rfl) ?_
  refine Ct.callN0 (rest := []) xh bh hml hown hts hK hP hS hA (ct_X8_isBranch l D cI cJ cB cZ cA (nI k) ) ⟨va_cnB 1 hts gX3_taleOf_X8_isBranch_n62 rfl rfl rfl (hK.2.at 1 rfl) (hts _ (List.mem_of_getElem? (i := 3) rfl)) (by decide +kernel) ⟨Nat.le_of_ble_eq_true rfl, Nat.le_of_ble_eq_true rfl⟩, hts _ (List.mem_of_getElem? (i := 2) rfl), trivial⟩ rfl rfl hl.1 (Nat.le_of_ble_eq_true rfl) dX3_taleOf_1 ⟨Nat.le_refl _, Nat.le_refl _⟩ (fun _ H locs _ hP hS => ?_)
  refine W.eq (g2 := F0 mG 4 ls [.int (ib (upB (nI k) 7))]) rfl ?_
  refine xb_if_eq (tgt := 16) xh bh dX3_taleOf_4 (by decide) (fun c_4 => ?_) (fun c_4 => ?_)
  · exact absurd c_4 (by rw [upB_nI (by omega) (by decide), decide_eq_true (show _ by omega)]; decide)
  · refine lv_aload_n xh bh dX3_taleOf_7 rfl (lv_at hl 0 rfl) ?_
    refine va_get (D := D) (ci := 2) (v := .ref (h 1)) (C := RX3) (T := TX3) (N := 10) xh bh hts (fun _ h => List.mem_cons_of_mem _ (List.mem_append_right _ (h))) hown hK.1 hP 0 rfl rfl 0 (by decide) (hts _ (List.mem_of_getElem? (i := 1) rfl)) (fun _ h9 => h9) rfl dX3_taleOf_8 ?_
    refine lv_iload_n xh bh dX3_taleOf_11 rfl (lv_at hl 1 rfl) ?_
    refine xa_lald xh bh hK.1 hP 1 1 rfl rfl (by omega) (by omega) dX3_taleOf_12 ?_
    refine W.eq (g2 := F0 mG 13 ls [.long (eC (T k))]) rfl ?_
    refine lv_goto (tgt := 17) xh bh dX3_taleOf_13 (by decide) ?_
    exact hend (eC (T k)) () _ _ _ _ (congrArg (fun z => some (Value.long (eC z))) (by first | rfl | omega | (simp [*]; done))) trivial dX3_taleOf_17 hP hD hS

set_option maxHeartbeats 1000000 in
set_option maxRecDepth 100000 in
theorem ct_X3_parentOf (l : Launch) (D : va_G) (cI cJ cB cZ cA : ClassId) (h : Nat → Nat) (P : Nat → Int32) (row : List Nat) (hc : Nat) (un : Nat) (k : Nat) (hk : k ≤ 7) : Ct l yX3_parentOf wsX3_parentOf ({ frames := 2, cells := 0, slots := 0, locals := 41 }) D (tysG cI cJ cB cZ cA) [.ref (h 0), .int (nI k)] [(h 0, .inr (2, [.ref (h 1), .ref (h 2), .ref (h 3), .ref (h 4), .ref (h 5), .ref (h 6), .ref (h 7), .long (eC row), .int (nI hc), .int (nI un)])), (h 2, .inl (cI, 8, .inl P))] (fun (_ : Unit) => True) (fun _ => some (.int (P k))) (fun _ => [(h 0, .inr (2, [.ref (h 1), .ref (h 2), .ref (h 3), .ref (h 4), .ref (h 5), .ref (h 6), .ref (h 7), .long (eC row), .int (nI hc), .int (nI un)])), (h 2, .inl (cI, 8, .inl P))]) := by
  refine Ct.ofI (cc := cX3_parentOf) (maxL := 2) (by decide) rfl (Nat.le_of_ble_eq_true rfl) ?_
  intro pG eG sG mG aG bG tG cG AG QG ls xh bh hml hown hts hK hP hD hS hA hend hl
  have hl : lv_has ls 2 [(0, .ref (h 0)), (1, .int (nI k))] := hl
  refine lv_iload_n xh bh dX3_parentOf_0 rfl (lv_at hl 1 rfl) ?_
  refine Ct.callN0 (rest := []) xh bh hml hown hts hK hP hS hA (ct_X8_isBranch l D cI cJ cB cZ cA (nI k) ) ⟨va_cnB 1 hts gX3_parentOf_X8_isBranch_n62 rfl rfl rfl (hK.2.at 1 rfl) (hts _ (List.mem_of_getElem? (i := 3) rfl)) (by decide +kernel) ⟨Nat.le_of_ble_eq_true rfl, Nat.le_of_ble_eq_true rfl⟩, hts _ (List.mem_of_getElem? (i := 2) rfl), trivial⟩ rfl rfl hl.1 (Nat.le_of_ble_eq_true rfl) dX3_parentOf_1 ⟨Nat.le_refl _, Nat.le_refl _⟩ (fun _ H locs _ hP hS => ?_)
  refine W.eq (g2 := F0 mG 4 ls [.int (ib (upB (nI k) 7))]) rfl ?_
  refine xb_if_eq (tgt := 16) xh bh dX3_parentOf_4 (by decide) (fun c_4 => ?_) (fun c_4 => ?_)
  · exact absurd c_4 (by rw [upB_nI (by omega) (by decide), decide_eq_true (show _ by omega)]; decide)
  · refine lv_aload_n xh bh dX3_parentOf_7 rfl (lv_at hl 0 rfl) ?_
    refine va_get (D := D) (ci := 2) (v := .ref (h 2)) (C := RX3) (T := TX3) (N := 10) xh bh hts (fun _ h => List.mem_cons_of_mem _ (List.mem_append_right _ (h))) hown hK.1 hP 0 rfl rfl 1 (by decide) (hts _ (List.mem_of_getElem? (i := 1) rfl)) (fun _ h9 => h9) rfl dX3_parentOf_8 ?_
    refine lv_iload_n xh bh dX3_parentOf_11 rfl (lv_at hl 1 rfl) ?_
    refine xa_iald xh bh hK.1 hP 1 0 rfl rfl (by omega) (by omega) dX3_parentOf_12 ?_
    refine lv_goto (tgt := 17) xh bh dX3_parentOf_13 (by decide) ?_
    exact hend (P k) () _ _ _ _ (congrArg (fun z => some (Value.int z)) (by first | rfl | omega | (simp [*]; done))) trivial rfl dX3_parentOf_17 hP hD hS

set_option maxHeartbeats 1000000 in
set_option maxRecDepth 100000 in
theorem ct_X3_put (l : Launch) (D : va_G) (cI cJ cB cZ cA : ClassId) (h : Nat → Nat) (T : Nat → List Nat) (P : Nat → Int32) (row : List Nat) (hc : Nat) (un : Nat) (k : Nat) (t : List Nat) (q : Int32) (hk : k ≤ 7) : Ct l yX3_put wsX3_put ({ frames := 2, cells := 0, slots := 0, locals := 41 }) D (tysG cI cJ cB cZ cA) [.ref (h 0), .int (nI k), .long (eC t), .int q] [(h 0, .inr (2, [.ref (h 1), .ref (h 2), .ref (h 3), .ref (h 4), .ref (h 5), .ref (h 6), .ref (h 7), .long (eC row), .int (nI hc), .int (nI un)])), (h 1, .inl (cJ, 8, .inr (.inl (fC T)))), (h 2, .inl (cI, 8, .inl P))] (fun (_ : Unit) => True) (fun _ => none) (fun _ => [(h 0, .inr (2, [.ref (h 1), .ref (h 2), .ref (h 3), .ref (h 4), .ref (h 5), .ref (h 6), .ref (h 7), .long (eC row), .int (nI hc), .int (nI un)])), (h 1, .inl (cJ, 8, .inr (.inl (fC (va_up T k t))))), (h 2, .inl (cI, 8, .inl (upd P k q)))]) := by
  refine Ct.ofV (cc := cX3_put) (maxL := 5) (by decide) rfl (Nat.le_of_ble_eq_true rfl) ?_
  intro pG eG sG mG aG bG tG cG AG QG ls xh bh hml hown hts hK hP hD hS hA hend hl
  have hl : lv_has ls 5 [(0, .ref (h 0)), (1, .int (nI k)), (2, .long (eC t)), (4, .int q)] := hl
  refine lv_iload_n xh bh dX3_put_0 rfl (lv_at hl 1 rfl) ?_
  refine Ct.callN0 (rest := []) xh bh hml hown hts hK hP hS hA (ct_X8_isBranch l D cI cJ cB cZ cA (nI k) ) ⟨va_cnB 1 hts gX3_put_X8_isBranch_n62 rfl rfl rfl (hK.2.at 1 rfl) (hts _ (List.mem_of_getElem? (i := 4) rfl)) (by decide +kernel) ⟨Nat.le_of_ble_eq_true rfl, Nat.le_of_ble_eq_true rfl⟩, hts _ (List.mem_of_getElem? (i := 3) rfl), trivial⟩ rfl rfl hl.1 (Nat.le_of_ble_eq_true rfl) dX3_put_1 ⟨Nat.le_refl _, Nat.le_refl _⟩ (fun _ H locs _ hP hS => ?_)
  refine W.eq (g2 := F0 mG 4 ls [.int (ib (upB (nI k) 7))]) rfl ?_
  refine xb_if_eq (tgt := 22) xh bh dX3_put_4 (by decide) (fun c_4 => ?_) (fun c_4 => ?_)
  · exact absurd c_4 (by rw [upB_nI (by omega) (by decide), decide_eq_true (show _ by omega)]; decide)
  · refine lv_aload_n xh bh dX3_put_7 rfl (lv_at hl 0 rfl) ?_
    refine va_get (D := D) (ci := 2) (v := .ref (h 1)) (C := RX3) (T := TX3) (N := 10) xh bh hts (fun _ h => List.mem_cons_of_mem _ (List.mem_append_right _ (h))) hown hK.1 hP 0 rfl rfl 0 (by decide) (hts _ (List.mem_of_getElem? (i := 1) rfl)) (fun _ h9 => h9) rfl dX3_put_8 ?_
    refine lv_iload_n xh bh dX3_put_11 rfl (lv_at hl 1 rfl) ?_
    refine lv_lload_n xh bh dX3_put_12 rfl (lv_at hl 2 rfl) ?_
    refine xc_last xh bh hK.1 hP hD hS 1 1 rfl rfl (by omega) (by omega) dX3_put_13 (fun H locs hP hD hS => ?_)
    have hP : va_P D vwCl [(h 0, .inr (2, [.ref (h 1), .ref (h 2), .ref (h 3), .ref (h 4), .ref (h 5), .ref (h 6), .ref (h 7), .long (eC row), .int (nI hc), .int (nI un)])), (h 1, .inl (cJ, 8, .inr (.inl (fC (va_up T k t))))), (h 2, .inl (cI, 8, .inl P))] H := hP
    have hD : va_D AG [(h 0, .inr (2, [.ref (h 1), .ref (h 2), .ref (h 3), .ref (h 4), .ref (h 5), .ref (h 6), .ref (h 7), .long (eC row), .int (nI hc), .int (nI un)])), (h 1, .inl (cJ, 8, .inr (.inl (fC (va_up T k t))))), (h 2, .inl (cI, 8, .inl P))] := hD
    refine lv_aload_n xh bh dX3_put_14 rfl (lv_at hl 0 rfl) ?_
    refine va_get (D := D) (ci := 2) (v := .ref (h 2)) (C := RX3) (T := TX3) (N := 10) xh bh hts (fun _ h => List.mem_cons_of_mem _ (List.mem_append_right _ (h))) hown hK.1 hP 0 rfl rfl 1 (by decide) (hts _ (List.mem_of_getElem? (i := 2) rfl)) (fun _ h9 => h9) rfl dX3_put_15 ?_
    refine lv_iload_n xh bh dX3_put_18 rfl (lv_at hl 1 rfl) ?_
    refine lv_iload xh bh dX3_put_19 (lv_at hl 3 rfl) ?_
    refine xa_iast xh bh hK.1 hP hD hS 2 0 rfl rfl (by omega) (by omega) dX3_put_21 (fun H locs hP hD hS => ?_)
    have hP : va_P D vwCl [(h 0, .inr (2, [.ref (h 1), .ref (h 2), .ref (h 3), .ref (h 4), .ref (h 5), .ref (h 6), .ref (h 7), .long (eC row), .int (nI hc), .int (nI un)])), (h 1, .inl (cJ, 8, .inr (.inl (fC (va_up T k t))))), (h 2, .inl (cI, 8, .inl (upd P k q)))] H := hP
    have hD : va_D AG [(h 0, .inr (2, [.ref (h 1), .ref (h 2), .ref (h 3), .ref (h 4), .ref (h 5), .ref (h 6), .ref (h 7), .long (eC row), .int (nI hc), .int (nI un)])), (h 1, .inl (cJ, 8, .inr (.inl (fC (va_up T k t))))), (h 2, .inl (cI, 8, .inl (upd P k q)))] := hD
    exact hend () _ _ _ _ rfl trivial dX3_put_22 hP hD hS

set_option maxHeartbeats 1000000 in
set_option maxRecDepth 100000 in
theorem ct_X3_forgetOldest (l : Launch) (D : va_G) (cI cJ cB cZ cA : ClassId) (h : Nat → Nat) (ub : Nat → Nat) (ut : Nat → List Nat) (up : Nat → Int32) (row : List Nat) (hc : Nat) (un : Nat) : Ct l yX3_forgetOldest wsX3_forgetOldest ({ frames := 1, cells := 0, slots := 0, locals := 60 }) D (tysG cI cJ cB cZ cA) [.ref (h 0)] [(h 0, .inr (2, [.ref (h 1), .ref (h 2), .ref (h 3), .ref (h 4), .ref (h 5), .ref (h 6), .ref (h 7), .long (eC row), .int (nI hc), .int (nI un)])), (h 5, .inl (cI, 8, .inl (fN ub))), (h 6, .inl (cJ, 8, .inr (.inl (fC ut)))), (h 7, .inl (cI, 8, .inl up))] (fun (_ : Unit) => True) (fun _ => none) (fun _ => [(h 0, .inr (2, [.ref (h 1), .ref (h 2), .ref (h 3), .ref (h 4), .ref (h 5), .ref (h 6), .ref (h 7), .long (eC row), .int (nI hc), .int (nI 7)])), (h 5, .inl (cI, 8, .inl (fN (va_cpy ub ub 1 0 7)))), (h 6, .inl (cJ, 8, .inr (.inl (fC (va_cpy ut ut 1 0 7))))), (h 7, .inl (cI, 8, .inl (va_cpy up up 1 0 7)))]) := by
  refine Ct.ofV (cc := cX3_forgetOldest) (maxL := 1) (by decide) rfl (Nat.le_of_ble_eq_true rfl) ?_
  intro pG eG sG mG aG bG tG cG AG QG ls xh bh hml hown hts hK hP hD hS hA hend hl
  have hl : lv_has ls 1 [(0, .ref (h 0))] := hl
  refine lv_aload_n xh bh dX3_forgetOldest_0 rfl (lv_at hl 0 rfl) ?_
  refine lv_bipush (v := (nI 7)) xh bh dX3_forgetOldest_1 (by decide) ?_
  refine va_put (D := D) (ci := 2) (v := .int (nI 7)) (ty := .int) (C := RX3) (T := TX3) (N := 10) xh bh hts (fun _ h => List.mem_cons_of_mem _ (List.mem_append_right _ (h))) tyX3 tyX3_ok nmX3 hown hK.1 hP hD hS 0 rfl rfl 9 (by decide) (hts _ (List.mem_of_getElem? (i := 1) rfl)) (fun _ h9 => h9) rfl (by decide +kernel) (by rfl) (by rfl) (Nat.le_of_ble_eq_true rfl) dX3_forgetOldest_3 (fun H locs hP hD hS => ?_)
  have hP : va_P D vwCl [(h 0, .inr (2, [.ref (h 1), .ref (h 2), .ref (h 3), .ref (h 4), .ref (h 5), .ref (h 6), .ref (h 7), .long (eC row), .int (nI hc), .int (nI 7)])), (h 5, .inl (cI, 8, .inl (fN ub))), (h 6, .inl (cJ, 8, .inr (.inl (fC ut)))), (h 7, .inl (cI, 8, .inl up))] H := hP
  have hD : va_D AG [(h 0, .inr (2, [.ref (h 1), .ref (h 2), .ref (h 3), .ref (h 4), .ref (h 5), .ref (h 6), .ref (h 7), .long (eC row), .int (nI hc), .int (nI 7)])), (h 5, .inl (cI, 8, .inl (fN ub))), (h 6, .inl (cJ, 8, .inr (.inl (fC ut)))), (h 7, .inl (cI, 8, .inl up))] := hD
  refine lv_aload_n xh bh dX3_forgetOldest_6 rfl (lv_at hl 0 rfl) ?_
  refine va_get (D := D) (ci := 2) (v := .ref (h 5)) (C := RX3) (T := TX3) (N := 10) xh bh hts (fun _ h => List.mem_cons_of_mem _ (List.mem_append_right _ (h))) hown hK.1 hP 0 rfl rfl 4 (by decide) (hts _ (List.mem_of_getElem? (i := 2) rfl)) (fun _ h9 => h9) rfl dX3_forgetOldest_7 ?_
  refine lv_iconst (v := (nI 1)) xh bh dX3_forgetOldest_10 (by decide) ?_
  refine lv_aload_n xh bh dX3_forgetOldest_11 rfl (lv_at hl 0 rfl) ?_
  refine va_get (D := D) (ci := 2) (v := .ref (h 5)) (C := RX3) (T := TX3) (N := 10) xh bh hts (fun _ h => List.mem_cons_of_mem _ (List.mem_append_right _ (h))) hown hK.1 hP 0 rfl rfl 4 (by decide) (hts _ (List.mem_of_getElem? (i := 2) rfl)) (fun _ h9 => h9) rfl dX3_forgetOldest_12 ?_
  refine lv_iconst (v := (nI 0)) xh bh dX3_forgetOldest_15 (by decide) ?_
  refine lv_aload_n xh bh dX3_forgetOldest_16 rfl (lv_at hl 0 rfl) ?_
  refine va_get (D := D) (ci := 2) (v := .int (nI 7)) (C := RX3) (T := TX3) (N := 10) xh bh hts (fun _ h => List.mem_cons_of_mem _ (List.mem_append_right _ (h))) hown hK.1 hP 0 rfl rfl 9 (by decide) (hts _ (List.mem_of_getElem? (i := 1) rfl)) (fun _ h9 => h9) rfl dX3_forgetOldest_17 ?_
  refine xi_copy xh bh (by rw [hml]; exact hl.1.symm) hown (hts _ (List.mem_of_getElem? (i := 3) rfl)) (hts _ (List.mem_of_getElem? (i := 4) rfl)) (hts _ (List.mem_of_getElem? (i := 5) rfl)) (hts _ (List.mem_of_getElem? (i := 6) rfl)) hK.1 hP hD hS 1 1 0 rfl rfl rfl (by omega) (by omega) (by omega) (by omega) (Nat.le_of_ble_eq_true rfl) (Nat.le_of_ble_eq_true rfl) dX3_forgetOldest_20 (fun H locs hP hD hS => ?_)
  have hP : va_P D vwCl [(h 0, .inr (2, [.ref (h 1), .ref (h 2), .ref (h 3), .ref (h 4), .ref (h 5), .ref (h 6), .ref (h 7), .long (eC row), .int (nI hc), .int (nI 7)])), (h 5, .inl (cI, 8, .inl (fN (va_cpy ub ub 1 0 7)))), (h 6, .inl (cJ, 8, .inr (.inl (fC ut)))), (h 7, .inl (cI, 8, .inl up))] H := by rw [← cpy_fN ub ub 1 0 7]; exact hP
  have hD : va_D AG [(h 0, .inr (2, [.ref (h 1), .ref (h 2), .ref (h 3), .ref (h 4), .ref (h 5), .ref (h 6), .ref (h 7), .long (eC row), .int (nI hc), .int (nI 7)])), (h 5, .inl (cI, 8, .inl (fN (va_cpy ub ub 1 0 7)))), (h 6, .inl (cJ, 8, .inr (.inl (fC ut)))), (h 7, .inl (cI, 8, .inl up))] := by rw [← cpy_fN ub ub 1 0 7]; exact hD
  refine lv_aload_n xh bh dX3_forgetOldest_23 rfl (lv_at hl 0 rfl) ?_
  refine va_get (D := D) (ci := 2) (v := .ref (h 6)) (C := RX3) (T := TX3) (N := 10) xh bh hts (fun _ h => List.mem_cons_of_mem _ (List.mem_append_right _ (h))) hown hK.1 hP 0 rfl rfl 5 (by decide) (hts _ (List.mem_of_getElem? (i := 7) rfl)) (fun _ h9 => h9) rfl dX3_forgetOldest_24 ?_
  refine lv_iconst (v := (nI 1)) xh bh dX3_forgetOldest_27 (by decide) ?_
  refine lv_aload_n xh bh dX3_forgetOldest_28 rfl (lv_at hl 0 rfl) ?_
  refine va_get (D := D) (ci := 2) (v := .ref (h 6)) (C := RX3) (T := TX3) (N := 10) xh bh hts (fun _ h => List.mem_cons_of_mem _ (List.mem_append_right _ (h))) hown hK.1 hP 0 rfl rfl 5 (by decide) (hts _ (List.mem_of_getElem? (i := 7) rfl)) (fun _ h9 => h9) rfl dX3_forgetOldest_29 ?_
  refine lv_iconst (v := (nI 0)) xh bh dX3_forgetOldest_32 (by decide) ?_
  refine lv_aload_n xh bh dX3_forgetOldest_33 rfl (lv_at hl 0 rfl) ?_
  refine va_get (D := D) (ci := 2) (v := .int (nI 7)) (C := RX3) (T := TX3) (N := 10) xh bh hts (fun _ h => List.mem_cons_of_mem _ (List.mem_append_right _ (h))) hown hK.1 hP 0 rfl rfl 9 (by decide) (hts _ (List.mem_of_getElem? (i := 1) rfl)) (fun _ h9 => h9) rfl dX3_forgetOldest_34 ?_
  refine xl_copy xh bh (by rw [hml]; exact hl.1.symm) hown (hts _ (List.mem_of_getElem? (i := 3) rfl)) (hts _ (List.mem_of_getElem? (i := 4) rfl)) (hts _ (List.mem_of_getElem? (i := 5) rfl)) (hts _ (List.mem_of_getElem? (i := 6) rfl)) hK.1 hP hD hS 2 2 1 rfl rfl rfl (by omega) (by omega) (by omega) (by omega) (Nat.le_of_ble_eq_true rfl) (Nat.le_of_ble_eq_true rfl) dX3_forgetOldest_37 (fun H locs hP hD hS => ?_)
  have hP : va_P D vwCl [(h 0, .inr (2, [.ref (h 1), .ref (h 2), .ref (h 3), .ref (h 4), .ref (h 5), .ref (h 6), .ref (h 7), .long (eC row), .int (nI hc), .int (nI 7)])), (h 5, .inl (cI, 8, .inl (fN (va_cpy ub ub 1 0 7)))), (h 6, .inl (cJ, 8, .inr (.inl (fC (va_cpy ut ut 1 0 7))))), (h 7, .inl (cI, 8, .inl up))] H := by rw [← cpy_fC ut ut 1 0 7]; exact hP
  have hD : va_D AG [(h 0, .inr (2, [.ref (h 1), .ref (h 2), .ref (h 3), .ref (h 4), .ref (h 5), .ref (h 6), .ref (h 7), .long (eC row), .int (nI hc), .int (nI 7)])), (h 5, .inl (cI, 8, .inl (fN (va_cpy ub ub 1 0 7)))), (h 6, .inl (cJ, 8, .inr (.inl (fC (va_cpy ut ut 1 0 7))))), (h 7, .inl (cI, 8, .inl up))] := by rw [← cpy_fC ut ut 1 0 7]; exact hD
  refine lv_aload_n xh bh dX3_forgetOldest_40 rfl (lv_at hl 0 rfl) ?_
  refine va_get (D := D) (ci := 2) (v := .ref (h 7)) (C := RX3) (T := TX3) (N := 10) xh bh hts (fun _ h => List.mem_cons_of_mem _ (List.mem_append_right _ (h))) hown hK.1 hP 0 rfl rfl 6 (by decide) (hts _ (List.mem_of_getElem? (i := 8) rfl)) (fun _ h9 => h9) rfl dX3_forgetOldest_41 ?_
  refine lv_iconst (v := (nI 1)) xh bh dX3_forgetOldest_44 (by decide) ?_
  refine lv_aload_n xh bh dX3_forgetOldest_45 rfl (lv_at hl 0 rfl) ?_
  refine va_get (D := D) (ci := 2) (v := .ref (h 7)) (C := RX3) (T := TX3) (N := 10) xh bh hts (fun _ h => List.mem_cons_of_mem _ (List.mem_append_right _ (h))) hown hK.1 hP 0 rfl rfl 6 (by decide) (hts _ (List.mem_of_getElem? (i := 8) rfl)) (fun _ h9 => h9) rfl dX3_forgetOldest_46 ?_
  refine lv_iconst (v := (nI 0)) xh bh dX3_forgetOldest_49 (by decide) ?_
  refine lv_aload_n xh bh dX3_forgetOldest_50 rfl (lv_at hl 0 rfl) ?_
  refine va_get (D := D) (ci := 2) (v := .int (nI 7)) (C := RX3) (T := TX3) (N := 10) xh bh hts (fun _ h => List.mem_cons_of_mem _ (List.mem_append_right _ (h))) hown hK.1 hP 0 rfl rfl 9 (by decide) (hts _ (List.mem_of_getElem? (i := 1) rfl)) (fun _ h9 => h9) rfl dX3_forgetOldest_51 ?_
  refine xi_copy xh bh (by rw [hml]; exact hl.1.symm) hown (hts _ (List.mem_of_getElem? (i := 3) rfl)) (hts _ (List.mem_of_getElem? (i := 4) rfl)) (hts _ (List.mem_of_getElem? (i := 5) rfl)) (hts _ (List.mem_of_getElem? (i := 6) rfl)) hK.1 hP hD hS 3 3 0 rfl rfl rfl (by omega) (by omega) (by omega) (by omega) (Nat.le_of_ble_eq_true rfl) (Nat.le_of_ble_eq_true rfl) dX3_forgetOldest_54 (fun H locs hP hD hS => ?_)
  have hP : va_P D vwCl [(h 0, .inr (2, [.ref (h 1), .ref (h 2), .ref (h 3), .ref (h 4), .ref (h 5), .ref (h 6), .ref (h 7), .long (eC row), .int (nI hc), .int (nI 7)])), (h 5, .inl (cI, 8, .inl (fN (va_cpy ub ub 1 0 7)))), (h 6, .inl (cJ, 8, .inr (.inl (fC (va_cpy ut ut 1 0 7))))), (h 7, .inl (cI, 8, .inl (va_cpy up up 1 0 7)))] H := by exact hP
  have hD : va_D AG [(h 0, .inr (2, [.ref (h 1), .ref (h 2), .ref (h 3), .ref (h 4), .ref (h 5), .ref (h 6), .ref (h 7), .long (eC row), .int (nI hc), .int (nI 7)])), (h 5, .inl (cI, 8, .inl (fN (va_cpy ub ub 1 0 7)))), (h 6, .inl (cJ, 8, .inr (.inl (fC (va_cpy ut ut 1 0 7))))), (h 7, .inl (cI, 8, .inl (va_cpy up up 1 0 7)))] := by exact hD
  exact hend () _ _ _ _ rfl trivial dX3_forgetOldest_57 hP hD hS

set_option maxHeartbeats 1000000 in
set_option maxRecDepth 100000 in
theorem ct_X3_replace (l : Launch) (D : va_G) (cI cJ cB cZ cA : ClassId) (h : Nat → Nat) (T : Nat → List Nat) (P : Nat → Int32) (ub : Nat → Nat) (ut : Nat → List Nat) (up : Nat → Int32) (row : List Nat) (hc : Nat) (un : Nat) (k : Nat) (t : List Nat) (q : Int32) (hk : k ≤ 7) (hun : un ≤ 8) : Ct l yX3_replace wsX3_replace ({ frames := 3, cells := 0, slots := 0, locals := 80 }) D (tysG cI cJ cB cZ cA) [.ref (h 0), .int (nI k), .long (eC t), .int q] [(h 0, .inr (2, [.ref (h 1), .ref (h 2), .ref (h 3), .ref (h 4), .ref (h 5), .ref (h 6), .ref (h 7), .long (eC row), .int (nI hc), .int (nI un)])), (h 1, .inl (cJ, 8, .inr (.inl (fC T)))), (h 2, .inl (cI, 8, .inl P)), (h 5, .inl (cI, 8, .inl (fN ub))), (h 6, .inl (cJ, 8, .inr (.inl (fC ut)))), (h 7, .inl (cI, 8, .inl up))] (fun (_ : Unit) => True) (fun _ => none) (fun _ => [(h 0, .inr (2, [.ref (h 1), .ref (h 2), .ref (h 3), .ref (h 4), .ref (h 5), .ref (h 6), .ref (h 7), .long (eC row), .int (nI hc), .int (nI (min un 7 + 1))])), (h 1, .inl (cJ, 8, .inr (.inl (fC (va_up T k t))))), (h 2, .inl (cI, 8, .inl (upd P k q))), (h 5, .inl (cI, 8, .inl (fN (va_up (shA ub un) (min un 7) k)))), (h 6, .inl (cJ, 8, .inr (.inl (fC (va_up (shA ut un) (min un 7) (T k)))))), (h 7, .inl (cI, 8, .inl (upd (shA up un) (min un 7) (P k))))]) := by
  refine Ct.ofV (cc := cX3_replace) (maxL := 5) (by decide) rfl (Nat.le_of_ble_eq_true rfl) ?_
  intro pG eG sG mG aG bG tG cG AG QG ls xh bh hml hown hts hK hP hD hS hA hend hl
  have hl : lv_has ls 5 [(0, .ref (h 0)), (1, .int (nI k)), (2, .long (eC t)), (4, .int q)] := hl
  refine lv_aload_n xh bh dX3_replace_0 rfl (lv_at hl 0 rfl) ?_
  refine va_get (D := D) (ci := 2) (v := .int (nI un)) (C := RX3) (T := TX3) (N := 10) xh bh hts (fun _ h => List.mem_cons_of_mem _ (List.mem_append_right _ (h))) hown hK.1 hP 0 rfl rfl 9 (by decide) (hts _ (List.mem_of_getElem? (i := 1) rfl)) (fun _ h9 => h9) rfl dX3_replace_1 ?_
  refine lv_bipush (v := (nI 8)) xh bh dX3_replace_4 (by decide) ?_
  have cut_13 : ∀ (vb : Nat → Nat), ∀ (vt : Nat → List Nat), ∀ (vp : Nat → Int32), ∀ (n : Nat), (vb = shA ub un) → (vt = shA ut un) → (vp = shA up un) → (n = min un 7) → ∀ (H : Heap) (locs : List Loc) (ls : Array Slot), va_P D vwCl [(h 0, .inr (2, [.ref (h 1), .ref (h 2), .ref (h 3), .ref (h 4), .ref (h 5), .ref (h 6), .ref (h 7), .long (eC row), .int (nI hc), .int (nI n)])), (h 1, .inl (cJ, 8, .inr (.inl (fC T)))), (h 2, .inl (cI, 8, .inl P)), (h 5, .inl (cI, 8, .inl (fN vb))), (h 6, .inl (cJ, 8, .inr (.inl (fC vt)))), (h 7, .inl (cI, 8, .inl vp))] H → va_D AG [(h 0, .inr (2, [.ref (h 1), .ref (h 2), .ref (h 3), .ref (h 4), .ref (h 5), .ref (h 6), .ref (h 7), .long (eC row), .int (nI hc), .int (nI n)])), (h 1, .inl (cJ, 8, .inr (.inl (fC T)))), (h 2, .inl (cI, 8, .inl P)), (h 5, .inl (cI, 8, .inl (fN vb))), (h 6, .inl (cJ, 8, .inr (.inl (fC vt)))), (h 7, .inl (cI, 8, .inl vp))] → va_S AG sG.heap H locs → lv_has ls 5 [(0, .ref (h 0)), (1, .int (nI k)), (2, .long (eC t)), (4, .int q)] → W pG l eG ({ frames := 3, cells := 0, slots := 0, locals := 80 }) sG mG aG bG tG cG H locs 0 0 QG (F0 mG 13 ls []) := by
    intro vb vt vp n h1 h2 h3 h4 H locs ls hP hD hS hl
    refine lv_aload_n xh bh dX3_replace_13 rfl (lv_at hl 0 rfl) ?_
    refine va_get (D := D) (ci := 2) (v := .int (nI n)) (C := RX3) (T := TX3) (N := 10) xh bh hts (fun _ h => List.mem_cons_of_mem _ (List.mem_append_right _ (h))) hown hK.1 hP 0 rfl rfl 9 (by decide) (hts _ (List.mem_of_getElem? (i := 1) rfl)) (fun _ h9 => h9) rfl dX3_replace_14 ?_
    refine lv_bipush (v := (nI 7)) xh bh dX3_replace_17 (by decide) ?_
    refine Ct.callN0 (rest := []) xh bh hml hown hts hK hP hS hA (ct_X8_isUpTo l D cI cJ cB cZ cA (nI n) 7 (by first | assumption | omega)) ⟨va_cnB 2 hts gX3_replace_X8_isUpTo_n69 rfl rfl rfl (hK.2.at 2 rfl) (hts _ (List.mem_of_getElem? (i := 15) rfl)) (by decide +kernel) ⟨Nat.le_of_ble_eq_true rfl, Nat.le_of_ble_eq_true rfl⟩, hts _ (List.mem_of_getElem? (i := 14) rfl), trivial⟩ rfl rfl hl.1 (Nat.le_of_ble_eq_true rfl) dX3_replace_19 ⟨Nat.le_refl _, Nat.le_refl _⟩ (fun _ H locs _ hP hS => ?_)
    refine W.eq (g2 := F0 mG 22 ls [.int (ib (upB (nI n) 7))]) rfl ?_
    refine xb_if_eq (tgt := 73) xh bh dX3_replace_22 (by decide) (fun c_22 => ?_) (fun c_22 => ?_)
    · exact absurd c_22 (by rw [upB_nI (by omega) (by decide), decide_eq_true (show _ by omega)]; decide)
    · refine lv_aload_n xh bh dX3_replace_25 rfl (lv_at hl 0 rfl) ?_
      refine va_get (D := D) (ci := 2) (v := .ref (h 5)) (C := RX3) (T := TX3) (N := 10) xh bh hts (fun _ h => List.mem_cons_of_mem _ (List.mem_append_right _ (h))) hown hK.1 hP 0 rfl rfl 4 (by decide) (hts _ (List.mem_of_getElem? (i := 2) rfl)) (fun _ h9 => h9) rfl dX3_replace_26 ?_
      refine lv_aload_n xh bh dX3_replace_29 rfl (lv_at hl 0 rfl) ?_
      refine va_get (D := D) (ci := 2) (v := .int (nI n)) (C := RX3) (T := TX3) (N := 10) xh bh hts (fun _ h => List.mem_cons_of_mem _ (List.mem_append_right _ (h))) hown hK.1 hP 0 rfl rfl 9 (by decide) (hts _ (List.mem_of_getElem? (i := 1) rfl)) (fun _ h9 => h9) rfl dX3_replace_30 ?_
      refine lv_iload_n xh bh dX3_replace_33 rfl (lv_at hl 1 rfl) ?_
      refine xN_iast xh bh hK.1 hP hD hS 3 0 rfl rfl (by omega) (by omega) dX3_replace_34 (fun H locs hP hD hS => ?_)
      have hP : va_P D vwCl [(h 0, .inr (2, [.ref (h 1), .ref (h 2), .ref (h 3), .ref (h 4), .ref (h 5), .ref (h 6), .ref (h 7), .long (eC row), .int (nI hc), .int (nI n)])), (h 1, .inl (cJ, 8, .inr (.inl (fC T)))), (h 2, .inl (cI, 8, .inl P)), (h 5, .inl (cI, 8, .inl (fN (va_up vb n k)))), (h 6, .inl (cJ, 8, .inr (.inl (fC vt)))), (h 7, .inl (cI, 8, .inl vp))] H := hP
      have hD : va_D AG [(h 0, .inr (2, [.ref (h 1), .ref (h 2), .ref (h 3), .ref (h 4), .ref (h 5), .ref (h 6), .ref (h 7), .long (eC row), .int (nI hc), .int (nI n)])), (h 1, .inl (cJ, 8, .inr (.inl (fC T)))), (h 2, .inl (cI, 8, .inl P)), (h 5, .inl (cI, 8, .inl (fN (va_up vb n k)))), (h 6, .inl (cJ, 8, .inr (.inl (fC vt)))), (h 7, .inl (cI, 8, .inl vp))] := hD
      refine lv_aload_n xh bh dX3_replace_35 rfl (lv_at hl 0 rfl) ?_
      refine va_get (D := D) (ci := 2) (v := .ref (h 6)) (C := RX3) (T := TX3) (N := 10) xh bh hts (fun _ h => List.mem_cons_of_mem _ (List.mem_append_right _ (h))) hown hK.1 hP 0 rfl rfl 5 (by decide) (hts _ (List.mem_of_getElem? (i := 3) rfl)) (fun _ h9 => h9) rfl dX3_replace_36 ?_
      refine lv_aload_n xh bh dX3_replace_39 rfl (lv_at hl 0 rfl) ?_
      refine va_get (D := D) (ci := 2) (v := .int (nI n)) (C := RX3) (T := TX3) (N := 10) xh bh hts (fun _ h => List.mem_cons_of_mem _ (List.mem_append_right _ (h))) hown hK.1 hP 0 rfl rfl 9 (by decide) (hts _ (List.mem_of_getElem? (i := 1) rfl)) (fun _ h9 => h9) rfl dX3_replace_40 ?_
      refine lv_aload_n xh bh dX3_replace_43 rfl (lv_at hl 0 rfl) ?_
      refine lv_iload_n xh bh dX3_replace_44 rfl (lv_at hl 1 rfl) ?_
      refine Ct.callV (As := [.int (nI k)]) (rest := [.int (nI n), .ref (h 6)]) (wr := [(h 2, .inl (cI, 8, .inl P)), (h 5, .inl (cI, 8, .inl (fN (va_up vb n k)))), (h 6, .inl (cJ, 8, .inr (.inl (fC vt)))), (h 7, .inl (cI, 8, .inl vp))]) xh bh hml hown hts hK hP hD hS hA (ct_X3_taleOf l D cI cJ cB cZ cA h T row hc n k (by first | assumption | omega)) (cwV 1 hts gX3_replace_X3_taleOf rfl rfl rfl (by decide +kernel) ⟨Nat.le_of_ble_eq_true rfl, Nat.le_of_ble_eq_true rfl⟩) rfl rfl hl.1 (Nat.le_of_ble_eq_true rfl) dX3_replace_45 ⟨Nat.le_refl _, Nat.le_refl _⟩ 0 2 rfl rfl rfl [0, 1] [2, 3, 4, 5] rfl (by decide) rfl rfl (by decide) (by decide) (fun _ H locs _ hP hD hS => ?_)
      have hP : va_P D vwCl [(h 2, .inl (cI, 8, .inl P)), (h 5, .inl (cI, 8, .inl (fN (va_up vb n k)))), (h 6, .inl (cJ, 8, .inr (.inl (fC vt)))), (h 7, .inl (cI, 8, .inl vp)), (h 0, .inr (2, [.ref (h 1), .ref (h 2), .ref (h 3), .ref (h 4), .ref (h 5), .ref (h 6), .ref (h 7), .long (eC row), .int (nI hc), .int (nI n)])), (h 1, .inl (cJ, 8, .inr (.inl (fC T))))] H := hP
      have hD : va_D AG [(h 2, .inl (cI, 8, .inl P)), (h 5, .inl (cI, 8, .inl (fN (va_up vb n k)))), (h 6, .inl (cJ, 8, .inr (.inl (fC vt)))), (h 7, .inl (cI, 8, .inl vp)), (h 0, .inr (2, [.ref (h 1), .ref (h 2), .ref (h 3), .ref (h 4), .ref (h 5), .ref (h 6), .ref (h 7), .long (eC row), .int (nI hc), .int (nI n)])), (h 1, .inl (cJ, 8, .inr (.inl (fC T))))] := hD
      refine W.eq (g2 := F0 mG 48 ls [.long (eC (T k)), .int (nI n), .ref (h 6)]) rfl ?_
      refine xc_last xh bh hK.1 hP hD hS 2 1 rfl rfl (by omega) (by omega) dX3_replace_48 (fun H locs hP hD hS => ?_)
      have hP : va_P D vwCl [(h 2, .inl (cI, 8, .inl P)), (h 5, .inl (cI, 8, .inl (fN (va_up vb n k)))), (h 6, .inl (cJ, 8, .inr (.inl (fC (va_up vt n (T k)))))), (h 7, .inl (cI, 8, .inl vp)), (h 0, .inr (2, [.ref (h 1), .ref (h 2), .ref (h 3), .ref (h 4), .ref (h 5), .ref (h 6), .ref (h 7), .long (eC row), .int (nI hc), .int (nI n)])), (h 1, .inl (cJ, 8, .inr (.inl (fC T))))] H := hP
      have hD : va_D AG [(h 2, .inl (cI, 8, .inl P)), (h 5, .inl (cI, 8, .inl (fN (va_up vb n k)))), (h 6, .inl (cJ, 8, .inr (.inl (fC (va_up vt n (T k)))))), (h 7, .inl (cI, 8, .inl vp)), (h 0, .inr (2, [.ref (h 1), .ref (h 2), .ref (h 3), .ref (h 4), .ref (h 5), .ref (h 6), .ref (h 7), .long (eC row), .int (nI hc), .int (nI n)])), (h 1, .inl (cJ, 8, .inr (.inl (fC T))))] := hD
      refine lv_aload_n xh bh dX3_replace_49 rfl (lv_at hl 0 rfl) ?_
      refine va_get (D := D) (ci := 2) (v := .ref (h 7)) (C := RX3) (T := TX3) (N := 10) xh bh hts (fun _ h => List.mem_cons_of_mem _ (List.mem_append_right _ (h))) hown hK.1 hP 4 rfl rfl 6 (by decide) (hts _ (List.mem_of_getElem? (i := 4) rfl)) (fun _ h9 => h9) rfl dX3_replace_50 ?_
      refine lv_aload_n xh bh dX3_replace_53 rfl (lv_at hl 0 rfl) ?_
      refine va_get (D := D) (ci := 2) (v := .int (nI n)) (C := RX3) (T := TX3) (N := 10) xh bh hts (fun _ h => List.mem_cons_of_mem _ (List.mem_append_right _ (h))) hown hK.1 hP 4 rfl rfl 9 (by decide) (hts _ (List.mem_of_getElem? (i := 1) rfl)) (fun _ h9 => h9) rfl dX3_replace_54 ?_
      refine lv_aload_n xh bh dX3_replace_57 rfl (lv_at hl 0 rfl) ?_
      refine lv_iload_n xh bh dX3_replace_58 rfl (lv_at hl 1 rfl) ?_
      refine Ct.callV (As := [.int (nI k)]) (rest := [.int (nI n), .ref (h 7)]) (wr := [(h 5, .inl (cI, 8, .inl (fN (va_up vb n k)))), (h 6, .inl (cJ, 8, .inr (.inl (fC (va_up vt n (T k)))))), (h 7, .inl (cI, 8, .inl vp)), (h 1, .inl (cJ, 8, .inr (.inl (fC T))))]) xh bh hml hown hts hK hP hD hS hA (ct_X3_parentOf l D cI cJ cB cZ cA h P row hc n k (by first | assumption | omega)) (cwV 1 hts gX3_replace_X3_parentOf rfl rfl rfl (by decide +kernel) ⟨Nat.le_of_ble_eq_true rfl, Nat.le_of_ble_eq_true rfl⟩) rfl rfl hl.1 (Nat.le_of_ble_eq_true rfl) dX3_replace_59 ⟨Nat.le_refl _, Nat.le_refl _⟩ 0 2 rfl rfl rfl [4, 0] [1, 2, 3, 5] rfl (by decide) rfl rfl (by decide) (by decide) (fun _ H locs _ hP hD hS => ?_)
      have hP : va_P D vwCl [(h 5, .inl (cI, 8, .inl (fN (va_up vb n k)))), (h 6, .inl (cJ, 8, .inr (.inl (fC (va_up vt n (T k)))))), (h 7, .inl (cI, 8, .inl vp)), (h 1, .inl (cJ, 8, .inr (.inl (fC T)))), (h 0, .inr (2, [.ref (h 1), .ref (h 2), .ref (h 3), .ref (h 4), .ref (h 5), .ref (h 6), .ref (h 7), .long (eC row), .int (nI hc), .int (nI n)])), (h 2, .inl (cI, 8, .inl P))] H := hP
      have hD : va_D AG [(h 5, .inl (cI, 8, .inl (fN (va_up vb n k)))), (h 6, .inl (cJ, 8, .inr (.inl (fC (va_up vt n (T k)))))), (h 7, .inl (cI, 8, .inl vp)), (h 1, .inl (cJ, 8, .inr (.inl (fC T)))), (h 0, .inr (2, [.ref (h 1), .ref (h 2), .ref (h 3), .ref (h 4), .ref (h 5), .ref (h 6), .ref (h 7), .long (eC row), .int (nI hc), .int (nI n)])), (h 2, .inl (cI, 8, .inl P))] := hD
      refine W.eq (g2 := F0 mG 62 ls [.int (P k), .int (nI n), .ref (h 7)]) rfl ?_
      refine xa_iast xh bh hK.1 hP hD hS 2 0 rfl rfl (by omega) (by omega) dX3_replace_62 (fun H locs hP hD hS => ?_)
      have hP : va_P D vwCl [(h 5, .inl (cI, 8, .inl (fN (va_up vb n k)))), (h 6, .inl (cJ, 8, .inr (.inl (fC (va_up vt n (T k)))))), (h 7, .inl (cI, 8, .inl (upd vp n (P k)))), (h 1, .inl (cJ, 8, .inr (.inl (fC T)))), (h 0, .inr (2, [.ref (h 1), .ref (h 2), .ref (h 3), .ref (h 4), .ref (h 5), .ref (h 6), .ref (h 7), .long (eC row), .int (nI hc), .int (nI n)])), (h 2, .inl (cI, 8, .inl P))] H := hP
      have hD : va_D AG [(h 5, .inl (cI, 8, .inl (fN (va_up vb n k)))), (h 6, .inl (cJ, 8, .inr (.inl (fC (va_up vt n (T k)))))), (h 7, .inl (cI, 8, .inl (upd vp n (P k)))), (h 1, .inl (cJ, 8, .inr (.inl (fC T)))), (h 0, .inr (2, [.ref (h 1), .ref (h 2), .ref (h 3), .ref (h 4), .ref (h 5), .ref (h 6), .ref (h 7), .long (eC row), .int (nI hc), .int (nI n)])), (h 2, .inl (cI, 8, .inl P))] := hD
      refine lv_aload_n xh bh dX3_replace_63 rfl (lv_at hl 0 rfl) ?_
      refine lv_dup xh bh dX3_replace_64 rfl ?_
      refine va_get (D := D) (ci := 2) (v := .int (nI n)) (C := RX3) (T := TX3) (N := 10) xh bh hts (fun _ h => List.mem_cons_of_mem _ (List.mem_append_right _ (h))) hown hK.1 hP 4 rfl rfl 9 (by decide) (hts _ (List.mem_of_getElem? (i := 1) rfl)) (fun _ h9 => h9) rfl dX3_replace_65 ?_
      refine lv_iconst (v := (nI 1)) xh bh dX3_replace_68 (by decide) ?_
      refine xn_iadd xh bh dX3_replace_69 ?_
      refine va_put (D := D) (ci := 2) (v := .int (nI (n + 1))) (ty := .int) (C := RX3) (T := TX3) (N := 10) xh bh hts (fun _ h => List.mem_cons_of_mem _ (List.mem_append_right _ (h))) tyX3 tyX3_ok nmX3 hown hK.1 hP hD hS 4 rfl rfl 9 (by decide) (hts _ (List.mem_of_getElem? (i := 1) rfl)) (fun _ h9 => h9) rfl (by decide +kernel) (by rfl) (by rfl) (Nat.le_of_ble_eq_true rfl) dX3_replace_70 (fun H locs hP hD hS => ?_)
      have hP : va_P D vwCl [(h 5, .inl (cI, 8, .inl (fN (va_up vb n k)))), (h 6, .inl (cJ, 8, .inr (.inl (fC (va_up vt n (T k)))))), (h 7, .inl (cI, 8, .inl (upd vp n (P k)))), (h 1, .inl (cJ, 8, .inr (.inl (fC T)))), (h 0, .inr (2, [.ref (h 1), .ref (h 2), .ref (h 3), .ref (h 4), .ref (h 5), .ref (h 6), .ref (h 7), .long (eC row), .int (nI hc), .int (nI (n + 1))])), (h 2, .inl (cI, 8, .inl P))] H := hP
      have hD : va_D AG [(h 5, .inl (cI, 8, .inl (fN (va_up vb n k)))), (h 6, .inl (cJ, 8, .inr (.inl (fC (va_up vt n (T k)))))), (h 7, .inl (cI, 8, .inl (upd vp n (P k)))), (h 1, .inl (cJ, 8, .inr (.inl (fC T)))), (h 0, .inr (2, [.ref (h 1), .ref (h 2), .ref (h 3), .ref (h 4), .ref (h 5), .ref (h 6), .ref (h 7), .long (eC row), .int (nI hc), .int (nI (n + 1))])), (h 2, .inl (cI, 8, .inl P))] := hD
      refine lv_aload_n xh bh dX3_replace_73 rfl (lv_at hl 0 rfl) ?_
      refine lv_iload_n xh bh dX3_replace_74 rfl (lv_at hl 1 rfl) ?_
      refine lv_lload_n xh bh dX3_replace_75 rfl (lv_at hl 2 rfl) ?_
      refine lv_iload xh bh dX3_replace_76 (lv_at hl 3 rfl) ?_
      refine Ct.callV (As := [.int (nI k), .long (eC t), .int q]) (rest := []) (wr := [(h 5, .inl (cI, 8, .inl (fN (va_up vb n k)))), (h 6, .inl (cJ, 8, .inr (.inl (fC (va_up vt n (T k)))))), (h 7, .inl (cI, 8, .inl (upd vp n (P k))))]) xh bh hml hown hts hK hP hD hS hA (ct_X3_put l D cI cJ cB cZ cA h T P row hc (n + 1) k t q (by first | assumption | omega)) (cwV 3 hts gX3_replace_X3_put rfl rfl rfl (by decide +kernel) ⟨Nat.le_of_ble_eq_true rfl, Nat.le_of_ble_eq_true rfl⟩) rfl rfl hl.1 (Nat.le_of_ble_eq_true rfl) dX3_replace_78 ⟨Nat.le_refl _, Nat.le_refl _⟩ 0 2 rfl rfl rfl [4, 3, 5] [0, 1, 2] rfl (by decide) rfl rfl (by decide) (by decide) (fun _ H locs _ hP hD hS => ?_)
      have hP : va_P D vwCl [(h 5, .inl (cI, 8, .inl (fN (va_up vb n k)))), (h 6, .inl (cJ, 8, .inr (.inl (fC (va_up vt n (T k)))))), (h 7, .inl (cI, 8, .inl (upd vp n (P k)))), (h 0, .inr (2, [.ref (h 1), .ref (h 2), .ref (h 3), .ref (h 4), .ref (h 5), .ref (h 6), .ref (h 7), .long (eC row), .int (nI hc), .int (nI (n + 1))])), (h 1, .inl (cJ, 8, .inr (.inl (fC (va_up T k t))))), (h 2, .inl (cI, 8, .inl (upd P k q)))] H := hP
      have hD : va_D AG [(h 5, .inl (cI, 8, .inl (fN (va_up vb n k)))), (h 6, .inl (cJ, 8, .inr (.inl (fC (va_up vt n (T k)))))), (h 7, .inl (cI, 8, .inl (upd vp n (P k)))), (h 0, .inr (2, [.ref (h 1), .ref (h 2), .ref (h 3), .ref (h 4), .ref (h 5), .ref (h 6), .ref (h 7), .long (eC row), .int (nI hc), .int (nI (n + 1))])), (h 1, .inl (cJ, 8, .inr (.inl (fC (va_up T k t))))), (h 2, .inl (cI, 8, .inl (upd P k q)))] := hD
      refine W.eq (g2 := F0 mG 81 ls []) rfl ?_
      exact hend () _ _ _ _ rfl trivial dX3_replace_81 (by rw [← h1, ← h2, ← h3, ← h4]; exact (hP.sub [3, 4, 5, 0, 1, 2] rfl)) (by rw [← h1, ← h2, ← h3, ← h4]; exact (hD.sub [3, 4, 5, 0, 1, 2] (by decide) rfl)) hS
  refine xn_icmp_lt (tgt := 13) xh bh dX3_replace_6 (by decide) (by omega) (by omega) (fun c_6 => ?_) (fun c_6 => ?_)
  · exact cut_13 ub ut up un (by first | exact (shA_hi (by omega)).symm | exact (shA_lo (by omega)).symm) (by first | exact (shA_hi (by omega)).symm | exact (shA_lo (by omega)).symm) (by first | exact (shA_hi (by omega)).symm | exact (shA_lo (by omega)).symm) (by omega) _ _ ls hP hD hS (lv_sub hl [0, 1, 2, 3] rfl)
  · refine lv_aload_n xh bh dX3_replace_9 rfl (lv_at hl 0 rfl) ?_
    refine Ct.callV (As := []) (rest := []) (wr := [(h 1, .inl (cJ, 8, .inr (.inl (fC T)))), (h 2, .inl (cI, 8, .inl P))]) xh bh hml hown hts hK hP hD hS hA (ct_X3_forgetOldest l D cI cJ cB cZ cA h ub ut up row hc un ) (cwV 0 hts gX3_replace_X3_forgetOldest rfl rfl rfl (by decide +kernel) ⟨Nat.le_of_ble_eq_true rfl, Nat.le_of_ble_eq_true rfl⟩) rfl rfl hl.1 (Nat.le_of_ble_eq_true rfl) dX3_replace_10 ⟨Nat.le_refl _, Nat.le_refl _⟩ 0 2 rfl rfl rfl [0, 3, 4, 5] [1, 2] rfl (by decide) rfl rfl (by decide) (by decide) (fun _ H locs _ hP hD hS => ?_)
    have hP : va_P D vwCl [(h 1, .inl (cJ, 8, .inr (.inl (fC T)))), (h 2, .inl (cI, 8, .inl P)), (h 0, .inr (2, [.ref (h 1), .ref (h 2), .ref (h 3), .ref (h 4), .ref (h 5), .ref (h 6), .ref (h 7), .long (eC row), .int (nI hc), .int (nI 7)])), (h 5, .inl (cI, 8, .inl (fN (va_cpy ub ub 1 0 7)))), (h 6, .inl (cJ, 8, .inr (.inl (fC (va_cpy ut ut 1 0 7))))), (h 7, .inl (cI, 8, .inl (va_cpy up up 1 0 7)))] H := hP
    have hD : va_D AG [(h 1, .inl (cJ, 8, .inr (.inl (fC T)))), (h 2, .inl (cI, 8, .inl P)), (h 0, .inr (2, [.ref (h 1), .ref (h 2), .ref (h 3), .ref (h 4), .ref (h 5), .ref (h 6), .ref (h 7), .long (eC row), .int (nI hc), .int (nI 7)])), (h 5, .inl (cI, 8, .inl (fN (va_cpy ub ub 1 0 7)))), (h 6, .inl (cJ, 8, .inr (.inl (fC (va_cpy ut ut 1 0 7))))), (h 7, .inl (cI, 8, .inl (va_cpy up up 1 0 7)))] := hD
    refine W.eq (g2 := F0 mG 13 ls []) rfl ?_
    exact cut_13 (va_cpy ub ub 1 0 7) (va_cpy ut ut 1 0 7) (va_cpy up up 1 0 7) 7 (by first | exact (shA_hi (by omega)).symm | exact (shA_lo (by omega)).symm) (by first | exact (shA_hi (by omega)).symm | exact (shA_lo (by omega)).symm) (by first | exact (shA_hi (by omega)).symm | exact (shA_lo (by omega)).symm) (by omega) _ _ ls (hP.sub [2, 0, 1, 3, 4, 5] rfl) (hD.sub [2, 0, 1, 3, 4, 5] (by decide) rfl) hS (lv_sub hl [0, 1, 2, 3] rfl)

set_option maxHeartbeats 1000000 in
set_option maxRecDepth 100000 in
theorem ct_X3_takeBack (l : Launch) (D : va_G) (cI cJ cB cZ cA : ClassId) (h : Nat → Nat) (T : Nat → List Nat) (P : Nat → Int32) (ub : Nat → Nat) (ut : Nat → List Nat) (up : Nat → Int32) (row : List Nat) (hc : Nat) (un : Nat) (hun : un ≤ 8) (hu0 : 0 < un) (hub : ∀ k, ub k < 8) : Ct l yX3_takeBack wsX3_takeBack ({ frames := 3, cells := 0, slots := 0, locals := 65 }) D (tysG cI cJ cB cZ cA) [.ref (h 0)] [(h 0, .inr (2, [.ref (h 1), .ref (h 2), .ref (h 3), .ref (h 4), .ref (h 5), .ref (h 6), .ref (h 7), .long (eC row), .int (nI hc), .int (nI un)])), (h 1, .inl (cJ, 8, .inr (.inl (fC T)))), (h 2, .inl (cI, 8, .inl P)), (h 5, .inl (cI, 8, .inl (fN ub))), (h 6, .inl (cJ, 8, .inr (.inl (fC ut)))), (h 7, .inl (cI, 8, .inl up))] (fun (_ : Unit) => True) (fun _ => none) (fun _ => [(h 0, .inr (2, [.ref (h 1), .ref (h 2), .ref (h 3), .ref (h 4), .ref (h 5), .ref (h 6), .ref (h 7), .long (eC row), .int (nI hc), .int (nI (un - 1))])), (h 1, .inl (cJ, 8, .inr (.inl (fC (va_up T (ub (un - 1)) (ut (un - 1))))))), (h 2, .inl (cI, 8, .inl (upd P (ub (un - 1)) (up (un - 1))))), (h 5, .inl (cI, 8, .inl (fN ub))), (h 6, .inl (cJ, 8, .inr (.inl (fC ut)))), (h 7, .inl (cI, 8, .inl up))]) := by
  refine Ct.ofV (cc := cX3_takeBack) (maxL := 2) (by decide) rfl (Nat.le_of_ble_eq_true rfl) ?_
  intro pG eG sG mG aG bG tG cG AG QG ls xh bh hml hown hts hK hP hD hS hA hend hl
  have hl : lv_has ls 2 [(0, .ref (h 0))] := hl
  refine lv_aload_n xh bh dX3_takeBack_0 rfl (lv_at hl 0 rfl) ?_
  refine va_get (D := D) (ci := 2) (v := .int (nI un)) (C := RX3) (T := TX3) (N := 10) xh bh hts (fun _ h => List.mem_cons_of_mem _ (List.mem_append_right _ (h))) hown hK.1 hP 0 rfl rfl 9 (by decide) (hts _ (List.mem_of_getElem? (i := 1) rfl)) (fun _ h9 => h9) rfl dX3_takeBack_1 ?_
  refine lv_iconst (v := (nI 1)) xh bh dX3_takeBack_4 (by decide) ?_
  refine xn_isub xh bh dX3_takeBack_5 (by omega) ?_
  refine lv_istore_n (lv' := [(1, .int (nI (un - 1))), (0, .ref (h 0))]) xh bh dX3_takeBack_6 rfl hl (by decide) rfl (fun ls hl => ?_)
  refine lv_iload_n xh bh dX3_takeBack_7 rfl (lv_at hl 0 rfl) ?_
  refine lv_bipush (v := (nI 7)) xh bh dX3_takeBack_8 (by decide) ?_
  refine Ct.callN0 (rest := []) xh bh hml hown hts hK hP hS hA (ct_X8_isUpTo l D cI cJ cB cZ cA (nI (un - 1)) 7 (by first | assumption | omega)) ⟨va_cnB 2 hts gX3_takeBack_X8_isUpTo_n69 rfl rfl rfl (hK.2.at 2 rfl) (hts _ (List.mem_of_getElem? (i := 6) rfl)) (by decide +kernel) ⟨Nat.le_of_ble_eq_true rfl, Nat.le_of_ble_eq_true rfl⟩, hts _ (List.mem_of_getElem? (i := 5) rfl), trivial⟩ rfl rfl hl.1 (Nat.le_of_ble_eq_true rfl) dX3_takeBack_10 ⟨Nat.le_refl _, Nat.le_refl _⟩ (fun _ H locs _ hP hS => ?_)
  refine W.eq (g2 := F0 mG 13 ls [.int (ib (upB (nI (un - 1)) 7))]) rfl ?_
  refine xb_if_eq (tgt := 43) xh bh dX3_takeBack_13 (by decide) (fun c_13 => ?_) (fun c_13 => ?_)
  · exact absurd c_13 (by rw [upB_nI (by omega) (by decide), decide_eq_true (show _ by omega)]; decide)
  · refine lv_aload_n xh bh dX3_takeBack_16 rfl (lv_at hl 1 rfl) ?_
    refine lv_aload_n xh bh dX3_takeBack_17 rfl (lv_at hl 1 rfl) ?_
    refine va_get (D := D) (ci := 2) (v := .ref (h 5)) (C := RX3) (T := TX3) (N := 10) xh bh hts (fun _ h => List.mem_cons_of_mem _ (List.mem_append_right _ (h))) hown hK.1 hP 0 rfl rfl 4 (by decide) (hts _ (List.mem_of_getElem? (i := 2) rfl)) (fun _ h9 => h9) rfl dX3_takeBack_18 ?_
    refine lv_iload_n xh bh dX3_takeBack_21 rfl (lv_at hl 0 rfl) ?_
    refine xa_iald xh bh hK.1 hP 3 0 rfl rfl (by omega) (by omega) dX3_takeBack_22 ?_
    refine W.eq (g2 := F0 mG 23 ls [.int (nI (ub (un - 1))), .ref (h 0)]) rfl ?_
    refine lv_aload_n xh bh dX3_takeBack_23 rfl (lv_at hl 1 rfl) ?_
    refine va_get (D := D) (ci := 2) (v := .ref (h 6)) (C := RX3) (T := TX3) (N := 10) xh bh hts (fun _ h => List.mem_cons_of_mem _ (List.mem_append_right _ (h))) hown hK.1 hP 0 rfl rfl 5 (by decide) (hts _ (List.mem_of_getElem? (i := 3) rfl)) (fun _ h9 => h9) rfl dX3_takeBack_24 ?_
    refine lv_iload_n xh bh dX3_takeBack_27 rfl (lv_at hl 0 rfl) ?_
    refine xa_lald xh bh hK.1 hP 4 1 rfl rfl (by omega) (by omega) dX3_takeBack_28 ?_
    refine W.eq (g2 := F0 mG 29 ls [.long (eC (ut (un - 1))), .int (nI (ub (un - 1))), .ref (h 0)]) rfl ?_
    refine lv_aload_n xh bh dX3_takeBack_29 rfl (lv_at hl 1 rfl) ?_
    refine va_get (D := D) (ci := 2) (v := .ref (h 7)) (C := RX3) (T := TX3) (N := 10) xh bh hts (fun _ h => List.mem_cons_of_mem _ (List.mem_append_right _ (h))) hown hK.1 hP 0 rfl rfl 6 (by decide) (hts _ (List.mem_of_getElem? (i := 4) rfl)) (fun _ h9 => h9) rfl dX3_takeBack_30 ?_
    refine lv_iload_n xh bh dX3_takeBack_33 rfl (lv_at hl 0 rfl) ?_
    refine xa_iald xh bh hK.1 hP 5 0 rfl rfl (by omega) (by omega) dX3_takeBack_34 ?_
    refine Ct.callV (As := [.int (nI (ub (un - 1))), .long (eC (ut (un - 1))), .int (up (un - 1))]) (rest := []) (wr := [(h 5, .inl (cI, 8, .inl (fN ub))), (h 6, .inl (cJ, 8, .inr (.inl (fC ut)))), (h 7, .inl (cI, 8, .inl up))]) xh bh hml hown hts hK hP hD hS hA (ct_X3_put l D cI cJ cB cZ cA h T P row hc un (ub (un - 1)) (ut (un - 1)) (up (un - 1)) (by have := hub (un - 1); omega)) (cwV 3 hts gX3_takeBack_X3_put rfl rfl rfl (by decide +kernel) ⟨Nat.le_of_ble_eq_true rfl, Nat.le_of_ble_eq_true rfl⟩) rfl rfl hl.1 (Nat.le_of_ble_eq_true rfl) dX3_takeBack_35 ⟨Nat.le_refl _, Nat.le_refl _⟩ 0 2 rfl rfl rfl [0, 1, 2] [3, 4, 5] rfl (by decide) rfl rfl (by decide) (by decide) (fun _ H locs _ hP hD hS => ?_)
    have hP : va_P D vwCl [(h 5, .inl (cI, 8, .inl (fN ub))), (h 6, .inl (cJ, 8, .inr (.inl (fC ut)))), (h 7, .inl (cI, 8, .inl up)), (h 0, .inr (2, [.ref (h 1), .ref (h 2), .ref (h 3), .ref (h 4), .ref (h 5), .ref (h 6), .ref (h 7), .long (eC row), .int (nI hc), .int (nI un)])), (h 1, .inl (cJ, 8, .inr (.inl (fC (va_up T (ub (un - 1)) (ut (un - 1))))))), (h 2, .inl (cI, 8, .inl (upd P (ub (un - 1)) (up (un - 1)))))] H := hP
    have hD : va_D AG [(h 5, .inl (cI, 8, .inl (fN ub))), (h 6, .inl (cJ, 8, .inr (.inl (fC ut)))), (h 7, .inl (cI, 8, .inl up)), (h 0, .inr (2, [.ref (h 1), .ref (h 2), .ref (h 3), .ref (h 4), .ref (h 5), .ref (h 6), .ref (h 7), .long (eC row), .int (nI hc), .int (nI un)])), (h 1, .inl (cJ, 8, .inr (.inl (fC (va_up T (ub (un - 1)) (ut (un - 1))))))), (h 2, .inl (cI, 8, .inl (upd P (ub (un - 1)) (up (un - 1)))))] := hD
    refine W.eq (g2 := F0 mG 38 ls []) rfl ?_
    refine lv_aload_n xh bh dX3_takeBack_38 rfl (lv_at hl 1 rfl) ?_
    refine lv_iload_n xh bh dX3_takeBack_39 rfl (lv_at hl 0 rfl) ?_
    refine va_put (D := D) (ci := 2) (v := .int (nI (un - 1))) (ty := .int) (C := RX3) (T := TX3) (N := 10) xh bh hts (fun _ h => List.mem_cons_of_mem _ (List.mem_append_right _ (h))) tyX3 tyX3_ok nmX3 hown hK.1 hP hD hS 3 rfl rfl 9 (by decide) (hts _ (List.mem_of_getElem? (i := 1) rfl)) (fun _ h9 => h9) rfl (by decide +kernel) (by rfl) (by rfl) (Nat.le_of_ble_eq_true rfl) dX3_takeBack_40 (fun H locs hP hD hS => ?_)
    have hP : va_P D vwCl [(h 5, .inl (cI, 8, .inl (fN ub))), (h 6, .inl (cJ, 8, .inr (.inl (fC ut)))), (h 7, .inl (cI, 8, .inl up)), (h 0, .inr (2, [.ref (h 1), .ref (h 2), .ref (h 3), .ref (h 4), .ref (h 5), .ref (h 6), .ref (h 7), .long (eC row), .int (nI hc), .int (nI (un - 1))])), (h 1, .inl (cJ, 8, .inr (.inl (fC (va_up T (ub (un - 1)) (ut (un - 1))))))), (h 2, .inl (cI, 8, .inl (upd P (ub (un - 1)) (up (un - 1)))))] H := hP
    have hD : va_D AG [(h 5, .inl (cI, 8, .inl (fN ub))), (h 6, .inl (cJ, 8, .inr (.inl (fC ut)))), (h 7, .inl (cI, 8, .inl up)), (h 0, .inr (2, [.ref (h 1), .ref (h 2), .ref (h 3), .ref (h 4), .ref (h 5), .ref (h 6), .ref (h 7), .long (eC row), .int (nI hc), .int (nI (un - 1))])), (h 1, .inl (cJ, 8, .inr (.inl (fC (va_up T (ub (un - 1)) (ut (un - 1))))))), (h 2, .inl (cI, 8, .inl (upd P (ub (un - 1)) (up (un - 1)))))] := hD
    exact hend () _ _ _ _ rfl trivial dX3_takeBack_43 (hP.sub [3, 4, 5, 0, 1, 2] rfl) (hD.sub [3, 4, 5, 0, 1, 2] (by decide) rfl) hS

set_option maxHeartbeats 1000000 in
set_option maxRecDepth 100000 in
theorem ct_X3_hear (l : Launch) (D : va_G) (cI cJ cB cZ cA : ClassId) (h : Nat → Nat) (hp : Nat → Nat) (hi : Nat → Nat) (row : List Nat) (hc : Nat) (un : Nat) (x : Nat) (y : Nat) (hhc : hc ≤ 5) : Ct l yX3_hear wsX3_hear ({ frames := 1, cells := 0, slots := 0, locals := 21 }) D (tysG cI cJ cB cZ cA) [.ref (h 0), .int (nI x), .int (nI y)] [(h 0, .inr (2, [.ref (h 1), .ref (h 2), .ref (h 3), .ref (h 4), .ref (h 5), .ref (h 6), .ref (h 7), .long (eC row), .int (nI hc), .int (nI un)])), (h 3, .inl (cI, 6, .inl (fN hp))), (h 4, .inl (cI, 6, .inl (fN hi)))] (fun (_ : Unit) => True) (fun _ => none) (fun _ => [(h 0, .inr (2, [.ref (h 1), .ref (h 2), .ref (h 3), .ref (h 4), .ref (h 5), .ref (h 6), .ref (h 7), .long (eC row), .int (nI (hc + 1)), .int (nI un)])), (h 3, .inl (cI, 6, .inl (fN (va_up hp hc x)))), (h 4, .inl (cI, 6, .inl (fN (va_up hi hc y))))]) := by
  refine Ct.ofV (cc := cX3_hear) (maxL := 3) (by decide) rfl (Nat.le_of_ble_eq_true rfl) ?_
  intro pG eG sG mG aG bG tG cG AG QG ls xh bh hml hown hts hK hP hD hS hA hend hl
  have hl : lv_has ls 3 [(0, .ref (h 0)), (1, .int (nI x)), (2, .int (nI y))] := hl
  refine lv_aload_n xh bh dX3_hear_0 rfl (lv_at hl 0 rfl) ?_
  refine va_get (D := D) (ci := 2) (v := .int (nI hc)) (C := RX3) (T := TX3) (N := 10) xh bh hts (fun _ h => List.mem_cons_of_mem _ (List.mem_append_right _ (h))) hown hK.1 hP 0 rfl rfl 8 (by decide) (hts _ (List.mem_of_getElem? (i := 1) rfl)) (fun _ h9 => h9) rfl dX3_hear_1 ?_
  refine lv_iconst (v := (nI 5)) xh bh dX3_hear_4 (by decide) ?_
  refine Ct.callN0 (rest := []) xh bh hml hown hts hK hP hS hA (ct_X8_isUpTo l D cI cJ cB cZ cA (nI hc) 5 (by first | assumption | omega)) ⟨va_cnB 2 hts gX3_hear_X8_isUpTo_n69 rfl rfl rfl (hK.2.at 2 rfl) (hts _ (List.mem_of_getElem? (i := 5) rfl)) (by decide +kernel) ⟨Nat.le_of_ble_eq_true rfl, Nat.le_of_ble_eq_true rfl⟩, hts _ (List.mem_of_getElem? (i := 4) rfl), trivial⟩ rfl rfl hl.1 (Nat.le_of_ble_eq_true rfl) dX3_hear_5 ⟨Nat.le_refl _, Nat.le_refl _⟩ (fun _ H locs _ hP hS => ?_)
  refine W.eq (g2 := F0 mG 8 ls [.int (ib (upB (nI hc) 5))]) rfl ?_
  refine xb_if_eq (tgt := 41) xh bh dX3_hear_8 (by decide) (fun c_8 => ?_) (fun c_8 => ?_)
  · exact absurd c_8 (by rw [upB_nI (by omega) (by decide), decide_eq_true (show _ by omega)]; decide)
  · refine lv_aload_n xh bh dX3_hear_11 rfl (lv_at hl 0 rfl) ?_
    refine va_get (D := D) (ci := 2) (v := .ref (h 3)) (C := RX3) (T := TX3) (N := 10) xh bh hts (fun _ h => List.mem_cons_of_mem _ (List.mem_append_right _ (h))) hown hK.1 hP 0 rfl rfl 2 (by decide) (hts _ (List.mem_of_getElem? (i := 2) rfl)) (fun _ h9 => h9) rfl dX3_hear_12 ?_
    refine lv_aload_n xh bh dX3_hear_15 rfl (lv_at hl 0 rfl) ?_
    refine va_get (D := D) (ci := 2) (v := .int (nI hc)) (C := RX3) (T := TX3) (N := 10) xh bh hts (fun _ h => List.mem_cons_of_mem _ (List.mem_append_right _ (h))) hown hK.1 hP 0 rfl rfl 8 (by decide) (hts _ (List.mem_of_getElem? (i := 1) rfl)) (fun _ h9 => h9) rfl dX3_hear_16 ?_
    refine lv_iload_n xh bh dX3_hear_19 rfl (lv_at hl 1 rfl) ?_
    refine xN_iast xh bh hK.1 hP hD hS 1 0 rfl rfl (by omega) (by omega) dX3_hear_20 (fun H locs hP hD hS => ?_)
    have hP : va_P D vwCl [(h 0, .inr (2, [.ref (h 1), .ref (h 2), .ref (h 3), .ref (h 4), .ref (h 5), .ref (h 6), .ref (h 7), .long (eC row), .int (nI hc), .int (nI un)])), (h 3, .inl (cI, 6, .inl (fN (va_up hp hc x)))), (h 4, .inl (cI, 6, .inl (fN hi)))] H := hP
    have hD : va_D AG [(h 0, .inr (2, [.ref (h 1), .ref (h 2), .ref (h 3), .ref (h 4), .ref (h 5), .ref (h 6), .ref (h 7), .long (eC row), .int (nI hc), .int (nI un)])), (h 3, .inl (cI, 6, .inl (fN (va_up hp hc x)))), (h 4, .inl (cI, 6, .inl (fN hi)))] := hD
    refine lv_aload_n xh bh dX3_hear_21 rfl (lv_at hl 0 rfl) ?_
    refine va_get (D := D) (ci := 2) (v := .ref (h 4)) (C := RX3) (T := TX3) (N := 10) xh bh hts (fun _ h => List.mem_cons_of_mem _ (List.mem_append_right _ (h))) hown hK.1 hP 0 rfl rfl 3 (by decide) (hts _ (List.mem_of_getElem? (i := 3) rfl)) (fun _ h9 => h9) rfl dX3_hear_22 ?_
    refine lv_aload_n xh bh dX3_hear_25 rfl (lv_at hl 0 rfl) ?_
    refine va_get (D := D) (ci := 2) (v := .int (nI hc)) (C := RX3) (T := TX3) (N := 10) xh bh hts (fun _ h => List.mem_cons_of_mem _ (List.mem_append_right _ (h))) hown hK.1 hP 0 rfl rfl 8 (by decide) (hts _ (List.mem_of_getElem? (i := 1) rfl)) (fun _ h9 => h9) rfl dX3_hear_26 ?_
    refine lv_iload_n xh bh dX3_hear_29 rfl (lv_at hl 2 rfl) ?_
    refine xN_iast xh bh hK.1 hP hD hS 2 0 rfl rfl (by omega) (by omega) dX3_hear_30 (fun H locs hP hD hS => ?_)
    have hP : va_P D vwCl [(h 0, .inr (2, [.ref (h 1), .ref (h 2), .ref (h 3), .ref (h 4), .ref (h 5), .ref (h 6), .ref (h 7), .long (eC row), .int (nI hc), .int (nI un)])), (h 3, .inl (cI, 6, .inl (fN (va_up hp hc x)))), (h 4, .inl (cI, 6, .inl (fN (va_up hi hc y))))] H := hP
    have hD : va_D AG [(h 0, .inr (2, [.ref (h 1), .ref (h 2), .ref (h 3), .ref (h 4), .ref (h 5), .ref (h 6), .ref (h 7), .long (eC row), .int (nI hc), .int (nI un)])), (h 3, .inl (cI, 6, .inl (fN (va_up hp hc x)))), (h 4, .inl (cI, 6, .inl (fN (va_up hi hc y))))] := hD
    refine lv_aload_n xh bh dX3_hear_31 rfl (lv_at hl 0 rfl) ?_
    refine lv_dup xh bh dX3_hear_32 rfl ?_
    refine va_get (D := D) (ci := 2) (v := .int (nI hc)) (C := RX3) (T := TX3) (N := 10) xh bh hts (fun _ h => List.mem_cons_of_mem _ (List.mem_append_right _ (h))) hown hK.1 hP 0 rfl rfl 8 (by decide) (hts _ (List.mem_of_getElem? (i := 1) rfl)) (fun _ h9 => h9) rfl dX3_hear_33 ?_
    refine lv_iconst (v := (nI 1)) xh bh dX3_hear_36 (by decide) ?_
    refine xn_iadd xh bh dX3_hear_37 ?_
    refine va_put (D := D) (ci := 2) (v := .int (nI (hc + 1))) (ty := .int) (C := RX3) (T := TX3) (N := 10) xh bh hts (fun _ h => List.mem_cons_of_mem _ (List.mem_append_right _ (h))) tyX3 tyX3_ok nmX3 hown hK.1 hP hD hS 0 rfl rfl 8 (by decide) (hts _ (List.mem_of_getElem? (i := 1) rfl)) (fun _ h9 => h9) rfl (by decide +kernel) (by rfl) (by rfl) (Nat.le_of_ble_eq_true rfl) dX3_hear_38 (fun H locs hP hD hS => ?_)
    have hP : va_P D vwCl [(h 0, .inr (2, [.ref (h 1), .ref (h 2), .ref (h 3), .ref (h 4), .ref (h 5), .ref (h 6), .ref (h 7), .long (eC row), .int (nI (hc + 1)), .int (nI un)])), (h 3, .inl (cI, 6, .inl (fN (va_up hp hc x)))), (h 4, .inl (cI, 6, .inl (fN (va_up hi hc y))))] H := hP
    have hD : va_D AG [(h 0, .inr (2, [.ref (h 1), .ref (h 2), .ref (h 3), .ref (h 4), .ref (h 5), .ref (h 6), .ref (h 7), .long (eC row), .int (nI (hc + 1)), .int (nI un)])), (h 3, .inl (cI, 6, .inl (fN (va_up hp hc x)))), (h 4, .inl (cI, 6, .inl (fN (va_up hi hc y))))] := hD
    exact hend () _ _ _ _ rfl trivial dX3_hear_41 hP hD hS

set_option maxHeartbeats 1000000 in
set_option maxRecDepth 100000 in
theorem ct_X3_branchesWithout (l : Launch) (D : va_G) (cI cJ cB cZ cA : ClassId) (h : Nat → Nat) (T : Nat → List Nat) (row : List Nat) (hc : Nat) (un : Nat) (z : Nat) (hT : ∀ k, okT (T k)) : Ct l yX3_branchesWithout wsX3_branchesWithout ({ frames := 2, cells := 0, slots := 0, locals := 45 }) D (tysG cI cJ cB cZ cA) [.ref (h 0), .int (nI z)] [(h 0, .inr (2, [.ref (h 1), .ref (h 2), .ref (h 3), .ref (h 4), .ref (h 5), .ref (h 6), .ref (h 7), .long (eC row), .int (nI hc), .int (nI un)])), (h 1, .inl (cJ, 8, .inr (.inl (fC T))))] (fun (_ : Unit) => True) (fun _ => some (.int (nI (bwoN T z 8)))) (fun _ => [(h 0, .inr (2, [.ref (h 1), .ref (h 2), .ref (h 3), .ref (h 4), .ref (h 5), .ref (h 6), .ref (h 7), .long (eC row), .int (nI hc), .int (nI un)])), (h 1, .inl (cJ, 8, .inr (.inl (fC T))))]) := by
  refine Ct.ofI (cc := cX3_branchesWithout) (maxL := 4) (by decide) rfl (Nat.le_of_ble_eq_true rfl) ?_
  intro pG eG sG mG aG bG tG cG AG QG ls xh bh hml hown hts hK hP hD hS hA hend hl
  have hl : lv_has ls 4 [(0, .ref (h 0)), (1, .int (nI z))] := hl
  refine lv_iconst (v := (nI 0)) xh bh dX3_branchesWithout_0 (by decide) ?_
  refine lv_istore_n (lv' := [(2, .int (nI 0)), (0, .ref (h 0)), (1, .int (nI z))]) xh bh dX3_branchesWithout_1 rfl hl (by decide) rfl (fun ls hl => ?_)
  refine lv_iconst (v := (nI 0)) xh bh dX3_branchesWithout_2 (by decide) ?_
  refine lv_istore_n (lv' := [(3, .int (nI 0)), (2, .int (nI 0)), (0, .ref (h 0)), (1, .int (nI z))]) xh bh dX3_branchesWithout_3 rfl hl (by decide) rfl (fun ls hl => ?_)
  have cut_4 : ∀ (n_4 : Nat), ∀ (i : Nat), ∀ (r : Nat), (i ≤ 8) → (r = bwoN T z i) → (8 - i) < n_4 → ∀ (H : Heap) (locs : List Loc) (ls : Array Slot), va_P D vwCl [(h 0, .inr (2, [.ref (h 1), .ref (h 2), .ref (h 3), .ref (h 4), .ref (h 5), .ref (h 6), .ref (h 7), .long (eC row), .int (nI hc), .int (nI un)])), (h 1, .inl (cJ, 8, .inr (.inl (fC T))))] H → va_D AG [(h 0, .inr (2, [.ref (h 1), .ref (h 2), .ref (h 3), .ref (h 4), .ref (h 5), .ref (h 6), .ref (h 7), .long (eC row), .int (nI hc), .int (nI un)])), (h 1, .inl (cJ, 8, .inr (.inl (fC T))))] → va_S AG sG.heap H locs → lv_has ls 4 [(0, .ref (h 0)), (1, .int (nI z)), (2, .int (nI r)), (3, .int (nI i))] → W pG l eG ({ frames := 2, cells := 0, slots := 0, locals := 45 }) sG mG aG bG tG cG H locs 0 0 QG (F0 mG 4 ls []) := by
    intro n_4
    induction n_4 with
    | zero =>
      intro i r hi hr hmu
      exact absurd hmu (Nat.not_lt_zero _)
    | succ n_4 ih_4 =>
      intro i r hi hr hmu H locs ls hP hD hS hl
      refine lv_iload_n xh bh dX3_branchesWithout_4 rfl (lv_at hl 3 rfl) ?_
      refine lv_bipush (v := (nI 8)) xh bh dX3_branchesWithout_5 (by decide) ?_
      refine xn_icmp_ge (tgt := 47) xh bh dX3_branchesWithout_7 (by decide) (by omega) (by omega) (fun c_7 => ?_) (fun c_7 => ?_)
      · refine lv_iload_n xh bh dX3_branchesWithout_47 rfl (lv_at hl 2 rfl) ?_
        exact hend (nI r) () _ _ _ _ (congrArg (fun z => some (Value.int (nI z))) (by rw [hr, show i = 8 by omega])) trivial rfl dX3_branchesWithout_48 hP hD hS
      · refine lv_aload_n xh bh dX3_branchesWithout_10 rfl (lv_at hl 0 rfl) ?_
        refine va_get (D := D) (ci := 2) (v := .ref (h 1)) (C := RX3) (T := TX3) (N := 10) xh bh hts (fun _ h => List.mem_cons_of_mem _ (List.mem_append_right _ (h))) hown hK.1 hP 0 rfl rfl 0 (by decide) (hts _ (List.mem_of_getElem? (i := 1) rfl)) (fun _ h9 => h9) rfl dX3_branchesWithout_11 ?_
        refine lv_iload_n xh bh dX3_branchesWithout_14 rfl (lv_at hl 3 rfl) ?_
        refine xa_lald xh bh hK.1 hP 1 1 rfl rfl (by omega) (by omega) dX3_branchesWithout_15 ?_
        refine W.eq (g2 := F0 mG 16 ls [.long (eC (T i))]) rfl ?_
        refine lv_lconst (v := lN 0) xh bh dX3_branchesWithout_16 (by decide) ?_
        refine W.lcmp xh bh dX3_branchesWithout_17 ?_
        refine xt_if_eqC (tgt := 41) xh bh dX3_branchesWithout_18 (by decide) (by exact hT _) (fun c_18 => ?_) (fun c_18 => ?_)
        · refine lv_iinc (v := (nI (i + 1))) (lv' := [(3, .int (nI (i + 1))), (0, .ref (h 0)), (1, .int (nI z)), (2, .int (nI r))]) xh bh dX3_branchesWithout_41 hl (k := 3) rfl (by exact xn_inc _ _) (by decide) rfl (fun ls hl => ?_)
          refine lv_goto (tgt := 4) xh bh dX3_branchesWithout_44 (by decide) ?_
          exact ih_4 (i + 1) r (by omega) (by rw [hr]; first | exact (bwoN_y c_18 c_32).symm | exact (bwoN_n (fun q => q.1 c_18)).symm | exact (bwoN_n (fun q => c_32 q.2)).symm) (by omega) _ _ ls hP hD hS (lv_sub hl [1, 2, 3, 0] rfl)
        · refine lv_aload_n xh bh dX3_branchesWithout_21 rfl (lv_at hl 0 rfl) ?_
          refine va_get (D := D) (ci := 2) (v := .ref (h 1)) (C := RX3) (T := TX3) (N := 10) xh bh hts (fun _ h => List.mem_cons_of_mem _ (List.mem_append_right _ (h))) hown hK.1 hP 0 rfl rfl 0 (by decide) (hts _ (List.mem_of_getElem? (i := 1) rfl)) (fun _ h9 => h9) rfl dX3_branchesWithout_22 ?_
          refine lv_iload_n xh bh dX3_branchesWithout_25 rfl (lv_at hl 3 rfl) ?_
          refine xa_lald xh bh hK.1 hP 1 1 rfl rfl (by omega) (by omega) dX3_branchesWithout_26 ?_
          refine W.eq (g2 := F0 mG 27 ls [.long (eC (T i))]) rfl ?_
          refine Ct.callS0 (rest := []) xh bh hml hown hts hK hP hS hA (ct_X7_kindsIn l D cI cJ cB cZ cA (T i) (by exact hT _)) (va_cwS 1 hts gX3_branchesWithout_X7_kindsIn rfl rfl rfl (by decide +kernel) ⟨Nat.le_of_ble_eq_true rfl, Nat.le_of_ble_eq_true rfl⟩) rfl rfl hl.1 (Nat.le_of_ble_eq_true rfl) dX3_branchesWithout_27 ⟨Nat.le_refl _, Nat.le_refl _⟩ (fun _ H locs _ hP hS => ?_)
          refine W.eq (g2 := F0 mG 30 ls [.int (nI (kN (T i)))]) rfl ?_
          refine lv_iload_n xh bh dX3_branchesWithout_30 rfl (lv_at hl 1 rfl) ?_
          refine xn_iand xh bh dX3_branchesWithout_31 ?_
          refine xn_if_ne (tgt := 41) xh bh dX3_branchesWithout_32 (by decide) (by have := (hT i).kNB; have := Nat.and_le_left (n := kN (T i)) (m := z); omega) (fun c_32 => ?_) (fun c_32 => ?_)
          · refine lv_iinc (v := (nI (i + 1))) (lv' := [(3, .int (nI (i + 1))), (0, .ref (h 0)), (1, .int (nI z)), (2, .int (nI r))]) xh bh dX3_branchesWithout_41 hl (k := 3) rfl (by exact xn_inc _ _) (by decide) rfl (fun ls hl => ?_)
            refine lv_goto (tgt := 4) xh bh dX3_branchesWithout_44 (by decide) ?_
            exact ih_4 (i + 1) r (by omega) (by rw [hr]; first | exact (bwoN_y c_18 c_32).symm | exact (bwoN_n (fun q => q.1 c_18)).symm | exact (bwoN_n (fun q => c_32 q.2)).symm) (by omega) _ _ ls hP hD hS (lv_sub hl [1, 2, 3, 0] rfl)
          · refine lv_iload_n xh bh dX3_branchesWithout_35 rfl (lv_at hl 2 rfl) ?_
            refine lv_iconst (v := (nI 1)) xh bh dX3_branchesWithout_36 (by decide) ?_
            refine lv_iload_n xh bh dX3_branchesWithout_37 rfl (lv_at hl 3 rfl) ?_
            refine xn_ishl1 xh bh dX3_branchesWithout_38 (by omega) ?_
            refine xn_ior xh bh dX3_branchesWithout_39 ?_
            refine lv_istore_n (lv' := [(2, .int (nI (r ||| (2 ^ i)))), (0, .ref (h 0)), (1, .int (nI z)), (3, .int (nI i))]) xh bh dX3_branchesWithout_40 rfl hl (by decide) rfl (fun ls hl => ?_)
            refine lv_iinc (v := (nI (i + 1))) (lv' := [(3, .int (nI (i + 1))), (2, .int (nI (r ||| (2 ^ i)))), (0, .ref (h 0)), (1, .int (nI z))]) xh bh dX3_branchesWithout_41 hl (k := 3) rfl (by exact xn_inc _ _) (by decide) rfl (fun ls hl => ?_)
            refine lv_goto (tgt := 4) xh bh dX3_branchesWithout_44 (by decide) ?_
            exact ih_4 (i + 1) (r ||| (2 ^ i)) (by omega) (by rw [hr]; first | exact (bwoN_y c_18 c_32).symm | exact (bwoN_n (fun q => q.1 c_18)).symm | exact (bwoN_n (fun q => c_32 q.2)).symm) (by omega) _ _ ls hP hD hS (lv_sub hl [2, 3, 1, 0] rfl)
  exact cut_4 (8 - 0 + 1) 0 0 (by exact Nat.zero_le _) (by rfl) (Nat.lt_succ_self _) _ _ ls hP hD hS (lv_sub hl [2, 3, 1, 0] rfl)

set_option maxHeartbeats 1000000 in
set_option maxRecDepth 100000 in
theorem ct_X3_branchesWith (l : Launch) (D : va_G) (cI cJ cB cZ cA : ClassId) (h : Nat → Nat) (T : Nat → List Nat) (row : List Nat) (hc : Nat) (un : Nat) (x : Nat) (hT : ∀ k, okT (T k)) (hx : x < 10) : Ct l yX3_branchesWith wsX3_branchesWith ({ frames := 3, cells := 0, slots := 0, locals := 67 }) D (tysG cI cJ cB cZ cA) [.ref (h 0), .int (nI x)] [(h 0, .inr (2, [.ref (h 1), .ref (h 2), .ref (h 3), .ref (h 4), .ref (h 5), .ref (h 6), .ref (h 7), .long (eC row), .int (nI hc), .int (nI un)])), (h 1, .inl (cJ, 8, .inr (.inl (fC T))))] (fun (_ : Unit) => True) (fun _ => some (.int (nI (bwiN T x 8)))) (fun _ => [(h 0, .inr (2, [.ref (h 1), .ref (h 2), .ref (h 3), .ref (h 4), .ref (h 5), .ref (h 6), .ref (h 7), .long (eC row), .int (nI hc), .int (nI un)])), (h 1, .inl (cJ, 8, .inr (.inl (fC T))))]) := by
  refine Ct.ofI (cc := cX3_branchesWith) (maxL := 4) (by decide) rfl (Nat.le_of_ble_eq_true rfl) ?_
  intro pG eG sG mG aG bG tG cG AG QG ls xh bh hml hown hts hK hP hD hS hA hend hl
  have hl : lv_has ls 4 [(0, .ref (h 0)), (1, .int (nI x))] := hl
  refine lv_iconst (v := (nI 0)) xh bh dX3_branchesWith_0 (by decide) ?_
  refine lv_istore_n (lv' := [(2, .int (nI 0)), (0, .ref (h 0)), (1, .int (nI x))]) xh bh dX3_branchesWith_1 rfl hl (by decide) rfl (fun ls hl => ?_)
  refine lv_iconst (v := (nI 0)) xh bh dX3_branchesWith_2 (by decide) ?_
  refine lv_istore_n (lv' := [(3, .int (nI 0)), (2, .int (nI 0)), (0, .ref (h 0)), (1, .int (nI x))]) xh bh dX3_branchesWith_3 rfl hl (by decide) rfl (fun ls hl => ?_)
  have cut_4 : ∀ (n_4 : Nat), ∀ (i : Nat), ∀ (r : Nat), (i ≤ 8) → (r = bwiN T x i) → (8 - i) < n_4 → ∀ (H : Heap) (locs : List Loc) (ls : Array Slot), va_P D vwCl [(h 0, .inr (2, [.ref (h 1), .ref (h 2), .ref (h 3), .ref (h 4), .ref (h 5), .ref (h 6), .ref (h 7), .long (eC row), .int (nI hc), .int (nI un)])), (h 1, .inl (cJ, 8, .inr (.inl (fC T))))] H → va_D AG [(h 0, .inr (2, [.ref (h 1), .ref (h 2), .ref (h 3), .ref (h 4), .ref (h 5), .ref (h 6), .ref (h 7), .long (eC row), .int (nI hc), .int (nI un)])), (h 1, .inl (cJ, 8, .inr (.inl (fC T))))] → va_S AG sG.heap H locs → lv_has ls 4 [(0, .ref (h 0)), (1, .int (nI x)), (2, .int (nI r)), (3, .int (nI i))] → W pG l eG ({ frames := 3, cells := 0, slots := 0, locals := 67 }) sG mG aG bG tG cG H locs 0 0 QG (F0 mG 4 ls []) := by
    intro n_4
    induction n_4 with
    | zero =>
      intro i r hi hr hmu
      exact absurd hmu (Nat.not_lt_zero _)
    | succ n_4 ih_4 =>
      intro i r hi hr hmu H locs ls hP hD hS hl
      refine lv_iload_n xh bh dX3_branchesWith_4 rfl (lv_at hl 3 rfl) ?_
      refine lv_bipush (v := (nI 8)) xh bh dX3_branchesWith_5 (by decide) ?_
      refine xn_icmp_ge (tgt := 35) xh bh dX3_branchesWith_7 (by decide) (by omega) (by omega) (fun c_7 => ?_) (fun c_7 => ?_)
      · refine lv_iload_n xh bh dX3_branchesWith_35 rfl (lv_at hl 2 rfl) ?_
        exact hend (nI r) () _ _ _ _ (congrArg (fun z => some (Value.int (nI z))) (by rw [hr, show i = 8 by omega])) trivial rfl dX3_branchesWith_36 hP hD hS
      · refine lv_aload_n xh bh dX3_branchesWith_10 rfl (lv_at hl 0 rfl) ?_
        refine va_get (D := D) (ci := 2) (v := .ref (h 1)) (C := RX3) (T := TX3) (N := 10) xh bh hts (fun _ h => List.mem_cons_of_mem _ (List.mem_append_right _ (h))) hown hK.1 hP 0 rfl rfl 0 (by decide) (hts _ (List.mem_of_getElem? (i := 1) rfl)) (fun _ h9 => h9) rfl dX3_branchesWith_11 ?_
        refine lv_iload_n xh bh dX3_branchesWith_14 rfl (lv_at hl 3 rfl) ?_
        refine xa_lald xh bh hK.1 hP 1 1 rfl rfl (by omega) (by omega) dX3_branchesWith_15 ?_
        refine W.eq (g2 := F0 mG 16 ls [.long (eC (T i))]) rfl ?_
        refine lv_iload_n xh bh dX3_branchesWith_16 rfl (lv_at hl 1 rfl) ?_
        refine Ct.callS0 (rest := []) xh bh hml hown hts hK hP hS hA (ct_X7_has l D cI cJ cB cZ cA (T i) x (by exact hT _) (by first | assumption | omega)) (va_cwS 2 hts gX3_branchesWith_X7_has rfl rfl rfl (by decide +kernel) ⟨Nat.le_of_ble_eq_true rfl, Nat.le_of_ble_eq_true rfl⟩) rfl rfl hl.1 (Nat.le_of_ble_eq_true rfl) dX3_branchesWith_17 ⟨Nat.le_refl _, Nat.le_refl _⟩ (fun _ H locs _ hP hS => ?_)
        refine W.eq (g2 := F0 mG 20 ls [.int (ib (decide (x ∈ (T i))))]) rfl ?_
        refine xb_if_eq (tgt := 29) xh bh dX3_branchesWith_20 (by decide) (fun c_20 => ?_) (fun c_20 => ?_)
        · refine lv_iinc (v := (nI (i + 1))) (lv' := [(3, .int (nI (i + 1))), (0, .ref (h 0)), (1, .int (nI x)), (2, .int (nI r))]) xh bh dX3_branchesWith_29 hl (k := 3) rfl (by exact xn_inc _ _) (by decide) rfl (fun ls hl => ?_)
          refine lv_goto (tgt := 4) xh bh dX3_branchesWith_32 (by decide) ?_
          exact ih_4 (i + 1) r (by omega) (by rw [hr]; first | exact (bwiN_y (of_decide_eq_true c_20)).symm | exact (bwiN_n (of_decide_eq_false c_20)).symm) (by omega) _ _ ls hP hD hS (lv_sub hl [1, 2, 3, 0] rfl)
        · refine lv_iload_n xh bh dX3_branchesWith_23 rfl (lv_at hl 2 rfl) ?_
          refine lv_iconst (v := (nI 1)) xh bh dX3_branchesWith_24 (by decide) ?_
          refine lv_iload_n xh bh dX3_branchesWith_25 rfl (lv_at hl 3 rfl) ?_
          refine xn_ishl1 xh bh dX3_branchesWith_26 (by omega) ?_
          refine xn_ior xh bh dX3_branchesWith_27 ?_
          refine lv_istore_n (lv' := [(2, .int (nI (r ||| (2 ^ i)))), (0, .ref (h 0)), (1, .int (nI x)), (3, .int (nI i))]) xh bh dX3_branchesWith_28 rfl hl (by decide) rfl (fun ls hl => ?_)
          refine lv_iinc (v := (nI (i + 1))) (lv' := [(3, .int (nI (i + 1))), (2, .int (nI (r ||| (2 ^ i)))), (0, .ref (h 0)), (1, .int (nI x))]) xh bh dX3_branchesWith_29 hl (k := 3) rfl (by exact xn_inc _ _) (by decide) rfl (fun ls hl => ?_)
          refine lv_goto (tgt := 4) xh bh dX3_branchesWith_32 (by decide) ?_
          exact ih_4 (i + 1) (r ||| (2 ^ i)) (by omega) (by rw [hr]; first | exact (bwiN_y (of_decide_eq_true c_20)).symm | exact (bwiN_n (of_decide_eq_false c_20)).symm) (by omega) _ _ ls hP hD hS (lv_sub hl [2, 3, 1, 0] rfl)
  exact cut_4 (8 - 0 + 1) 0 0 (by exact Nat.zero_le _) (by rfl) (Nat.lt_succ_self _) _ _ ls hP hD hS (lv_sub hl [2, 3, 1, 0] rfl)

set_option maxHeartbeats 1000000 in
set_option maxRecDepth 100000 in
theorem ct_X3_talesTold (l : Launch) (D : va_G) (cI cJ cB cZ cA : ClassId) (h : Nat → Nat) (T : Nat → List Nat) (row : List Nat) (hc : Nat) (un : Nat) (hT : ∀ k, okT (T k)) : Ct l yX3_talesTold wsX3_talesTold ({ frames := 3, cells := 0, slots := 0, locals := 68 }) D (tysG cI cJ cB cZ cA) [.ref (h 0)] [(h 0, .inr (2, [.ref (h 1), .ref (h 2), .ref (h 3), .ref (h 4), .ref (h 5), .ref (h 6), .ref (h 7), .long (eC row), .int (nI hc), .int (nI un)])), (h 1, .inl (cJ, 8, .inr (.inl (fC T))))] (fun (_ : Unit) => True) (fun _ => some (.int (nI (popN (bwoN T 0 8))))) (fun _ => [(h 0, .inr (2, [.ref (h 1), .ref (h 2), .ref (h 3), .ref (h 4), .ref (h 5), .ref (h 6), .ref (h 7), .long (eC row), .int (nI hc), .int (nI un)])), (h 1, .inl (cJ, 8, .inr (.inl (fC T))))]) := by
  refine Ct.ofI (cc := cX3_talesTold) (maxL := 1) (by decide) rfl (Nat.le_of_ble_eq_true rfl) ?_
  intro pG eG sG mG aG bG tG cG AG QG ls xh bh hml hown hts hK hP hD hS hA hend hl
  have hl : lv_has ls 1 [(0, .ref (h 0))] := hl
  refine lv_aload_n xh bh dX3_talesTold_0 rfl (lv_at hl 0 rfl) ?_
  refine lv_iconst (v := (nI 0)) xh bh dX3_talesTold_1 (by decide) ?_
  refine Ct.callV (As := [.int (nI 0)]) (rest := []) (wr := []) xh bh hml hown hts hK hP hD hS hA (ct_X3_branchesWithout l D cI cJ cB cZ cA h T row hc un 0 (by first | assumption)) (cwV 1 hts gX3_talesTold_X3_branchesWithout rfl rfl rfl (by decide +kernel) ⟨Nat.le_of_ble_eq_true rfl, Nat.le_of_ble_eq_true rfl⟩) rfl rfl hl.1 (Nat.le_of_ble_eq_true rfl) dX3_talesTold_2 ⟨Nat.le_refl _, Nat.le_refl _⟩ 0 2 rfl rfl rfl [0, 1] [] rfl (by decide) rfl rfl (by decide) (by decide) (fun _ H locs _ hP hD hS => ?_)
  have hP : va_P D vwCl [(h 0, .inr (2, [.ref (h 1), .ref (h 2), .ref (h 3), .ref (h 4), .ref (h 5), .ref (h 6), .ref (h 7), .long (eC row), .int (nI hc), .int (nI un)])), (h 1, .inl (cJ, 8, .inr (.inl (fC T))))] H := hP
  have hD : va_D AG [(h 0, .inr (2, [.ref (h 1), .ref (h 2), .ref (h 3), .ref (h 4), .ref (h 5), .ref (h 6), .ref (h 7), .long (eC row), .int (nI hc), .int (nI un)])), (h 1, .inl (cJ, 8, .inr (.inl (fC T))))] := hD
  refine W.eq (g2 := F0 mG 5 ls [.int (nI (bwoN T 0 8))]) rfl ?_
  refine Ct.callS0 (rest := []) xh bh hml hown hts hK hP hS hA (ct_J6_bitCount_0f7a4 l D cI cJ cB cZ cA (bwoN T 0 8) (by have := bwoN_lt T 0 8; omega)) (va_cwS 1 hts gX3_talesTold_J6_bitCount_0f7a4 rfl rfl rfl (by decide +kernel) ⟨Nat.le_of_ble_eq_true rfl, Nat.le_of_ble_eq_true rfl⟩) rfl rfl hl.1 (Nat.le_of_ble_eq_true rfl) dX3_talesTold_5 ⟨Nat.le_refl _, Nat.le_refl _⟩ (fun _ H locs _ hP hS => ?_)
  refine W.eq (g2 := F0 mG 8 ls [.int (nI (popN (bwoN T 0 8)))]) rfl ?_
  exact hend (nI (popN (bwoN T 0 8))) () _ _ _ _ (congrArg (fun z => some (Value.int (nI z))) (by rfl)) trivial rfl dX3_talesTold_8 hP hD hS

set_option maxHeartbeats 1000000 in
set_option maxRecDepth 100000 in
theorem ct_X3_partsOfAll (l : Launch) (D : va_G) (cI cJ cB cZ cA : ClassId) (h : Nat → Nat) (T : Nat → List Nat) (row : List Nat) (hc : Nat) (un : Nat) (hT : ∀ k, okT (T k)) : Ct l yX3_partsOfAll wsX3_partsOfAll ({ frames := 1, cells := 0, slots := 0, locals := 22 }) D (tysG cI cJ cB cZ cA) [.ref (h 0)] [(h 0, .inr (2, [.ref (h 1), .ref (h 2), .ref (h 3), .ref (h 4), .ref (h 5), .ref (h 6), .ref (h 7), .long (eC row), .int (nI hc), .int (nI un)])), (h 1, .inl (cJ, 8, .inr (.inl (fC T))))] (fun (_ : Unit) => True) (fun _ => some (.int (nI (plT T 8)))) (fun _ => [(h 0, .inr (2, [.ref (h 1), .ref (h 2), .ref (h 3), .ref (h 4), .ref (h 5), .ref (h 6), .ref (h 7), .long (eC row), .int (nI hc), .int (nI un)])), (h 1, .inl (cJ, 8, .inr (.inl (fC T))))]) := by
  refine Ct.ofI (cc := cX3_partsOfAll) (maxL := 7) (by decide) rfl (Nat.le_of_ble_eq_true rfl) ?_
  intro pG eG sG mG aG bG tG cG AG QG ls xh bh hml hown hts hK hP hD hS hA hend hl
  have hl : lv_has ls 7 [(0, .ref (h 0))] := hl
  refine lv_iconst (v := (nI 0)) xh bh dX3_partsOfAll_0 (by decide) ?_
  refine lv_istore_n (lv' := [(1, .int (nI 0)), (0, .ref (h 0))]) xh bh dX3_partsOfAll_1 rfl hl (by decide) rfl (fun ls hl => ?_)
  refine lv_aload_n xh bh dX3_partsOfAll_2 rfl (lv_at hl 1 rfl) ?_
  refine va_get (D := D) (ci := 2) (v := .ref (h 1)) (C := RX3) (T := TX3) (N := 10) xh bh hts (fun _ h => List.mem_cons_of_mem _ (List.mem_append_right _ (h))) hown hK.1 hP 0 rfl rfl 0 (by decide) (hts _ (List.mem_of_getElem? (i := 1) rfl)) (fun _ h9 => h9) rfl dX3_partsOfAll_3 ?_
  refine lv_astore_n (lv' := [(2, .ref (h 1)), (1, .int (nI 0)), (0, .ref (h 0))]) xh bh dX3_partsOfAll_6 rfl hl (by decide) rfl (fun ls hl => ?_)
  refine lv_aload_n xh bh dX3_partsOfAll_7 rfl (lv_at hl 0 rfl) ?_
  refine va_alen (v := nI 8) xh bh hK.1 hP 1 1 rfl rfl rfl dX3_partsOfAll_8 ?_
  refine lv_istore_n (lv' := [(3, .int (nI 8)), (2, .ref (h 1)), (1, .int (nI 0)), (0, .ref (h 0))]) xh bh dX3_partsOfAll_9 rfl hl (by decide) rfl (fun ls hl => ?_)
  refine lv_iconst (v := (nI 0)) xh bh dX3_partsOfAll_10 (by decide) ?_
  refine lv_istore (lv' := [(4, .int (nI 0)), (3, .int (nI 8)), (2, .ref (h 1)), (1, .int (nI 0)), (0, .ref (h 0))]) xh bh dX3_partsOfAll_11 hl (by decide) rfl (fun ls hl => ?_)
  have cut_13 : ∀ (n_13 : Nat), ∀ (i : Nat), ∀ (r : Nat), (i ≤ 8) → (r = plT T i) → (8 - i) < n_13 → ∀ (H : Heap) (locs : List Loc) (ls : Array Slot), va_P D vwCl [(h 0, .inr (2, [.ref (h 1), .ref (h 2), .ref (h 3), .ref (h 4), .ref (h 5), .ref (h 6), .ref (h 7), .long (eC row), .int (nI hc), .int (nI un)])), (h 1, .inl (cJ, 8, .inr (.inl (fC T))))] H → va_D AG [(h 0, .inr (2, [.ref (h 1), .ref (h 2), .ref (h 3), .ref (h 4), .ref (h 5), .ref (h 6), .ref (h 7), .long (eC row), .int (nI hc), .int (nI un)])), (h 1, .inl (cJ, 8, .inr (.inl (fC T))))] → va_S AG sG.heap H locs → lv_has ls 7 [(0, .ref (h 0)), (1, .int (nI r)), (2, .ref (h 1)), (3, .int (nI 8)), (4, .int (nI i))] → W pG l eG ({ frames := 1, cells := 0, slots := 0, locals := 22 }) sG mG aG bG tG cG H locs 0 0 QG (F0 mG 13 ls []) := by
    intro n_13
    induction n_13 with
    | zero =>
      intro i r hi hr hmu
      exact absurd hmu (Nat.not_lt_zero _)
    | succ n_13 ih_13 =>
      intro i r hi hr hmu H locs ls hP hD hS hl
      refine lv_iload xh bh dX3_partsOfAll_13 (lv_at hl 4 rfl) ?_
      refine lv_iload_n xh bh dX3_partsOfAll_15 rfl (lv_at hl 3 rfl) ?_
      refine xn_icmp_ge (tgt := 39) xh bh dX3_partsOfAll_16 (by decide) (by omega) (by omega) (fun c_16 => ?_) (fun c_16 => ?_)
      · refine lv_iload_n xh bh dX3_partsOfAll_39 rfl (lv_at hl 1 rfl) ?_
        exact hend (nI r) () _ _ _ _ (congrArg (fun z => some (Value.int (nI z))) (by rw [hr, show i = 8 by omega])) trivial rfl dX3_partsOfAll_40 hP hD hS
      · refine lv_aload_n xh bh dX3_partsOfAll_19 rfl (lv_at hl 2 rfl) ?_
        refine lv_iload xh bh dX3_partsOfAll_20 (lv_at hl 4 rfl) ?_
        refine xa_lald xh bh hK.1 hP 1 1 rfl rfl (by omega) (by omega) dX3_partsOfAll_22 ?_
        refine W.eq (g2 := F0 mG 23 ls [.long (eC (T i))]) rfl ?_
        refine lv_lstore (lv' := [(5, .long (eC (T i))), (0, .ref (h 0)), (1, .int (nI r)), (2, .ref (h 1)), (3, .int (nI 8)), (4, .int (nI i))]) xh bh dX3_partsOfAll_23 hl (by decide) rfl (fun ls hl => ?_)
        refine lv_iload_n xh bh dX3_partsOfAll_25 rfl (lv_at hl 2 rfl) ?_
        refine lv_lload xh bh dX3_partsOfAll_26 (lv_at hl 0 rfl) ?_
        refine Ct.callS0 (rest := [.int (nI r)]) xh bh hml hown hts hK hP hS hA (ct_X7_sizeOf l D cI cJ cB cZ cA (T i) (by exact hT _)) (va_cwS 1 hts gX3_partsOfAll_X7_sizeOf rfl rfl rfl (by decide +kernel) ⟨Nat.le_of_ble_eq_true rfl, Nat.le_of_ble_eq_true rfl⟩) rfl rfl hl.1 (Nat.le_of_ble_eq_true rfl) dX3_partsOfAll_28 ⟨Nat.le_refl _, Nat.le_refl _⟩ (fun _ H locs _ hP hS => ?_)
        refine W.eq (g2 := F0 mG 31 ls [.int (nI ((T i).length)), .int (nI r)]) rfl ?_
        refine xn_iadd xh bh dX3_partsOfAll_31 ?_
        refine lv_istore_n (lv' := [(1, .int (nI (r + ((T i).length)))), (5, .long (eC (T i))), (0, .ref (h 0)), (2, .ref (h 1)), (3, .int (nI 8)), (4, .int (nI i))]) xh bh dX3_partsOfAll_32 rfl hl (by decide) rfl (fun ls hl => ?_)
        refine lv_iinc (v := (nI (i + 1))) (lv' := [(4, .int (nI (i + 1))), (1, .int (nI (r + ((T i).length)))), (5, .long (eC (T i))), (0, .ref (h 0)), (2, .ref (h 1)), (3, .int (nI 8))]) xh bh dX3_partsOfAll_33 hl (k := 5) rfl (by exact xn_inc _ _) (by decide) rfl (fun ls hl => ?_)
        refine lv_goto (tgt := 13) xh bh dX3_partsOfAll_36 (by decide) ?_
        exact ih_13 (i + 1) (r + ((T i).length)) (by omega) (by rw [hr]; rfl) (by omega) _ _ ls hP hD hS (lv_sub hl [3, 1, 4, 5, 0] rfl)
  exact cut_13 (8 - 0 + 1) 0 0 (by exact Nat.zero_le _) (by rfl) (Nat.lt_succ_self _) _ _ ls hP hD hS (lv_sub hl [4, 3, 2, 1, 0] rfl)

set_option maxHeartbeats 1000000 in
set_option maxRecDepth 100000 in
theorem ct_X3_kindsTogether (l : Launch) (D : va_G) (cI cJ cB cZ cA : ClassId) (h : Nat → Nat) (T : Nat → List Nat) (row : List Nat) (hc : Nat) (un : Nat) (z : Nat) (hT : ∀ k, okT (T k)) (hz : z < 256) : Ct l yX3_kindsTogether wsX3_kindsTogether ({ frames := 2, cells := 0, slots := 0, locals := 45 }) D (tysG cI cJ cB cZ cA) [.ref (h 0), .int (nI z)] [(h 0, .inr (2, [.ref (h 1), .ref (h 2), .ref (h 3), .ref (h 4), .ref (h 5), .ref (h 6), .ref (h 7), .long (eC row), .int (nI hc), .int (nI un)])), (h 1, .inl (cJ, 8, .inr (.inl (fC T))))] (fun (_ : Unit) => True) (fun _ => some (.int (nI (ktN T z 8)))) (fun _ => [(h 0, .inr (2, [.ref (h 1), .ref (h 2), .ref (h 3), .ref (h 4), .ref (h 5), .ref (h 6), .ref (h 7), .long (eC row), .int (nI hc), .int (nI un)])), (h 1, .inl (cJ, 8, .inr (.inl (fC T))))]) := by
  refine Ct.ofI (cc := cX3_kindsTogether) (maxL := 4) (by decide) rfl (Nat.le_of_ble_eq_true rfl) ?_
  intro pG eG sG mG aG bG tG cG AG QG ls xh bh hml hown hts hK hP hD hS hA hend hl
  have hl : lv_has ls 4 [(0, .ref (h 0)), (1, .int (nI z))] := hl
  refine lv_iconst (v := (nI 0)) xh bh dX3_kindsTogether_0 (by decide) ?_
  refine lv_istore_n (lv' := [(2, .int (nI 0)), (0, .ref (h 0)), (1, .int (nI z))]) xh bh dX3_kindsTogether_1 rfl hl (by decide) rfl (fun ls hl => ?_)
  refine lv_iconst (v := (nI 0)) xh bh dX3_kindsTogether_2 (by decide) ?_
  refine lv_istore_n (lv' := [(3, .int (nI 0)), (2, .int (nI 0)), (0, .ref (h 0)), (1, .int (nI z))]) xh bh dX3_kindsTogether_3 rfl hl (by decide) rfl (fun ls hl => ?_)
  have cut_4 : ∀ (n_4 : Nat), ∀ (i : Nat), ∀ (r : Nat), (i ≤ 8) → (r = ktN T z i) → (8 - i) < n_4 → ∀ (H : Heap) (locs : List Loc) (ls : Array Slot), va_P D vwCl [(h 0, .inr (2, [.ref (h 1), .ref (h 2), .ref (h 3), .ref (h 4), .ref (h 5), .ref (h 6), .ref (h 7), .long (eC row), .int (nI hc), .int (nI un)])), (h 1, .inl (cJ, 8, .inr (.inl (fC T))))] H → va_D AG [(h 0, .inr (2, [.ref (h 1), .ref (h 2), .ref (h 3), .ref (h 4), .ref (h 5), .ref (h 6), .ref (h 7), .long (eC row), .int (nI hc), .int (nI un)])), (h 1, .inl (cJ, 8, .inr (.inl (fC T))))] → va_S AG sG.heap H locs → lv_has ls 4 [(0, .ref (h 0)), (1, .int (nI z)), (2, .int (nI r)), (3, .int (nI i))] → W pG l eG ({ frames := 2, cells := 0, slots := 0, locals := 45 }) sG mG aG bG tG cG H locs 0 0 QG (F0 mG 4 ls []) := by
    intro n_4
    induction n_4 with
    | zero =>
      intro i r hi hr hmu
      exact absurd hmu (Nat.not_lt_zero _)
    | succ n_4 ih_4 =>
      intro i r hi hr hmu H locs ls hP hD hS hl
      refine lv_iload_n xh bh dX3_kindsTogether_4 rfl (lv_at hl 3 rfl) ?_
      refine lv_bipush (v := (nI 8)) xh bh dX3_kindsTogether_5 (by decide) ?_
      refine xn_icmp_ge (tgt := 37) xh bh dX3_kindsTogether_7 (by decide) (by omega) (by omega) (fun c_7 => ?_) (fun c_7 => ?_)
      · refine lv_iload_n xh bh dX3_kindsTogether_37 rfl (lv_at hl 2 rfl) ?_
        exact hend (nI r) () _ _ _ _ (congrArg (fun z => some (Value.int (nI z))) (by rw [hr, show i = 8 by omega])) trivial rfl dX3_kindsTogether_38 hP hD hS
      · refine lv_iload_n xh bh dX3_kindsTogether_10 rfl (lv_at hl 1 rfl) ?_
        refine lv_iload_n xh bh dX3_kindsTogether_11 rfl (lv_at hl 3 rfl) ?_
        refine xn_ishr xh bh dX3_kindsTogether_12 (by omega) (by omega) ?_
        refine lv_iconst (v := (nI 1)) xh bh dX3_kindsTogether_13 (by decide) ?_
        refine xn_iand xh bh dX3_kindsTogether_14 ?_
        refine lv_iconst (v := (nI 1)) xh bh dX3_kindsTogether_15 (by decide) ?_
        refine xn_icmp_ne (tgt := 31) xh bh dX3_kindsTogether_16 (by decide) (by have := Nat.and_le_right (n := z / 2 ^ i) (m := 1); omega) (by have := Nat.and_le_right (n := z / 2 ^ i) (m := 1); omega) (fun c_16 => ?_) (fun c_16 => ?_)
        · refine lv_iinc (v := (nI (i + 1))) (lv' := [(3, .int (nI (i + 1))), (0, .ref (h 0)), (1, .int (nI z)), (2, .int (nI r))]) xh bh dX3_kindsTogether_31 hl (k := 3) rfl (by exact xn_inc _ _) (by decide) rfl (fun ls hl => ?_)
          refine lv_goto (tgt := 4) xh bh dX3_kindsTogether_34 (by decide) ?_
          exact ih_4 (i + 1) r (by omega) (by rw [hr]; first | exact (ktN_y (by rw [and1] at c_16; exact c_16)).symm | exact (ktN_n (by rw [and1] at c_16; exact c_16)).symm) (by omega) _ _ ls hP hD hS (lv_sub hl [1, 2, 3, 0] rfl)
        · refine lv_iload_n xh bh dX3_kindsTogether_19 rfl (lv_at hl 2 rfl) ?_
          refine lv_aload_n xh bh dX3_kindsTogether_20 rfl (lv_at hl 0 rfl) ?_
          refine va_get (D := D) (ci := 2) (v := .ref (h 1)) (C := RX3) (T := TX3) (N := 10) xh bh hts (fun _ h => List.mem_cons_of_mem _ (List.mem_append_right _ (h))) hown hK.1 hP 0 rfl rfl 0 (by decide) (hts _ (List.mem_of_getElem? (i := 1) rfl)) (fun _ h9 => h9) rfl dX3_kindsTogether_21 ?_
          refine lv_iload_n xh bh dX3_kindsTogether_24 rfl (lv_at hl 3 rfl) ?_
          refine xa_lald xh bh hK.1 hP 1 1 rfl rfl (by omega) (by omega) dX3_kindsTogether_25 ?_
          refine W.eq (g2 := F0 mG 26 ls [.long (eC (T i)), .int (nI r)]) rfl ?_
          refine Ct.callS0 (rest := [.int (nI r)]) xh bh hml hown hts hK hP hS hA (ct_X7_kindsIn l D cI cJ cB cZ cA (T i) (by exact hT _)) (va_cwS 1 hts gX3_kindsTogether_X7_kindsIn rfl rfl rfl (by decide +kernel) ⟨Nat.le_of_ble_eq_true rfl, Nat.le_of_ble_eq_true rfl⟩) rfl rfl hl.1 (Nat.le_of_ble_eq_true rfl) dX3_kindsTogether_26 ⟨Nat.le_refl _, Nat.le_refl _⟩ (fun _ H locs _ hP hS => ?_)
          refine W.eq (g2 := F0 mG 29 ls [.int (nI (kN (T i))), .int (nI r)]) rfl ?_
          refine xn_ior xh bh dX3_kindsTogether_29 ?_
          refine lv_istore_n (lv' := [(2, .int (nI (r ||| (kN (T i))))), (0, .ref (h 0)), (1, .int (nI z)), (3, .int (nI i))]) xh bh dX3_kindsTogether_30 rfl hl (by decide) rfl (fun ls hl => ?_)
          refine lv_iinc (v := (nI (i + 1))) (lv' := [(3, .int (nI (i + 1))), (2, .int (nI (r ||| (kN (T i))))), (0, .ref (h 0)), (1, .int (nI z))]) xh bh dX3_kindsTogether_31 hl (k := 3) rfl (by exact xn_inc _ _) (by decide) rfl (fun ls hl => ?_)
          refine lv_goto (tgt := 4) xh bh dX3_kindsTogether_34 (by decide) ?_
          exact ih_4 (i + 1) (r ||| (kN (T i))) (by omega) (by rw [hr]; first | exact (ktN_y (by rw [and1] at c_16; exact c_16)).symm | exact (ktN_n (by rw [and1] at c_16; exact c_16)).symm) (by omega) _ _ ls hP hD hS (lv_sub hl [2, 3, 1, 0] rfl)
  exact cut_4 (8 - 0 + 1) 0 0 (by exact Nat.zero_le _) (by rfl) (Nat.lt_succ_self _) _ _ ls hP hD hS (lv_sub hl [2, 3, 1, 0] rfl)

set_option maxHeartbeats 1000000 in
set_option maxRecDepth 100000 in
theorem ct_X3_partsOnto (l : Launch) (D : va_G) (cI cJ cB cZ cA : ClassId) (g0 : Int64) (t : List Nat) (ht : okT t) : Ct l yX3_partsOnto wsX3_partsOnto ({ frames := 1, cells := 0, slots := 0, locals := 22 }) D (tysG cI cJ cB cZ cA) [.long g0, .long (eC t)] [] (fun (_ : Unit) => True) (fun _ => some (.long (dgT t g0 t.length))) (fun _ => []) := by
  refine Ct.ofL (cc := cX3_partsOnto) (maxL := 7) (by decide) rfl (Nat.le_of_ble_eq_true rfl) ?_
  intro pG eG sG mG aG bG tG cG AG QG ls xh bh hml hown hts hK hP hD hS hA hend hl
  have hl : lv_has ls 7 [(0, .long g0), (2, .long (eC t))] := hl
  refine lv_lload_n xh bh dX3_partsOnto_0 rfl (lv_at hl 0 rfl) ?_
  refine lv_lstore (lv' := [(4, .long g0), (0, .long g0), (2, .long (eC t))]) xh bh dX3_partsOnto_1 hl (by decide) rfl (fun ls hl => ?_)
  refine lv_iconst (v := (nI 0)) xh bh dX3_partsOnto_3 (by decide) ?_
  refine lv_istore (lv' := [(6, .int (nI 0)), (4, .long g0), (0, .long g0), (2, .long (eC t))]) xh bh dX3_partsOnto_4 hl (by decide) rfl (fun ls hl => ?_)
  have cut_6 : ∀ (n_6 : Nat), ∀ (i : Nat), ∀ (g : Int64), (i ≤ t.length) → (g = dgT t g0 i) → (t.length - i) < n_6 → ∀ (H : Heap) (locs : List Loc) (ls : Array Slot), va_P D vwCl [] H → va_D AG [] → va_S AG sG.heap H locs → lv_has ls 7 [(0, .long g0), (2, .long (eC t)), (4, .long g), (6, .int (nI i))] → W pG l eG ({ frames := 1, cells := 0, slots := 0, locals := 22 }) sG mG aG bG tG cG H locs 0 0 QG (F0 mG 6 ls []) := by
    intro n_6
    induction n_6 with
    | zero =>
      intro i g hi hg hmu
      exact absurd hmu (Nat.not_lt_zero _)
    | succ n_6 ih_6 =>
      intro i g hi hg hmu H locs ls hP hD hS hl
      refine lv_iload xh bh dX3_partsOnto_6 (lv_at hl 3 rfl) ?_
      refine lv_lload_n xh bh dX3_partsOnto_8 rfl (lv_at hl 1 rfl) ?_
      refine Ct.callS0 (rest := [.int (nI i)]) xh bh hml hown hts hK hP hS hA (ct_X7_sizeOf l D cI cJ cB cZ cA t (by first | assumption | exact okT_nil)) (va_cwS 1 hts gX3_partsOnto_X7_sizeOf rfl rfl rfl (by decide +kernel) ⟨Nat.le_of_ble_eq_true rfl, Nat.le_of_ble_eq_true rfl⟩) rfl rfl hl.1 (Nat.le_of_ble_eq_true rfl) dX3_partsOnto_9 ⟨Nat.le_refl _, Nat.le_refl _⟩ (fun _ H locs _ hP hS => ?_)
      refine W.eq (g2 := F0 mG 12 ls [.int (nI t.length), .int (nI i)]) rfl ?_
      refine xn_icmp_ge (tgt := 37) xh bh dX3_partsOnto_12 (by decide) (by have := ht.1; omega) (by have := ht.1; omega) (fun c_12 => ?_) (fun c_12 => ?_)
      · refine lv_lload xh bh dX3_partsOnto_37 (lv_at hl 2 rfl) ?_
        exact hend g () _ _ _ _ (congrArg (fun z => some (Value.long z)) (by rw [hg, show i = t.length by omega])) trivial dX3_partsOnto_39 hP hD hS
      · refine lv_ldc2 (v := (lN 31)) xh bh hown (hts _ (List.mem_of_getElem? (i := 1) rfl)) dX3_partsOnto_15 ?_
        refine lv_lload xh bh dX3_partsOnto_18 (lv_at hl 2 rfl) ?_
        refine lv_lmul xh bh dX3_partsOnto_20 ?_
        refine lv_lload_n xh bh dX3_partsOnto_21 rfl (lv_at hl 1 rfl) ?_
        refine lv_iload xh bh dX3_partsOnto_22 (lv_at hl 3 rfl) ?_
        refine Ct.callS0 (rest := [.long ((lN 31) * g)]) xh bh hml hown hts hK hP hS hA (ct_X7_partIn l D cI cJ cB cZ cA t i (by first | assumption | exact okT_nil) (by have := ht.1; omega)) (va_cwS 2 hts gX3_partsOnto_X7_partIn rfl rfl rfl (by decide +kernel) ⟨Nat.le_of_ble_eq_true rfl, Nat.le_of_ble_eq_true rfl⟩) rfl rfl hl.1 (Nat.le_of_ble_eq_true rfl) dX3_partsOnto_24 ⟨Nat.le_refl _, Nat.le_refl _⟩ (fun _ H locs _ hP hS => ?_)
        refine W.eq (g2 := F0 mG 27 ls [.int (nI (t.getD i 0)), .long ((lN 31) * g)]) rfl ?_
        refine xn_i2l xh bh dX3_partsOnto_27 (by have := ht.getD i; omega) ?_
        refine lv_ladd xh bh dX3_partsOnto_28 ?_
        refine lv_lstore (lv' := [(4, .long (((lN 31) * g) + (lN (t.getD i 0)))), (0, .long g0), (2, .long (eC t)), (6, .int (nI i))]) xh bh dX3_partsOnto_29 hl (by decide) rfl (fun ls hl => ?_)
        refine lv_iinc (v := (nI (i + 1))) (lv' := [(6, .int (nI (i + 1))), (4, .long (((lN 31) * g) + (lN (t.getD i 0)))), (0, .long g0), (2, .long (eC t))]) xh bh dX3_partsOnto_31 hl (k := 3) rfl (by exact xn_inc _ _) (by decide) rfl (fun ls hl => ?_)
        refine lv_goto (tgt := 6) xh bh dX3_partsOnto_34 (by decide) ?_
        exact ih_6 (i + 1) (((lN 31) * g) + (lN (t.getD i 0))) (by omega) (by rw [hg]; rfl) (by omega) _ _ ls hP hD hS (lv_sub hl [2, 3, 1, 0] rfl)
  exact cut_6 (t.length - 0 + 1) 0 g0 (by exact Nat.zero_le _) (by rfl) (Nat.lt_succ_self _) _ _ ls hP hD hS (lv_sub hl [2, 3, 1, 0] rfl)
