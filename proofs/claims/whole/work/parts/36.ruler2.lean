-- rows laid by wip/whole/gen.py
set_option maxHeartbeats 1000000 in
set_option maxRecDepth 100000 in
theorem ct_X5_leastOf (l : Launch) (D : va_G) (cI cJ cB cZ cA : ClassId) (ru : Nat) (rt : Nat) (r : Nat → Nat) (G : Nat → Nat → Nat) (a1 : List Nat) (b1 : List Nat) (i : Nat) (j : Nat) (ha : okT a1) (hb : okT b1) (hi0 : 0 < i) (hj0 : 0 < j) (hil : i ≤ a1.length) (hjl : j ≤ b1.length) (hG : tab2 G a1 b1 i j) : Ct l yX5_leastOf wsX5_leastOf ({ frames := 1, cells := 0, slots := 0, locals := 40 }) D (tysG cI cJ cB cZ cA) [.ref ru, .long (eC a1), .int (nI i), .long (eC b1), .int (nI j)] [(ru, .inr (3, [.ref rt])), (rt, .inl (cA, 11, .inr (.inr (.inr (.inr (oR r)))))), rowE cI r G 0, rowE cI r G 1, rowE cI r G 2, rowE cI r G 3, rowE cI r G 4, rowE cI r G 5, rowE cI r G 6, rowE cI r G 7, rowE cI r G 8, rowE cI r G 9, rowE cI r G 10] (fun (_ : Unit) => True) (fun _ => some (.int (nI (dis a1 b1 i j)))) (fun _ => [(ru, .inr (3, [.ref rt])), (rt, .inl (cA, 11, .inr (.inr (.inr (.inr (oR r)))))), rowE cI r G 0, rowE cI r G 1, rowE cI r G 2, rowE cI r G 3, rowE cI r G 4, rowE cI r G 5, rowE cI r G 6, rowE cI r G 7, rowE cI r G 8, rowE cI r G 9, rowE cI r G 10]) := by
  refine Ct.ofI (cc := cX5_leastOf) (maxL := 11) (by decide) rfl (Nat.le_of_ble_eq_true rfl) ?_
  intro pG eG sG mG aG bG tG cG AG QG ls xh bh hml hown hts hK hP hD hS hA hend hl
  have hl : lv_has ls 11 [(0, .ref ru), (1, .long (eC a1)), (3, .int (nI i)), (4, .long (eC b1)), (6, .int (nI j))] := hl
  have hla := ha.1
  have hlb := hb.1
  refine lv_lload_n xh bh dX5_leastOf_0 rfl (lv_at hl 1 rfl) ?_
  refine lv_iload_n xh bh dX5_leastOf_1 rfl (lv_at hl 2 rfl) ?_
  refine lv_iconst (v := (nI 1)) xh bh dX5_leastOf_2 (by decide) ?_
  refine xn_isub xh bh dX5_leastOf_3 (by omega) ?_
  refine Ct.callS0 (rest := []) xh bh hml hown hts hK hP hS hA (ct_X7_partIn l D cI cJ cB cZ cA a1 (i - 1) (by first | assumption | exact okT_nil) (by omega)) (va_cwS 2 hts gX5_leastOf_X7_partIn rfl rfl rfl (by decide +kernel) ⟨Nat.le_of_ble_eq_true rfl, Nat.le_of_ble_eq_true rfl⟩) rfl rfl hl.1 (Nat.le_of_ble_eq_true rfl) dX5_leastOf_4 ⟨Nat.le_refl _, Nat.le_refl _⟩ (fun _ H locs _ hP hS => ?_)
  refine W.eq (g2 := F0 mG 7 ls [.int (nI (a1.getD (i - 1) 0))]) rfl ?_
  refine lv_istore (lv' := [(7, .int (nI (a1.getD (i - 1) 0))), (0, .ref ru), (1, .long (eC a1)), (3, .int (nI i)), (4, .long (eC b1)), (6, .int (nI j))]) xh bh dX5_leastOf_7 hl (by decide) rfl (fun ls hl => ?_)
  refine lv_lload xh bh dX5_leastOf_9 (lv_at hl 4 rfl) ?_
  refine lv_iload xh bh dX5_leastOf_11 (lv_at hl 5 rfl) ?_
  refine lv_iconst (v := (nI 1)) xh bh dX5_leastOf_13 (by decide) ?_
  refine xn_isub xh bh dX5_leastOf_14 (by omega) ?_
  refine Ct.callS0 (rest := []) xh bh hml hown hts hK hP hS hA (ct_X7_partIn l D cI cJ cB cZ cA b1 (j - 1) (by first | assumption | exact okT_nil) (by omega)) (va_cwS 2 hts gX5_leastOf_X7_partIn rfl rfl rfl (by decide +kernel) ⟨Nat.le_of_ble_eq_true rfl, Nat.le_of_ble_eq_true rfl⟩) rfl rfl hl.1 (Nat.le_of_ble_eq_true rfl) dX5_leastOf_15 ⟨Nat.le_refl _, Nat.le_refl _⟩ (fun _ H locs _ hP hS => ?_)
  refine W.eq (g2 := F0 mG 18 ls [.int (nI (b1.getD (j - 1) 0))]) rfl ?_
  refine lv_istore (lv' := [(8, .int (nI (b1.getD (j - 1) 0))), (7, .int (nI (a1.getD (i - 1) 0))), (0, .ref ru), (1, .long (eC a1)), (3, .int (nI i)), (4, .long (eC b1)), (6, .int (nI j))]) xh bh dX5_leastOf_18 hl (by decide) rfl (fun ls hl => ?_)
  refine lv_aload_n xh bh dX5_leastOf_20 rfl (lv_at hl 2 rfl) ?_
  refine va_get (D := D) (ci := 3) (v := .ref rt) (C := RX5) (T := TX5) (N := 1) xh bh hts (fun _ h => List.mem_cons_of_mem _ (List.mem_append_right _ (h))) hown hK.1 hP 0 rfl rfl 0 (by decide) (hts _ (List.mem_of_getElem? (i := 1) rfl)) (fun _ h9 => h9) rfl dX5_leastOf_21 ?_
  refine lv_iload_n xh bh dX5_leastOf_24 rfl (lv_at hl 4 rfl) ?_
  refine lv_iconst (v := (nI 1)) xh bh dX5_leastOf_25 (by decide) ?_
  refine xn_isub xh bh dX5_leastOf_26 (by omega) ?_
  refine xR_aald xh bh hK.1 hP 1 4 rfl rfl (by omega) dX5_leastOf_27 ?_
  refine lv_iload xh bh dX5_leastOf_28 (lv_at hl 6 rfl) ?_
  refine xR_iald (X := [(ru, .inr (3, [.ref rt])), (rt, .inl (cA, 11, .inr (.inr (.inr (.inr (oR r))))))]) (Y := []) (G := G) xh bh hK.1 hP 0 rfl (by omega) (by omega) dX5_leastOf_30 ?_
  refine xw_topi (x := (nI (G (i - 1) j))) (y := (nI (dis a1 b1 (i - 1) j))) (by rw [hG.1 (i - 1) j (by omega) (by omega)]) ?_
  refine lv_aload_n xh bh dX5_leastOf_31 rfl (lv_at hl 2 rfl) ?_
  refine va_get (D := D) (ci := 3) (v := .ref rt) (C := RX5) (T := TX5) (N := 1) xh bh hts (fun _ h => List.mem_cons_of_mem _ (List.mem_append_right _ (h))) hown hK.1 hP 0 rfl rfl 0 (by decide) (hts _ (List.mem_of_getElem? (i := 1) rfl)) (fun _ h9 => h9) rfl dX5_leastOf_32 ?_
  refine lv_iload_n xh bh dX5_leastOf_35 rfl (lv_at hl 4 rfl) ?_
  refine xR_aald xh bh hK.1 hP 1 4 rfl rfl (by omega) dX5_leastOf_36 ?_
  refine lv_iload xh bh dX5_leastOf_37 (lv_at hl 6 rfl) ?_
  refine lv_iconst (v := (nI 1)) xh bh dX5_leastOf_39 (by decide) ?_
  refine xn_isub xh bh dX5_leastOf_40 (by omega) ?_
  refine xR_iald (X := [(ru, .inr (3, [.ref rt])), (rt, .inl (cA, 11, .inr (.inr (.inr (.inr (oR r))))))]) (Y := []) (G := G) xh bh hK.1 hP 0 rfl (by omega) (by omega) dX5_leastOf_41 ?_
  refine xw_topi (x := (nI (G i (j - 1)))) (y := (nI (dis a1 b1 i (j - 1)))) (by rw [hG.2 (j - 1) (by omega)]) ?_
  have q1 : dis a1 b1 (i - 1) j ≤ 20 := dis_b (by omega) (by omega)
  have q2 : dis a1 b1 i (j - 1) ≤ 20 := dis_b (by omega) (by omega)
  have q3 : dis a1 b1 (i - 1) (j - 1) ≤ 20 := dis_b (by omega) (by omega)
  refine va_mmin xh bh (by rw [hml]; exact hl.1.symm) hown (hts _ (List.mem_of_getElem? (i := 2) rfl)) (hts _ (List.mem_of_getElem? (i := 3) rfl)) (hts _ (List.mem_of_getElem? (i := 4) rfl)) (hts _ (List.mem_of_getElem? (i := 5) rfl)) (Nat.le_of_ble_eq_true rfl) (Nat.le_of_ble_eq_true rfl) (Nat.le_refl _) (Nat.le_refl _) dX5_leastOf_42 ?_
  refine xn_min (by omega) (by omega) ?_
  refine xw_topi (x := (nI (min (dis a1 b1 i (j - 1)) (dis a1 b1 (i - 1) j)))) (y := (nI (min (dis a1 b1 (i - 1) j) (dis a1 b1 i (j - 1))))) (by rw [Nat.min_comm]) ?_
  refine lv_iconst (v := (nI 1)) xh bh dX5_leastOf_45 (by decide) ?_
  refine xn_iadd xh bh dX5_leastOf_46 ?_
  refine lv_istore (lv' := [(9, .int (nI ((min (dis a1 b1 (i - 1) j) (dis a1 b1 i (j - 1))) + 1))), (8, .int (nI (b1.getD (j - 1) 0))), (7, .int (nI (a1.getD (i - 1) 0))), (0, .ref ru), (1, .long (eC a1)), (3, .int (nI i)), (4, .long (eC b1)), (6, .int (nI j))]) xh bh dX5_leastOf_47 hl (by decide) rfl (fun ls hl => ?_)
  have cut_82 : ∀ (w : Nat), (w = disM a1 b1 i j) → ∀ (H : Heap) (locs : List Loc) (ls : Array Slot), va_P D vwCl [(ru, .inr (3, [.ref rt])), (rt, .inl (cA, 11, .inr (.inr (.inr (.inr (oR r)))))), rowE cI r G 0, rowE cI r G 1, rowE cI r G 2, rowE cI r G 3, rowE cI r G 4, rowE cI r G 5, rowE cI r G 6, rowE cI r G 7, rowE cI r G 8, rowE cI r G 9, rowE cI r G 10] H → va_D AG [(ru, .inr (3, [.ref rt])), (rt, .inl (cA, 11, .inr (.inr (.inr (.inr (oR r)))))), rowE cI r G 0, rowE cI r G 1, rowE cI r G 2, rowE cI r G 3, rowE cI r G 4, rowE cI r G 5, rowE cI r G 6, rowE cI r G 7, rowE cI r G 8, rowE cI r G 9, rowE cI r G 10] → va_S AG sG.heap H locs → lv_has ls 11 [(0, .ref ru), (1, .long (eC a1)), (3, .int (nI i)), (4, .long (eC b1)), (6, .int (nI j)), (7, .int (nI (a1.getD (i - 1) 0))), (8, .int (nI (b1.getD (j - 1) 0))), (9, .int (nI w))] → W pG l eG ({ frames := 1, cells := 0, slots := 0, locals := 40 }) sG mG aG bG tG cG H locs 0 0 QG (F0 mG 82 ls []) := by
    intro w hw H locs ls hP hD hS hl
    refine lv_iload_n xh bh dX5_leastOf_82 rfl (lv_at hl 2 rfl) ?_
    refine lv_iconst (v := (nI 2)) xh bh dX5_leastOf_83 (by decide) ?_
    refine xn_icmp_lt (tgt := 93) xh bh dX5_leastOf_84 (by decide) (by omega) (by omega) (fun c_84 => ?_) (fun c_84 => ?_)
    · have ht9 : trnB a1 i b1 j = false := trn_f (Or.inl (by omega))
      refine lv_iload xh bh dX5_leastOf_93 (lv_at hl 7 rfl) ?_
      exact hend (nI w) () _ _ _ _ (congrArg (fun z => some (Value.int (nI z))) (by first | (rw [hw]; exact dis_n hi0 hj0 ht9) | (rw [hw, Nat.min_comm]; exact dis_y hi0 hj0 ht9))) trivial rfl dX5_leastOf_95 hP hD hS
    · refine lv_iload xh bh dX5_leastOf_87 (lv_at hl 4 rfl) ?_
      refine lv_iconst (v := (nI 2)) xh bh dX5_leastOf_89 (by decide) ?_
      refine xn_icmp_ge (tgt := 96) xh bh dX5_leastOf_90 (by decide) (by omega) (by omega) (fun c_90 => ?_) (fun c_90 => ?_)
      · refine lv_iload xh bh dX5_leastOf_96 (lv_at hl 5 rfl) ?_
        refine lv_lload xh bh dX5_leastOf_98 (lv_at hl 3 rfl) ?_
        refine lv_iload xh bh dX5_leastOf_100 (lv_at hl 4 rfl) ?_
        refine lv_iconst (v := (nI 2)) xh bh dX5_leastOf_102 (by decide) ?_
        refine xn_isub xh bh dX5_leastOf_103 (by omega) ?_
        refine Ct.callS0 (rest := [.int (nI (a1.getD (i - 1) 0))]) xh bh hml hown hts hK hP hS hA (ct_X7_partIn l D cI cJ cB cZ cA b1 (j - 2) (by first | assumption | exact okT_nil) (by omega)) (va_cwS 2 hts gX5_leastOf_X7_partIn rfl rfl rfl (by decide +kernel) ⟨Nat.le_of_ble_eq_true rfl, Nat.le_of_ble_eq_true rfl⟩) rfl rfl hl.1 (Nat.le_of_ble_eq_true rfl) dX5_leastOf_104 ⟨Nat.le_refl _, Nat.le_refl _⟩ (fun _ H locs _ hP hS => ?_)
        refine W.eq (g2 := F0 mG 107 ls [.int (nI (b1.getD (j - 2) 0)), .int (nI (a1.getD (i - 1) 0))]) rfl ?_
        refine xn_icmp_ne (tgt := 126) xh bh dX5_leastOf_107 (by decide) (by first | exact Nat.lt_trans (ha.getD _) (by decide) | exact Nat.lt_trans (hb.getD _) (by decide)) (by first | exact Nat.lt_trans (ha.getD _) (by decide) | exact Nat.lt_trans (hb.getD _) (by decide)) (fun c_107 => ?_) (fun c_107 => ?_)
        · have ht9 : trnB a1 i b1 j = false := trn_f (Or.inr (Or.inr (Or.inl c_107)))
          refine lv_iconst (v := (nI 0)) xh bh dX5_leastOf_126 (by decide) ?_
          refine lv_istore (lv' := [(10, .int (nI 0)), (0, .ref ru), (1, .long (eC a1)), (3, .int (nI i)), (4, .long (eC b1)), (6, .int (nI j)), (7, .int (nI (a1.getD (i - 1) 0))), (8, .int (nI (b1.getD (j - 1) 0))), (9, .int (nI w))]) xh bh dX5_leastOf_127 hl (by decide) rfl (fun ls hl => ?_)
          refine lv_iload xh bh dX5_leastOf_129 (lv_at hl 0 rfl) ?_
          refine xn_if_eq (tgt := 157) xh bh dX5_leastOf_131 (by decide) (by omega) (fun c_131 => ?_) (fun c_131 => ?_)
          · refine lv_iload xh bh dX5_leastOf_157 (lv_at hl 8 rfl) ?_
            exact hend (nI w) () _ _ _ _ (congrArg (fun z => some (Value.int (nI z))) (by first | (rw [hw]; exact dis_n hi0 hj0 ht9) | (rw [hw, Nat.min_comm]; exact dis_y hi0 hj0 ht9))) trivial rfl dX5_leastOf_159 hP hD hS
          · exact absurd c_131 (by decide)
        · refine lv_iload xh bh dX5_leastOf_110 (lv_at hl 6 rfl) ?_
          refine lv_lload_n xh bh dX5_leastOf_112 rfl (lv_at hl 1 rfl) ?_
          refine lv_iload_n xh bh dX5_leastOf_113 rfl (lv_at hl 2 rfl) ?_
          refine lv_iconst (v := (nI 2)) xh bh dX5_leastOf_114 (by decide) ?_
          refine xn_isub xh bh dX5_leastOf_115 (by omega) ?_
          refine Ct.callS0 (rest := [.int (nI (b1.getD (j - 1) 0))]) xh bh hml hown hts hK hP hS hA (ct_X7_partIn l D cI cJ cB cZ cA a1 (i - 2) (by first | assumption | exact okT_nil) (by omega)) (va_cwS 2 hts gX5_leastOf_X7_partIn rfl rfl rfl (by decide +kernel) ⟨Nat.le_of_ble_eq_true rfl, Nat.le_of_ble_eq_true rfl⟩) rfl rfl hl.1 (Nat.le_of_ble_eq_true rfl) dX5_leastOf_116 ⟨Nat.le_refl _, Nat.le_refl _⟩ (fun _ H locs _ hP hS => ?_)
          refine W.eq (g2 := F0 mG 119 ls [.int (nI (a1.getD (i - 2) 0)), .int (nI (b1.getD (j - 1) 0))]) rfl ?_
          refine xn_icmp_ne (tgt := 126) xh bh dX5_leastOf_119 (by decide) (by first | exact Nat.lt_trans (ha.getD _) (by decide) | exact Nat.lt_trans (hb.getD _) (by decide)) (by first | exact Nat.lt_trans (ha.getD _) (by decide) | exact Nat.lt_trans (hb.getD _) (by decide)) (fun c_119 => ?_) (fun c_119 => ?_)
          · have ht9 : trnB a1 i b1 j = false := trn_f (Or.inr (Or.inr (Or.inr c_119)))
            refine lv_iconst (v := (nI 0)) xh bh dX5_leastOf_126 (by decide) ?_
            refine lv_istore (lv' := [(10, .int (nI 0)), (0, .ref ru), (1, .long (eC a1)), (3, .int (nI i)), (4, .long (eC b1)), (6, .int (nI j)), (7, .int (nI (a1.getD (i - 1) 0))), (8, .int (nI (b1.getD (j - 1) 0))), (9, .int (nI w))]) xh bh dX5_leastOf_127 hl (by decide) rfl (fun ls hl => ?_)
            refine lv_iload xh bh dX5_leastOf_129 (lv_at hl 0 rfl) ?_
            refine xn_if_eq (tgt := 157) xh bh dX5_leastOf_131 (by decide) (by omega) (fun c_131 => ?_) (fun c_131 => ?_)
            · refine lv_iload xh bh dX5_leastOf_157 (lv_at hl 8 rfl) ?_
              exact hend (nI w) () _ _ _ _ (congrArg (fun z => some (Value.int (nI z))) (by first | (rw [hw]; exact dis_n hi0 hj0 ht9) | (rw [hw, Nat.min_comm]; exact dis_y hi0 hj0 ht9))) trivial rfl dX5_leastOf_159 hP hD hS
            · exact absurd c_131 (by decide)
          · have ht9 : trnB a1 i b1 j = true := trn_t (by omega) (by omega) c_107 c_119
            refine lv_iconst (v := (nI 1)) xh bh dX5_leastOf_122 (by decide) ?_
            refine lv_goto (tgt := 127) xh bh dX5_leastOf_123 (by decide) ?_
            refine lv_istore (lv' := [(10, .int (nI 1)), (0, .ref ru), (1, .long (eC a1)), (3, .int (nI i)), (4, .long (eC b1)), (6, .int (nI j)), (7, .int (nI (a1.getD (i - 1) 0))), (8, .int (nI (b1.getD (j - 1) 0))), (9, .int (nI w))]) xh bh dX5_leastOf_127 hl (by decide) rfl (fun ls hl => ?_)
            refine lv_iload xh bh dX5_leastOf_129 (lv_at hl 0 rfl) ?_
            refine xn_if_eq (tgt := 157) xh bh dX5_leastOf_131 (by decide) (by omega) (fun c_131 => ?_) (fun c_131 => ?_)
            · exact absurd c_131 (by decide)
            · refine lv_iload xh bh dX5_leastOf_134 (lv_at hl 8 rfl) ?_
              refine lv_aload_n xh bh dX5_leastOf_136 rfl (lv_at hl 1 rfl) ?_
              refine va_get (D := D) (ci := 3) (v := .ref rt) (C := RX5) (T := TX5) (N := 1) xh bh hts (fun _ h => List.mem_cons_of_mem _ (List.mem_append_right _ (h))) hown hK.1 hP 0 rfl rfl 0 (by decide) (hts _ (List.mem_of_getElem? (i := 1) rfl)) (fun _ h9 => h9) rfl dX5_leastOf_137 ?_
              refine lv_iload_n xh bh dX5_leastOf_140 rfl (lv_at hl 3 rfl) ?_
              refine lv_iconst (v := (nI 2)) xh bh dX5_leastOf_141 (by decide) ?_
              refine xn_isub xh bh dX5_leastOf_142 (by omega) ?_
              refine xR_aald xh bh hK.1 hP 1 4 rfl rfl (by omega) dX5_leastOf_143 ?_
              refine lv_iload xh bh dX5_leastOf_144 (lv_at hl 5 rfl) ?_
              refine lv_iconst (v := (nI 2)) xh bh dX5_leastOf_146 (by decide) ?_
              refine xn_isub xh bh dX5_leastOf_147 (by omega) ?_
              refine xR_iald (X := [(ru, .inr (3, [.ref rt])), (rt, .inl (cA, 11, .inr (.inr (.inr (.inr (oR r))))))]) (Y := []) (G := G) xh bh hK.1 hP 0 rfl (by omega) (by omega) dX5_leastOf_148 ?_
              refine xw_topi (x := (nI (G (i - 2) (j - 2)))) (y := (nI (dis a1 b1 (i - 2) (j - 2)))) (by rw [hG.1 (i - 2) (j - 2) (by omega) (by omega)]) ?_
              have q4 : dis a1 b1 (i - 2) (j - 2) ≤ 20 := dis_b (by omega) (by omega)
              have q5 : w ≤ 21 := by rw [hw]; unfold disM; omega
              refine lv_iconst (v := (nI 1)) xh bh dX5_leastOf_149 (by decide) ?_
              refine xn_iadd xh bh dX5_leastOf_150 ?_
              refine va_mmin xh bh (by rw [hml]; exact hl.1.symm) hown (hts _ (List.mem_of_getElem? (i := 2) rfl)) (hts _ (List.mem_of_getElem? (i := 3) rfl)) (hts _ (List.mem_of_getElem? (i := 4) rfl)) (hts _ (List.mem_of_getElem? (i := 5) rfl)) (Nat.le_of_ble_eq_true rfl) (Nat.le_of_ble_eq_true rfl) (Nat.le_refl _) (Nat.le_refl _) dX5_leastOf_151 ?_
              refine xn_min (by omega) (by omega) ?_
              refine lv_goto (tgt := 159) xh bh dX5_leastOf_154 (by decide) ?_
              exact hend (nI (min ((dis a1 b1 (i - 2) (j - 2)) + 1) w)) () _ _ _ _ (congrArg (fun z => some (Value.int (nI z))) (by first | (rw [hw]; exact dis_n hi0 hj0 ht9) | (rw [hw, Nat.min_comm]; exact dis_y hi0 hj0 ht9))) trivial rfl dX5_leastOf_159 hP hD hS
      · have ht9 : trnB a1 i b1 j = false := trn_f (Or.inr (Or.inl (by omega)))
        refine lv_iload xh bh dX5_leastOf_93 (lv_at hl 7 rfl) ?_
        exact hend (nI w) () _ _ _ _ (congrArg (fun z => some (Value.int (nI z))) (by first | (rw [hw]; exact dis_n hi0 hj0 ht9) | (rw [hw, Nat.min_comm]; exact dis_y hi0 hj0 ht9))) trivial rfl dX5_leastOf_95 hP hD hS
  refine lv_iload xh bh dX5_leastOf_49 (lv_at hl 0 rfl) ?_
  refine lv_aload_n xh bh dX5_leastOf_51 rfl (lv_at hl 3 rfl) ?_
  refine va_get (D := D) (ci := 3) (v := .ref rt) (C := RX5) (T := TX5) (N := 1) xh bh hts (fun _ h => List.mem_cons_of_mem _ (List.mem_append_right _ (h))) hown hK.1 hP 0 rfl rfl 0 (by decide) (hts _ (List.mem_of_getElem? (i := 1) rfl)) (fun _ h9 => h9) rfl dX5_leastOf_52 ?_
  refine lv_iload_n xh bh dX5_leastOf_55 rfl (lv_at hl 5 rfl) ?_
  refine lv_iconst (v := (nI 1)) xh bh dX5_leastOf_56 (by decide) ?_
  refine xn_isub xh bh dX5_leastOf_57 (by omega) ?_
  refine xR_aald xh bh hK.1 hP 1 4 rfl rfl (by omega) dX5_leastOf_58 ?_
  refine lv_iload xh bh dX5_leastOf_59 (lv_at hl 7 rfl) ?_
  refine lv_iconst (v := (nI 1)) xh bh dX5_leastOf_61 (by decide) ?_
  refine xn_isub xh bh dX5_leastOf_62 (by omega) ?_
  refine xR_iald (X := [(ru, .inr (3, [.ref rt])), (rt, .inl (cA, 11, .inr (.inr (.inr (.inr (oR r))))))]) (Y := []) (G := G) xh bh hK.1 hP 0 rfl (by omega) (by omega) dX5_leastOf_63 ?_
  refine xw_topi (x := (nI (G (i - 1) (j - 1)))) (y := (nI (dis a1 b1 (i - 1) (j - 1)))) (by rw [hG.1 (i - 1) (j - 1) (by omega) (by omega)]) ?_
  refine lv_iload xh bh dX5_leastOf_64 (lv_at hl 2 rfl) ?_
  refine lv_iload xh bh dX5_leastOf_66 (lv_at hl 1 rfl) ?_
  refine xn_icmp_ne (tgt := 75) xh bh dX5_leastOf_68 (by decide) (by first | exact Nat.lt_trans (ha.getD _) (by decide) | exact Nat.lt_trans (hb.getD _) (by decide)) (by first | exact Nat.lt_trans (ha.getD _) (by decide) | exact Nat.lt_trans (hb.getD _) (by decide)) (fun c_68 => ?_) (fun c_68 => ?_)
  · refine lv_iconst (v := (nI 1)) xh bh dX5_leastOf_75 (by decide) ?_
    refine xn_iadd xh bh dX5_leastOf_76 ?_
    refine va_mmin xh bh (by rw [hml]; exact hl.1.symm) hown (hts _ (List.mem_of_getElem? (i := 2) rfl)) (hts _ (List.mem_of_getElem? (i := 3) rfl)) (hts _ (List.mem_of_getElem? (i := 4) rfl)) (hts _ (List.mem_of_getElem? (i := 5) rfl)) (Nat.le_of_ble_eq_true rfl) (Nat.le_of_ble_eq_true rfl) (Nat.le_refl _) (Nat.le_refl _) dX5_leastOf_77 ?_
    refine xn_min (by omega) (by omega) ?_
    refine lv_istore (lv' := [(9, .int (nI (min ((dis a1 b1 (i - 1) (j - 1)) + 1) ((min (dis a1 b1 (i - 1) j) (dis a1 b1 i (j - 1))) + 1)))), (8, .int (nI (b1.getD (j - 1) 0))), (7, .int (nI (a1.getD (i - 1) 0))), (0, .ref ru), (1, .long (eC a1)), (3, .int (nI i)), (4, .long (eC b1)), (6, .int (nI j))]) xh bh dX5_leastOf_80 hl (by decide) rfl (fun ls hl => ?_)
    exact cut_82 (min ((dis a1 b1 (i - 1) (j - 1)) + 1) ((min (dis a1 b1 (i - 1) j) (dis a1 b1 i (j - 1))) + 1)) (by rw [Nat.min_comm]; first | exact (disM_c0 c_68).symm | exact (disM_c1 c_68).symm) _ _ ls hP hD hS (lv_sub hl [3, 4, 5, 6, 7, 2, 1, 0] rfl)
  · refine lv_iconst (v := (nI 0)) xh bh dX5_leastOf_71 (by decide) ?_
    refine lv_goto (tgt := 76) xh bh dX5_leastOf_72 (by decide) ?_
    refine xn_iadd xh bh dX5_leastOf_76 ?_
    refine va_mmin xh bh (by rw [hml]; exact hl.1.symm) hown (hts _ (List.mem_of_getElem? (i := 2) rfl)) (hts _ (List.mem_of_getElem? (i := 3) rfl)) (hts _ (List.mem_of_getElem? (i := 4) rfl)) (hts _ (List.mem_of_getElem? (i := 5) rfl)) (Nat.le_of_ble_eq_true rfl) (Nat.le_of_ble_eq_true rfl) (Nat.le_refl _) (Nat.le_refl _) dX5_leastOf_77 ?_
    refine xn_min (by omega) (by omega) ?_
    refine lv_istore (lv' := [(9, .int (nI (min ((dis a1 b1 (i - 1) (j - 1)) + 0) ((min (dis a1 b1 (i - 1) j) (dis a1 b1 i (j - 1))) + 1)))), (8, .int (nI (b1.getD (j - 1) 0))), (7, .int (nI (a1.getD (i - 1) 0))), (0, .ref ru), (1, .long (eC a1)), (3, .int (nI i)), (4, .long (eC b1)), (6, .int (nI j))]) xh bh dX5_leastOf_80 hl (by decide) rfl (fun ls hl => ?_)
    exact cut_82 (min ((dis a1 b1 (i - 1) (j - 1)) + 0) ((min (dis a1 b1 (i - 1) j) (dis a1 b1 i (j - 1))) + 1)) (by rw [Nat.min_comm]; first | exact (disM_c0 c_68).symm | exact (disM_c1 c_68).symm) _ _ ls hP hD hS (lv_sub hl [3, 4, 5, 6, 7, 2, 1, 0] rfl)

set_option maxHeartbeats 1000000 in
set_option maxRecDepth 100000 in
theorem ct_X5_between (l : Launch) (D : va_G) (cI cJ cB cZ cA : ClassId) (ru : Nat) (rt : Nat) (r : Nat → Nat) (G : Nat → Nat → Nat) (a1 : List Nat) (b1 : List Nat) (ha : okT a1) (hb : okT b1) : Ct l yX5_between wsX5_between ({ frames := 2, cells := 0, slots := 0, locals := 70 }) D (tysG cI cJ cB cZ cA) [.ref ru, .long (eC a1), .long (eC b1)] [(ru, .inr (3, [.ref rt])), (rt, .inl (cA, 11, .inr (.inr (.inr (.inr (oR r)))))), rowE cI r G 0, rowE cI r G 1, rowE cI r G 2, rowE cI r G 3, rowE cI r G 4, rowE cI r G 5, rowE cI r G 6, rowE cI r G 7, rowE cI r G 8, rowE cI r G 9, rowE cI r G 10] (fun (u : Nat → Nat → Nat) => True) (fun u => some (.int (nI (dsT a1 b1)))) (fun u => [(ru, .inr (3, [.ref rt])), (rt, .inl (cA, 11, .inr (.inr (.inr (.inr (oR r)))))), rowE cI r u 0, rowE cI r u 1, rowE cI r u 2, rowE cI r u 3, rowE cI r u 4, rowE cI r u 5, rowE cI r u 6, rowE cI r u 7, rowE cI r u 8, rowE cI r u 9, rowE cI r u 10]) := by
  refine Ct.ofI (cc := cX5_between) (maxL := 9) (by decide) rfl (Nat.le_of_ble_eq_true rfl) ?_
  intro pG eG sG mG aG bG tG cG AG QG ls xh bh hml hown hts hK hP hD hS hA hend hl
  have hl : lv_has ls 9 [(0, .ref ru), (1, .long (eC a1)), (3, .long (eC b1))] := hl
  have hla := ha.1
  have hlb := hb.1
  refine lv_lload_n xh bh dX5_between_0 rfl (lv_at hl 1 rfl) ?_
  refine Ct.callS0 (rest := []) xh bh hml hown hts hK hP hS hA (ct_X7_sizeOf l D cI cJ cB cZ cA a1 (by first | assumption | exact okT_nil)) (va_cwS 1 hts gX5_between_X7_sizeOf rfl rfl rfl (by decide +kernel) ⟨Nat.le_of_ble_eq_true rfl, Nat.le_of_ble_eq_true rfl⟩) rfl rfl hl.1 (Nat.le_of_ble_eq_true rfl) dX5_between_1 ⟨Nat.le_refl _, Nat.le_refl _⟩ (fun _ H locs _ hP hS => ?_)
  refine W.eq (g2 := F0 mG 4 ls [.int (nI a1.length)]) rfl ?_
  refine lv_istore (lv' := [(5, .int (nI a1.length)), (0, .ref ru), (1, .long (eC a1)), (3, .long (eC b1))]) xh bh dX5_between_4 hl (by decide) rfl (fun ls hl => ?_)
  refine lv_lload_n xh bh dX5_between_6 rfl (lv_at hl 3 rfl) ?_
  refine Ct.callS0 (rest := []) xh bh hml hown hts hK hP hS hA (ct_X7_sizeOf l D cI cJ cB cZ cA b1 (by first | assumption | exact okT_nil)) (va_cwS 1 hts gX5_between_X7_sizeOf rfl rfl rfl (by decide +kernel) ⟨Nat.le_of_ble_eq_true rfl, Nat.le_of_ble_eq_true rfl⟩) rfl rfl hl.1 (Nat.le_of_ble_eq_true rfl) dX5_between_7 ⟨Nat.le_refl _, Nat.le_refl _⟩ (fun _ H locs _ hP hS => ?_)
  refine W.eq (g2 := F0 mG 10 ls [.int (nI b1.length)]) rfl ?_
  refine lv_istore (lv' := [(6, .int (nI b1.length)), (5, .int (nI a1.length)), (0, .ref ru), (1, .long (eC a1)), (3, .long (eC b1))]) xh bh dX5_between_10 hl (by decide) rfl (fun ls hl => ?_)
  refine lv_iconst (v := (nI 0)) xh bh dX5_between_12 (by decide) ?_
  refine lv_istore (lv' := [(7, .int (nI 0)), (6, .int (nI b1.length)), (5, .int (nI a1.length)), (0, .ref ru), (1, .long (eC a1)), (3, .long (eC b1))]) xh bh dX5_between_13 hl (by decide) rfl (fun ls hl => ?_)
  have cut_15 : ∀ (n_15 : Nat), ∀ (i : Nat), ∀ (g1 : Nat → Nat → Nat), (i ≤ a1.length + 1) → (tab2 g1 a1 b1 i 0) → (a1.length + 1 - i) < n_15 → ∀ (H : Heap) (locs : List Loc) (ls : Array Slot), va_P D vwCl [(ru, .inr (3, [.ref rt])), (rt, .inl (cA, 11, .inr (.inr (.inr (.inr (oR r)))))), rowE cI r g1 0, rowE cI r g1 1, rowE cI r g1 2, rowE cI r g1 3, rowE cI r g1 4, rowE cI r g1 5, rowE cI r g1 6, rowE cI r g1 7, rowE cI r g1 8, rowE cI r g1 9, rowE cI r g1 10] H → va_D AG [(ru, .inr (3, [.ref rt])), (rt, .inl (cA, 11, .inr (.inr (.inr (.inr (oR r)))))), rowE cI r g1 0, rowE cI r g1 1, rowE cI r g1 2, rowE cI r g1 3, rowE cI r g1 4, rowE cI r g1 5, rowE cI r g1 6, rowE cI r g1 7, rowE cI r g1 8, rowE cI r g1 9, rowE cI r g1 10] → va_S AG sG.heap H locs → lv_has ls 9 [(0, .ref ru), (1, .long (eC a1)), (3, .long (eC b1)), (5, .int (nI a1.length)), (6, .int (nI b1.length)), (7, .int (nI i))] → W pG l eG ({ frames := 2, cells := 0, slots := 0, locals := 70 }) sG mG aG bG tG cG H locs 0 0 QG (F0 mG 15 ls []) := by
    intro n_15
    induction n_15 with
    | zero =>
      intro i g1 hi9 hg hmu
      exact absurd hmu (Nat.not_lt_zero _)
    | succ n_15 ih_15 =>
      intro i g1 hi9 hg hmu H locs ls hP hD hS hl
      refine lv_iload xh bh dX5_between_15 (lv_at hl 5 rfl) ?_
      refine lv_iload xh bh dX5_between_17 (lv_at hl 3 rfl) ?_
      refine xn_icmp_gt (tgt := 82) xh bh dX5_between_19 (by decide) (by omega) (by omega) (fun c_19 => ?_) (fun c_19 => ?_)
      · refine lv_aload_n xh bh dX5_between_82 rfl (lv_at hl 0 rfl) ?_
        refine va_get (D := D) (ci := 3) (v := .ref rt) (C := RX5) (T := TX5) (N := 1) xh bh hts (fun _ h => List.mem_cons_of_mem _ (List.mem_append_right _ (h))) hown hK.1 hP 0 rfl rfl 0 (by decide) (hts _ (List.mem_of_getElem? (i := 1) rfl)) (fun _ h9 => h9) rfl dX5_between_83 ?_
        refine lv_iload xh bh dX5_between_86 (lv_at hl 3 rfl) ?_
        refine xR_aald xh bh hK.1 hP 1 4 rfl rfl (by omega) dX5_between_88 ?_
        refine lv_iload xh bh dX5_between_89 (lv_at hl 4 rfl) ?_
        refine xR_iald (X := [(ru, .inr (3, [.ref rt])), (rt, .inl (cA, 11, .inr (.inr (.inr (.inr (oR r))))))]) (Y := []) (G := g1) xh bh hK.1 hP 0 rfl (by omega) (by omega) dX5_between_91 ?_
        exact hend (nI (g1 a1.length b1.length)) g1 _ _ _ _ (congrArg (fun z => some (Value.int (nI z))) (by unfold dsT; rw [hg.1 a1.length b1.length (by omega) (Nat.le_refl _)])) trivial rfl dX5_between_92 hP hD hS
      · refine lv_iconst (v := (nI 0)) xh bh dX5_between_22 (by decide) ?_
        refine lv_istore (lv' := [(8, .int (nI 0)), (0, .ref ru), (1, .long (eC a1)), (3, .long (eC b1)), (5, .int (nI a1.length)), (6, .int (nI b1.length)), (7, .int (nI i))]) xh bh dX5_between_23 hl (by decide) rfl (fun ls hl => ?_)
        have cut_25 : ∀ (n_25 : Nat), ∀ (j : Nat), ∀ (g2 : Nat → Nat → Nat), (j ≤ b1.length + 1) → (tab2 g2 a1 b1 i j) → (b1.length + 1 - j) < n_25 → ∀ (H : Heap) (locs : List Loc) (ls : Array Slot), va_P D vwCl [(ru, .inr (3, [.ref rt])), (rt, .inl (cA, 11, .inr (.inr (.inr (.inr (oR r)))))), rowE cI r g2 0, rowE cI r g2 1, rowE cI r g2 2, rowE cI r g2 3, rowE cI r g2 4, rowE cI r g2 5, rowE cI r g2 6, rowE cI r g2 7, rowE cI r g2 8, rowE cI r g2 9, rowE cI r g2 10] H → va_D AG [(ru, .inr (3, [.ref rt])), (rt, .inl (cA, 11, .inr (.inr (.inr (.inr (oR r)))))), rowE cI r g2 0, rowE cI r g2 1, rowE cI r g2 2, rowE cI r g2 3, rowE cI r g2 4, rowE cI r g2 5, rowE cI r g2 6, rowE cI r g2 7, rowE cI r g2 8, rowE cI r g2 9, rowE cI r g2 10] → va_S AG sG.heap H locs → lv_has ls 9 [(0, .ref ru), (1, .long (eC a1)), (3, .long (eC b1)), (5, .int (nI a1.length)), (6, .int (nI b1.length)), (7, .int (nI i)), (8, .int (nI j))] → W pG l eG ({ frames := 2, cells := 0, slots := 0, locals := 70 }) sG mG aG bG tG cG H locs 0 0 QG (F0 mG 25 ls []) := by
          intro n_25
          induction n_25 with
          | zero =>
            intro j g2 hj9 hh hmu
            exact absurd hmu (Nat.not_lt_zero _)
          | succ n_25 ih_25 =>
            intro j g2 hj9 hh hmu H locs ls hP hD hS hl
            refine lv_iload xh bh dX5_between_25 (lv_at hl 6 rfl) ?_
            refine lv_iload xh bh dX5_between_27 (lv_at hl 4 rfl) ?_
            refine xn_icmp_gt (tgt := 76) xh bh dX5_between_29 (by decide) (by omega) (by omega) (fun c_29 => ?_) (fun c_29 => ?_)
            · refine lv_iinc (v := (nI (i + 1))) (lv' := [(7, .int (nI (i + 1))), (0, .ref ru), (1, .long (eC a1)), (3, .long (eC b1)), (5, .int (nI a1.length)), (6, .int (nI b1.length)), (8, .int (nI j))]) xh bh dX5_between_76 hl (k := 5) rfl (by exact xn_inc _ _) (by decide) rfl (fun ls hl => ?_)
              refine lv_goto (tgt := 15) xh bh dX5_between_79 (by decide) ?_
              exact ih_15 (i + 1) g2 (by omega) (by exact tab2_n (by omega) hh) (by omega) _ _ ls hP hD hS (lv_sub hl [1, 2, 3, 4, 5, 0] rfl)
            · refine lv_aload_n xh bh dX5_between_32 rfl (lv_at hl 0 rfl) ?_
              refine va_get (D := D) (ci := 3) (v := .ref rt) (C := RX5) (T := TX5) (N := 1) xh bh hts (fun _ h => List.mem_cons_of_mem _ (List.mem_append_right _ (h))) hown hK.1 hP 0 rfl rfl 0 (by decide) (hts _ (List.mem_of_getElem? (i := 1) rfl)) (fun _ h9 => h9) rfl dX5_between_33 ?_
              refine lv_iload xh bh dX5_between_36 (lv_at hl 5 rfl) ?_
              refine xR_aald xh bh hK.1 hP 1 4 rfl rfl (by omega) dX5_between_38 ?_
              refine lv_iload xh bh dX5_between_39 (lv_at hl 6 rfl) ?_
              refine lv_iload xh bh dX5_between_41 (lv_at hl 5 rfl) ?_
              refine xn_if_eq (tgt := 51) xh bh dX5_between_43 (by decide) (by omega) (fun c_43 => ?_) (fun c_43 => ?_)
              · have hv9 : i + j = dis a1 b1 i j := by rw [c_43, dis_i0, Nat.zero_add]
                refine lv_iload xh bh dX5_between_51 (lv_at hl 5 rfl) ?_
                refine lv_iload xh bh dX5_between_53 (lv_at hl 6 rfl) ?_
                refine xn_iadd xh bh dX5_between_55 ?_
                refine lv_goto (tgt := 69) xh bh dX5_between_56 (by decide) ?_
                refine xR_iast (X := [(ru, .inr (3, [.ref rt])), (rt, .inl (cA, 11, .inr (.inr (.inr (.inr (oR r))))))]) (Y := []) (G := g2) xh bh hK.1 hP hD hS 0 rfl (by omega) (by omega) dX5_between_69 (fun H locs hP hD hS => ?_)
                obtain ⟨g_1, eg_1⟩ : ∃ g : Nat → Nat → Nat, g = (va_up g2 i (va_up (g2 i) j (i + j))) := ⟨_, rfl⟩
                have hP : va_P D vwCl [(ru, .inr (3, [.ref rt])), (rt, .inl (cA, 11, .inr (.inr (.inr (.inr (oR r)))))), rowE cI r g_1 0, rowE cI r g_1 1, rowE cI r g_1 2, rowE cI r g_1 3, rowE cI r g_1 4, rowE cI r g_1 5, rowE cI r g_1 6, rowE cI r g_1 7, rowE cI r g_1 8, rowE cI r g_1 9, rowE cI r g_1 10] H := by rw [eg_1]; exact hP
                have hD : va_D AG [(ru, .inr (3, [.ref rt])), (rt, .inl (cA, 11, .inr (.inr (.inr (.inr (oR r)))))), rowE cI r g_1 0, rowE cI r g_1 1, rowE cI r g_1 2, rowE cI r g_1 3, rowE cI r g_1 4, rowE cI r g_1 5, rowE cI r g_1 6, rowE cI r g_1 7, rowE cI r g_1 8, rowE cI r g_1 9, rowE cI r g_1 10] := by rw [eg_1]; exact hD
                have hh9 : tab2 g_1 a1 b1 i (j + 1) := by rw [eg_1]; exact tab2_s hh hv9
                refine lv_iinc (v := (nI (j + 1))) (lv' := [(8, .int (nI (j + 1))), (0, .ref ru), (1, .long (eC a1)), (3, .long (eC b1)), (5, .int (nI a1.length)), (6, .int (nI b1.length)), (7, .int (nI i))]) xh bh dX5_between_70 hl (k := 6) rfl (by exact xn_inc _ _) (by decide) rfl (fun ls hl => ?_)
                refine lv_goto (tgt := 25) xh bh dX5_between_73 (by decide) ?_
                exact ih_25 (j + 1) g_1 (by omega) (by exact hh9) (by omega) _ _ ls hP hD hS (lv_sub hl [1, 2, 3, 4, 5, 6, 0] rfl)
              · refine lv_iload xh bh dX5_between_46 (lv_at hl 6 rfl) ?_
                refine xn_if_ne (tgt := 59) xh bh dX5_between_48 (by decide) (by omega) (fun c_48 => ?_) (fun c_48 => ?_)
                · have hv9 : dis a1 b1 i j = dis a1 b1 i j := rfl
                  refine lv_aload_n xh bh dX5_between_59 rfl (lv_at hl 0 rfl) ?_
                  refine lv_lload_n xh bh dX5_between_60 rfl (lv_at hl 1 rfl) ?_
                  refine lv_iload xh bh dX5_between_61 (lv_at hl 5 rfl) ?_
                  refine lv_lload_n xh bh dX5_between_63 rfl (lv_at hl 2 rfl) ?_
                  refine lv_iload xh bh dX5_between_64 (lv_at hl 6 rfl) ?_
                  refine Ct.callV (As := [.long (eC a1), .int (nI i), .long (eC b1), .int (nI j)]) (rest := [.int (nI j), .ref (r i)]) (wr := []) xh bh hml hown hts hK hP hD hS hA (ct_X5_leastOf l D cI cJ cB cZ cA ru rt r g2 a1 b1 i j (by first | assumption | exact okT_nil) (by first | assumption | exact okT_nil) (by first | omega | assumption) (by first | omega | assumption) (by first | omega | assumption) (by first | omega | assumption) (by exact hh)) (cwV 4 hts gX5_between_X5_leastOf rfl rfl rfl (by decide +kernel) ⟨Nat.le_of_ble_eq_true rfl, Nat.le_of_ble_eq_true rfl⟩) rfl rfl hl.1 (Nat.le_of_ble_eq_true rfl) dX5_between_66 ⟨Nat.le_refl _, Nat.le_refl _⟩ 0 3 rfl rfl rfl [0, 1, 2, 3, 4, 5, 6, 7, 8, 9, 10, 11, 12] [] rfl (by decide) rfl rfl (by decide) (by decide) (fun _ H locs _ hP hD hS => ?_)
                  have hP : va_P D vwCl [(ru, .inr (3, [.ref rt])), (rt, .inl (cA, 11, .inr (.inr (.inr (.inr (oR r)))))), rowE cI r g2 0, rowE cI r g2 1, rowE cI r g2 2, rowE cI r g2 3, rowE cI r g2 4, rowE cI r g2 5, rowE cI r g2 6, rowE cI r g2 7, rowE cI r g2 8, rowE cI r g2 9, rowE cI r g2 10] H := hP
                  have hD : va_D AG [(ru, .inr (3, [.ref rt])), (rt, .inl (cA, 11, .inr (.inr (.inr (.inr (oR r)))))), rowE cI r g2 0, rowE cI r g2 1, rowE cI r g2 2, rowE cI r g2 3, rowE cI r g2 4, rowE cI r g2 5, rowE cI r g2 6, rowE cI r g2 7, rowE cI r g2 8, rowE cI r g2 9, rowE cI r g2 10] := hD
                  refine W.eq (g2 := F0 mG 69 ls [.int (nI (dis a1 b1 i j)), .int (nI j), .ref (r i)]) rfl ?_
                  refine xR_iast (X := [(ru, .inr (3, [.ref rt])), (rt, .inl (cA, 11, .inr (.inr (.inr (.inr (oR r))))))]) (Y := []) (G := g2) xh bh hK.1 hP hD hS 0 rfl (by omega) (by omega) dX5_between_69 (fun H locs hP hD hS => ?_)
                  obtain ⟨g_2, eg_2⟩ : ∃ g : Nat → Nat → Nat, g = (va_up g2 i (va_up (g2 i) j (dis a1 b1 i j))) := ⟨_, rfl⟩
                  have hP : va_P D vwCl [(ru, .inr (3, [.ref rt])), (rt, .inl (cA, 11, .inr (.inr (.inr (.inr (oR r)))))), rowE cI r g_2 0, rowE cI r g_2 1, rowE cI r g_2 2, rowE cI r g_2 3, rowE cI r g_2 4, rowE cI r g_2 5, rowE cI r g_2 6, rowE cI r g_2 7, rowE cI r g_2 8, rowE cI r g_2 9, rowE cI r g_2 10] H := by rw [eg_2]; exact hP
                  have hD : va_D AG [(ru, .inr (3, [.ref rt])), (rt, .inl (cA, 11, .inr (.inr (.inr (.inr (oR r)))))), rowE cI r g_2 0, rowE cI r g_2 1, rowE cI r g_2 2, rowE cI r g_2 3, rowE cI r g_2 4, rowE cI r g_2 5, rowE cI r g_2 6, rowE cI r g_2 7, rowE cI r g_2 8, rowE cI r g_2 9, rowE cI r g_2 10] := by rw [eg_2]; exact hD
                  have hh9 : tab2 g_2 a1 b1 i (j + 1) := by rw [eg_2]; exact tab2_s hh hv9
                  refine lv_iinc (v := (nI (j + 1))) (lv' := [(8, .int (nI (j + 1))), (0, .ref ru), (1, .long (eC a1)), (3, .long (eC b1)), (5, .int (nI a1.length)), (6, .int (nI b1.length)), (7, .int (nI i))]) xh bh dX5_between_70 hl (k := 6) rfl (by exact xn_inc _ _) (by decide) rfl (fun ls hl => ?_)
                  refine lv_goto (tgt := 25) xh bh dX5_between_73 (by decide) ?_
                  exact ih_25 (j + 1) g_2 (by omega) (by exact hh9) (by omega) _ _ ls hP hD hS (lv_sub hl [1, 2, 3, 4, 5, 6, 0] rfl)
                · have hv9 : i + j = dis a1 b1 i j := by rw [c_48, dis_j0, Nat.add_zero]
                  refine lv_iload xh bh dX5_between_51 (lv_at hl 5 rfl) ?_
                  refine lv_iload xh bh dX5_between_53 (lv_at hl 6 rfl) ?_
                  refine xn_iadd xh bh dX5_between_55 ?_
                  refine lv_goto (tgt := 69) xh bh dX5_between_56 (by decide) ?_
                  refine xR_iast (X := [(ru, .inr (3, [.ref rt])), (rt, .inl (cA, 11, .inr (.inr (.inr (.inr (oR r))))))]) (Y := []) (G := g2) xh bh hK.1 hP hD hS 0 rfl (by omega) (by omega) dX5_between_69 (fun H locs hP hD hS => ?_)
                  obtain ⟨g_3, eg_3⟩ : ∃ g : Nat → Nat → Nat, g = (va_up g2 i (va_up (g2 i) j (i + j))) := ⟨_, rfl⟩
                  have hP : va_P D vwCl [(ru, .inr (3, [.ref rt])), (rt, .inl (cA, 11, .inr (.inr (.inr (.inr (oR r)))))), rowE cI r g_3 0, rowE cI r g_3 1, rowE cI r g_3 2, rowE cI r g_3 3, rowE cI r g_3 4, rowE cI r g_3 5, rowE cI r g_3 6, rowE cI r g_3 7, rowE cI r g_3 8, rowE cI r g_3 9, rowE cI r g_3 10] H := by rw [eg_3]; exact hP
                  have hD : va_D AG [(ru, .inr (3, [.ref rt])), (rt, .inl (cA, 11, .inr (.inr (.inr (.inr (oR r)))))), rowE cI r g_3 0, rowE cI r g_3 1, rowE cI r g_3 2, rowE cI r g_3 3, rowE cI r g_3 4, rowE cI r g_3 5, rowE cI r g_3 6, rowE cI r g_3 7, rowE cI r g_3 8, rowE cI r g_3 9, rowE cI r g_3 10] := by rw [eg_3]; exact hD
                  have hh9 : tab2 g_3 a1 b1 i (j + 1) := by rw [eg_3]; exact tab2_s hh hv9
                  refine lv_iinc (v := (nI (j + 1))) (lv' := [(8, .int (nI (j + 1))), (0, .ref ru), (1, .long (eC a1)), (3, .long (eC b1)), (5, .int (nI a1.length)), (6, .int (nI b1.length)), (7, .int (nI i))]) xh bh dX5_between_70 hl (k := 6) rfl (by exact xn_inc _ _) (by decide) rfl (fun ls hl => ?_)
                  refine lv_goto (tgt := 25) xh bh dX5_between_73 (by decide) ?_
                  exact ih_25 (j + 1) g_3 (by omega) (by exact hh9) (by omega) _ _ ls hP hD hS (lv_sub hl [1, 2, 3, 4, 5, 6, 0] rfl)
        exact cut_25 (b1.length + 1 - 0 + 1) 0 g1 (by exact Nat.zero_le _) (by exact hg) (Nat.lt_succ_self _) _ _ ls hP hD hS (lv_sub hl [1, 2, 3, 4, 5, 6, 0] rfl)
  exact cut_15 (a1.length + 1 - 0 + 1) 0 G (by exact Nat.zero_le _) (by exact ⟨fun x y q => absurd q (Nat.not_lt_zero _), fun y q => absurd q (Nat.not_lt_zero _)⟩) (Nat.lt_succ_self _) _ _ ls hP hD hS (lv_sub hl [3, 4, 5, 2, 1, 0] rfl)

set_option maxHeartbeats 1000000 in
set_option maxRecDepth 100000 in
theorem ct_X8_apart (l : Launch) (D : va_G) (cI cJ cB cZ cA : ClassId) (e0 : Nat) (h : Nat → Nat) (y : Nat → Nat) (z : Nat → Nat) (d : Nat → Nat) (sc : Nat) (ru : Nat) (fu : Nat) (f0 : Nat) (ra : Nat) (k0 : Bool) (k1 : Bool) (T : Nat → List Nat) (row : List Nat) (hc : Nat) (un : Nat) (rf : Nat → Int32) (rt : Nat) (r : Nat → Nat) (G : Nat → Nat → Nat) (x : Int32) (w : Int32) (hT : ∀ k, okT (T k)) : Ct l yX8_apart wsX8_apart ({ frames := 3, cells := 0, slots := 0, locals := 98 }) D (tysG cI cJ cB cZ cA) [.ref e0, .int x, .int w] [(e0, .inr (5, [.ref (h 0), .ref (y 0), .ref (z 0), .ref (d 0), .ref sc, .ref ru, .ref fu, .ref f0, .ref ra, .int (ib k0), .int (ib k1)])), (ra, .inl (cI, 3, .inl rf)), (h 0, .inr (2, [.ref (h 1), .ref (h 2), .ref (h 3), .ref (h 4), .ref (h 5), .ref (h 6), .ref (h 7), .long (eC row), .int (nI hc), .int (nI un)])), (h 1, .inl (cJ, 8, .inr (.inl (fC T)))), (ru, .inr (3, [.ref rt])), (rt, .inl (cA, 11, .inr (.inr (.inr (.inr (oR r)))))), rowE cI r G 0, rowE cI r G 1, rowE cI r G 2, rowE cI r G 3, rowE cI r G 4, rowE cI r G 5, rowE cI r G 6, rowE cI r G 7, rowE cI r G 8, rowE cI r G 9, rowE cI r G 10] (fun (u : Nat → Nat → Nat) => True) (fun u => some (.int (eApart (kTwo x w) (dsT (T (xN x)) (T (xN w)))))) (fun u => [(e0, .inr (5, [.ref (h 0), .ref (y 0), .ref (z 0), .ref (d 0), .ref sc, .ref ru, .ref fu, .ref f0, .ref ra, .int (ib k0), .int (ib k1)])), (ra, .inl (cI, 3, .inl (rfU (kTwo x w) rf))), (h 0, .inr (2, [.ref (h 1), .ref (h 2), .ref (h 3), .ref (h 4), .ref (h 5), .ref (h 6), .ref (h 7), .long (eC row), .int (nI hc), .int (nI un)])), (h 1, .inl (cJ, 8, .inr (.inl (fC T)))), (ru, .inr (3, [.ref rt])), (rt, .inl (cA, 11, .inr (.inr (.inr (.inr (oR r)))))), rowE cI r u 0, rowE cI r u 1, rowE cI r u 2, rowE cI r u 3, rowE cI r u 4, rowE cI r u 5, rowE cI r u 6, rowE cI r u 7, rowE cI r u 8, rowE cI r u 9, rowE cI r u 10]) := by
  refine Ct.ofI (cc := cX8_apart) (maxL := 3) (by decide) rfl (Nat.le_of_ble_eq_true rfl) ?_
  intro pG eG sG mG aG bG tG cG AG QG ls xh bh hml hown hts hK hP hD hS hA hend hl
  have hl : lv_has ls 3 [(0, .ref e0), (1, .int x), (2, .int w)] := hl
  refine lv_iload_n xh bh dX8_apart_0 rfl (lv_at hl 1 rfl) ?_
  refine Ct.callS0 (rest := []) xh bh hml hown hts hK hP hS hA (ct_X8_isBranch l D cI cJ cB cZ cA x ) (va_cwS 1 hts gX8_apart_X8_isBranch rfl rfl rfl (by decide +kernel) ⟨Nat.le_of_ble_eq_true rfl, Nat.le_of_ble_eq_true rfl⟩) rfl rfl hl.1 (Nat.le_of_ble_eq_true rfl) dX8_apart_1 ⟨Nat.le_refl _, Nat.le_refl _⟩ (fun _ H locs _ hP hS => ?_)
  refine W.eq (g2 := F0 mG 4 ls [.int (ib (upB x 7))]) rfl ?_
  refine xb_if_eq (tgt := 14) xh bh dX8_apart_4 (by decide) (fun c_4 => ?_) (fun c_4 => ?_)
  · have hk : kTwo x w = 0 := if_neg (fun q => by rw [c_4] at q; exact absurd q.1 (by decide))
    refine lv_aload_n xh bh dX8_apart_14 rfl (lv_at hl 0 rfl) ?_
    refine lv_bipush (v := (-2)) xh bh dX8_apart_15 (by decide) ?_
    refine Ct.callV (As := [.int (-2)]) (rest := []) (wr := [(h 0, .inr (2, [.ref (h 1), .ref (h 2), .ref (h 3), .ref (h 4), .ref (h 5), .ref (h 6), .ref (h 7), .long (eC row), .int (nI hc), .int (nI un)])), (h 1, .inl (cJ, 8, .inr (.inl (fC T)))), (ru, .inr (3, [.ref rt])), (rt, .inl (cA, 11, .inr (.inr (.inr (.inr (oR r)))))), rowE cI r G 0, rowE cI r G 1, rowE cI r G 2, rowE cI r G 3, rowE cI r G 4, rowE cI r G 5, rowE cI r G 6, rowE cI r G 7, rowE cI r G 8, rowE cI r G 9, rowE cI r G 10]) xh bh hml hown hts hK hP hD hS hA (ct_X8_refuse0 l D cI cJ cB cZ cA e0 h y z d sc ru fu f0 ra k0 k1 rf ) (cwV 1 hts gX8_apart_X8_refuse rfl rfl rfl (by decide +kernel) ⟨Nat.le_of_ble_eq_true rfl, Nat.le_of_ble_eq_true rfl⟩) rfl rfl hl.1 (Nat.le_of_ble_eq_true rfl) dX8_apart_17 ⟨Nat.le_refl _, Nat.le_refl _⟩ 0 5 rfl rfl rfl [0, 1] [2, 3, 4, 5, 6, 7, 8, 9, 10, 11, 12, 13, 14, 15, 16] rfl (by decide) rfl rfl (by decide) (by decide) (fun _ H locs _ hP hD hS => ?_)
    have hP : va_P D vwCl [(h 0, .inr (2, [.ref (h 1), .ref (h 2), .ref (h 3), .ref (h 4), .ref (h 5), .ref (h 6), .ref (h 7), .long (eC row), .int (nI hc), .int (nI un)])), (h 1, .inl (cJ, 8, .inr (.inl (fC T)))), (ru, .inr (3, [.ref rt])), (rt, .inl (cA, 11, .inr (.inr (.inr (.inr (oR r)))))), rowE cI r G 0, rowE cI r G 1, rowE cI r G 2, rowE cI r G 3, rowE cI r G 4, rowE cI r G 5, rowE cI r G 6, rowE cI r G 7, rowE cI r G 8, rowE cI r G 9, rowE cI r G 10, (e0, .inr (5, [.ref (h 0), .ref (y 0), .ref (z 0), .ref (d 0), .ref sc, .ref ru, .ref fu, .ref f0, .ref ra, .int (ib k0), .int (ib k1)])), (ra, .inl (cI, 3, .inl (upd rf 0 ((rf 0) + nI 1))))] H := hP
    have hD : va_D AG [(h 0, .inr (2, [.ref (h 1), .ref (h 2), .ref (h 3), .ref (h 4), .ref (h 5), .ref (h 6), .ref (h 7), .long (eC row), .int (nI hc), .int (nI un)])), (h 1, .inl (cJ, 8, .inr (.inl (fC T)))), (ru, .inr (3, [.ref rt])), (rt, .inl (cA, 11, .inr (.inr (.inr (.inr (oR r)))))), rowE cI r G 0, rowE cI r G 1, rowE cI r G 2, rowE cI r G 3, rowE cI r G 4, rowE cI r G 5, rowE cI r G 6, rowE cI r G 7, rowE cI r G 8, rowE cI r G 9, rowE cI r G 10, (e0, .inr (5, [.ref (h 0), .ref (y 0), .ref (z 0), .ref (d 0), .ref sc, .ref ru, .ref fu, .ref f0, .ref ra, .int (ib k0), .int (ib k1)])), (ra, .inl (cI, 3, .inl (upd rf 0 ((rf 0) + nI 1))))] := hD
    refine W.eq (g2 := F0 mG 20 ls [.int (-2)]) rfl ?_
    exact hend (-2) G _ _ _ _ (congrArg (fun z => some (Value.int z)) (by rw [hk]; rfl)) trivial rfl dX8_apart_20 (by rw [hk]; exact (hP.sub [15, 16, 0, 1, 2, 3, 4, 5, 6, 7, 8, 9, 10, 11, 12, 13, 14] rfl)) (by rw [hk]; exact (hD.sub [15, 16, 0, 1, 2, 3, 4, 5, 6, 7, 8, 9, 10, 11, 12, 13, 14] (by decide) rfl)) hS
  · refine lv_iload_n xh bh dX8_apart_7 rfl (lv_at hl 2 rfl) ?_
    refine Ct.callS0 (rest := []) xh bh hml hown hts hK hP hS hA (ct_X8_isBranch l D cI cJ cB cZ cA w ) (va_cwS 1 hts gX8_apart_X8_isBranch rfl rfl rfl (by decide +kernel) ⟨Nat.le_of_ble_eq_true rfl, Nat.le_of_ble_eq_true rfl⟩) rfl rfl hl.1 (Nat.le_of_ble_eq_true rfl) dX8_apart_8 ⟨Nat.le_refl _, Nat.le_refl _⟩ (fun _ H locs _ hP hS => ?_)
    refine W.eq (g2 := F0 mG 11 ls [.int (ib (upB w 7))]) rfl ?_
    refine xb_if_ne (tgt := 21) xh bh dX8_apart_11 (by decide) (fun c_11 => ?_) (fun c_11 => ?_)
    · have hk : kTwo x w = 3 := if_pos ⟨c_4, c_11⟩
      obtain ⟨k, hk9, rfl⟩ := upB_of (by decide) c_4
      obtain ⟨k2, hk8, rfl⟩ := upB_of (by decide) c_11
      refine lv_aload_n xh bh dX8_apart_21 rfl (lv_at hl 0 rfl) ?_
      refine va_get (D := D) (ci := 5) (v := .ref ru) (C := RX8) (T := TX8) (N := 11) xh bh hts (fun _ h => List.mem_cons_of_mem _ (List.mem_append_left _ (List.mem_append_left _ (List.mem_append_right _ (h))))) hown hK.1 hP 0 rfl rfl 5 (by decide) (hts _ (List.mem_of_getElem? (i := 1) rfl)) (fun _ h9 => h9) rfl dX8_apart_22 ?_
      refine lv_aload_n xh bh dX8_apart_25 rfl (lv_at hl 0 rfl) ?_
      refine va_get (D := D) (ci := 5) (v := .ref (h 0)) (C := RX8) (T := TX8) (N := 11) xh bh hts (fun _ h => List.mem_cons_of_mem _ (List.mem_append_left _ (List.mem_append_left _ (List.mem_append_right _ (h))))) hown hK.1 hP 0 rfl rfl 0 (by decide) (hts _ (List.mem_of_getElem? (i := 2) rfl)) (fun _ h9 => h9) rfl dX8_apart_26 ?_
      refine lv_iload_n xh bh dX8_apart_29 rfl (lv_at hl 1 rfl) ?_
      refine Ct.callV (As := [.int (nI k)]) (rest := [.ref ru]) (wr := [(e0, .inr (5, [.ref (h 0), .ref (y 0), .ref (z 0), .ref (d 0), .ref sc, .ref ru, .ref fu, .ref f0, .ref ra, .int (ib k0), .int (ib k1)])), (ra, .inl (cI, 3, .inl rf)), (ru, .inr (3, [.ref rt])), (rt, .inl (cA, 11, .inr (.inr (.inr (.inr (oR r)))))), rowE cI r G 0, rowE cI r G 1, rowE cI r G 2, rowE cI r G 3, rowE cI r G 4, rowE cI r G 5, rowE cI r G 6, rowE cI r G 7, rowE cI r G 8, rowE cI r G 9, rowE cI r G 10]) xh bh hml hown hts hK hP hD hS hA (ct_X3_taleOf l D cI cJ cB cZ cA h T row hc un k (by first | omega | assumption)) (cwV 1 hts gX8_apart_X3_taleOf rfl rfl rfl (by decide +kernel) ⟨Nat.le_of_ble_eq_true rfl, Nat.le_of_ble_eq_true rfl⟩) rfl rfl hl.1 (Nat.le_of_ble_eq_true rfl) dX8_apart_30 ⟨Nat.le_refl _, Nat.le_refl _⟩ 0 2 rfl rfl rfl [2, 3] [0, 1, 4, 5, 6, 7, 8, 9, 10, 11, 12, 13, 14, 15, 16] rfl (by decide) rfl rfl (by decide) (by decide) (fun _ H locs _ hP hD hS => ?_)
      have hP : va_P D vwCl [(e0, .inr (5, [.ref (h 0), .ref (y 0), .ref (z 0), .ref (d 0), .ref sc, .ref ru, .ref fu, .ref f0, .ref ra, .int (ib k0), .int (ib k1)])), (ra, .inl (cI, 3, .inl rf)), (ru, .inr (3, [.ref rt])), (rt, .inl (cA, 11, .inr (.inr (.inr (.inr (oR r)))))), rowE cI r G 0, rowE cI r G 1, rowE cI r G 2, rowE cI r G 3, rowE cI r G 4, rowE cI r G 5, rowE cI r G 6, rowE cI r G 7, rowE cI r G 8, rowE cI r G 9, rowE cI r G 10, (h 0, .inr (2, [.ref (h 1), .ref (h 2), .ref (h 3), .ref (h 4), .ref (h 5), .ref (h 6), .ref (h 7), .long (eC row), .int (nI hc), .int (nI un)])), (h 1, .inl (cJ, 8, .inr (.inl (fC T))))] H := hP
      have hD : va_D AG [(e0, .inr (5, [.ref (h 0), .ref (y 0), .ref (z 0), .ref (d 0), .ref sc, .ref ru, .ref fu, .ref f0, .ref ra, .int (ib k0), .int (ib k1)])), (ra, .inl (cI, 3, .inl rf)), (ru, .inr (3, [.ref rt])), (rt, .inl (cA, 11, .inr (.inr (.inr (.inr (oR r)))))), rowE cI r G 0, rowE cI r G 1, rowE cI r G 2, rowE cI r G 3, rowE cI r G 4, rowE cI r G 5, rowE cI r G 6, rowE cI r G 7, rowE cI r G 8, rowE cI r G 9, rowE cI r G 10, (h 0, .inr (2, [.ref (h 1), .ref (h 2), .ref (h 3), .ref (h 4), .ref (h 5), .ref (h 6), .ref (h 7), .long (eC row), .int (nI hc), .int (nI un)])), (h 1, .inl (cJ, 8, .inr (.inl (fC T))))] := hD
      refine W.eq (g2 := F0 mG 33 ls [.long (eC (T k)), .ref ru]) rfl ?_
      refine lv_aload_n xh bh dX8_apart_33 rfl (lv_at hl 0 rfl) ?_
      refine va_get (D := D) (ci := 5) (v := .ref (h 0)) (C := RX8) (T := TX8) (N := 11) xh bh hts (fun _ h => List.mem_cons_of_mem _ (List.mem_append_left _ (List.mem_append_left _ (List.mem_append_right _ (h))))) hown hK.1 hP 0 rfl rfl 0 (by decide) (hts _ (List.mem_of_getElem? (i := 2) rfl)) (fun _ h9 => h9) rfl dX8_apart_34 ?_
      refine lv_iload_n xh bh dX8_apart_37 rfl (lv_at hl 2 rfl) ?_
      refine Ct.callV (As := [.int (nI k2)]) (rest := [.long (eC (T k)), .ref ru]) (wr := [(e0, .inr (5, [.ref (h 0), .ref (y 0), .ref (z 0), .ref (d 0), .ref sc, .ref ru, .ref fu, .ref f0, .ref ra, .int (ib k0), .int (ib k1)])), (ra, .inl (cI, 3, .inl rf)), (ru, .inr (3, [.ref rt])), (rt, .inl (cA, 11, .inr (.inr (.inr (.inr (oR r)))))), rowE cI r G 0, rowE cI r G 1, rowE cI r G 2, rowE cI r G 3, rowE cI r G 4, rowE cI r G 5, rowE cI r G 6, rowE cI r G 7, rowE cI r G 8, rowE cI r G 9, rowE cI r G 10]) xh bh hml hown hts hK hP hD hS hA (ct_X3_taleOf l D cI cJ cB cZ cA h T row hc un k2 (by first | omega | assumption)) (cwV 1 hts gX8_apart_X3_taleOf rfl rfl rfl (by decide +kernel) ⟨Nat.le_of_ble_eq_true rfl, Nat.le_of_ble_eq_true rfl⟩) rfl rfl hl.1 (Nat.le_of_ble_eq_true rfl) dX8_apart_38 ⟨Nat.le_refl _, Nat.le_refl _⟩ 0 2 rfl rfl rfl [15, 16] [0, 1, 2, 3, 4, 5, 6, 7, 8, 9, 10, 11, 12, 13, 14] rfl (by decide) rfl rfl (by decide) (by decide) (fun _ H locs _ hP hD hS => ?_)
      have hP : va_P D vwCl [(e0, .inr (5, [.ref (h 0), .ref (y 0), .ref (z 0), .ref (d 0), .ref sc, .ref ru, .ref fu, .ref f0, .ref ra, .int (ib k0), .int (ib k1)])), (ra, .inl (cI, 3, .inl rf)), (ru, .inr (3, [.ref rt])), (rt, .inl (cA, 11, .inr (.inr (.inr (.inr (oR r)))))), rowE cI r G 0, rowE cI r G 1, rowE cI r G 2, rowE cI r G 3, rowE cI r G 4, rowE cI r G 5, rowE cI r G 6, rowE cI r G 7, rowE cI r G 8, rowE cI r G 9, rowE cI r G 10, (h 0, .inr (2, [.ref (h 1), .ref (h 2), .ref (h 3), .ref (h 4), .ref (h 5), .ref (h 6), .ref (h 7), .long (eC row), .int (nI hc), .int (nI un)])), (h 1, .inl (cJ, 8, .inr (.inl (fC T))))] H := hP
      have hD : va_D AG [(e0, .inr (5, [.ref (h 0), .ref (y 0), .ref (z 0), .ref (d 0), .ref sc, .ref ru, .ref fu, .ref f0, .ref ra, .int (ib k0), .int (ib k1)])), (ra, .inl (cI, 3, .inl rf)), (ru, .inr (3, [.ref rt])), (rt, .inl (cA, 11, .inr (.inr (.inr (.inr (oR r)))))), rowE cI r G 0, rowE cI r G 1, rowE cI r G 2, rowE cI r G 3, rowE cI r G 4, rowE cI r G 5, rowE cI r G 6, rowE cI r G 7, rowE cI r G 8, rowE cI r G 9, rowE cI r G 10, (h 0, .inr (2, [.ref (h 1), .ref (h 2), .ref (h 3), .ref (h 4), .ref (h 5), .ref (h 6), .ref (h 7), .long (eC row), .int (nI hc), .int (nI un)])), (h 1, .inl (cJ, 8, .inr (.inl (fC T))))] := hD
      refine W.eq (g2 := F0 mG 41 ls [.long (eC (T k2)), .long (eC (T k)), .ref ru]) rfl ?_
      refine Ct.callV (As := [.long (eC (T k)), .long (eC (T k2))]) (rest := []) (wr := [(e0, .inr (5, [.ref (h 0), .ref (y 0), .ref (z 0), .ref (d 0), .ref sc, .ref ru, .ref fu, .ref f0, .ref ra, .int (ib k0), .int (ib k1)])), (ra, .inl (cI, 3, .inl rf)), (h 0, .inr (2, [.ref (h 1), .ref (h 2), .ref (h 3), .ref (h 4), .ref (h 5), .ref (h 6), .ref (h 7), .long (eC row), .int (nI hc), .int (nI un)])), (h 1, .inl (cJ, 8, .inr (.inl (fC T))))]) xh bh hml hown hts hK hP hD hS hA (ct_X5_between l D cI cJ cB cZ cA ru rt r G (T k) (T k2) (by exact hT _) (by exact hT _)) (cwV 2 hts gX8_apart_X5_between rfl rfl rfl (by decide +kernel) ⟨Nat.le_of_ble_eq_true rfl, Nat.le_of_ble_eq_true rfl⟩) rfl rfl hl.1 (Nat.le_of_ble_eq_true rfl) dX8_apart_41 ⟨Nat.le_refl _, Nat.le_refl _⟩ 0 3 rfl rfl rfl [2, 3, 4, 5, 6, 7, 8, 9, 10, 11, 12, 13, 14] [0, 1, 15, 16] rfl (by decide) rfl rfl (by decide) (by decide) (fun u_41 H locs hu_41 hP hD hS => ?_)
      have hP : va_P D vwCl [(e0, .inr (5, [.ref (h 0), .ref (y 0), .ref (z 0), .ref (d 0), .ref sc, .ref ru, .ref fu, .ref f0, .ref ra, .int (ib k0), .int (ib k1)])), (ra, .inl (cI, 3, .inl rf)), (h 0, .inr (2, [.ref (h 1), .ref (h 2), .ref (h 3), .ref (h 4), .ref (h 5), .ref (h 6), .ref (h 7), .long (eC row), .int (nI hc), .int (nI un)])), (h 1, .inl (cJ, 8, .inr (.inl (fC T)))), (ru, .inr (3, [.ref rt])), (rt, .inl (cA, 11, .inr (.inr (.inr (.inr (oR r)))))), rowE cI r u_41 0, rowE cI r u_41 1, rowE cI r u_41 2, rowE cI r u_41 3, rowE cI r u_41 4, rowE cI r u_41 5, rowE cI r u_41 6, rowE cI r u_41 7, rowE cI r u_41 8, rowE cI r u_41 9, rowE cI r u_41 10] H := hP
      have hD : va_D AG [(e0, .inr (5, [.ref (h 0), .ref (y 0), .ref (z 0), .ref (d 0), .ref sc, .ref ru, .ref fu, .ref f0, .ref ra, .int (ib k0), .int (ib k1)])), (ra, .inl (cI, 3, .inl rf)), (h 0, .inr (2, [.ref (h 1), .ref (h 2), .ref (h 3), .ref (h 4), .ref (h 5), .ref (h 6), .ref (h 7), .long (eC row), .int (nI hc), .int (nI un)])), (h 1, .inl (cJ, 8, .inr (.inl (fC T)))), (ru, .inr (3, [.ref rt])), (rt, .inl (cA, 11, .inr (.inr (.inr (.inr (oR r)))))), rowE cI r u_41 0, rowE cI r u_41 1, rowE cI r u_41 2, rowE cI r u_41 3, rowE cI r u_41 4, rowE cI r u_41 5, rowE cI r u_41 6, rowE cI r u_41 7, rowE cI r u_41 8, rowE cI r u_41 9, rowE cI r u_41 10] := hD
      refine W.eq (g2 := F0 mG 44 ls [.int (nI (dsT (T k) (T k2)))]) rfl ?_
      exact hend (nI (dsT (T k) (T k2))) u_41 _ _ _ _ (congrArg (fun z => some (Value.int z)) (by rw [hk, xN_nI (by omega), xN_nI (by omega)]; rfl)) trivial rfl dX8_apart_44 (by rw [hk]; exact hP) (by rw [hk]; exact hD) hS
    · have hk : kTwo x w = 0 := if_neg (fun q => by rw [c_11] at q; exact absurd q.2 (by decide))
      refine lv_aload_n xh bh dX8_apart_14 rfl (lv_at hl 0 rfl) ?_
      refine lv_bipush (v := (-2)) xh bh dX8_apart_15 (by decide) ?_
      refine Ct.callV (As := [.int (-2)]) (rest := []) (wr := [(h 0, .inr (2, [.ref (h 1), .ref (h 2), .ref (h 3), .ref (h 4), .ref (h 5), .ref (h 6), .ref (h 7), .long (eC row), .int (nI hc), .int (nI un)])), (h 1, .inl (cJ, 8, .inr (.inl (fC T)))), (ru, .inr (3, [.ref rt])), (rt, .inl (cA, 11, .inr (.inr (.inr (.inr (oR r)))))), rowE cI r G 0, rowE cI r G 1, rowE cI r G 2, rowE cI r G 3, rowE cI r G 4, rowE cI r G 5, rowE cI r G 6, rowE cI r G 7, rowE cI r G 8, rowE cI r G 9, rowE cI r G 10]) xh bh hml hown hts hK hP hD hS hA (ct_X8_refuse0 l D cI cJ cB cZ cA e0 h y z d sc ru fu f0 ra k0 k1 rf ) (cwV 1 hts gX8_apart_X8_refuse rfl rfl rfl (by decide +kernel) ⟨Nat.le_of_ble_eq_true rfl, Nat.le_of_ble_eq_true rfl⟩) rfl rfl hl.1 (Nat.le_of_ble_eq_true rfl) dX8_apart_17 ⟨Nat.le_refl _, Nat.le_refl _⟩ 0 5 rfl rfl rfl [0, 1] [2, 3, 4, 5, 6, 7, 8, 9, 10, 11, 12, 13, 14, 15, 16] rfl (by decide) rfl rfl (by decide) (by decide) (fun _ H locs _ hP hD hS => ?_)
      have hP : va_P D vwCl [(h 0, .inr (2, [.ref (h 1), .ref (h 2), .ref (h 3), .ref (h 4), .ref (h 5), .ref (h 6), .ref (h 7), .long (eC row), .int (nI hc), .int (nI un)])), (h 1, .inl (cJ, 8, .inr (.inl (fC T)))), (ru, .inr (3, [.ref rt])), (rt, .inl (cA, 11, .inr (.inr (.inr (.inr (oR r)))))), rowE cI r G 0, rowE cI r G 1, rowE cI r G 2, rowE cI r G 3, rowE cI r G 4, rowE cI r G 5, rowE cI r G 6, rowE cI r G 7, rowE cI r G 8, rowE cI r G 9, rowE cI r G 10, (e0, .inr (5, [.ref (h 0), .ref (y 0), .ref (z 0), .ref (d 0), .ref sc, .ref ru, .ref fu, .ref f0, .ref ra, .int (ib k0), .int (ib k1)])), (ra, .inl (cI, 3, .inl (upd rf 0 ((rf 0) + nI 1))))] H := hP
      have hD : va_D AG [(h 0, .inr (2, [.ref (h 1), .ref (h 2), .ref (h 3), .ref (h 4), .ref (h 5), .ref (h 6), .ref (h 7), .long (eC row), .int (nI hc), .int (nI un)])), (h 1, .inl (cJ, 8, .inr (.inl (fC T)))), (ru, .inr (3, [.ref rt])), (rt, .inl (cA, 11, .inr (.inr (.inr (.inr (oR r)))))), rowE cI r G 0, rowE cI r G 1, rowE cI r G 2, rowE cI r G 3, rowE cI r G 4, rowE cI r G 5, rowE cI r G 6, rowE cI r G 7, rowE cI r G 8, rowE cI r G 9, rowE cI r G 10, (e0, .inr (5, [.ref (h 0), .ref (y 0), .ref (z 0), .ref (d 0), .ref sc, .ref ru, .ref fu, .ref f0, .ref ra, .int (ib k0), .int (ib k1)])), (ra, .inl (cI, 3, .inl (upd rf 0 ((rf 0) + nI 1))))] := hD
      refine W.eq (g2 := F0 mG 20 ls [.int (-2)]) rfl ?_
      exact hend (-2) G _ _ _ _ (congrArg (fun z => some (Value.int z)) (by rw [hk]; rfl)) trivial rfl dX8_apart_20 (by rw [hk]; exact (hP.sub [15, 16, 0, 1, 2, 3, 4, 5, 6, 7, 8, 9, 10, 11, 12, 13, 14] rfl)) (by rw [hk]; exact (hD.sub [15, 16, 0, 1, 2, 3, 4, 5, 6, 7, 8, 9, 10, 11, 12, 13, 14] (by decide) rfl)) hS

set_option maxHeartbeats 1000000 in
set_option maxRecDepth 100000 in
theorem ct_X8_slipsFromOthers (l : Launch) (D : va_G) (cI cJ cB cZ cA : ClassId) (e0 : Nat) (h : Nat → Nat) (y : Nat → Nat) (z : Nat → Nat) (d : Nat → Nat) (sc : Nat) (ru : Nat) (fu : Nat) (f0 : Nat) (ra : Nat) (k0 : Bool) (k1 : Bool) (T : Nat → List Nat) (row : List Nat) (hc : Nat) (un : Nat) (rt : Nat) (r : Nat → Nat) (G : Nat → Nat → Nat) (k : Nat) (hT : ∀ k, okT (T k)) (hk : k ≤ 7) : Ct l yX8_slipsFromOthers wsX8_slipsFromOthers ({ frames := 3, cells := 0, slots := 0, locals := 98 }) D (tysG cI cJ cB cZ cA) [.ref e0, .int (nI k)] [(e0, .inr (5, [.ref (h 0), .ref (y 0), .ref (z 0), .ref (d 0), .ref sc, .ref ru, .ref fu, .ref f0, .ref ra, .int (ib k0), .int (ib k1)])), (h 0, .inr (2, [.ref (h 1), .ref (h 2), .ref (h 3), .ref (h 4), .ref (h 5), .ref (h 6), .ref (h 7), .long (eC row), .int (nI hc), .int (nI un)])), (h 1, .inl (cJ, 8, .inr (.inl (fC T)))), (ru, .inr (3, [.ref rt])), (rt, .inl (cA, 11, .inr (.inr (.inr (.inr (oR r)))))), rowE cI r G 0, rowE cI r G 1, rowE cI r G 2, rowE cI r G 3, rowE cI r G 4, rowE cI r G 5, rowE cI r G 6, rowE cI r G 7, rowE cI r G 8, rowE cI r G 9, rowE cI r G 10] (fun (u : Nat → Nat → Nat) => True) (fun u => some (.int (sfI T k))) (fun u => [(e0, .inr (5, [.ref (h 0), .ref (y 0), .ref (z 0), .ref (d 0), .ref sc, .ref ru, .ref fu, .ref f0, .ref ra, .int (ib k0), .int (ib k1)])), (h 0, .inr (2, [.ref (h 1), .ref (h 2), .ref (h 3), .ref (h 4), .ref (h 5), .ref (h 6), .ref (h 7), .long (eC row), .int (nI hc), .int (nI un)])), (h 1, .inl (cJ, 8, .inr (.inl (fC T)))), (ru, .inr (3, [.ref rt])), (rt, .inl (cA, 11, .inr (.inr (.inr (.inr (oR r)))))), rowE cI r u 0, rowE cI r u 1, rowE cI r u 2, rowE cI r u 3, rowE cI r u 4, rowE cI r u 5, rowE cI r u 6, rowE cI r u 7, rowE cI r u 8, rowE cI r u 9, rowE cI r u 10]) := by
  refine Ct.ofI (cc := cX8_slipsFromOthers) (maxL := 6) (by decide) rfl (Nat.le_of_ble_eq_true rfl) ?_
  intro pG eG sG mG aG bG tG cG AG QG ls xh bh hml hown hts hK hP hD hS hA hend hl
  have hl : lv_has ls 6 [(0, .ref e0), (1, .int (nI k))] := hl
  refine lv_aload_n xh bh dX8_slipsFromOthers_0 rfl (lv_at hl 0 rfl) ?_
  refine va_get (D := D) (ci := 5) (v := .ref (h 0)) (C := RX8) (T := TX8) (N := 11) xh bh hts (fun _ h => List.mem_cons_of_mem _ (List.mem_append_left _ (List.mem_append_left _ (List.mem_append_right _ (h))))) hown hK.1 hP 0 rfl rfl 0 (by decide) (hts _ (List.mem_of_getElem? (i := 1) rfl)) (fun _ h9 => h9) rfl dX8_slipsFromOthers_1 ?_
  refine lv_iload_n xh bh dX8_slipsFromOthers_4 rfl (lv_at hl 1 rfl) ?_
  refine Ct.callV (As := [.int (nI k)]) (rest := []) (wr := [(e0, .inr (5, [.ref (h 0), .ref (y 0), .ref (z 0), .ref (d 0), .ref sc, .ref ru, .ref fu, .ref f0, .ref ra, .int (ib k0), .int (ib k1)])), (ru, .inr (3, [.ref rt])), (rt, .inl (cA, 11, .inr (.inr (.inr (.inr (oR r)))))), rowE cI r G 0, rowE cI r G 1, rowE cI r G 2, rowE cI r G 3, rowE cI r G 4, rowE cI r G 5, rowE cI r G 6, rowE cI r G 7, rowE cI r G 8, rowE cI r G 9, rowE cI r G 10]) xh bh hml hown hts hK hP hD hS hA (ct_X3_taleOf l D cI cJ cB cZ cA h T row hc un k (by first | omega | assumption)) (cwV 1 hts gX8_slipsFromOthers_X3_taleOf rfl rfl rfl (by decide +kernel) ⟨Nat.le_of_ble_eq_true rfl, Nat.le_of_ble_eq_true rfl⟩) rfl rfl hl.1 (Nat.le_of_ble_eq_true rfl) dX8_slipsFromOthers_5 ⟨Nat.le_refl _, Nat.le_refl _⟩ 0 2 rfl rfl rfl [1, 2] [0, 3, 4, 5, 6, 7, 8, 9, 10, 11, 12, 13, 14, 15] rfl (by decide) rfl rfl (by decide) (by decide) (fun _ H locs _ hP hD hS => ?_)
  have hP : va_P D vwCl [(e0, .inr (5, [.ref (h 0), .ref (y 0), .ref (z 0), .ref (d 0), .ref sc, .ref ru, .ref fu, .ref f0, .ref ra, .int (ib k0), .int (ib k1)])), (ru, .inr (3, [.ref rt])), (rt, .inl (cA, 11, .inr (.inr (.inr (.inr (oR r)))))), rowE cI r G 0, rowE cI r G 1, rowE cI r G 2, rowE cI r G 3, rowE cI r G 4, rowE cI r G 5, rowE cI r G 6, rowE cI r G 7, rowE cI r G 8, rowE cI r G 9, rowE cI r G 10, (h 0, .inr (2, [.ref (h 1), .ref (h 2), .ref (h 3), .ref (h 4), .ref (h 5), .ref (h 6), .ref (h 7), .long (eC row), .int (nI hc), .int (nI un)])), (h 1, .inl (cJ, 8, .inr (.inl (fC T))))] H := hP
  have hD : va_D AG [(e0, .inr (5, [.ref (h 0), .ref (y 0), .ref (z 0), .ref (d 0), .ref sc, .ref ru, .ref fu, .ref f0, .ref ra, .int (ib k0), .int (ib k1)])), (ru, .inr (3, [.ref rt])), (rt, .inl (cA, 11, .inr (.inr (.inr (.inr (oR r)))))), rowE cI r G 0, rowE cI r G 1, rowE cI r G 2, rowE cI r G 3, rowE cI r G 4, rowE cI r G 5, rowE cI r G 6, rowE cI r G 7, rowE cI r G 8, rowE cI r G 9, rowE cI r G 10, (h 0, .inr (2, [.ref (h 1), .ref (h 2), .ref (h 3), .ref (h 4), .ref (h 5), .ref (h 6), .ref (h 7), .long (eC row), .int (nI hc), .int (nI un)])), (h 1, .inl (cJ, 8, .inr (.inl (fC T))))] := hD
  refine W.eq (g2 := F0 mG 8 ls [.long (eC (T k))]) rfl ?_
  refine lv_lstore_n (lv' := [(2, .long (eC (T k))), (0, .ref e0), (1, .int (nI k))]) xh bh dX8_slipsFromOthers_8 rfl hl (by decide) rfl (fun ls hl => ?_)
  refine lv_lload_n xh bh dX8_slipsFromOthers_9 rfl (lv_at hl 0 rfl) ?_
  refine lv_lconst (v := lN 0) xh bh dX8_slipsFromOthers_10 (by decide) ?_
  refine W.lcmp xh bh dX8_slipsFromOthers_11 ?_
  refine xt_if_neC (tgt := 17) xh bh dX8_slipsFromOthers_12 (by decide) (by exact hT _) (fun c_12 => ?_) (fun c_12 => ?_)
  · refine lv_iconst (v := (nI 0)) xh bh dX8_slipsFromOthers_17 (by decide) ?_
    refine lv_istore (lv' := [(4, .int (nI 0)), (2, .long (eC (T k))), (0, .ref e0), (1, .int (nI k))]) xh bh dX8_slipsFromOthers_18 hl (by decide) rfl (fun ls hl => ?_)
    refine lv_iconst (v := (nI 0)) xh bh dX8_slipsFromOthers_20 (by decide) ?_
    refine lv_istore (lv' := [(5, .int (nI 0)), (4, .int (nI 0)), (2, .long (eC (T k))), (0, .ref e0), (1, .int (nI k))]) xh bh dX8_slipsFromOthers_21 hl (by decide) rfl (fun ls hl => ?_)
    have cut_23 : ∀ (n_23 : Nat), ∀ (o : Nat), ∀ (s0 : Nat), ∀ (g1 : Nat → Nat → Nat), (o ≤ 8) → (s0 = sfN T k o) → (8 - o) < n_23 → ∀ (H : Heap) (locs : List Loc) (ls : Array Slot), va_P D vwCl [(e0, .inr (5, [.ref (h 0), .ref (y 0), .ref (z 0), .ref (d 0), .ref sc, .ref ru, .ref fu, .ref f0, .ref ra, .int (ib k0), .int (ib k1)])), (h 0, .inr (2, [.ref (h 1), .ref (h 2), .ref (h 3), .ref (h 4), .ref (h 5), .ref (h 6), .ref (h 7), .long (eC row), .int (nI hc), .int (nI un)])), (h 1, .inl (cJ, 8, .inr (.inl (fC T)))), (ru, .inr (3, [.ref rt])), (rt, .inl (cA, 11, .inr (.inr (.inr (.inr (oR r)))))), rowE cI r g1 0, rowE cI r g1 1, rowE cI r g1 2, rowE cI r g1 3, rowE cI r g1 4, rowE cI r g1 5, rowE cI r g1 6, rowE cI r g1 7, rowE cI r g1 8, rowE cI r g1 9, rowE cI r g1 10] H → va_D AG [(e0, .inr (5, [.ref (h 0), .ref (y 0), .ref (z 0), .ref (d 0), .ref sc, .ref ru, .ref fu, .ref f0, .ref ra, .int (ib k0), .int (ib k1)])), (h 0, .inr (2, [.ref (h 1), .ref (h 2), .ref (h 3), .ref (h 4), .ref (h 5), .ref (h 6), .ref (h 7), .long (eC row), .int (nI hc), .int (nI un)])), (h 1, .inl (cJ, 8, .inr (.inl (fC T)))), (ru, .inr (3, [.ref rt])), (rt, .inl (cA, 11, .inr (.inr (.inr (.inr (oR r)))))), rowE cI r g1 0, rowE cI r g1 1, rowE cI r g1 2, rowE cI r g1 3, rowE cI r g1 4, rowE cI r g1 5, rowE cI r g1 6, rowE cI r g1 7, rowE cI r g1 8, rowE cI r g1 9, rowE cI r g1 10] → va_S AG sG.heap H locs → lv_has ls 6 [(0, .ref e0), (1, .int (nI k)), (2, .long (eC (T k))), (4, .int (nI s0)), (5, .int (nI o))] → W pG l eG ({ frames := 3, cells := 0, slots := 0, locals := 98 }) sG mG aG bG tG cG H locs 0 0 QG (F0 mG 23 ls []) := by
      intro n_23
      induction n_23 with
      | zero =>
        intro o s0 g1 ho hs hmu
        exact absurd hmu (Nat.not_lt_zero _)
      | succ n_23 ih_23 =>
        intro o s0 g1 ho hs hmu H locs ls hP hD hS hl
        refine lv_iload xh bh dX8_slipsFromOthers_23 (lv_at hl 4 rfl) ?_
        refine lv_bipush (v := (nI 8)) xh bh dX8_slipsFromOthers_25 (by decide) ?_
        refine xn_icmp_ge (tgt := 78) xh bh dX8_slipsFromOthers_27 (by decide) (by omega) (by omega) (fun c_27 => ?_) (fun c_27 => ?_)
        · refine lv_iload xh bh dX8_slipsFromOthers_78 (lv_at hl 3 rfl) ?_
          exact hend (nI s0) g1 _ _ _ _ (congrArg (fun z => some (Value.int z)) (by rw [hs, show o = 8 by omega]; exact if_neg c_12)) trivial rfl dX8_slipsFromOthers_80 hP hD hS
        · refine lv_iload xh bh dX8_slipsFromOthers_30 (lv_at hl 4 rfl) ?_
          refine lv_iload_n xh bh dX8_slipsFromOthers_32 rfl (lv_at hl 1 rfl) ?_
          refine xn_icmp_eq (tgt := 72) xh bh dX8_slipsFromOthers_33 (by decide) (by omega) (by omega) (fun c_33 => ?_) (fun c_33 => ?_)
          · refine lv_iinc (v := (nI (o + 1))) (lv' := [(5, .int (nI (o + 1))), (0, .ref e0), (1, .int (nI k)), (2, .long (eC (T k))), (4, .int (nI s0))]) xh bh dX8_slipsFromOthers_72 hl (k := 4) rfl (by exact xn_inc _ _) (by decide) rfl (fun ls hl => ?_)
            refine lv_goto (tgt := 23) xh bh dX8_slipsFromOthers_75 (by decide) ?_
            exact ih_23 (o + 1) s0 g1 (by omega) (by rw [hs]; first | exact (sfN_y c_33 c_47).symm | exact (sfN_n (fun q => q.1 c_33)).symm | exact (sfN_n (fun q => q.2 c_47)).symm) (by omega) _ _ ls hP hD hS (lv_sub hl [1, 2, 3, 4, 0] rfl)
          · refine lv_aload_n xh bh dX8_slipsFromOthers_36 rfl (lv_at hl 0 rfl) ?_
            refine va_get (D := D) (ci := 5) (v := .ref (h 0)) (C := RX8) (T := TX8) (N := 11) xh bh hts (fun _ h => List.mem_cons_of_mem _ (List.mem_append_left _ (List.mem_append_left _ (List.mem_append_right _ (h))))) hown hK.1 hP 0 rfl rfl 0 (by decide) (hts _ (List.mem_of_getElem? (i := 1) rfl)) (fun _ h9 => h9) rfl dX8_slipsFromOthers_37 ?_
            refine lv_iload xh bh dX8_slipsFromOthers_40 (lv_at hl 4 rfl) ?_
            refine Ct.callV (As := [.int (nI o)]) (rest := []) (wr := [(e0, .inr (5, [.ref (h 0), .ref (y 0), .ref (z 0), .ref (d 0), .ref sc, .ref ru, .ref fu, .ref f0, .ref ra, .int (ib k0), .int (ib k1)])), (ru, .inr (3, [.ref rt])), (rt, .inl (cA, 11, .inr (.inr (.inr (.inr (oR r)))))), rowE cI r g1 0, rowE cI r g1 1, rowE cI r g1 2, rowE cI r g1 3, rowE cI r g1 4, rowE cI r g1 5, rowE cI r g1 6, rowE cI r g1 7, rowE cI r g1 8, rowE cI r g1 9, rowE cI r g1 10]) xh bh hml hown hts hK hP hD hS hA (ct_X3_taleOf l D cI cJ cB cZ cA h T row hc un o (by first | omega | assumption)) (cwV 1 hts gX8_slipsFromOthers_X3_taleOf rfl rfl rfl (by decide +kernel) ⟨Nat.le_of_ble_eq_true rfl, Nat.le_of_ble_eq_true rfl⟩) rfl rfl hl.1 (Nat.le_of_ble_eq_true rfl) dX8_slipsFromOthers_42 ⟨Nat.le_refl _, Nat.le_refl _⟩ 0 2 rfl rfl rfl [1, 2] [0, 3, 4, 5, 6, 7, 8, 9, 10, 11, 12, 13, 14, 15] rfl (by decide) rfl rfl (by decide) (by decide) (fun _ H locs _ hP hD hS => ?_)
            have hP : va_P D vwCl [(e0, .inr (5, [.ref (h 0), .ref (y 0), .ref (z 0), .ref (d 0), .ref sc, .ref ru, .ref fu, .ref f0, .ref ra, .int (ib k0), .int (ib k1)])), (ru, .inr (3, [.ref rt])), (rt, .inl (cA, 11, .inr (.inr (.inr (.inr (oR r)))))), rowE cI r g1 0, rowE cI r g1 1, rowE cI r g1 2, rowE cI r g1 3, rowE cI r g1 4, rowE cI r g1 5, rowE cI r g1 6, rowE cI r g1 7, rowE cI r g1 8, rowE cI r g1 9, rowE cI r g1 10, (h 0, .inr (2, [.ref (h 1), .ref (h 2), .ref (h 3), .ref (h 4), .ref (h 5), .ref (h 6), .ref (h 7), .long (eC row), .int (nI hc), .int (nI un)])), (h 1, .inl (cJ, 8, .inr (.inl (fC T))))] H := hP
            have hD : va_D AG [(e0, .inr (5, [.ref (h 0), .ref (y 0), .ref (z 0), .ref (d 0), .ref sc, .ref ru, .ref fu, .ref f0, .ref ra, .int (ib k0), .int (ib k1)])), (ru, .inr (3, [.ref rt])), (rt, .inl (cA, 11, .inr (.inr (.inr (.inr (oR r)))))), rowE cI r g1 0, rowE cI r g1 1, rowE cI r g1 2, rowE cI r g1 3, rowE cI r g1 4, rowE cI r g1 5, rowE cI r g1 6, rowE cI r g1 7, rowE cI r g1 8, rowE cI r g1 9, rowE cI r g1 10, (h 0, .inr (2, [.ref (h 1), .ref (h 2), .ref (h 3), .ref (h 4), .ref (h 5), .ref (h 6), .ref (h 7), .long (eC row), .int (nI hc), .int (nI un)])), (h 1, .inl (cJ, 8, .inr (.inl (fC T))))] := hD
            refine W.eq (g2 := F0 mG 45 ls [.long (eC (T o))]) rfl ?_
            refine lv_lconst (v := lN 0) xh bh dX8_slipsFromOthers_45 (by decide) ?_
            refine W.lcmp xh bh dX8_slipsFromOthers_46 ?_
            refine xt_if_eqC (tgt := 72) xh bh dX8_slipsFromOthers_47 (by decide) (by exact hT _) (fun c_47 => ?_) (fun c_47 => ?_)
            · refine lv_iinc (v := (nI (o + 1))) (lv' := [(5, .int (nI (o + 1))), (0, .ref e0), (1, .int (nI k)), (2, .long (eC (T k))), (4, .int (nI s0))]) xh bh dX8_slipsFromOthers_72 hl (k := 4) rfl (by exact xn_inc _ _) (by decide) rfl (fun ls hl => ?_)
              refine lv_goto (tgt := 23) xh bh dX8_slipsFromOthers_75 (by decide) ?_
              exact ih_23 (o + 1) s0 g1 (by omega) (by rw [hs]; first | exact (sfN_y c_33 c_47).symm | exact (sfN_n (fun q => q.1 c_33)).symm | exact (sfN_n (fun q => q.2 c_47)).symm) (by omega) _ _ ls (hP.sub [0, 14, 15, 1, 2, 3, 4, 5, 6, 7, 8, 9, 10, 11, 12, 13] rfl) (hD.sub [0, 14, 15, 1, 2, 3, 4, 5, 6, 7, 8, 9, 10, 11, 12, 13] (by decide) rfl) hS (lv_sub hl [1, 2, 3, 4, 0] rfl)
            · refine lv_iload xh bh dX8_slipsFromOthers_50 (lv_at hl 3 rfl) ?_
              refine lv_aload_n xh bh dX8_slipsFromOthers_52 rfl (lv_at hl 0 rfl) ?_
              refine va_get (D := D) (ci := 5) (v := .ref ru) (C := RX8) (T := TX8) (N := 11) xh bh hts (fun _ h => List.mem_cons_of_mem _ (List.mem_append_left _ (List.mem_append_left _ (List.mem_append_right _ (h))))) hown hK.1 hP 0 rfl rfl 5 (by decide) (hts _ (List.mem_of_getElem? (i := 2) rfl)) (fun _ h9 => h9) rfl dX8_slipsFromOthers_53 ?_
              refine lv_lload_n xh bh dX8_slipsFromOthers_56 rfl (lv_at hl 2 rfl) ?_
              refine lv_aload_n xh bh dX8_slipsFromOthers_57 rfl (lv_at hl 0 rfl) ?_
              refine va_get (D := D) (ci := 5) (v := .ref (h 0)) (C := RX8) (T := TX8) (N := 11) xh bh hts (fun _ h => List.mem_cons_of_mem _ (List.mem_append_left _ (List.mem_append_left _ (List.mem_append_right _ (h))))) hown hK.1 hP 0 rfl rfl 0 (by decide) (hts _ (List.mem_of_getElem? (i := 1) rfl)) (fun _ h9 => h9) rfl dX8_slipsFromOthers_58 ?_
              refine lv_iload xh bh dX8_slipsFromOthers_61 (lv_at hl 4 rfl) ?_
              refine Ct.callV (As := [.int (nI o)]) (rest := [.long (eC (T k)), .ref ru, .int (nI s0)]) (wr := [(e0, .inr (5, [.ref (h 0), .ref (y 0), .ref (z 0), .ref (d 0), .ref sc, .ref ru, .ref fu, .ref f0, .ref ra, .int (ib k0), .int (ib k1)])), (ru, .inr (3, [.ref rt])), (rt, .inl (cA, 11, .inr (.inr (.inr (.inr (oR r)))))), rowE cI r g1 0, rowE cI r g1 1, rowE cI r g1 2, rowE cI r g1 3, rowE cI r g1 4, rowE cI r g1 5, rowE cI r g1 6, rowE cI r g1 7, rowE cI r g1 8, rowE cI r g1 9, rowE cI r g1 10]) xh bh hml hown hts hK hP hD hS hA (ct_X3_taleOf l D cI cJ cB cZ cA h T row hc un o (by first | omega | assumption)) (cwV 1 hts gX8_slipsFromOthers_X3_taleOf rfl rfl rfl (by decide +kernel) ⟨Nat.le_of_ble_eq_true rfl, Nat.le_of_ble_eq_true rfl⟩) rfl rfl hl.1 (Nat.le_of_ble_eq_true rfl) dX8_slipsFromOthers_63 ⟨Nat.le_refl _, Nat.le_refl _⟩ 0 2 rfl rfl rfl [14, 15] [0, 1, 2, 3, 4, 5, 6, 7, 8, 9, 10, 11, 12, 13] rfl (by decide) rfl rfl (by decide) (by decide) (fun _ H locs _ hP hD hS => ?_)
              have hP : va_P D vwCl [(e0, .inr (5, [.ref (h 0), .ref (y 0), .ref (z 0), .ref (d 0), .ref sc, .ref ru, .ref fu, .ref f0, .ref ra, .int (ib k0), .int (ib k1)])), (ru, .inr (3, [.ref rt])), (rt, .inl (cA, 11, .inr (.inr (.inr (.inr (oR r)))))), rowE cI r g1 0, rowE cI r g1 1, rowE cI r g1 2, rowE cI r g1 3, rowE cI r g1 4, rowE cI r g1 5, rowE cI r g1 6, rowE cI r g1 7, rowE cI r g1 8, rowE cI r g1 9, rowE cI r g1 10, (h 0, .inr (2, [.ref (h 1), .ref (h 2), .ref (h 3), .ref (h 4), .ref (h 5), .ref (h 6), .ref (h 7), .long (eC row), .int (nI hc), .int (nI un)])), (h 1, .inl (cJ, 8, .inr (.inl (fC T))))] H := hP
              have hD : va_D AG [(e0, .inr (5, [.ref (h 0), .ref (y 0), .ref (z 0), .ref (d 0), .ref sc, .ref ru, .ref fu, .ref f0, .ref ra, .int (ib k0), .int (ib k1)])), (ru, .inr (3, [.ref rt])), (rt, .inl (cA, 11, .inr (.inr (.inr (.inr (oR r)))))), rowE cI r g1 0, rowE cI r g1 1, rowE cI r g1 2, rowE cI r g1 3, rowE cI r g1 4, rowE cI r g1 5, rowE cI r g1 6, rowE cI r g1 7, rowE cI r g1 8, rowE cI r g1 9, rowE cI r g1 10, (h 0, .inr (2, [.ref (h 1), .ref (h 2), .ref (h 3), .ref (h 4), .ref (h 5), .ref (h 6), .ref (h 7), .long (eC row), .int (nI hc), .int (nI un)])), (h 1, .inl (cJ, 8, .inr (.inl (fC T))))] := hD
              refine W.eq (g2 := F0 mG 66 ls [.long (eC (T o)), .long (eC (T k)), .ref ru, .int (nI s0)]) rfl ?_
              refine Ct.callV (As := [.long (eC (T k)), .long (eC (T o))]) (rest := [.int (nI s0)]) (wr := [(e0, .inr (5, [.ref (h 0), .ref (y 0), .ref (z 0), .ref (d 0), .ref sc, .ref ru, .ref fu, .ref f0, .ref ra, .int (ib k0), .int (ib k1)])), (h 0, .inr (2, [.ref (h 1), .ref (h 2), .ref (h 3), .ref (h 4), .ref (h 5), .ref (h 6), .ref (h 7), .long (eC row), .int (nI hc), .int (nI un)])), (h 1, .inl (cJ, 8, .inr (.inl (fC T))))]) xh bh hml hown hts hK hP hD hS hA (ct_X5_between l D cI cJ cB cZ cA ru rt r g1 (T k) (T o) (by exact hT _) (by exact hT _)) (cwV 2 hts gX8_slipsFromOthers_X5_between rfl rfl rfl (by decide +kernel) ⟨Nat.le_of_ble_eq_true rfl, Nat.le_of_ble_eq_true rfl⟩) rfl rfl hl.1 (Nat.le_of_ble_eq_true rfl) dX8_slipsFromOthers_66 ⟨Nat.le_refl _, Nat.le_refl _⟩ 0 3 rfl rfl rfl [1, 2, 3, 4, 5, 6, 7, 8, 9, 10, 11, 12, 13] [0, 14, 15] rfl (by decide) rfl rfl (by decide) (by decide) (fun u_66 H locs hu_66 hP hD hS => ?_)
              have hP : va_P D vwCl [(e0, .inr (5, [.ref (h 0), .ref (y 0), .ref (z 0), .ref (d 0), .ref sc, .ref ru, .ref fu, .ref f0, .ref ra, .int (ib k0), .int (ib k1)])), (h 0, .inr (2, [.ref (h 1), .ref (h 2), .ref (h 3), .ref (h 4), .ref (h 5), .ref (h 6), .ref (h 7), .long (eC row), .int (nI hc), .int (nI un)])), (h 1, .inl (cJ, 8, .inr (.inl (fC T)))), (ru, .inr (3, [.ref rt])), (rt, .inl (cA, 11, .inr (.inr (.inr (.inr (oR r)))))), rowE cI r u_66 0, rowE cI r u_66 1, rowE cI r u_66 2, rowE cI r u_66 3, rowE cI r u_66 4, rowE cI r u_66 5, rowE cI r u_66 6, rowE cI r u_66 7, rowE cI r u_66 8, rowE cI r u_66 9, rowE cI r u_66 10] H := hP
              have hD : va_D AG [(e0, .inr (5, [.ref (h 0), .ref (y 0), .ref (z 0), .ref (d 0), .ref sc, .ref ru, .ref fu, .ref f0, .ref ra, .int (ib k0), .int (ib k1)])), (h 0, .inr (2, [.ref (h 1), .ref (h 2), .ref (h 3), .ref (h 4), .ref (h 5), .ref (h 6), .ref (h 7), .long (eC row), .int (nI hc), .int (nI un)])), (h 1, .inl (cJ, 8, .inr (.inl (fC T)))), (ru, .inr (3, [.ref rt])), (rt, .inl (cA, 11, .inr (.inr (.inr (.inr (oR r)))))), rowE cI r u_66 0, rowE cI r u_66 1, rowE cI r u_66 2, rowE cI r u_66 3, rowE cI r u_66 4, rowE cI r u_66 5, rowE cI r u_66 6, rowE cI r u_66 7, rowE cI r u_66 8, rowE cI r u_66 9, rowE cI r u_66 10] := hD
              refine W.eq (g2 := F0 mG 69 ls [.int (nI (dsT (T k) (T o))), .int (nI s0)]) rfl ?_
              refine xn_iadd xh bh dX8_slipsFromOthers_69 ?_
              refine lv_istore (lv' := [(4, .int (nI (s0 + (dsT (T k) (T o))))), (0, .ref e0), (1, .int (nI k)), (2, .long (eC (T k))), (5, .int (nI o))]) xh bh dX8_slipsFromOthers_70 hl (by decide) rfl (fun ls hl => ?_)
              refine lv_iinc (v := (nI (o + 1))) (lv' := [(5, .int (nI (o + 1))), (4, .int (nI (s0 + (dsT (T k) (T o))))), (0, .ref e0), (1, .int (nI k)), (2, .long (eC (T k)))]) xh bh dX8_slipsFromOthers_72 hl (k := 4) rfl (by exact xn_inc _ _) (by decide) rfl (fun ls hl => ?_)
              refine lv_goto (tgt := 23) xh bh dX8_slipsFromOthers_75 (by decide) ?_
              exact ih_23 (o + 1) (s0 + (dsT (T k) (T o))) u_66 (by omega) (by rw [hs]; first | exact (sfN_y c_33 c_47).symm | exact (sfN_n (fun q => q.1 c_33)).symm | exact (sfN_n (fun q => q.2 c_47)).symm) (by omega) _ _ ls hP hD hS (lv_sub hl [2, 3, 4, 1, 0] rfl)
    exact cut_23 (8 - 0 + 1) 0 0 G (by exact Nat.zero_le _) (by rfl) (Nat.lt_succ_self _) _ _ ls (hP.sub [0, 14, 15, 1, 2, 3, 4, 5, 6, 7, 8, 9, 10, 11, 12, 13] rfl) (hD.sub [0, 14, 15, 1, 2, 3, 4, 5, 6, 7, 8, 9, 10, 11, 12, 13] (by decide) rfl) hS (lv_sub hl [3, 4, 2, 1, 0] rfl)
  · refine lv_iconst (v := (-1)) xh bh dX8_slipsFromOthers_15 (by decide) ?_
    exact hend (-1) G _ _ _ _ (congrArg (fun z => some (Value.int z)) (by exact if_pos c_12)) trivial rfl dX8_slipsFromOthers_16 (hP.sub [0, 14, 15, 1, 2, 3, 4, 5, 6, 7, 8, 9, 10, 11, 12, 13] rfl) (hD.sub [0, 14, 15, 1, 2, 3, 4, 5, 6, 7, 8, 9, 10, 11, 12, 13] (by decide) rfl) hS

set_option maxHeartbeats 1000000 in
set_option maxRecDepth 100000 in
theorem ct_X8_first (l : Launch) (D : va_G) (cI cJ cB cZ cA : ClassId) (e0 : Nat) (h : Nat → Nat) (y : Nat → Nat) (z : Nat → Nat) (d : Nat → Nat) (sc : Nat) (ru : Nat) (fu : Nat) (f0 : Nat) (ra : Nat) (k0 : Bool) (k1 : Bool) (T : Nat → List Nat) (row : List Nat) (hc : Nat) (un : Nat) (rf : Nat → Int32) (rt : Nat) (r : Nat → Nat) (G : Nat → Nat → Nat) (w : Int32) (hT : ∀ k, okT (T k)) : Ct l yX8_first wsX8_first ({ frames := 4, cells := 0, slots := 0, locals := 123 }) D (tysG cI cJ cB cZ cA) [.ref e0, .int w] [(e0, .inr (5, [.ref (h 0), .ref (y 0), .ref (z 0), .ref (d 0), .ref sc, .ref ru, .ref fu, .ref f0, .ref ra, .int (ib k0), .int (ib k1)])), (ra, .inl (cI, 3, .inl rf)), (h 0, .inr (2, [.ref (h 1), .ref (h 2), .ref (h 3), .ref (h 4), .ref (h 5), .ref (h 6), .ref (h 7), .long (eC row), .int (nI hc), .int (nI un)])), (h 1, .inl (cJ, 8, .inr (.inl (fC T)))), (ru, .inr (3, [.ref rt])), (rt, .inl (cA, 11, .inr (.inr (.inr (.inr (oR r)))))), rowE cI r G 0, rowE cI r G 1, rowE cI r G 2, rowE cI r G 3, rowE cI r G 4, rowE cI r G 5, rowE cI r G 6, rowE cI r G 7, rowE cI r G 8, rowE cI r G 9, rowE cI r G 10] (fun (u : Nat → Nat → Nat) => True) (fun u => some (.int (eFs (kW w 1) (xN w) (f1S T 8)))) (fun u => [(e0, .inr (5, [.ref (h 0), .ref (y 0), .ref (z 0), .ref (d 0), .ref sc, .ref ru, .ref fu, .ref f0, .ref ra, .int (ib k0), .int (ib k1)])), (ra, .inl (cI, 3, .inl (rfU (kW w 1) rf))), (h 0, .inr (2, [.ref (h 1), .ref (h 2), .ref (h 3), .ref (h 4), .ref (h 5), .ref (h 6), .ref (h 7), .long (eC row), .int (nI hc), .int (nI un)])), (h 1, .inl (cJ, 8, .inr (.inl (fC T)))), (ru, .inr (3, [.ref rt])), (rt, .inl (cA, 11, .inr (.inr (.inr (.inr (oR r)))))), rowE cI r u 0, rowE cI r u 1, rowE cI r u 2, rowE cI r u 3, rowE cI r u 4, rowE cI r u 5, rowE cI r u 6, rowE cI r u 7, rowE cI r u 8, rowE cI r u 9, rowE cI r u 10]) := by
  refine Ct.ofI (cc := cX8_first) (maxL := 6) (by decide) rfl (Nat.le_of_ble_eq_true rfl) ?_
  intro pG eG sG mG aG bG tG cG AG QG ls xh bh hml hown hts hK hP hD hS hA hend hl
  have hl : lv_has ls 6 [(0, .ref e0), (1, .int w)] := hl
  refine lv_iload_n xh bh dX8_first_0 rfl (lv_at hl 1 rfl) ?_
  refine lv_iconst (v := (nI 1)) xh bh dX8_first_1 (by decide) ?_
  refine Ct.callS0 (rest := []) xh bh hml hown hts hK hP hS hA (ct_X8_isUpTo l D cI cJ cB cZ cA w 1 (by first | omega | assumption)) (va_cwS 2 hts gX8_first_X8_isUpTo rfl rfl rfl (by decide +kernel) ⟨Nat.le_of_ble_eq_true rfl, Nat.le_of_ble_eq_true rfl⟩) rfl rfl hl.1 (Nat.le_of_ble_eq_true rfl) dX8_first_2 ⟨Nat.le_refl _, Nat.le_refl _⟩ (fun _ H locs _ hP hS => ?_)
  refine W.eq (g2 := F0 mG 5 ls [.int (ib (upB w 1))]) rfl ?_
  refine xb_if_ne (tgt := 15) xh bh dX8_first_5 (by decide) (fun c_5 => ?_) (fun c_5 => ?_)
  · have hk : kW w 1 = 3 := if_pos c_5
    obtain ⟨w2, hw9, rfl⟩ := upB_of (by decide) c_5
    refine lv_iconst (v := (-1)) xh bh dX8_first_15 (by decide) ?_
    refine lv_istore_n (lv' := [(2, .int (-1)), (0, .ref e0), (1, .int (nI w2))]) xh bh dX8_first_16 rfl hl (by decide) rfl (fun ls hl => ?_)
    refine lv_iconst (v := (-1)) xh bh dX8_first_17 (by decide) ?_
    refine lv_istore_n (lv' := [(3, .int (-1)), (2, .int (-1)), (0, .ref e0), (1, .int (nI w2))]) xh bh dX8_first_18 rfl hl (by decide) rfl (fun ls hl => ?_)
    refine lv_iconst (v := (nI 0)) xh bh dX8_first_19 (by decide) ?_
    refine lv_istore (lv' := [(4, .int (nI 0)), (3, .int (-1)), (2, .int (-1)), (0, .ref e0), (1, .int (nI w2))]) xh bh dX8_first_20 hl (by decide) rfl (fun ls hl => ?_)
    have cut_22 : ∀ (n_22 : Nat), ∀ (b : Nat), ∀ (x : Int32), ∀ (m : Int32), ∀ (g1 : Nat → Nat → Nat), (b ≤ 8) → (x = opA (f1S T b)) → (m = opB (f1S T b)) → (8 - b) < n_22 → ∀ (H : Heap) (locs : List Loc) (ls : Array Slot), va_P D vwCl [(e0, .inr (5, [.ref (h 0), .ref (y 0), .ref (z 0), .ref (d 0), .ref sc, .ref ru, .ref fu, .ref f0, .ref ra, .int (ib k0), .int (ib k1)])), (ra, .inl (cI, 3, .inl rf)), (h 0, .inr (2, [.ref (h 1), .ref (h 2), .ref (h 3), .ref (h 4), .ref (h 5), .ref (h 6), .ref (h 7), .long (eC row), .int (nI hc), .int (nI un)])), (h 1, .inl (cJ, 8, .inr (.inl (fC T)))), (ru, .inr (3, [.ref rt])), (rt, .inl (cA, 11, .inr (.inr (.inr (.inr (oR r)))))), rowE cI r g1 0, rowE cI r g1 1, rowE cI r g1 2, rowE cI r g1 3, rowE cI r g1 4, rowE cI r g1 5, rowE cI r g1 6, rowE cI r g1 7, rowE cI r g1 8, rowE cI r g1 9, rowE cI r g1 10] H → va_D AG [(e0, .inr (5, [.ref (h 0), .ref (y 0), .ref (z 0), .ref (d 0), .ref sc, .ref ru, .ref fu, .ref f0, .ref ra, .int (ib k0), .int (ib k1)])), (ra, .inl (cI, 3, .inl rf)), (h 0, .inr (2, [.ref (h 1), .ref (h 2), .ref (h 3), .ref (h 4), .ref (h 5), .ref (h 6), .ref (h 7), .long (eC row), .int (nI hc), .int (nI un)])), (h 1, .inl (cJ, 8, .inr (.inl (fC T)))), (ru, .inr (3, [.ref rt])), (rt, .inl (cA, 11, .inr (.inr (.inr (.inr (oR r)))))), rowE cI r g1 0, rowE cI r g1 1, rowE cI r g1 2, rowE cI r g1 3, rowE cI r g1 4, rowE cI r g1 5, rowE cI r g1 6, rowE cI r g1 7, rowE cI r g1 8, rowE cI r g1 9, rowE cI r g1 10] → va_S AG sG.heap H locs → lv_has ls 6 [(0, .ref e0), (1, .int (nI w2)), (2, .int x), (3, .int m), (4, .int (nI b))] → W pG l eG ({ frames := 4, cells := 0, slots := 0, locals := 123 }) sG mG aG bG tG cG H locs 0 0 QG (F0 mG 22 ls []) := by
      intro n_22
      induction n_22 with
      | zero =>
        intro b x m g1 hb9 hx hm hmu
        exact absurd hmu (Nat.not_lt_zero _)
      | succ n_22 ih_22 =>
        intro b x m g1 hb9 hx hm hmu H locs ls hP hD hS hl
        refine lv_iload xh bh dX8_first_22 (lv_at hl 4 rfl) ?_
        refine lv_bipush (v := (nI 8)) xh bh dX8_first_24 (by decide) ?_
        refine xn_icmp_ge (tgt := 66) xh bh dX8_first_26 (by decide) (by omega) (by omega) (fun c_26 => ?_) (fun c_26 => ?_)
        · refine lv_iload_n xh bh dX8_first_66 rfl (lv_at hl 1 rfl) ?_
          refine xn_if_ne (tgt := 74) xh bh dX8_first_67 (by decide) (by omega) (fun c_67 => ?_) (fun c_67 => ?_)
          · refine lv_iload_n xh bh dX8_first_74 rfl (lv_at hl 3 rfl) ?_
            exact hend m g1 _ _ _ _ (congrArg (fun z => some (Value.int z)) (by rw [hk, xN_nI (by omega)]; first | (rw [c_67, hx, show b = 8 by omega]; rfl) | (rw [show w2 = 1 by omega, hm, show b = 8 by omega]; rfl))) trivial rfl dX8_first_75 (by rw [hk]; exact hP) (by rw [hk]; exact hD) hS
          · refine lv_iload_n xh bh dX8_first_70 rfl (lv_at hl 2 rfl) ?_
            refine lv_goto (tgt := 75) xh bh dX8_first_71 (by decide) ?_
            exact hend x g1 _ _ _ _ (congrArg (fun z => some (Value.int z)) (by rw [hk, xN_nI (by omega)]; first | (rw [c_67, hx, show b = 8 by omega]; rfl) | (rw [show w2 = 1 by omega, hm, show b = 8 by omega]; rfl))) trivial rfl dX8_first_75 (by rw [hk]; exact hP) (by rw [hk]; exact hD) hS
        · refine lv_aload_n xh bh dX8_first_29 rfl (lv_at hl 0 rfl) ?_
          refine lv_iload xh bh dX8_first_30 (lv_at hl 4 rfl) ?_
          refine Ct.callV (As := [.int (nI b)]) (rest := []) (wr := [(ra, .inl (cI, 3, .inl rf))]) xh bh hml hown hts hK hP hD hS hA (ct_X8_slipsFromOthers l D cI cJ cB cZ cA e0 h y z d sc ru fu f0 ra k0 k1 T row hc un rt r g1 b (by first | assumption) (by first | omega | assumption)) (cwV 1 hts gX8_first_X8_slipsFromOthers rfl rfl rfl (by decide +kernel) ⟨Nat.le_of_ble_eq_true rfl, Nat.le_of_ble_eq_true rfl⟩) rfl rfl hl.1 (Nat.le_of_ble_eq_true rfl) dX8_first_32 ⟨Nat.le_refl _, Nat.le_refl _⟩ 0 5 rfl rfl rfl [0, 2, 3, 4, 5, 6, 7, 8, 9, 10, 11, 12, 13, 14, 15, 16] [1] rfl (by decide) rfl rfl (by decide) (by decide) (fun u_32 H locs hu_32 hP hD hS => ?_)
          have hP : va_P D vwCl [(ra, .inl (cI, 3, .inl rf)), (e0, .inr (5, [.ref (h 0), .ref (y 0), .ref (z 0), .ref (d 0), .ref sc, .ref ru, .ref fu, .ref f0, .ref ra, .int (ib k0), .int (ib k1)])), (h 0, .inr (2, [.ref (h 1), .ref (h 2), .ref (h 3), .ref (h 4), .ref (h 5), .ref (h 6), .ref (h 7), .long (eC row), .int (nI hc), .int (nI un)])), (h 1, .inl (cJ, 8, .inr (.inl (fC T)))), (ru, .inr (3, [.ref rt])), (rt, .inl (cA, 11, .inr (.inr (.inr (.inr (oR r)))))), rowE cI r u_32 0, rowE cI r u_32 1, rowE cI r u_32 2, rowE cI r u_32 3, rowE cI r u_32 4, rowE cI r u_32 5, rowE cI r u_32 6, rowE cI r u_32 7, rowE cI r u_32 8, rowE cI r u_32 9, rowE cI r u_32 10] H := hP
          have hD : va_D AG [(ra, .inl (cI, 3, .inl rf)), (e0, .inr (5, [.ref (h 0), .ref (y 0), .ref (z 0), .ref (d 0), .ref sc, .ref ru, .ref fu, .ref f0, .ref ra, .int (ib k0), .int (ib k1)])), (h 0, .inr (2, [.ref (h 1), .ref (h 2), .ref (h 3), .ref (h 4), .ref (h 5), .ref (h 6), .ref (h 7), .long (eC row), .int (nI hc), .int (nI un)])), (h 1, .inl (cJ, 8, .inr (.inl (fC T)))), (ru, .inr (3, [.ref rt])), (rt, .inl (cA, 11, .inr (.inr (.inr (.inr (oR r)))))), rowE cI r u_32 0, rowE cI r u_32 1, rowE cI r u_32 2, rowE cI r u_32 3, rowE cI r u_32 4, rowE cI r u_32 5, rowE cI r u_32 6, rowE cI r u_32 7, rowE cI r u_32 8, rowE cI r u_32 9, rowE cI r u_32 10] := hD
          refine W.eq (g2 := F0 mG 35 ls [.int (sfI T b)]) rfl ?_
          refine lv_istore (lv' := [(5, .int (sfI T b)), (0, .ref e0), (1, .int (nI w2)), (2, .int x), (3, .int m), (4, .int (nI b))]) xh bh dX8_first_35 hl (by decide) rfl (fun ls hl => ?_)
          by_cases h0 : T b = []
          · have q_5 : (-1) = (sfI T b) := by exact (if_pos h0).symm
            have hl : lv_has ls 6 [(5, .int (-1)), (0, .ref e0), (1, .int (nI w2)), (2, .int x), (3, .int m), (4, .int (nI b))] := by rw [q_5]; exact hl
            have hf9 := f1S_0 h0
            refine lv_iload xh bh dX8_first_37 (lv_at hl 0 rfl) ?_
            refine lv_iconst (v := (-1)) xh bh dX8_first_39 (by decide) ?_
            refine lv_icmp_eq (tgt := 60) xh bh dX8_first_40 (by decide) (fun c_40 => ?_) (fun c_40 => ?_)
            · refine lv_iinc (v := (nI (b + 1))) (lv' := [(4, .int (nI (b + 1))), (5, .int (-1)), (0, .ref e0), (1, .int (nI w2)), (2, .int x), (3, .int m)]) xh bh dX8_first_60 hl (k := 5) rfl (by exact xn_inc _ _) (by decide) rfl (fun ls hl => ?_)
              refine lv_goto (tgt := 22) xh bh dX8_first_63 (by decide) ?_
              exact ih_22 (b + 1) x m u_32 (by omega) (by rw [hf9]; first | exact hx | rfl | (rw [ho]; rfl)) (by rw [hf9]; first | exact hm | rfl | (rw [ho]; rfl)) (by omega) _ _ ls (hP.sub [1, 0, 2, 3, 4, 5, 6, 7, 8, 9, 10, 11, 12, 13, 14, 15, 16] rfl) (hD.sub [1, 0, 2, 3, 4, 5, 6, 7, 8, 9, 10, 11, 12, 13, 14, 15, 16] (by decide) rfl) hS (lv_sub hl [2, 3, 4, 5, 0] rfl)
            · exact absurd rfl c_40
          · have q_5 : (nI (sfN T b 8)) = (sfI T b) := by exact (if_neg h0).symm
            have hl : lv_has ls 6 [(5, .int (nI (sfN T b 8))), (0, .ref e0), (1, .int (nI w2)), (2, .int x), (3, .int m), (4, .int (nI b))] := by rw [q_5]; exact hl
            have hs9 := sfN_le hT b 8
            refine lv_iload xh bh dX8_first_37 (lv_at hl 0 rfl) ?_
            refine lv_iconst (v := (-1)) xh bh dX8_first_39 (by decide) ?_
            refine lv_icmp_eq (tgt := 60) xh bh dX8_first_40 (by decide) (fun c_40 => ?_) (fun c_40 => ?_)
            · exact absurd c_40 (by exact fun q => absurd (q ▸ nI_pos' (n := sfN T b 8) (by omega)) (by decide))
            · rcases hq : f1S T b with _ | q
              · have ho := hq
                have q_2 : (-1) = x := by rw [hx, ho]; rfl
                have hl : lv_has ls 6 [(5, .int (nI (sfN T b 8))), (0, .ref e0), (1, .int (nI w2)), (2, .int (-1)), (3, .int m), (4, .int (nI b))] := by rw [q_2]; exact hl
                have hf9 := f1S_n h0 ho
                refine lv_iload_n xh bh dX8_first_43 rfl (lv_at hl 3 rfl) ?_
                refine lv_iconst (v := (-1)) xh bh dX8_first_44 (by decide) ?_
                refine lv_icmp_eq (tgt := 54) xh bh dX8_first_45 (by decide) (fun c_45 => ?_) (fun c_45 => ?_)
                · refine lv_iload xh bh dX8_first_54 (lv_at hl 5 rfl) ?_
                  refine lv_istore_n (lv' := [(2, .int (nI b)), (5, .int (nI (sfN T b 8))), (0, .ref e0), (1, .int (nI w2)), (3, .int m), (4, .int (nI b))]) xh bh dX8_first_56 rfl hl (by decide) rfl (fun ls hl => ?_)
                  refine lv_iload xh bh dX8_first_57 (lv_at hl 1 rfl) ?_
                  refine lv_istore_n (lv' := [(3, .int (nI (sfN T b 8))), (2, .int (nI b)), (5, .int (nI (sfN T b 8))), (0, .ref e0), (1, .int (nI w2)), (4, .int (nI b))]) xh bh dX8_first_59 rfl hl (by decide) rfl (fun ls hl => ?_)
                  refine lv_iinc (v := (nI (b + 1))) (lv' := [(4, .int (nI (b + 1))), (3, .int (nI (sfN T b 8))), (2, .int (nI b)), (5, .int (nI (sfN T b 8))), (0, .ref e0), (1, .int (nI w2))]) xh bh dX8_first_60 hl (k := 5) rfl (by exact xn_inc _ _) (by decide) rfl (fun ls hl => ?_)
                  refine lv_goto (tgt := 22) xh bh dX8_first_63 (by decide) ?_
                  exact ih_22 (b + 1) (nI b) (nI (sfN T b 8)) u_32 (by omega) (by rw [hf9]; first | exact hx | rfl | (rw [ho]; rfl)) (by rw [hf9]; first | exact hm | rfl | (rw [ho]; rfl)) (by omega) _ _ ls (hP.sub [1, 0, 2, 3, 4, 5, 6, 7, 8, 9, 10, 11, 12, 13, 14, 15, 16] rfl) (hD.sub [1, 0, 2, 3, 4, 5, 6, 7, 8, 9, 10, 11, 12, 13, 14, 15, 16] (by decide) rfl) hS (lv_sub hl [4, 5, 2, 1, 0] rfl)
                · exact absurd rfl c_45
              · have ho := hq
                have q_2 : (nI q.1) = x := by rw [hx, ho]; rfl
                have hl : lv_has ls 6 [(5, .int (nI (sfN T b 8))), (0, .ref e0), (1, .int (nI w2)), (2, .int (nI q.1)), (3, .int m), (4, .int (nI b))] := by rw [q_2]; exact hl
                have q_3 : (nI q.2) = m := by rw [hm, ho]; rfl
                have hl : lv_has ls 6 [(5, .int (nI (sfN T b 8))), (0, .ref e0), (1, .int (nI w2)), (2, .int (nI q.1)), (3, .int (nI q.2)), (4, .int (nI b))] := by rw [q_3]; exact hl
                have hl9 := f1S_lt hT ho
                refine lv_iload_n xh bh dX8_first_43 rfl (lv_at hl 3 rfl) ?_
                refine lv_iconst (v := (-1)) xh bh dX8_first_44 (by decide) ?_
                refine lv_icmp_eq (tgt := 54) xh bh dX8_first_45 (by decide) (fun c_45 => ?_) (fun c_45 => ?_)
                · exact absurd c_45 (by exact fun z => absurd (z ▸ nI_pos' (n := q.1) (by omega)) (by decide))
                · refine lv_iload xh bh dX8_first_48 (lv_at hl 0 rfl) ?_
                  refine lv_iload_n xh bh dX8_first_50 rfl (lv_at hl 4 rfl) ?_
                  refine xn_icmp_ge (tgt := 60) xh bh dX8_first_51 (by decide) (by omega) (by omega) (fun c_51 => ?_) (fun c_51 => ?_)
                  · have hf9 := f1S_k h0 ho (by omega)
                    refine lv_iinc (v := (nI (b + 1))) (lv' := [(4, .int (nI (b + 1))), (5, .int (nI (sfN T b 8))), (0, .ref e0), (1, .int (nI w2)), (2, .int (nI q.1)), (3, .int (nI q.2))]) xh bh dX8_first_60 hl (k := 5) rfl (by exact xn_inc _ _) (by decide) rfl (fun ls hl => ?_)
                    refine lv_goto (tgt := 22) xh bh dX8_first_63 (by decide) ?_
                    exact ih_22 (b + 1) (nI q.1) (nI q.2) u_32 (by omega) (by rw [hf9]; first | exact hx | rfl | (rw [ho]; rfl)) (by rw [hf9]; first | exact hm | rfl | (rw [ho]; rfl)) (by omega) _ _ ls (hP.sub [1, 0, 2, 3, 4, 5, 6, 7, 8, 9, 10, 11, 12, 13, 14, 15, 16] rfl) (hD.sub [1, 0, 2, 3, 4, 5, 6, 7, 8, 9, 10, 11, 12, 13, 14, 15, 16] (by decide) rfl) hS (lv_sub hl [2, 3, 4, 5, 0] rfl)
                  · have hf9 := f1S_y h0 ho (by omega)
                    refine lv_iload xh bh dX8_first_54 (lv_at hl 5 rfl) ?_
                    refine lv_istore_n (lv' := [(2, .int (nI b)), (5, .int (nI (sfN T b 8))), (0, .ref e0), (1, .int (nI w2)), (3, .int (nI q.2)), (4, .int (nI b))]) xh bh dX8_first_56 rfl hl (by decide) rfl (fun ls hl => ?_)
                    refine lv_iload xh bh dX8_first_57 (lv_at hl 1 rfl) ?_
                    refine lv_istore_n (lv' := [(3, .int (nI (sfN T b 8))), (2, .int (nI b)), (5, .int (nI (sfN T b 8))), (0, .ref e0), (1, .int (nI w2)), (4, .int (nI b))]) xh bh dX8_first_59 rfl hl (by decide) rfl (fun ls hl => ?_)
                    refine lv_iinc (v := (nI (b + 1))) (lv' := [(4, .int (nI (b + 1))), (3, .int (nI (sfN T b 8))), (2, .int (nI b)), (5, .int (nI (sfN T b 8))), (0, .ref e0), (1, .int (nI w2))]) xh bh dX8_first_60 hl (k := 5) rfl (by exact xn_inc _ _) (by decide) rfl (fun ls hl => ?_)
                    refine lv_goto (tgt := 22) xh bh dX8_first_63 (by decide) ?_
                    exact ih_22 (b + 1) (nI b) (nI (sfN T b 8)) u_32 (by omega) (by rw [hf9]; first | exact hx | rfl | (rw [ho]; rfl)) (by rw [hf9]; first | exact hm | rfl | (rw [ho]; rfl)) (by omega) _ _ ls (hP.sub [1, 0, 2, 3, 4, 5, 6, 7, 8, 9, 10, 11, 12, 13, 14, 15, 16] rfl) (hD.sub [1, 0, 2, 3, 4, 5, 6, 7, 8, 9, 10, 11, 12, 13, 14, 15, 16] (by decide) rfl) hS (lv_sub hl [4, 5, 2, 1, 0] rfl)
    exact cut_22 (8 - 0 + 1) 0 (-1) (-1) G (by exact Nat.zero_le _) (by rfl) (by rfl) (Nat.lt_succ_self _) _ _ ls hP hD hS (lv_sub hl [3, 4, 2, 1, 0] rfl)
  · have hk : kW w 1 = 0 := if_neg (fun q => by rw [c_5] at q; exact absurd q (by decide))
    refine lv_aload_n xh bh dX8_first_8 rfl (lv_at hl 0 rfl) ?_
    refine lv_bipush (v := (-2)) xh bh dX8_first_9 (by decide) ?_
    refine Ct.callV (As := [.int (-2)]) (rest := []) (wr := [(h 0, .inr (2, [.ref (h 1), .ref (h 2), .ref (h 3), .ref (h 4), .ref (h 5), .ref (h 6), .ref (h 7), .long (eC row), .int (nI hc), .int (nI un)])), (h 1, .inl (cJ, 8, .inr (.inl (fC T)))), (ru, .inr (3, [.ref rt])), (rt, .inl (cA, 11, .inr (.inr (.inr (.inr (oR r)))))), rowE cI r G 0, rowE cI r G 1, rowE cI r G 2, rowE cI r G 3, rowE cI r G 4, rowE cI r G 5, rowE cI r G 6, rowE cI r G 7, rowE cI r G 8, rowE cI r G 9, rowE cI r G 10]) xh bh hml hown hts hK hP hD hS hA (ct_X8_refuse0 l D cI cJ cB cZ cA e0 h y z d sc ru fu f0 ra k0 k1 rf ) (cwV 1 hts gX8_first_X8_refuse rfl rfl rfl (by decide +kernel) ⟨Nat.le_of_ble_eq_true rfl, Nat.le_of_ble_eq_true rfl⟩) rfl rfl hl.1 (Nat.le_of_ble_eq_true rfl) dX8_first_11 ⟨Nat.le_refl _, Nat.le_refl _⟩ 0 5 rfl rfl rfl [0, 1] [2, 3, 4, 5, 6, 7, 8, 9, 10, 11, 12, 13, 14, 15, 16] rfl (by decide) rfl rfl (by decide) (by decide) (fun _ H locs _ hP hD hS => ?_)
    have hP : va_P D vwCl [(h 0, .inr (2, [.ref (h 1), .ref (h 2), .ref (h 3), .ref (h 4), .ref (h 5), .ref (h 6), .ref (h 7), .long (eC row), .int (nI hc), .int (nI un)])), (h 1, .inl (cJ, 8, .inr (.inl (fC T)))), (ru, .inr (3, [.ref rt])), (rt, .inl (cA, 11, .inr (.inr (.inr (.inr (oR r)))))), rowE cI r G 0, rowE cI r G 1, rowE cI r G 2, rowE cI r G 3, rowE cI r G 4, rowE cI r G 5, rowE cI r G 6, rowE cI r G 7, rowE cI r G 8, rowE cI r G 9, rowE cI r G 10, (e0, .inr (5, [.ref (h 0), .ref (y 0), .ref (z 0), .ref (d 0), .ref sc, .ref ru, .ref fu, .ref f0, .ref ra, .int (ib k0), .int (ib k1)])), (ra, .inl (cI, 3, .inl (upd rf 0 ((rf 0) + nI 1))))] H := hP
    have hD : va_D AG [(h 0, .inr (2, [.ref (h 1), .ref (h 2), .ref (h 3), .ref (h 4), .ref (h 5), .ref (h 6), .ref (h 7), .long (eC row), .int (nI hc), .int (nI un)])), (h 1, .inl (cJ, 8, .inr (.inl (fC T)))), (ru, .inr (3, [.ref rt])), (rt, .inl (cA, 11, .inr (.inr (.inr (.inr (oR r)))))), rowE cI r G 0, rowE cI r G 1, rowE cI r G 2, rowE cI r G 3, rowE cI r G 4, rowE cI r G 5, rowE cI r G 6, rowE cI r G 7, rowE cI r G 8, rowE cI r G 9, rowE cI r G 10, (e0, .inr (5, [.ref (h 0), .ref (y 0), .ref (z 0), .ref (d 0), .ref sc, .ref ru, .ref fu, .ref f0, .ref ra, .int (ib k0), .int (ib k1)])), (ra, .inl (cI, 3, .inl (upd rf 0 ((rf 0) + nI 1))))] := hD
    refine W.eq (g2 := F0 mG 14 ls [.int (-2)]) rfl ?_
    exact hend (-2) G _ _ _ _ (congrArg (fun z => some (Value.int z)) (by rw [hk]; rfl)) trivial rfl dX8_first_14 (by rw [hk]; exact (hP.sub [15, 16, 0, 1, 2, 3, 4, 5, 6, 7, 8, 9, 10, 11, 12, 13, 14] rfl)) (by rw [hk]; exact (hD.sub [15, 16, 0, 1, 2, 3, 4, 5, 6, 7, 8, 9, 10, 11, 12, 13, 14] (by decide) rfl)) hS
