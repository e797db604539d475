-- rows laid by wip/whole/gen.py
set_option maxHeartbeats 1000000 in
set_option maxRecDepth 100000 in
theorem ct_X2_rowOfFigures (l : Launch) (D : va_G) (cI cJ cB cZ cA : ClassId) (n : Nat) (m : Nat) (hn : n < 2147483648) (hm : m ≤ 10) : Ct l yX2_rowOfFigures wsX2_rowOfFigures ({ frames := 2, cells := 0, slots := 0, locals := 45 }) D (tysG cI cJ cB cZ cA) [.int (nI n), .int (nI m)] [] (fun (_ : Unit) => True) (fun _ => some (.long (eC (fgA n m)))) (fun _ => []) := by
  refine Ct.ofL (cc := cX2_rowOfFigures) (maxL := 6) (by decide) rfl (Nat.le_of_ble_eq_true rfl) ?_
  intro pG eG sG mG aG bG tG cG AG QG ls xh bh hml hown hts hK hP hD hS hA hend hl
  have hl : lv_has ls 6 [(0, .int (nI n)), (1, .int (nI m))] := hl
  refine lv_lconst (v := lN 0) xh bh dX2_rowOfFigures_0 (by decide) ?_
  refine lv_lstore_n (lv' := [(2, .long (lN 0)), (0, .int (nI n)), (1, .int (nI m))]) xh bh dX2_rowOfFigures_1 rfl hl (by decide) rfl (fun ls hl => ?_)
  refine lv_iload_n xh bh dX2_rowOfFigures_2 rfl (lv_at hl 1 rfl) ?_
  refine lv_istore (lv' := [(4, .int (nI n)), (2, .long (lN 0)), (0, .int (nI n)), (1, .int (nI m))]) xh bh dX2_rowOfFigures_3 hl (by decide) rfl (fun ls hl => ?_)
  refine lv_iconst (v := (nI 0)) xh bh dX2_rowOfFigures_5 (by decide) ?_
  refine lv_istore (lv' := [(5, .int (nI 0)), (4, .int (nI n)), (2, .long (lN 0)), (0, .int (nI n)), (1, .int (nI m))]) xh bh dX2_rowOfFigures_6 hl (by decide) rfl (fun ls hl => ?_)
  have cut_8 : ∀ (n_8 : Nat), ∀ (i : Nat), ∀ (w : Nat), ∀ (t : List Nat), (i ≤ m) → (w ≤ n) → (w = n / 10 ^ i) → (t = fgA n i) → (m - i) < n_8 → ∀ (H : Heap) (locs : List Loc) (ls : Array Slot), va_P D vwCl [] H → va_D AG [] → va_S AG sG.heap H locs → lv_has ls 6 [(0, .int (nI n)), (1, .int (nI m)), (2, .long (eC t)), (4, .int (nI w)), (5, .int (nI i))] → W pG l eG ({ frames := 2, cells := 0, slots := 0, locals := 45 }) sG mG aG bG tG cG H locs 0 0 QG (F0 mG 8 ls []) := by
    intro n_8
    induction n_8 with
    | zero =>
      intro i w t hi hwl hw ht hmu
      exact absurd hmu (Nat.not_lt_zero _)
    | succ n_8 ih_8 =>
      intro i w t hi hwl hw ht hmu H locs ls hP hD hS hl
      refine lv_iload xh bh dX2_rowOfFigures_8 (lv_at hl 4 rfl) ?_
      refine lv_iload_n xh bh dX2_rowOfFigures_10 rfl (lv_at hl 1 rfl) ?_
      refine xn_icmp_ge (tgt := 37) xh bh dX2_rowOfFigures_11 (by decide) (by omega) (by omega) (fun c_11 => ?_) (fun c_11 => ?_)
      · refine lv_lload_n xh bh dX2_rowOfFigures_37 rfl (lv_at hl 2 rfl) ?_
        exact hend (eC t) () _ _ _ _ (congrArg (fun z => some (Value.long (eC z))) (by rw [ht, show i = m by omega])) trivial dX2_rowOfFigures_38 hP hD hS
      · refine lv_lload_n xh bh dX2_rowOfFigures_14 rfl (lv_at hl 2 rfl) ?_
        refine lv_iload xh bh dX2_rowOfFigures_15 (lv_at hl 3 rfl) ?_
        refine lv_bipush (v := (nI 10)) xh bh dX2_rowOfFigures_17 (by decide) ?_
        refine xn_irem xh bh dX2_rowOfFigures_19 (by omega) (by omega) (by omega) ?_
        refine Ct.callS0 (rest := []) xh bh hml hown hts hK hP hS hA (ct_X7_addedAhead l D cI cJ cB cZ cA t (w % 10) (by rw [ht]; exact fgA_ok n i (by omega)) (by exact Nat.mod_lt _ (by decide))) (va_cwS 2 hts gX2_rowOfFigures_X7_addedAhead rfl rfl rfl (by decide +kernel) ⟨Nat.le_of_ble_eq_true rfl, Nat.le_of_ble_eq_true rfl⟩) rfl rfl hl.1 (Nat.le_of_ble_eq_true rfl) dX2_rowOfFigures_20 ⟨Nat.le_refl _, Nat.le_refl _⟩ (fun _ H locs _ hP hS => ?_)
        refine W.eq (g2 := F0 mG 23 ls [.long (eC (addA t (w % 10)))]) rfl ?_
        refine lv_lstore_n (lv' := [(2, .long (eC (addA t (w % 10)))), (0, .int (nI n)), (1, .int (nI m)), (4, .int (nI w)), (5, .int (nI i))]) xh bh dX2_rowOfFigures_23 rfl hl (by decide) rfl (fun ls hl => ?_)
        refine lv_iload xh bh dX2_rowOfFigures_24 (lv_at hl 3 rfl) ?_
        refine lv_bipush (v := (nI 10)) xh bh dX2_rowOfFigures_26 (by decide) ?_
        refine xn_idiv xh bh dX2_rowOfFigures_28 (by omega) (by omega) (by omega) ?_
        refine lv_istore (lv' := [(4, .int (nI (w / 10))), (2, .long (eC (addA t (w % 10)))), (0, .int (nI n)), (1, .int (nI m)), (5, .int (nI i))]) xh bh dX2_rowOfFigures_29 hl (by decide) rfl (fun ls hl => ?_)
        refine lv_iinc (v := (nI (i + 1))) (lv' := [(5, .int (nI (i + 1))), (4, .int (nI (w / 10))), (2, .long (eC (addA t (w % 10)))), (0, .int (nI n)), (1, .int (nI m))]) xh bh dX2_rowOfFigures_31 hl (k := 4) rfl (by exact xn_inc _ _) (by decide) rfl (fun ls hl => ?_)
        refine lv_goto (tgt := 8) xh bh dX2_rowOfFigures_34 (by decide) ?_
        exact ih_8 (i + 1) (w / 10) (addA t (w % 10)) (by omega) (by omega) (by exact fgA_w hw) (by exact fgA_s ht hw (by omega)) (by omega) _ _ ls hP hD hS (lv_sub hl [3, 4, 2, 1, 0] rfl)
  exact cut_8 (m - 0 + 1) 0 n ([]) (by exact Nat.zero_le _) (by exact Nat.le_refl _) (by rw [Nat.pow_zero, Nat.div_one]) (by rfl) (Nat.lt_succ_self _) _ _ ls hP hD hS (lv_sub hl [3, 4, 2, 1, 0] rfl)

set_option maxHeartbeats 1000000 in
set_option maxRecDepth 100000 in
theorem ct_X2_firstFunniest (l : Launch) (D : va_G) (cI cJ cB cZ cA : ClassId) (m : Nat) (hm : m ≤ 4) : Ct l yX2_firstFunniest wsX2_firstFunniest ({ frames := 3, cells := 0, slots := 0, locals := 70 }) D (tysG cI cJ cB cZ cA) [.int (nI m)] [] (fun (_ : Unit) => True) (fun _ => some (.long (eC (bsR m)))) (fun _ => []) := by
  refine Ct.ofL (cc := cX2_firstFunniest) (maxL := 9) (by decide) rfl (Nat.le_of_ble_eq_true rfl) ?_
  intro pG eG sG mG aG bG tG cG AG QG ls xh bh hml hown hts hK hP hD hS hA hend hl
  have hl : lv_has ls 9 [(0, .int (nI m))] := hl
  refine lv_iconst (v := (nI 1)) xh bh dX2_firstFunniest_0 (by decide) ?_
  refine lv_istore_n (lv' := [(1, .int (nI 1)), (0, .int (nI m))]) xh bh dX2_firstFunniest_1 rfl hl (by decide) rfl (fun ls hl => ?_)
  refine lv_iconst (v := (nI 0)) xh bh dX2_firstFunniest_2 (by decide) ?_
  refine lv_istore_n (lv' := [(2, .int (nI 0)), (1, .int (nI 1)), (0, .int (nI m))]) xh bh dX2_firstFunniest_3 rfl hl (by decide) rfl (fun ls hl => ?_)
  have cut_4 : ∀ (n_4 : Nat), ∀ (i : Nat), ∀ (a : Nat), (i ≤ m) → (a = 10 ^ i) → (m - i) < n_4 → ∀ (H : Heap) (locs : List Loc) (ls : Array Slot), va_P D vwCl [] H → va_D AG [] → va_S AG sG.heap H locs → lv_has ls 9 [(0, .int (nI m)), (1, .int (nI a)), (2, .int (nI i))] → W pG l eG ({ frames := 3, cells := 0, slots := 0, locals := 70 }) sG mG aG bG tG cG H locs 0 0 QG (F0 mG 4 ls []) := by
    intro n_4
    induction n_4 with
    | zero =>
      intro i a hi ha hmu
      exact absurd hmu (Nat.not_lt_zero _)
    | succ n_4 ih_4 =>
      intro i a hi ha hmu H locs ls hP hD hS hl
      refine lv_iload_n xh bh dX2_firstFunniest_4 rfl (lv_at hl 2 rfl) ?_
      refine lv_iload_n xh bh dX2_firstFunniest_5 rfl (lv_at hl 0 rfl) ?_
      refine xn_icmp_ge (tgt := 20) xh bh dX2_firstFunniest_6 (by decide) (by omega) (by omega) (fun c_6 => ?_) (fun c_6 => ?_)
      · have ha2 : a = 10 ^ m := by rw [ha, show i = m by omega]
        have ha3 : a ≤ 10000 := by have h9 : 10 ^ m ≤ 10 ^ 4 := Nat.pow_le_pow_right (by decide) hm; omega
        refine lv_lconst (v := lN 0) xh bh dX2_firstFunniest_20 (by decide) ?_
        refine lv_lstore_n (lv' := [(2, .long (lN 0)), (0, .int (nI m)), (1, .int (nI a))]) xh bh dX2_firstFunniest_21 rfl hl (by decide) rfl (fun ls hl => ?_)
        refine lv_iconst (v := (nI 0)) xh bh dX2_firstFunniest_22 (by decide) ?_
        refine lv_istore (lv' := [(4, .int (nI 0)), (2, .long (lN 0)), (0, .int (nI m)), (1, .int (nI a))]) xh bh dX2_firstFunniest_23 hl (by decide) rfl (fun ls hl => ?_)
        refine lv_iconst (v := (nI 0)) xh bh dX2_firstFunniest_25 (by decide) ?_
        refine lv_istore (lv' := [(5, .int (nI 0)), (4, .int (nI 0)), (2, .long (lN 0)), (0, .int (nI m)), (1, .int (nI a))]) xh bh dX2_firstFunniest_26 hl (by decide) rfl (fun ls hl => ?_)
        have cut_28 : ∀ (n_28 : Nat), ∀ (n : Nat), ∀ (b : List Nat), ∀ (f : Int32), (n ≤ a) → (b = (ffS (10 ^ m) m n).2) → (f = (ffS (10 ^ m) m n).1) → (a - n) < n_28 → ∀ (H : Heap) (locs : List Loc) (ls : Array Slot), va_P D vwCl [] H → va_D AG [] → va_S AG sG.heap H locs → lv_has ls 9 [(0, .int (nI m)), (1, .int (nI a)), (2, .long (eC b)), (4, .int f), (5, .int (nI n))] → W pG l eG ({ frames := 3, cells := 0, slots := 0, locals := 70 }) sG mG aG bG tG cG H locs 0 0 QG (F0 mG 28 ls []) := by
          intro n_28
          induction n_28 with
          | zero =>
            intro n b f hn hb hf hmu
            exact absurd hmu (Nat.not_lt_zero _)
          | succ n_28 ih_28 =>
            intro n b f hn hb hf hmu H locs ls hP hD hS hl
            refine lv_iload xh bh dX2_firstFunniest_28 (lv_at hl 4 rfl) ?_
            refine lv_iload_n xh bh dX2_firstFunniest_30 rfl (lv_at hl 1 rfl) ?_
            refine xn_icmp_ge (tgt := 74) xh bh dX2_firstFunniest_31 (by decide) (by omega) (by omega) (fun c_31 => ?_) (fun c_31 => ?_)
            · refine lv_lload_n xh bh dX2_firstFunniest_74 rfl (lv_at hl 2 rfl) ?_
              exact hend (eC b) () _ _ _ _ (congrArg (fun z => some (Value.long (eC z))) (by rw [ff_bs, hb, show n = 10 ^ m by omega])) trivial dX2_firstFunniest_75 hP hD hS
            · refine lv_iload xh bh dX2_firstFunniest_34 (lv_at hl 4 rfl) ?_
              refine lv_iload_n xh bh dX2_firstFunniest_36 rfl (lv_at hl 0 rfl) ?_
              refine Ct.callS0 (rest := []) xh bh hml hown hts hK hP hS hA (ct_X2_rowOfFigures l D cI cJ cB cZ cA n m (by omega) (by omega)) (va_cwS 2 hts gX2_firstFunniest_X2_rowOfFigures rfl rfl rfl (by decide +kernel) ⟨Nat.le_of_ble_eq_true rfl, Nat.le_of_ble_eq_true rfl⟩) rfl rfl hl.1 (Nat.le_of_ble_eq_true rfl) dX2_firstFunniest_37 ⟨Nat.le_refl _, Nat.le_refl _⟩ (fun _ H locs _ hP hS => ?_)
              refine W.eq (g2 := F0 mG 40 ls [.long (eC (fgA n m))]) rfl ?_
              refine lv_lstore (lv' := [(6, .long (eC (fgA n m))), (0, .int (nI m)), (1, .int (nI a)), (2, .long (eC b)), (4, .int f), (5, .int (nI n))]) xh bh dX2_firstFunniest_40 hl (by decide) rfl (fun ls hl => ?_)
              refine lv_lload xh bh dX2_firstFunniest_42 (lv_at hl 0 rfl) ?_
              refine Ct.callS0 (rest := []) xh bh hml hown hts hK hP hS hA (ct_X4_funOf l D cI cJ cB cZ cA (fgA n m) (by exact fgA_ok n m (by omega))) (va_cwS 1 hts gX2_firstFunniest_X4_funOf rfl rfl rfl (by decide +kernel) ⟨Nat.le_of_ble_eq_true rfl, Nat.le_of_ble_eq_true rfl⟩) rfl rfl hl.1 (Nat.le_of_ble_eq_true rfl) dX2_firstFunniest_44 ⟨Nat.le_refl _, Nat.le_refl _⟩ (fun _ H locs _ hP hS => ?_)
              refine W.eq (g2 := F0 mG 47 ls [.int (funT (fgA n m))]) rfl ?_
              refine lv_istore (lv' := [(8, .int (funT (fgA n m))), (6, .long (eC (fgA n m))), (0, .int (nI m)), (1, .int (nI a)), (2, .long (eC b)), (4, .int f), (5, .int (nI n))]) xh bh dX2_firstFunniest_47 hl (by decide) rfl (fun ls hl => ?_)
              refine lv_iload xh bh dX2_firstFunniest_49 (lv_at hl 6 rfl) ?_
              refine xn_if_eq (tgt := 61) xh bh dX2_firstFunniest_51 (by decide) (by omega) (fun c_51 => ?_) (fun c_51 => ?_)
              · refine lv_lload xh bh dX2_firstFunniest_61 (lv_at hl 1 rfl) ?_
                refine lv_lstore_n (lv' := [(2, .long (eC (fgA n m))), (8, .int (funT (fgA n m))), (6, .long (eC (fgA n m))), (0, .int (nI m)), (1, .int (nI a)), (4, .int f), (5, .int (nI n))]) xh bh dX2_firstFunniest_63 rfl hl (by decide) rfl (fun ls hl => ?_)
                refine lv_iload xh bh dX2_firstFunniest_64 (lv_at hl 1 rfl) ?_
                refine lv_istore (lv' := [(4, .int (funT (fgA n m))), (2, .long (eC (fgA n m))), (8, .int (funT (fgA n m))), (6, .long (eC (fgA n m))), (0, .int (nI m)), (1, .int (nI a)), (5, .int (nI n))]) xh bh dX2_firstFunniest_66 hl (by decide) rfl (fun ls hl => ?_)
                refine lv_iinc (v := (nI (n + 1))) (lv' := [(5, .int (nI (n + 1))), (4, .int (funT (fgA n m))), (2, .long (eC (fgA n m))), (8, .int (funT (fgA n m))), (6, .long (eC (fgA n m))), (0, .int (nI m)), (1, .int (nI a))]) xh bh dX2_firstFunniest_68 hl (k := 6) rfl (by exact xn_inc _ _) (by decide) rfl (fun ls hl => ?_)
                refine lv_goto (tgt := 28) xh bh dX2_firstFunniest_71 (by decide) ?_
                exact ih_28 (n + 1) (fgA n m) (funT (fgA n m)) (by omega) (by first | exact (ff_0 (by omega) c_51).1 | exact (ff_n hb hf c_51 c_58).1 | exact (ff_y hf c_51 c_58).1) (by first | exact (ff_0 (by omega) c_51).2 | exact (ff_n hb hf c_51 c_58).2 | exact (ff_y hf c_51 c_58).2) (by omega) _ _ ls hP hD hS (lv_sub hl [5, 6, 2, 1, 0] rfl)
              · refine lv_iload xh bh dX2_firstFunniest_54 (lv_at hl 0 rfl) ?_
                refine lv_iload xh bh dX2_firstFunniest_56 (lv_at hl 5 rfl) ?_
                refine lv_icmp_le (tgt := 68) xh bh dX2_firstFunniest_58 (by decide) (fun c_58 => ?_) (fun c_58 => ?_)
                · refine lv_iinc (v := (nI (n + 1))) (lv' := [(5, .int (nI (n + 1))), (8, .int (funT (fgA n m))), (6, .long (eC (fgA n m))), (0, .int (nI m)), (1, .int (nI a)), (2, .long (eC b)), (4, .int f)]) xh bh dX2_firstFunniest_68 hl (k := 6) rfl (by exact xn_inc _ _) (by decide) rfl (fun ls hl => ?_)
                  refine lv_goto (tgt := 28) xh bh dX2_firstFunniest_71 (by decide) ?_
                  exact ih_28 (n + 1) b f (by omega) (by first | exact (ff_0 (by omega) c_51).1 | exact (ff_n hb hf c_51 c_58).1 | exact (ff_y hf c_51 c_58).1) (by first | exact (ff_0 (by omega) c_51).2 | exact (ff_n hb hf c_51 c_58).2 | exact (ff_y hf c_51 c_58).2) (by omega) _ _ ls hP hD hS (lv_sub hl [3, 4, 5, 6, 0] rfl)
                · refine lv_lload xh bh dX2_firstFunniest_61 (lv_at hl 1 rfl) ?_
                  refine lv_lstore_n (lv' := [(2, .long (eC (fgA n m))), (8, .int (funT (fgA n m))), (6, .long (eC (fgA n m))), (0, .int (nI m)), (1, .int (nI a)), (4, .int f), (5, .int (nI n))]) xh bh dX2_firstFunniest_63 rfl hl (by decide) rfl (fun ls hl => ?_)
                  refine lv_iload xh bh dX2_firstFunniest_64 (lv_at hl 1 rfl) ?_
                  refine lv_istore (lv' := [(4, .int (funT (fgA n m))), (2, .long (eC (fgA n m))), (8, .int (funT (fgA n m))), (6, .long (eC (fgA n m))), (0, .int (nI m)), (1, .int (nI a)), (5, .int (nI n))]) xh bh dX2_firstFunniest_66 hl (by decide) rfl (fun ls hl => ?_)
                  refine lv_iinc (v := (nI (n + 1))) (lv' := [(5, .int (nI (n + 1))), (4, .int (funT (fgA n m))), (2, .long (eC (fgA n m))), (8, .int (funT (fgA n m))), (6, .long (eC (fgA n m))), (0, .int (nI m)), (1, .int (nI a))]) xh bh dX2_firstFunniest_68 hl (k := 6) rfl (by exact xn_inc _ _) (by decide) rfl (fun ls hl => ?_)
                  refine lv_goto (tgt := 28) xh bh dX2_firstFunniest_71 (by decide) ?_
                  exact ih_28 (n + 1) (fgA n m) (funT (fgA n m)) (by omega) (by first | exact (ff_0 (by omega) c_51).1 | exact (ff_n hb hf c_51 c_58).1 | exact (ff_y hf c_51 c_58).1) (by first | exact (ff_0 (by omega) c_51).2 | exact (ff_n hb hf c_51 c_58).2 | exact (ff_y hf c_51 c_58).2) (by omega) _ _ ls hP hD hS (lv_sub hl [5, 6, 2, 1, 0] rfl)
        exact cut_28 (a - 0 + 1) 0 ([]) (nI 0) (by exact Nat.zero_le _) (by rfl) (by rfl) (Nat.lt_succ_self _) _ _ ls hP hD hS (lv_sub hl [3, 4, 2, 1, 0] rfl)
      · refine lv_iload_n xh bh dX2_firstFunniest_9 rfl (lv_at hl 1 rfl) ?_
        refine lv_bipush (v := (nI 10)) xh bh dX2_firstFunniest_10 (by decide) ?_
        refine xn_imul xh bh dX2_firstFunniest_12 ?_
        refine lv_istore_n (lv' := [(1, .int (nI (a * 10))), (0, .int (nI m)), (2, .int (nI i))]) xh bh dX2_firstFunniest_13 rfl hl (by decide) rfl (fun ls hl => ?_)
        refine lv_iinc (v := (nI (i + 1))) (lv' := [(2, .int (nI (i + 1))), (1, .int (nI (a * 10))), (0, .int (nI m))]) xh bh dX2_firstFunniest_14 hl (k := 2) rfl (by exact xn_inc _ _) (by decide) rfl (fun ls hl => ?_)
        refine lv_goto (tgt := 4) xh bh dX2_firstFunniest_17 (by decide) ?_
        exact ih_4 (i + 1) (a * 10) (by omega) (by rw [ha]; rfl) (by omega) _ _ ls hP hD hS (lv_sub hl [2, 1, 0] rfl)
  exact cut_4 (m - 0 + 1) 0 1 (by exact Nat.zero_le _) (by rfl) (Nat.lt_succ_self _) _ _ ls hP hD hS (lv_sub hl [2, 1, 0] rfl)

set_option maxHeartbeats 1000000 in
set_option maxRecDepth 100000 in
theorem ct_X2_rowOf (l : Launch) (D : va_G) (cI cJ cB cZ cA : ClassId) (fu : Nat) (fa0 : Nat) (fr : Nat → List Nat) (k : Nat) (hfr : ∀ k, okT (fr k)) (hff : ∀ k, fr k ≠ [] → fr k = bsR k) (hk : k ≤ 4) : Ct l yX2_rowOf wsX2_rowOf ({ frames := 4, cells := 0, slots := 0, locals := 98 }) D (tysG cI cJ cB cZ cA) [.ref fu, .int (nI k)] [(fu, .inr (1, [.ref fa0])), (fa0, .inl (cJ, 5, .inr (.inl (fC fr))))] (fun (u : Nat → List Nat) => (∀ k, okT (u k)) ∧ (∀ k, u k ≠ [] → u k = bsR k)) (fun u => some (.long (eC (bsR k)))) (fun u => [(fu, .inr (1, [.ref fa0])), (fa0, .inl (cJ, 5, .inr (.inl (fC u))))]) := by
  refine Ct.ofL (cc := cX2_rowOf) (maxL := 2) (by decide) rfl (Nat.le_of_ble_eq_true rfl) ?_
  intro pG eG sG mG aG bG tG cG AG QG ls xh bh hml hown hts hK hP hD hS hA hend hl
  have hl : lv_has ls 2 [(0, .ref fu), (1, .int (nI k))] := hl
  refine lv_iload_n xh bh dX2_rowOf_0 rfl (lv_at hl 1 rfl) ?_
  refine lv_iconst (v := (nI 4)) xh bh dX2_rowOf_1 (by decide) ?_
  refine Ct.callN0 (rest := []) xh bh hml hown hts hK hP hS hA (ct_X8_isUpTo l D cI cJ cB cZ cA (nI k) 4 (by first | omega | assumption)) ⟨va_cnB 2 hts gX2_rowOf_X8_isUpTo_n15 rfl rfl rfl (hK.2.at 0 rfl) (hts _ (List.mem_of_getElem? (i := 3) rfl)) (by decide +kernel) ⟨Nat.le_of_ble_eq_true rfl, Nat.le_of_ble_eq_true rfl⟩, hts _ (List.mem_of_getElem? (i := 2) rfl), trivial⟩ rfl rfl hl.1 (Nat.le_of_ble_eq_true rfl) dX2_rowOf_2 ⟨Nat.le_refl _, Nat.le_refl _⟩ (fun _ H locs _ hP hS => ?_)
  refine W.eq (g2 := F0 mG 5 ls [.int (ib (upB (nI k) 4))]) rfl ?_
  refine xb_if_ne (tgt := 10) xh bh dX2_rowOf_5 (by decide) (fun c_5 => ?_) (fun c_5 => ?_)
  · refine lv_aload_n xh bh dX2_rowOf_10 rfl (lv_at hl 0 rfl) ?_
    refine va_get (D := D) (ci := 1) (v := .ref fa0) (C := RX2) (T := TX2) (N := 1) xh bh hts (fun _ h => List.mem_cons_of_mem _ (List.mem_append_right _ (h))) hown hK.1 hP 0 rfl rfl 0 (by decide) (hts _ (List.mem_of_getElem? (i := 1) rfl)) (fun _ h9 => h9) rfl dX2_rowOf_11 ?_
    refine lv_iload_n xh bh dX2_rowOf_14 rfl (lv_at hl 1 rfl) ?_
    refine xa_lald xh bh hK.1 hP 1 1 rfl rfl (by omega) (by omega) dX2_rowOf_15 ?_
    refine W.eq (g2 := F0 mG 16 ls [.long (eC (fr k))]) rfl ?_
    refine lv_lconst (v := lN 0) xh bh dX2_rowOf_16 (by decide) ?_
    refine W.lcmp xh bh dX2_rowOf_17 ?_
    refine xt_if_neC (tgt := 31) xh bh dX2_rowOf_18 (by decide) (by exact hfr k) (fun c_18 => ?_) (fun c_18 => ?_)
    · refine lv_aload_n xh bh dX2_rowOf_31 rfl (lv_at hl 0 rfl) ?_
      refine va_get (D := D) (ci := 1) (v := .ref fa0) (C := RX2) (T := TX2) (N := 1) xh bh hts (fun _ h => List.mem_cons_of_mem _ (List.mem_append_right _ (h))) hown hK.1 hP 0 rfl rfl 0 (by decide) (hts _ (List.mem_of_getElem? (i := 1) rfl)) (fun _ h9 => h9) rfl dX2_rowOf_32 ?_
      refine lv_iload_n xh bh dX2_rowOf_35 rfl (lv_at hl 1 rfl) ?_
      refine xa_lald xh bh hK.1 hP 1 1 rfl rfl (by omega) (by omega) dX2_rowOf_36 ?_
      refine W.eq (g2 := F0 mG 37 ls [.long (eC (fr k))]) rfl ?_
      exact hend (eC (fr k)) fr _ _ _ _ (congrArg (fun z => some (Value.long (eC z))) (by first | exact (hff k c_18).symm | exact (va_up_self fr k (bsR k)).symm)) (by first | exact And.intro hfr hff | exact And.intro (okT_up hfr (bsR_ok (by omega)) _) (ff_up hff k)) dX2_rowOf_37 hP hD hS
    · refine lv_aload_n xh bh dX2_rowOf_21 rfl (lv_at hl 0 rfl) ?_
      refine va_get (D := D) (ci := 1) (v := .ref fa0) (C := RX2) (T := TX2) (N := 1) xh bh hts (fun _ h => List.mem_cons_of_mem _ (List.mem_append_right _ (h))) hown hK.1 hP 0 rfl rfl 0 (by decide) (hts _ (List.mem_of_getElem? (i := 1) rfl)) (fun _ h9 => h9) rfl dX2_rowOf_22 ?_
      refine lv_iload_n xh bh dX2_rowOf_25 rfl (lv_at hl 1 rfl) ?_
      refine lv_iload_n xh bh dX2_rowOf_26 rfl (lv_at hl 1 rfl) ?_
      refine Ct.callS0 (rest := [.int (nI k), .ref fa0]) xh bh hml hown hts hK hP hS hA (ct_X2_firstFunniest l D cI cJ cB cZ cA k (by first | omega | assumption)) (va_cwS 1 hts gX2_rowOf_X2_firstFunniest rfl rfl rfl (by decide +kernel) ⟨Nat.le_of_ble_eq_true rfl, Nat.le_of_ble_eq_true rfl⟩) rfl rfl hl.1 (Nat.le_of_ble_eq_true rfl) dX2_rowOf_27 ⟨Nat.le_refl _, Nat.le_refl _⟩ (fun _ H locs _ hP hS => ?_)
      refine W.eq (g2 := F0 mG 30 ls [.long (eC (bsR k)), .int (nI k), .ref fa0]) rfl ?_
      refine xc_last xh bh hK.1 hP hD hS 1 1 rfl rfl (by omega) (by omega) dX2_rowOf_30 (fun H locs hP hD hS => ?_)
      have hP : va_P D vwCl [(fu, .inr (1, [.ref fa0])), (fa0, .inl (cJ, 5, .inr (.inl (fC (va_up fr k (bsR k))))))] H := hP
      have hD : va_D AG [(fu, .inr (1, [.ref fa0])), (fa0, .inl (cJ, 5, .inr (.inl (fC (va_up fr k (bsR k))))))] := hD
      refine lv_aload_n xh bh dX2_rowOf_31 rfl (lv_at hl 0 rfl) ?_
      refine va_get (D := D) (ci := 1) (v := .ref fa0) (C := RX2) (T := TX2) (N := 1) xh bh hts (fun _ h => List.mem_cons_of_mem _ (List.mem_append_right _ (h))) hown hK.1 hP 0 rfl rfl 0 (by decide) (hts _ (List.mem_of_getElem? (i := 1) rfl)) (fun _ h9 => h9) rfl dX2_rowOf_32 ?_
      refine lv_iload_n xh bh dX2_rowOf_35 rfl (lv_at hl 1 rfl) ?_
      refine xa_lald xh bh hK.1 hP 1 1 rfl rfl (by omega) (by omega) dX2_rowOf_36 ?_
      refine W.eq (g2 := F0 mG 37 ls [.long (eC ((va_up fr k (bsR k)) k))]) rfl ?_
      exact hend (eC ((va_up fr k (bsR k)) k)) (va_up fr k (bsR k)) _ _ _ _ (congrArg (fun z => some (Value.long (eC z))) (by first | exact (hff k c_18).symm | exact (va_up_self fr k (bsR k)).symm)) (by first | exact And.intro hfr hff | exact And.intro (okT_up hfr (bsR_ok (by omega)) _) (ff_up hff k)) dX2_rowOf_37 hP hD hS
  · exact absurd c_5 (by rw [upB_nI (by omega) (by decide), decide_eq_true (show _ by omega)]; decide)
