-- rows laid by wip/whole/gen.py
set_option maxHeartbeats 1000000 in
set_option maxRecDepth 100000 in
theorem ct_X9_between (l : Launch) (D : va_G) (cI cJ cB cZ cA : ClassId) (a : Nat → Nat) (tb : Nat → Nat) (hm : Nat) (un : Nat) (fa : Int64) (fb : Int64) (lx : Nat) (bl : Nat) (ta : Nat) (tl : Nat) (tk : Nat) (va : Nat) (a1 : List Nat) (b1 : List Nat) (ha : okT a1) (hb : okT b1) : Ct l yX9_between wsX9_between ({ frames := 2, cells := 0, slots := 0, locals := 47 }) D (tysG cI cJ cB cZ cA) [.ref (a 0), .long (eR a1), .long (eR b1)] [(a 0, .inr (6, [.ref (a 1), .ref (a 2), .int (nI hm), .int (nI un), .ref (a 3), .ref (a 4), .ref (a 5), .ref (a 6), .ref (a 7), .ref (a 8), .ref (a 9), .ref (a 10), .ref (a 11), .ref (a 12), .long fa, .long fb, .ref (a 13), .long (lN lx), .ref (a 14), .int (nI bl), .int (nI ta), .int (nI tl), .int (nI tk), .int (nI va), .ref (a 15), .ref (a 16), .ref (a 17)])), (a 13, .inl (cI, 121, .inl (fN tb)))] (fun (u : Nat → Nat) => True) (fun u => some (.int (nI (dsT a1 b1)))) (fun u => [(a 0, .inr (6, [.ref (a 1), .ref (a 2), .int (nI hm), .int (nI un), .ref (a 3), .ref (a 4), .ref (a 5), .ref (a 6), .ref (a 7), .ref (a 8), .ref (a 9), .ref (a 10), .ref (a 11), .ref (a 12), .long fa, .long fb, .ref (a 13), .long (lN lx), .ref (a 14), .int (nI bl), .int (nI ta), .int (nI tl), .int (nI tk), .int (nI va), .ref (a 15), .ref (a 16), .ref (a 17)])), (a 13, .inl (cI, 121, .inl (fN u)))]) := by
  refine Ct.ofI (cc := cX9_between) (maxL := 8) (by decide) rfl (Nat.le_of_ble_eq_true rfl) ?_
  intro pG eG sG mG aG bG tG cG AG QG ls xh bh hml hown hts hK hP hD hS hA hend hl
  have hl : lv_has ls 8 [(0, .ref (a 0)), (1, .long (eR a1)), (3, .long (eR b1))] := hl
  have ha1 := ha.1
  have hb1 := hb.1
  refine lv_iconst (v := (nI 0)) xh bh dX9_between_0 (by decide) ?_
  refine lv_istore (lv' := [(5, .int (nI 0)), (0, .ref (a 0)), (1, .long (eR a1)), (3, .long (eR b1))]) xh bh dX9_between_1 hl (by decide) rfl (fun ls hl => ?_)
  have cut_3 : ∀ (n_3 : Nat), ∀ (i : Nat), ∀ (g1 : Nat → Nat), (i ≤ a1.length + 1) → (tabI g1 a1 b1 i 0) → (a1.length + 1 - i) < n_3 → ∀ (H : Heap) (locs : List Loc) (ls : Array Slot), va_P D vwCl [(a 0, .inr (6, [.ref (a 1), .ref (a 2), .int (nI hm), .int (nI un), .ref (a 3), .ref (a 4), .ref (a 5), .ref (a 6), .ref (a 7), .ref (a 8), .ref (a 9), .ref (a 10), .ref (a 11), .ref (a 12), .long fa, .long fb, .ref (a 13), .long (lN lx), .ref (a 14), .int (nI bl), .int (nI ta), .int (nI tl), .int (nI tk), .int (nI va), .ref (a 15), .ref (a 16), .ref (a 17)])), (a 13, .inl (cI, 121, .inl (fN g1)))] H → va_D AG [(a 0, .inr (6, [.ref (a 1), .ref (a 2), .int (nI hm), .int (nI un), .ref (a 3), .ref (a 4), .ref (a 5), .ref (a 6), .ref (a 7), .ref (a 8), .ref (a 9), .ref (a 10), .ref (a 11), .ref (a 12), .long fa, .long fb, .ref (a 13), .long (lN lx), .ref (a 14), .int (nI bl), .int (nI ta), .int (nI tl), .int (nI tk), .int (nI va), .ref (a 15), .ref (a 16), .ref (a 17)])), (a 13, .inl (cI, 121, .inl (fN g1)))] → va_S AG sG.heap H locs → lv_has ls 8 [(0, .ref (a 0)), (1, .long (eR a1)), (3, .long (eR b1)), (5, .int (nI i))] → W pG l eG ({ frames := 2, cells := 0, slots := 0, locals := 47 }) sG mG aG bG tG cG H locs 0 0 QG (F0 mG 3 ls []) := by
    intro n_3
    induction n_3 with
    | zero =>
      intro i g1 hi hg hmu
      exact absurd hmu (Nat.not_lt_zero _)
    | succ n_3 ih_3 =>
      intro i g1 hi hg hmu H locs ls hP hD hS hl
      refine lv_iload xh bh dX9_between_3 (lv_at hl 3 rfl) ?_
      refine lv_lload_n xh bh dX9_between_5 rfl (lv_at hl 1 rfl) ?_
      refine Ct.callS0 (rest := [.int (nI i)]) xh bh hml hown hts hK hP hS hA (ct_X9_many l D cI cJ cB cZ cA a1 (by first | assumption | exact okT_nil)) (va_cwS 1 hts gX9_between_X9_many rfl rfl rfl (by decide +kernel) ⟨Nat.le_of_ble_eq_true rfl, Nat.le_of_ble_eq_true rfl⟩) rfl rfl hl.1 (Nat.le_of_ble_eq_true rfl) dX9_between_6 ⟨Nat.le_refl _, Nat.le_refl _⟩ (fun _ H locs _ hP hS => ?_)
      refine W.eq (g2 := F0 mG 9 ls [.int (nI a1.length), .int (nI i)]) rfl ?_
      refine xn_icmp_gt (tgt := 196) xh bh dX9_between_9 (by decide) (by omega) (by omega) (fun c_9 => ?_) (fun c_9 => ?_)
      · refine lv_aload_n xh bh dX9_between_196 rfl (lv_at hl 0 rfl) ?_
        refine va_get (D := D) (ci := 6) (v := .ref (a 13)) (C := RX9) (T := TX9) (N := 27) xh bh hts (fun _ h => List.mem_cons_of_mem _ (List.mem_append_right _ (h))) hown hK.1 hP 0 rfl rfl 16 (by decide) (hts _ (List.mem_of_getElem? (i := 1) rfl)) (fun _ h9 => h9) rfl dX9_between_197 ?_
        refine lv_bipush (v := (nI 11)) xh bh dX9_between_200 (by decide) ?_
        refine lv_lload_n xh bh dX9_between_202 rfl (lv_at hl 1 rfl) ?_
        refine Ct.callS0 (rest := [.int (nI 11), .ref (a 13)]) xh bh hml hown hts hK hP hS hA (ct_X9_many l D cI cJ cB cZ cA a1 (by first | assumption | exact okT_nil)) (va_cwS 1 hts gX9_between_X9_many rfl rfl rfl (by decide +kernel) ⟨Nat.le_of_ble_eq_true rfl, Nat.le_of_ble_eq_true rfl⟩) rfl rfl hl.1 (Nat.le_of_ble_eq_true rfl) dX9_between_203 ⟨Nat.le_refl _, Nat.le_refl _⟩ (fun _ H locs _ hP hS => ?_)
        refine W.eq (g2 := F0 mG 206 ls [.int (nI a1.length), .int (nI 11), .ref (a 13)]) rfl ?_
        refine xn_imul xh bh dX9_between_206 ?_
        refine lv_lload_n xh bh dX9_between_207 rfl (lv_at hl 2 rfl) ?_
        refine Ct.callS0 (rest := [.int (nI (11 * a1.length)), .ref (a 13)]) xh bh hml hown hts hK hP hS hA (ct_X9_many l D cI cJ cB cZ cA b1 (by first | assumption | exact okT_nil)) (va_cwS 1 hts gX9_between_X9_many rfl rfl rfl (by decide +kernel) ⟨Nat.le_of_ble_eq_true rfl, Nat.le_of_ble_eq_true rfl⟩) rfl rfl hl.1 (Nat.le_of_ble_eq_true rfl) dX9_between_208 ⟨Nat.le_refl _, Nat.le_refl _⟩ (fun _ H locs _ hP hS => ?_)
        refine W.eq (g2 := F0 mG 211 ls [.int (nI b1.length), .int (nI (11 * a1.length)), .ref (a 13)]) rfl ?_
        refine xn_iadd xh bh dX9_between_211 ?_
        refine xa_iald xh bh hK.1 hP 1 0 rfl rfl (by have := ha.1; have := hb.1; omega) (by omega) dX9_between_212 ?_
        refine W.eq (g2 := F0 mG 213 ls [.int (nI (g1 ((11 * a1.length) + b1.length)))]) rfl ?_
        exact hend (nI (g1 ((11 * a1.length) + b1.length))) g1 _ _ _ _ (congrArg (fun z => some (Value.int (nI z))) (by unfold dsT; rw [hg.1 a1.length b1.length (by omega) (Nat.le_refl _)])) trivial rfl dX9_between_213 hP hD hS
      · refine lv_iconst (v := (nI 0)) xh bh dX9_between_12 (by decide) ?_
        refine lv_istore (lv' := [(6, .int (nI 0)), (0, .ref (a 0)), (1, .long (eR a1)), (3, .long (eR b1)), (5, .int (nI i))]) xh bh dX9_between_13 hl (by decide) rfl (fun ls hl => ?_)
        have cut_15 : ∀ (n_15 : Nat), ∀ (j : Nat), ∀ (g2 : Nat → Nat), (j ≤ b1.length + 1) → (tabI g2 a1 b1 i j) → (b1.length + 1 - j) < n_15 → ∀ (H : Heap) (locs : List Loc) (ls : Array Slot), va_P D vwCl [(a 0, .inr (6, [.ref (a 1), .ref (a 2), .int (nI hm), .int (nI un), .ref (a 3), .ref (a 4), .ref (a 5), .ref (a 6), .ref (a 7), .ref (a 8), .ref (a 9), .ref (a 10), .ref (a 11), .ref (a 12), .long fa, .long fb, .ref (a 13), .long (lN lx), .ref (a 14), .int (nI bl), .int (nI ta), .int (nI tl), .int (nI tk), .int (nI va), .ref (a 15), .ref (a 16), .ref (a 17)])), (a 13, .inl (cI, 121, .inl (fN g2)))] H → va_D AG [(a 0, .inr (6, [.ref (a 1), .ref (a 2), .int (nI hm), .int (nI un), .ref (a 3), .ref (a 4), .ref (a 5), .ref (a 6), .ref (a 7), .ref (a 8), .ref (a 9), .ref (a 10), .ref (a 11), .ref (a 12), .long fa, .long fb, .ref (a 13), .long (lN lx), .ref (a 14), .int (nI bl), .int (nI ta), .int (nI tl), .int (nI tk), .int (nI va), .ref (a 15), .ref (a 16), .ref (a 17)])), (a 13, .inl (cI, 121, .inl (fN g2)))] → va_S AG sG.heap H locs → lv_has ls 8 [(0, .ref (a 0)), (1, .long (eR a1)), (3, .long (eR b1)), (5, .int (nI i)), (6, .int (nI j))] → W pG l eG ({ frames := 2, cells := 0, slots := 0, locals := 47 }) sG mG aG bG tG cG H locs 0 0 QG (F0 mG 15 ls []) := by
          intro n_15
          induction n_15 with
          | zero =>
            intro j g2 hj hh hmu
            exact absurd hmu (Nat.not_lt_zero _)
          | succ n_15 ih_15 =>
            intro j g2 hj hh hmu H locs ls hP hD hS hl
            refine lv_iload xh bh dX9_between_15 (lv_at hl 4 rfl) ?_
            refine lv_lload_n xh bh dX9_between_17 rfl (lv_at hl 2 rfl) ?_
            refine Ct.callS0 (rest := [.int (nI j)]) xh bh hml hown hts hK hP hS hA (ct_X9_many l D cI cJ cB cZ cA b1 (by first | assumption | exact okT_nil)) (va_cwS 1 hts gX9_between_X9_many rfl rfl rfl (by decide +kernel) ⟨Nat.le_of_ble_eq_true rfl, Nat.le_of_ble_eq_true rfl⟩) rfl rfl hl.1 (Nat.le_of_ble_eq_true rfl) dX9_between_18 ⟨Nat.le_refl _, Nat.le_refl _⟩ (fun _ H locs _ hP hS => ?_)
            refine W.eq (g2 := F0 mG 21 ls [.int (nI b1.length), .int (nI j)]) rfl ?_
            refine xn_icmp_gt (tgt := 190) xh bh dX9_between_21 (by decide) (by omega) (by omega) (fun c_21 => ?_) (fun c_21 => ?_)
            · refine lv_iinc (v := (nI (i + 1))) (lv' := [(5, .int (nI (i + 1))), (0, .ref (a 0)), (1, .long (eR a1)), (3, .long (eR b1)), (6, .int (nI j))]) xh bh dX9_between_190 hl (k := 3) rfl (by exact xn_inc _ _) (by decide) rfl (fun ls hl => ?_)
              refine lv_goto (tgt := 3) xh bh dX9_between_193 (by decide) ?_
              exact ih_3 (i + 1) g2 (by omega) (by exact tabI_n (by omega) hh) (by omega) _ _ ls hP hD hS (lv_sub hl [1, 2, 3, 0] rfl)
            · have cut_169 : ∀ (v : Nat), (v = dis a1 b1 i j) → ∀ (H : Heap) (locs : List Loc) (ls : Array Slot), va_P D vwCl [(a 0, .inr (6, [.ref (a 1), .ref (a 2), .int (nI hm), .int (nI un), .ref (a 3), .ref (a 4), .ref (a 5), .ref (a 6), .ref (a 7), .ref (a 8), .ref (a 9), .ref (a 10), .ref (a 11), .ref (a 12), .long fa, .long fb, .ref (a 13), .long (lN lx), .ref (a 14), .int (nI bl), .int (nI ta), .int (nI tl), .int (nI tk), .int (nI va), .ref (a 15), .ref (a 16), .ref (a 17)])), (a 13, .inl (cI, 121, .inl (fN g2)))] H → va_D AG [(a 0, .inr (6, [.ref (a 1), .ref (a 2), .int (nI hm), .int (nI un), .ref (a 3), .ref (a 4), .ref (a 5), .ref (a 6), .ref (a 7), .ref (a 8), .ref (a 9), .ref (a 10), .ref (a 11), .ref (a 12), .long fa, .long fb, .ref (a 13), .long (lN lx), .ref (a 14), .int (nI bl), .int (nI ta), .int (nI tl), .int (nI tk), .int (nI va), .ref (a 15), .ref (a 16), .ref (a 17)])), (a 13, .inl (cI, 121, .inl (fN g2)))] → va_S AG sG.heap H locs → lv_has ls 8 [(0, .ref (a 0)), (1, .long (eR a1)), (3, .long (eR b1)), (5, .int (nI i)), (6, .int (nI j)), (7, .int (nI v))] → W pG l eG ({ frames := 2, cells := 0, slots := 0, locals := 47 }) sG mG aG bG tG cG H locs 0 0 QG (F0 mG 169 ls []) := by
                intro v hv H locs ls hP hD hS hl
                refine lv_aload_n xh bh dX9_between_169 rfl (lv_at hl 0 rfl) ?_
                refine va_get (D := D) (ci := 6) (v := .ref (a 13)) (C := RX9) (T := TX9) (N := 27) xh bh hts (fun _ h => List.mem_cons_of_mem _ (List.mem_append_right _ (h))) hown hK.1 hP 0 rfl rfl 16 (by decide) (hts _ (List.mem_of_getElem? (i := 1) rfl)) (fun _ h9 => h9) rfl dX9_between_170 ?_
                refine lv_bipush (v := (nI 11)) xh bh dX9_between_173 (by decide) ?_
                refine lv_iload xh bh dX9_between_175 (lv_at hl 3 rfl) ?_
                refine xn_imul xh bh dX9_between_177 ?_
                refine lv_iload xh bh dX9_between_178 (lv_at hl 4 rfl) ?_
                refine xn_iadd xh bh dX9_between_180 ?_
                refine lv_iload xh bh dX9_between_181 (lv_at hl 5 rfl) ?_
                refine xN_iast xh bh hK.1 hP hD hS 1 0 rfl rfl (by omega) (by omega) dX9_between_183 (fun H locs hP hD hS => ?_)
                have hP : va_P D vwCl [(a 0, .inr (6, [.ref (a 1), .ref (a 2), .int (nI hm), .int (nI un), .ref (a 3), .ref (a 4), .ref (a 5), .ref (a 6), .ref (a 7), .ref (a 8), .ref (a 9), .ref (a 10), .ref (a 11), .ref (a 12), .long fa, .long fb, .ref (a 13), .long (lN lx), .ref (a 14), .int (nI bl), .int (nI ta), .int (nI tl), .int (nI tk), .int (nI va), .ref (a 15), .ref (a 16), .ref (a 17)])), (a 13, .inl (cI, 121, .inl (fN (va_up g2 ((11 * i) + j) v))))] H := hP
                have hD : va_D AG [(a 0, .inr (6, [.ref (a 1), .ref (a 2), .int (nI hm), .int (nI un), .ref (a 3), .ref (a 4), .ref (a 5), .ref (a 6), .ref (a 7), .ref (a 8), .ref (a 9), .ref (a 10), .ref (a 11), .ref (a 12), .long fa, .long fb, .ref (a 13), .long (lN lx), .ref (a 14), .int (nI bl), .int (nI ta), .int (nI tl), .int (nI tk), .int (nI va), .ref (a 15), .ref (a 16), .ref (a 17)])), (a 13, .inl (cI, 121, .inl (fN (va_up g2 ((11 * i) + j) v))))] := hD
                refine lv_iinc (v := (nI (j + 1))) (lv' := [(6, .int (nI (j + 1))), (0, .ref (a 0)), (1, .long (eR a1)), (3, .long (eR b1)), (5, .int (nI i)), (7, .int (nI v))]) xh bh dX9_between_184 hl (k := 4) rfl (by exact xn_inc _ _) (by decide) rfl (fun ls hl => ?_)
                refine lv_goto (tgt := 15) xh bh dX9_between_187 (by decide) ?_
                exact ih_15 (j + 1) (va_up g2 ((11 * i) + j) v) (by omega) (by exact tabI_s (by omega) hb.1 hh hv) (by omega) _ _ ls hP hD hS (lv_sub hl [1, 2, 3, 4, 0] rfl)
              refine lv_iload xh bh dX9_between_24 (lv_at hl 3 rfl) ?_
              refine lv_iload xh bh dX9_between_26 (lv_at hl 4 rfl) ?_
              refine xn_iadd xh bh dX9_between_28 ?_
              refine lv_istore (lv' := [(7, .int (nI (i + j))), (0, .ref (a 0)), (1, .long (eR a1)), (3, .long (eR b1)), (5, .int (nI i)), (6, .int (nI j))]) xh bh dX9_between_29 hl (by decide) rfl (fun ls hl => ?_)
              refine lv_iload xh bh dX9_between_31 (lv_at hl 4 rfl) ?_
              refine xn_if_le (tgt := 169) xh bh dX9_between_33 (by decide) (by omega) (fun c_33 => ?_) (fun c_33 => ?_)
              · exact cut_169 (i + j) (by first | (rw [c_33, dis_i0]; omega) | (rw [c_38, dis_j0]; omega) | (rw [hw]; exact (dis_y c_33 c_38 c_136).symm) | (rw [hw]; exact (dis_n c_33 c_38 c_136).symm)) _ _ ls hP hD hS (lv_sub hl [1, 2, 3, 4, 5, 0] rfl)
              · refine lv_iload xh bh dX9_between_36 (lv_at hl 5 rfl) ?_
                refine xn_if_le (tgt := 169) xh bh dX9_between_38 (by decide) (by omega) (fun c_38 => ?_) (fun c_38 => ?_)
                · exact cut_169 (i + j) (by first | (rw [c_33, dis_i0]; omega) | (rw [c_38, dis_j0]; omega) | (rw [hw]; exact (dis_y c_33 c_38 c_136).symm) | (rw [hw]; exact (dis_n c_33 c_38 c_136).symm)) _ _ ls hP hD hS (lv_sub hl [1, 2, 3, 4, 5, 0] rfl)
                · refine lv_aload_n xh bh dX9_between_41 rfl (lv_at hl 1 rfl) ?_
                  refine va_get (D := D) (ci := 6) (v := .ref (a 13)) (C := RX9) (T := TX9) (N := 27) xh bh hts (fun _ h => List.mem_cons_of_mem _ (List.mem_append_right _ (h))) hown hK.1 hP 0 rfl rfl 16 (by decide) (hts _ (List.mem_of_getElem? (i := 1) rfl)) (fun _ h9 => h9) rfl dX9_between_42 ?_
                  refine lv_bipush (v := (nI 11)) xh bh dX9_between_45 (by decide) ?_
                  refine lv_iload xh bh dX9_between_47 (lv_at hl 4 rfl) ?_
                  refine xn_imul xh bh dX9_between_49 ?_
                  refine lv_bipush (v := (nI 11)) xh bh dX9_between_50 (by decide) ?_
                  refine xn_isub xh bh dX9_between_52 (by omega) ?_
                  refine lv_iload xh bh dX9_between_53 (lv_at hl 5 rfl) ?_
                  refine xn_iadd xh bh dX9_between_55 ?_
                  refine xa_iald xh bh hK.1 hP 1 0 rfl rfl (by omega) (by omega) dX9_between_56 ?_
                  refine W.eq (g2 := F0 mG 57 ls [.int (nI (g2 (((11 * i) - 11) + j)))]) rfl ?_
                  refine xw_topi (x := (nI (g2 (((11 * i) - 11) + j)))) (y := (nI (dis a1 b1 (i - 1) j))) (by rw [show 11 * i - 11 + j = 11 * (i - 1) + j by omega, hh.1 (i - 1) j (by omega) (by omega)]) ?_
                  refine lv_aload_n xh bh dX9_between_57 rfl (lv_at hl 1 rfl) ?_
                  refine va_get (D := D) (ci := 6) (v := .ref (a 13)) (C := RX9) (T := TX9) (N := 27) xh bh hts (fun _ h => List.mem_cons_of_mem _ (List.mem_append_right _ (h))) hown hK.1 hP 0 rfl rfl 16 (by decide) (hts _ (List.mem_of_getElem? (i := 1) rfl)) (fun _ h9 => h9) rfl dX9_between_58 ?_
                  refine lv_bipush (v := (nI 11)) xh bh dX9_between_61 (by decide) ?_
                  refine lv_iload xh bh dX9_between_63 (lv_at hl 4 rfl) ?_
                  refine xn_imul xh bh dX9_between_65 ?_
                  refine lv_iload xh bh dX9_between_66 (lv_at hl 5 rfl) ?_
                  refine xn_iadd xh bh dX9_between_68 ?_
                  refine lv_iconst (v := (nI 1)) xh bh dX9_between_69 (by decide) ?_
                  refine xn_isub xh bh dX9_between_70 (by omega) ?_
                  refine xa_iald xh bh hK.1 hP 1 0 rfl rfl (by omega) (by omega) dX9_between_71 ?_
                  refine W.eq (g2 := F0 mG 72 ls [.int (nI (g2 (((11 * i) + j) - 1))), .int (nI (dis a1 b1 (i - 1) j))]) rfl ?_
                  refine xw_topi (x := (nI (g2 (((11 * i) + j) - 1)))) (y := (nI (dis a1 b1 i (j - 1)))) (by rw [show 11 * i + j - 1 = 11 * i + (j - 1) by omega, hh.2 (j - 1) (by omega)]) ?_
                  have q1 : dis a1 b1 (i - 1) j ≤ 20 := dis_b (by omega) (by omega)
                  have q2 : dis a1 b1 i (j - 1) ≤ 20 := dis_b (by omega) (by omega)
                  have q3 : dis a1 b1 (i - 1) (j - 1) ≤ 20 := dis_b (by omega) (by omega)
                  refine Ct.callS0 (rest := []) xh bh hml hown hts hK hP hS hA (ct_X9_least l D cI cJ cB cZ cA (dis a1 b1 (i - 1) j) (dis a1 b1 i (j - 1)) (by first | assumption | omega) (by first | assumption | omega)) (va_cwS 2 hts gX9_between_X9_least rfl rfl rfl (by decide +kernel) ⟨Nat.le_of_ble_eq_true rfl, Nat.le_of_ble_eq_true rfl⟩) rfl rfl hl.1 (Nat.le_of_ble_eq_true rfl) dX9_between_72 ⟨Nat.le_refl _, Nat.le_refl _⟩ (fun _ H locs _ hP hS => ?_)
                  refine W.eq (g2 := F0 mG 75 ls [.int (nI (min (dis a1 b1 (i - 1) j) (dis a1 b1 i (j - 1))))]) rfl ?_
                  refine lv_iconst (v := (nI 1)) xh bh dX9_between_75 (by decide) ?_
                  refine xn_iadd xh bh dX9_between_76 ?_
                  refine lv_istore (lv' := [(7, .int (nI ((min (dis a1 b1 (i - 1) j) (dis a1 b1 i (j - 1))) + 1))), (0, .ref (a 0)), (1, .long (eR a1)), (3, .long (eR b1)), (5, .int (nI i)), (6, .int (nI j))]) xh bh dX9_between_77 hl (by decide) rfl (fun ls hl => ?_)
                  refine lv_iload xh bh dX9_between_79 (lv_at hl 0 rfl) ?_
                  refine lv_aload_n xh bh dX9_between_81 rfl (lv_at hl 1 rfl) ?_
                  refine va_get (D := D) (ci := 6) (v := .ref (a 13)) (C := RX9) (T := TX9) (N := 27) xh bh hts (fun _ h => List.mem_cons_of_mem _ (List.mem_append_right _ (h))) hown hK.1 hP 0 rfl rfl 16 (by decide) (hts _ (List.mem_of_getElem? (i := 1) rfl)) (fun _ h9 => h9) rfl dX9_between_82 ?_
                  refine lv_bipush (v := (nI 11)) xh bh dX9_between_85 (by decide) ?_
                  refine lv_iload xh bh dX9_between_87 (lv_at hl 4 rfl) ?_
                  refine xn_imul xh bh dX9_between_89 ?_
                  refine lv_iload xh bh dX9_between_90 (lv_at hl 5 rfl) ?_
                  refine xn_iadd xh bh dX9_between_92 ?_
                  refine lv_bipush (v := (nI 12)) xh bh dX9_between_93 (by decide) ?_
                  refine xn_isub xh bh dX9_between_95 (by omega) ?_
                  refine xa_iald xh bh hK.1 hP 1 0 rfl rfl (by omega) (by omega) dX9_between_96 ?_
                  refine W.eq (g2 := F0 mG 97 ls [.int (nI (g2 (((11 * i) + j) - 12))), .int (nI ((min (dis a1 b1 (i - 1) j) (dis a1 b1 i (j - 1))) + 1))]) rfl ?_
                  refine xw_topi (x := (nI (g2 (((11 * i) + j) - 12)))) (y := (nI (dis a1 b1 (i - 1) (j - 1)))) (by rw [show 11 * i + j - 12 = 11 * (i - 1) + (j - 1) by omega, hh.1 (i - 1) (j - 1) (by omega) (by omega)]) ?_
                  have cut_127 : ∀ (w : Nat), (w = disM a1 b1 i j) → ∀ (H : Heap) (locs : List Loc) (ls : Array Slot), va_P D vwCl [(a 0, .inr (6, [.ref (a 1), .ref (a 2), .int (nI hm), .int (nI un), .ref (a 3), .ref (a 4), .ref (a 5), .ref (a 6), .ref (a 7), .ref (a 8), .ref (a 9), .ref (a 10), .ref (a 11), .ref (a 12), .long fa, .long fb, .ref (a 13), .long (lN lx), .ref (a 14), .int (nI bl), .int (nI ta), .int (nI tl), .int (nI tk), .int (nI va), .ref (a 15), .ref (a 16), .ref (a 17)])), (a 13, .inl (cI, 121, .inl (fN g2)))] H → va_D AG [(a 0, .inr (6, [.ref (a 1), .ref (a 2), .int (nI hm), .int (nI un), .ref (a 3), .ref (a 4), .ref (a 5), .ref (a 6), .ref (a 7), .ref (a 8), .ref (a 9), .ref (a 10), .ref (a 11), .ref (a 12), .long fa, .long fb, .ref (a 13), .long (lN lx), .ref (a 14), .int (nI bl), .int (nI ta), .int (nI tl), .int (nI tk), .int (nI va), .ref (a 15), .ref (a 16), .ref (a 17)])), (a 13, .inl (cI, 121, .inl (fN g2)))] → va_S AG sG.heap H locs → lv_has ls 8 [(0, .ref (a 0)), (1, .long (eR a1)), (3, .long (eR b1)), (5, .int (nI i)), (6, .int (nI j)), (7, .int (nI w))] → W pG l eG ({ frames := 2, cells := 0, slots := 0, locals := 47 }) sG mG aG bG tG cG H locs 0 0 QG (F0 mG 127 ls []) := by
                    intro w hw H locs ls hP hD hS hl
                    refine lv_lload_n xh bh dX9_between_127 rfl (lv_at hl 1 rfl) ?_
                    refine lv_iload xh bh dX9_between_128 (lv_at hl 3 rfl) ?_
                    refine lv_lload_n xh bh dX9_between_130 rfl (lv_at hl 2 rfl) ?_
                    refine lv_iload xh bh dX9_between_131 (lv_at hl 4 rfl) ?_
                    refine Ct.callS0 (rest := []) xh bh hml hown hts hK hP hS hA (ct_X9_areTurned l D cI cJ cB cZ cA a1 i b1 j (by first | assumption | exact okT_nil) (by omega) (by first | assumption | exact okT_nil) (by omega)) (va_cwS 4 hts gX9_between_X9_areTurned rfl rfl rfl (by decide +kernel) ⟨Nat.le_of_ble_eq_true rfl, Nat.le_of_ble_eq_true rfl⟩) rfl rfl hl.1 (Nat.le_of_ble_eq_true rfl) dX9_between_133 ⟨Nat.le_refl _, Nat.le_refl _⟩ (fun _ H locs _ hP hS => ?_)
                    refine W.eq (g2 := F0 mG 136 ls [.int (ib (trnB a1 i b1 j))]) rfl ?_
                    refine xb_if_eq (tgt := 165) xh bh dX9_between_136 (by decide) (fun c_136 => ?_) (fun c_136 => ?_)
                    · refine lv_iload xh bh dX9_between_165 (lv_at hl 5 rfl) ?_
                      refine lv_istore (lv' := [(7, .int (nI w)), (0, .ref (a 0)), (1, .long (eR a1)), (3, .long (eR b1)), (5, .int (nI i)), (6, .int (nI j))]) xh bh dX9_between_167 hl (by decide) rfl (fun ls hl => ?_)
                      exact cut_169 w (by first | (rw [c_33, dis_i0]; omega) | (rw [c_38, dis_j0]; omega) | (rw [hw]; exact (dis_y c_33 c_38 c_136).symm) | (rw [hw]; exact (dis_n c_33 c_38 c_136).symm)) _ _ ls hP hD hS (lv_sub hl [1, 2, 3, 4, 5, 0] rfl)
                    · have q6 := of_decide_eq_true c_136
                      refine lv_iload xh bh dX9_between_139 (lv_at hl 5 rfl) ?_
                      refine lv_aload_n xh bh dX9_between_141 rfl (lv_at hl 0 rfl) ?_
                      refine va_get (D := D) (ci := 6) (v := .ref (a 13)) (C := RX9) (T := TX9) (N := 27) xh bh hts (fun _ h => List.mem_cons_of_mem _ (List.mem_append_right _ (h))) hown hK.1 hP 0 rfl rfl 16 (by decide) (hts _ (List.mem_of_getElem? (i := 1) rfl)) (fun _ h9 => h9) rfl dX9_between_142 ?_
                      refine lv_bipush (v := (nI 11)) xh bh dX9_between_145 (by decide) ?_
                      refine lv_iload xh bh dX9_between_147 (lv_at hl 3 rfl) ?_
                      refine xn_imul xh bh dX9_between_149 ?_
                      refine lv_iload xh bh dX9_between_150 (lv_at hl 4 rfl) ?_
                      refine xn_iadd xh bh dX9_between_152 ?_
                      refine lv_bipush (v := (nI 24)) xh bh dX9_between_153 (by decide) ?_
                      refine xn_isub xh bh dX9_between_155 (by omega) ?_
                      refine xa_iald xh bh hK.1 hP 1 0 rfl rfl (by omega) (by omega) dX9_between_156 ?_
                      refine W.eq (g2 := F0 mG 157 ls [.int (nI (g2 (((11 * i) + j) - 24))), .int (nI w)]) rfl ?_
                      refine xw_topi (x := (nI (g2 (((11 * i) + j) - 24)))) (y := (nI (dis a1 b1 (i - 2) (j - 2)))) (by rw [show 11 * i + j - 24 = 11 * (i - 2) + (j - 2) by omega, hh.1 (i - 2) (j - 2) (by omega) (by omega)]) ?_
                      have q4 : dis a1 b1 (i - 2) (j - 2) ≤ 20 := dis_b (by omega) (by omega)
                      refine lv_iconst (v := (nI 1)) xh bh dX9_between_157 (by decide) ?_
                      refine xn_iadd xh bh dX9_between_158 ?_
                      refine Ct.callS0 (rest := []) xh bh hml hown hts hK hP hS hA (ct_X9_least l D cI cJ cB cZ cA w ((dis a1 b1 (i - 2) (j - 2)) + 1) (by rw [hw]; unfold disM; omega) (by omega)) (va_cwS 2 hts gX9_between_X9_least rfl rfl rfl (by decide +kernel) ⟨Nat.le_of_ble_eq_true rfl, Nat.le_of_ble_eq_true rfl⟩) rfl rfl hl.1 (Nat.le_of_ble_eq_true rfl) dX9_between_159 ⟨Nat.le_refl _, Nat.le_refl _⟩ (fun _ H locs _ hP hS => ?_)
                      refine W.eq (g2 := F0 mG 162 ls [.int (nI (min w ((dis a1 b1 (i - 2) (j - 2)) + 1)))]) rfl ?_
                      refine lv_goto (tgt := 167) xh bh dX9_between_162 (by decide) ?_
                      refine lv_istore (lv' := [(7, .int (nI (min w ((dis a1 b1 (i - 2) (j - 2)) + 1)))), (0, .ref (a 0)), (1, .long (eR a1)), (3, .long (eR b1)), (5, .int (nI i)), (6, .int (nI j))]) xh bh dX9_between_167 hl (by decide) rfl (fun ls hl => ?_)
                      exact cut_169 (min w ((dis a1 b1 (i - 2) (j - 2)) + 1)) (by first | (rw [c_33, dis_i0]; omega) | (rw [c_38, dis_j0]; omega) | (rw [hw]; exact (dis_y c_33 c_38 c_136).symm) | (rw [hw]; exact (dis_n c_33 c_38 c_136).symm)) _ _ ls hP hD hS (lv_sub hl [1, 2, 3, 4, 5, 0] rfl)
                  refine lv_lload_n xh bh dX9_between_97 rfl (lv_at hl 2 rfl) ?_
                  refine lv_iload xh bh dX9_between_98 (lv_at hl 4 rfl) ?_
                  refine lv_iconst (v := (nI 1)) xh bh dX9_between_100 (by decide) ?_
                  refine xn_isub xh bh dX9_between_101 (by omega) ?_
                  refine Ct.callS0 (rest := [.int (nI (dis a1 b1 (i - 1) (j - 1))), .int (nI ((min (dis a1 b1 (i - 1) j) (dis a1 b1 i (j - 1))) + 1))]) xh bh hml hown hts hK hP hS hA (ct_X9_partOf l D cI cJ cB cZ cA a1 (i - 1) (by first | assumption | exact okT_nil) (by omega)) (va_cwS 2 hts gX9_between_X9_partOf rfl rfl rfl (by decide +kernel) ⟨Nat.le_of_ble_eq_true rfl, Nat.le_of_ble_eq_true rfl⟩) rfl rfl hl.1 (Nat.le_of_ble_eq_true rfl) dX9_between_102 ⟨Nat.le_refl _, Nat.le_refl _⟩ (fun _ H locs _ hP hS => ?_)
                  refine W.eq (g2 := F0 mG 105 ls [.int (nI (a1.getD (i - 1) 0)), .int (nI (dis a1 b1 (i - 1) (j - 1))), .int (nI ((min (dis a1 b1 (i - 1) j) (dis a1 b1 i (j - 1))) + 1))]) rfl ?_
                  refine lv_lload_n xh bh dX9_between_105 rfl (lv_at hl 3 rfl) ?_
                  refine lv_iload xh bh dX9_between_106 (lv_at hl 5 rfl) ?_
                  refine lv_iconst (v := (nI 1)) xh bh dX9_between_108 (by decide) ?_
                  refine xn_isub xh bh dX9_between_109 (by omega) ?_
                  refine Ct.callS0 (rest := [.int (nI (a1.getD (i - 1) 0)), .int (nI (dis a1 b1 (i - 1) (j - 1))), .int (nI ((min (dis a1 b1 (i - 1) j) (dis a1 b1 i (j - 1))) + 1))]) xh bh hml hown hts hK hP hS hA (ct_X9_partOf l D cI cJ cB cZ cA b1 (j - 1) (by first | assumption | exact okT_nil) (by omega)) (va_cwS 2 hts gX9_between_X9_partOf rfl rfl rfl (by decide +kernel) ⟨Nat.le_of_ble_eq_true rfl, Nat.le_of_ble_eq_true rfl⟩) rfl rfl hl.1 (Nat.le_of_ble_eq_true rfl) dX9_between_110 ⟨Nat.le_refl _, Nat.le_refl _⟩ (fun _ H locs _ hP hS => ?_)
                  refine W.eq (g2 := F0 mG 113 ls [.int (nI (b1.getD (j - 1) 0)), .int (nI (a1.getD (i - 1) 0)), .int (nI (dis a1 b1 (i - 1) (j - 1))), .int (nI ((min (dis a1 b1 (i - 1) j) (dis a1 b1 i (j - 1))) + 1))]) rfl ?_
                  refine xn_icmp_ne (tgt := 120) xh bh dX9_between_113 (by decide) (by first | exact Nat.lt_trans (ha.getD _) (by decide) | exact Nat.lt_trans (hb.getD _) (by decide)) (by first | exact Nat.lt_trans (ha.getD _) (by decide) | exact Nat.lt_trans (hb.getD _) (by decide)) (fun c_113 => ?_) (fun c_113 => ?_)
                  · refine lv_iconst (v := (nI 1)) xh bh dX9_between_120 (by decide) ?_
                    refine xn_iadd xh bh dX9_between_121 ?_
                    refine Ct.callS0 (rest := []) xh bh hml hown hts hK hP hS hA (ct_X9_least l D cI cJ cB cZ cA ((min (dis a1 b1 (i - 1) j) (dis a1 b1 i (j - 1))) + 1) ((dis a1 b1 (i - 1) (j - 1)) + 1) (by first | assumption | omega) (by first | assumption | omega)) (va_cwS 2 hts gX9_between_X9_least rfl rfl rfl (by decide +kernel) ⟨Nat.le_of_ble_eq_true rfl, Nat.le_of_ble_eq_true rfl⟩) rfl rfl hl.1 (Nat.le_of_ble_eq_true rfl) dX9_between_122 ⟨Nat.le_refl _, Nat.le_refl _⟩ (fun _ H locs _ hP hS => ?_)
                    refine W.eq (g2 := F0 mG 125 ls [.int (nI (min ((min (dis a1 b1 (i - 1) j) (dis a1 b1 i (j - 1))) + 1) ((dis a1 b1 (i - 1) (j - 1)) + 1)))]) rfl ?_
                    refine lv_istore (lv' := [(7, .int (nI (min ((min (dis a1 b1 (i - 1) j) (dis a1 b1 i (j - 1))) + 1) ((dis a1 b1 (i - 1) (j - 1)) + 1)))), (0, .ref (a 0)), (1, .long (eR a1)), (3, .long (eR b1)), (5, .int (nI i)), (6, .int (nI j))]) xh bh dX9_between_125 hl (by decide) rfl (fun ls hl => ?_)
                    exact cut_127 (min ((min (dis a1 b1 (i - 1) j) (dis a1 b1 i (j - 1))) + 1) ((dis a1 b1 (i - 1) (j - 1)) + 1)) (by first | exact (disM_c0 c_113).symm | exact (disM_c1 c_113).symm) _ _ ls hP hD hS (lv_sub hl [1, 2, 3, 4, 5, 0] rfl)
                  · refine lv_iconst (v := (nI 0)) xh bh dX9_between_116 (by decide) ?_
                    refine lv_goto (tgt := 121) xh bh dX9_between_117 (by decide) ?_
                    refine xn_iadd xh bh dX9_between_121 ?_
                    refine Ct.callS0 (rest := []) xh bh hml hown hts hK hP hS hA (ct_X9_least l D cI cJ cB cZ cA ((min (dis a1 b1 (i - 1) j) (dis a1 b1 i (j - 1))) + 1) ((dis a1 b1 (i - 1) (j - 1)) + 0) (by first | assumption | omega) (by first | assumption | omega)) (va_cwS 2 hts gX9_between_X9_least rfl rfl rfl (by decide +kernel) ⟨Nat.le_of_ble_eq_true rfl, Nat.le_of_ble_eq_true rfl⟩) rfl rfl hl.1 (Nat.le_of_ble_eq_true rfl) dX9_between_122 ⟨Nat.le_refl _, Nat.le_refl _⟩ (fun _ H locs _ hP hS => ?_)
                    refine W.eq (g2 := F0 mG 125 ls [.int (nI (min ((min (dis a1 b1 (i - 1) j) (dis a1 b1 i (j - 1))) + 1) ((dis a1 b1 (i - 1) (j - 1)) + 0)))]) rfl ?_
                    refine lv_istore (lv' := [(7, .int (nI (min ((min (dis a1 b1 (i - 1) j) (dis a1 b1 i (j - 1))) + 1) ((dis a1 b1 (i - 1) (j - 1)) + 0)))), (0, .ref (a 0)), (1, .long (eR a1)), (3, .long (eR b1)), (5, .int (nI i)), (6, .int (nI j))]) xh bh dX9_between_125 hl (by decide) rfl (fun ls hl => ?_)
                    exact cut_127 (min ((min (dis a1 b1 (i - 1) j) (dis a1 b1 i (j - 1))) + 1) ((dis a1 b1 (i - 1) (j - 1)) + 0)) (by first | exact (disM_c0 c_113).symm | exact (disM_c1 c_113).symm) _ _ ls hP hD hS (lv_sub hl [1, 2, 3, 4, 5, 0] rfl)
        exact cut_15 (b1.length + 1 - 0 + 1) 0 g1 (by exact Nat.zero_le _) (by exact hg) (Nat.lt_succ_self _) _ _ ls hP hD hS (lv_sub hl [1, 2, 3, 4, 0] rfl)
  exact cut_3 (a1.length + 1 - 0 + 1) 0 tb (by exact Nat.zero_le _) (by exact ⟨fun x y q => absurd q (Nat.not_lt_zero _), fun y q => absurd q (Nat.not_lt_zero _)⟩) (Nat.lt_succ_self _) _ _ ls hP hD hS (lv_sub hl [1, 2, 3, 0] rfl)

set_option maxHeartbeats 1000000 in
set_option maxRecDepth 100000 in
theorem ct_X9_apart (l : Launch) (D : va_G) (cI cJ cB cZ cA : ClassId) (a : Nat → Nat) (T : Nat → List Nat) (rf : Nat → Int32) (tb : Nat → Nat) (hm : Nat) (un : Nat) (fa : Int64) (fb : Int64) (lx : Nat) (bl : Nat) (ta : Nat) (tl : Nat) (tk : Nat) (va : Nat) (x : Int32) (y : Int32) (hT : ∀ k, okT (T k)) : Ct l yX9_apart wsX9_apart ({ frames := 3, cells := 0, slots := 0, locals := 74 }) D (tysG cI cJ cB cZ cA) [.ref (a 0), .int x, .int y] [(a 0, .inr (6, [.ref (a 1), .ref (a 2), .int (nI hm), .int (nI un), .ref (a 3), .ref (a 4), .ref (a 5), .ref (a 6), .ref (a 7), .ref (a 8), .ref (a 9), .ref (a 10), .ref (a 11), .ref (a 12), .long fa, .long fb, .ref (a 13), .long (lN lx), .ref (a 14), .int (nI bl), .int (nI ta), .int (nI tl), .int (nI tk), .int (nI va), .ref (a 15), .ref (a 16), .ref (a 17)])), (a 1, .inl (cJ, 9, .inr (.inl (fR T)))), (a 12, .inl (cI, 3, .inl rf)), (a 13, .inl (cI, 121, .inl (fN tb)))] (fun (u : Nat → Nat) => True) (fun u => some (.int (eApart (kTwo x y) (dsT (T (xN x)) (T (xN y)))))) (fun u => [(a 0, .inr (6, [.ref (a 1), .ref (a 2), .int (nI hm), .int (nI un), .ref (a 3), .ref (a 4), .ref (a 5), .ref (a 6), .ref (a 7), .ref (a 8), .ref (a 9), .ref (a 10), .ref (a 11), .ref (a 12), .long fa, .long fb, .ref (a 13), .long (lN lx), .ref (a 14), .int (nI bl), .int (nI ta), .int (nI tl), .int (nI tk), .int (nI va), .ref (a 15), .ref (a 16), .ref (a 17)])), (a 1, .inl (cJ, 9, .inr (.inl (fR T)))), (a 12, .inl (cI, 3, .inl (rfU (kTwo x y) rf))), (a 13, .inl (cI, 121, .inl (fN u)))]) := by
  refine Ct.ofI (cc := cX9_apart) (maxL := 3) (by decide) rfl (Nat.le_of_ble_eq_true rfl) ?_
  intro pG eG sG mG aG bG tG cG AG QG ls xh bh hml hown hts hK hP hD hS hA hend hl
  have hl : lv_has ls 3 [(0, .ref (a 0)), (1, .int x), (2, .int y)] := hl
  refine lv_iload_n xh bh dX9_apart_0 rfl (lv_at hl 1 rfl) ?_
  refine Ct.callS0 (rest := []) xh bh hml hown hts hK hP hS hA (ct_X9_isBranch l D cI cJ cB cZ cA x ) (va_cwS 1 hts gX9_apart_X9_isBranch rfl rfl rfl (by decide +kernel) ⟨Nat.le_of_ble_eq_true rfl, Nat.le_of_ble_eq_true rfl⟩) rfl rfl hl.1 (Nat.le_of_ble_eq_true rfl) dX9_apart_1 ⟨Nat.le_refl _, Nat.le_refl _⟩ (fun _ H locs _ hP hS => ?_)
  refine W.eq (g2 := F0 mG 4 ls [.int (ib (upB x 7))]) rfl ?_
  refine xb_if_eq (tgt := 33) xh bh dX9_apart_4 (by decide) (fun c_4 => ?_) (fun c_4 => ?_)
  · have hk : kTwo x y = 0 := if_neg (fun q => by rw [c_4] at q; exact absurd q.1 (by decide))
    refine lv_aload_n xh bh dX9_apart_33 rfl (lv_at hl 0 rfl) ?_
    refine lv_bipush (v := (-2)) xh bh dX9_apart_34 (by decide) ?_
    refine Ct.callV (As := [.int (-2)]) (rest := []) (wr := [(a 1, .inl (cJ, 9, .inr (.inl (fR T)))), (a 13, .inl (cI, 121, .inl (fN tb)))]) xh bh hml hown hts hK hP hD hS hA (ct_X9_bad l D cI cJ cB cZ cA a rf hm un fa fb lx bl ta tl tk va (-2) ) (cwV 1 hts gX9_apart_X9_bad rfl rfl rfl (by decide +kernel) ⟨Nat.le_of_ble_eq_true rfl, Nat.le_of_ble_eq_true rfl⟩) rfl rfl hl.1 (Nat.le_of_ble_eq_true rfl) dX9_apart_36 ⟨Nat.le_refl _, Nat.le_refl _⟩ 0 6 rfl rfl rfl [0, 2] [1, 3] rfl (by decide) rfl rfl (by decide) (by decide) (fun _ H locs _ hP hD hS => ?_)
    have hP : va_P D vwCl [(a 1, .inl (cJ, 9, .inr (.inl (fR T)))), (a 13, .inl (cI, 121, .inl (fN tb))), (a 0, .inr (6, [.ref (a 1), .ref (a 2), .int (nI hm), .int (nI un), .ref (a 3), .ref (a 4), .ref (a 5), .ref (a 6), .ref (a 7), .ref (a 8), .ref (a 9), .ref (a 10), .ref (a 11), .ref (a 12), .long fa, .long fb, .ref (a 13), .long (lN lx), .ref (a 14), .int (nI bl), .int (nI ta), .int (nI tl), .int (nI tk), .int (nI va), .ref (a 15), .ref (a 16), .ref (a 17)])), (a 12, .inl (cI, 3, .inl (upd rf 0 ((rf 0) + nI 1))))] H := hP
    have hD : va_D AG [(a 1, .inl (cJ, 9, .inr (.inl (fR T)))), (a 13, .inl (cI, 121, .inl (fN tb))), (a 0, .inr (6, [.ref (a 1), .ref (a 2), .int (nI hm), .int (nI un), .ref (a 3), .ref (a 4), .ref (a 5), .ref (a 6), .ref (a 7), .ref (a 8), .ref (a 9), .ref (a 10), .ref (a 11), .ref (a 12), .long fa, .long fb, .ref (a 13), .long (lN lx), .ref (a 14), .int (nI bl), .int (nI ta), .int (nI tl), .int (nI tk), .int (nI va), .ref (a 15), .ref (a 16), .ref (a 17)])), (a 12, .inl (cI, 3, .inl (upd rf 0 ((rf 0) + nI 1))))] := hD
    refine W.eq (g2 := F0 mG 39 ls [.int (-2)]) rfl ?_
    exact hend (-2) tb _ _ _ _ (congrArg (fun z => some (Value.int z)) (by rw [hk]; first | rfl | (rw [xN_nI (by omega), xN_nI (by omega)]; rfl))) trivial rfl dX9_apart_39 (by rw [hk]; exact (hP.sub [2, 0, 3, 1] rfl)) (by rw [hk]; exact (hD.sub [2, 0, 3, 1] (by decide) rfl)) hS
  · refine lv_iload_n xh bh dX9_apart_7 rfl (lv_at hl 2 rfl) ?_
    refine Ct.callS0 (rest := []) xh bh hml hown hts hK hP hS hA (ct_X9_isBranch l D cI cJ cB cZ cA y ) (va_cwS 1 hts gX9_apart_X9_isBranch rfl rfl rfl (by decide +kernel) ⟨Nat.le_of_ble_eq_true rfl, Nat.le_of_ble_eq_true rfl⟩) rfl rfl hl.1 (Nat.le_of_ble_eq_true rfl) dX9_apart_8 ⟨Nat.le_refl _, Nat.le_refl _⟩ (fun _ H locs _ hP hS => ?_)
    refine W.eq (g2 := F0 mG 11 ls [.int (ib (upB y 7))]) rfl ?_
    refine xb_if_eq (tgt := 33) xh bh dX9_apart_11 (by decide) (fun c_11 => ?_) (fun c_11 => ?_)
    · have hk : kTwo x y = 0 := if_neg (fun q => by rw [c_11] at q; exact absurd q.2 (by decide))
      refine lv_aload_n xh bh dX9_apart_33 rfl (lv_at hl 0 rfl) ?_
      refine lv_bipush (v := (-2)) xh bh dX9_apart_34 (by decide) ?_
      refine Ct.callV (As := [.int (-2)]) (rest := []) (wr := [(a 1, .inl (cJ, 9, .inr (.inl (fR T)))), (a 13, .inl (cI, 121, .inl (fN tb)))]) xh bh hml hown hts hK hP hD hS hA (ct_X9_bad l D cI cJ cB cZ cA a rf hm un fa fb lx bl ta tl tk va (-2) ) (cwV 1 hts gX9_apart_X9_bad rfl rfl rfl (by decide +kernel) ⟨Nat.le_of_ble_eq_true rfl, Nat.le_of_ble_eq_true rfl⟩) rfl rfl hl.1 (Nat.le_of_ble_eq_true rfl) dX9_apart_36 ⟨Nat.le_refl _, Nat.le_refl _⟩ 0 6 rfl rfl rfl [0, 2] [1, 3] rfl (by decide) rfl rfl (by decide) (by decide) (fun _ H locs _ hP hD hS => ?_)
      have hP : va_P D vwCl [(a 1, .inl (cJ, 9, .inr (.inl (fR T)))), (a 13, .inl (cI, 121, .inl (fN tb))), (a 0, .inr (6, [.ref (a 1), .ref (a 2), .int (nI hm), .int (nI un), .ref (a 3), .ref (a 4), .ref (a 5), .ref (a 6), .ref (a 7), .ref (a 8), .ref (a 9), .ref (a 10), .ref (a 11), .ref (a 12), .long fa, .long fb, .ref (a 13), .long (lN lx), .ref (a 14), .int (nI bl), .int (nI ta), .int (nI tl), .int (nI tk), .int (nI va), .ref (a 15), .ref (a 16), .ref (a 17)])), (a 12, .inl (cI, 3, .inl (upd rf 0 ((rf 0) + nI 1))))] H := hP
      have hD : va_D AG [(a 1, .inl (cJ, 9, .inr (.inl (fR T)))), (a 13, .inl (cI, 121, .inl (fN tb))), (a 0, .inr (6, [.ref (a 1), .ref (a 2), .int (nI hm), .int (nI un), .ref (a 3), .ref (a 4), .ref (a 5), .ref (a 6), .ref (a 7), .ref (a 8), .ref (a 9), .ref (a 10), .ref (a 11), .ref (a 12), .long fa, .long fb, .ref (a 13), .long (lN lx), .ref (a 14), .int (nI bl), .int (nI ta), .int (nI tl), .int (nI tk), .int (nI va), .ref (a 15), .ref (a 16), .ref (a 17)])), (a 12, .inl (cI, 3, .inl (upd rf 0 ((rf 0) + nI 1))))] := hD
      refine W.eq (g2 := F0 mG 39 ls [.int (-2)]) rfl ?_
      exact hend (-2) tb _ _ _ _ (congrArg (fun z => some (Value.int z)) (by rw [hk]; first | rfl | (rw [xN_nI (by omega), xN_nI (by omega)]; rfl))) trivial rfl dX9_apart_39 (by rw [hk]; exact (hP.sub [2, 0, 3, 1] rfl)) (by rw [hk]; exact (hD.sub [2, 0, 3, 1] (by decide) rfl)) hS
    · have hk : kTwo x y = 3 := if_pos ⟨c_4, c_11⟩
      obtain ⟨k, hk9, rfl⟩ := upB_of (by decide) c_4
      obtain ⟨k2, hk8, rfl⟩ := upB_of (by decide) c_11
      refine lv_aload_n xh bh dX9_apart_14 rfl (lv_at hl 0 rfl) ?_
      refine lv_aload_n xh bh dX9_apart_15 rfl (lv_at hl 0 rfl) ?_
      refine va_get (D := D) (ci := 6) (v := .ref (a 1)) (C := RX9) (T := TX9) (N := 27) xh bh hts (fun _ h => List.mem_cons_of_mem _ (List.mem_append_right _ (h))) hown hK.1 hP 0 rfl rfl 0 (by decide) (hts _ (List.mem_of_getElem? (i := 1) rfl)) (fun _ h9 => h9) rfl dX9_apart_16 ?_
      refine lv_iload_n xh bh dX9_apart_19 rfl (lv_at hl 1 rfl) ?_
      refine xa_lald xh bh hK.1 hP 1 1 rfl rfl (by omega) (by omega) dX9_apart_20 ?_
      refine W.eq (g2 := F0 mG 21 ls [.long (eR (T k)), .ref (a 0)]) rfl ?_
      refine lv_aload_n xh bh dX9_apart_21 rfl (lv_at hl 0 rfl) ?_
      refine va_get (D := D) (ci := 6) (v := .ref (a 1)) (C := RX9) (T := TX9) (N := 27) xh bh hts (fun _ h => List.mem_cons_of_mem _ (List.mem_append_right _ (h))) hown hK.1 hP 0 rfl rfl 0 (by decide) (hts _ (List.mem_of_getElem? (i := 1) rfl)) (fun _ h9 => h9) rfl dX9_apart_22 ?_
      refine lv_iload_n xh bh dX9_apart_25 rfl (lv_at hl 2 rfl) ?_
      refine xa_lald xh bh hK.1 hP 1 1 rfl rfl (by omega) (by omega) dX9_apart_26 ?_
      refine W.eq (g2 := F0 mG 27 ls [.long (eR (T k2)), .long (eR (T k)), .ref (a 0)]) rfl ?_
      refine Ct.callV (As := [.long (eR (T k)), .long (eR (T k2))]) (rest := []) (wr := [(a 1, .inl (cJ, 9, .inr (.inl (fR T)))), (a 12, .inl (cI, 3, .inl rf))]) xh bh hml hown hts hK hP hD hS hA (ct_X9_between l D cI cJ cB cZ cA a tb hm un fa fb lx bl ta tl tk va (T k) (T k2) (by exact hT _) (by exact hT _)) (cwV 2 hts gX9_apart_X9_between rfl rfl rfl (by decide +kernel) ⟨Nat.le_of_ble_eq_true rfl, Nat.le_of_ble_eq_true rfl⟩) rfl rfl hl.1 (Nat.le_of_ble_eq_true rfl) dX9_apart_27 ⟨Nat.le_refl _, Nat.le_refl _⟩ 0 6 rfl rfl rfl [0, 3] [1, 2] rfl (by decide) rfl rfl (by decide) (by decide) (fun u_27 H locs hu_27 hP hD hS => ?_)
      have hP : va_P D vwCl [(a 1, .inl (cJ, 9, .inr (.inl (fR T)))), (a 12, .inl (cI, 3, .inl rf)), (a 0, .inr (6, [.ref (a 1), .ref (a 2), .int (nI hm), .int (nI un), .ref (a 3), .ref (a 4), .ref (a 5), .ref (a 6), .ref (a 7), .ref (a 8), .ref (a 9), .ref (a 10), .ref (a 11), .ref (a 12), .long fa, .long fb, .ref (a 13), .long (lN lx), .ref (a 14), .int (nI bl), .int (nI ta), .int (nI tl), .int (nI tk), .int (nI va), .ref (a 15), .ref (a 16), .ref (a 17)])), (a 13, .inl (cI, 121, .inl (fN u_27)))] H := hP
      have hD : va_D AG [(a 1, .inl (cJ, 9, .inr (.inl (fR T)))), (a 12, .inl (cI, 3, .inl rf)), (a 0, .inr (6, [.ref (a 1), .ref (a 2), .int (nI hm), .int (nI un), .ref (a 3), .ref (a 4), .ref (a 5), .ref (a 6), .ref (a 7), .ref (a 8), .ref (a 9), .ref (a 10), .ref (a 11), .ref (a 12), .long fa, .long fb, .ref (a 13), .long (lN lx), .ref (a 14), .int (nI bl), .int (nI ta), .int (nI tl), .int (nI tk), .int (nI va), .ref (a 15), .ref (a 16), .ref (a 17)])), (a 13, .inl (cI, 121, .inl (fN u_27)))] := hD
      refine W.eq (g2 := F0 mG 30 ls [.int (nI (dsT (T k) (T k2)))]) rfl ?_
      refine lv_goto (tgt := 39) xh bh dX9_apart_30 (by decide) ?_
      exact hend (nI (dsT (T k) (T k2))) u_27 _ _ _ _ (congrArg (fun z => some (Value.int z)) (by rw [hk]; first | rfl | (rw [xN_nI (by omega), xN_nI (by omega)]; rfl))) trivial rfl dX9_apart_39 (by rw [hk]; exact (hP.sub [2, 0, 1, 3] rfl)) (by rw [hk]; exact (hD.sub [2, 0, 1, 3] (by decide) rfl)) hS

set_option maxHeartbeats 1000000 in
set_option maxRecDepth 100000 in
theorem ct_X9_older (l : Launch) (D : va_G) (cI cJ cB cZ cA : ClassId) (a : Nat → Nat) (T : Nat → List Nat) (rf : Nat → Int32) (hm : Nat) (un : Nat) (fa : Int64) (fb : Int64) (lx : Nat) (bl : Nat) (ta : Nat) (tl : Nat) (tk : Nat) (va : Nat) (x : Int32) (y : Int32) (hT : ∀ k, okT (T k)) : Ct l yX9_older wsX9_older ({ frames := 2, cells := 0, slots := 0, locals := 45 }) D (tysG cI cJ cB cZ cA) [.ref (a 0), .int x, .int y] [(a 0, .inr (6, [.ref (a 1), .ref (a 2), .int (nI hm), .int (nI un), .ref (a 3), .ref (a 4), .ref (a 5), .ref (a 6), .ref (a 7), .ref (a 8), .ref (a 9), .ref (a 10), .ref (a 11), .ref (a 12), .long fa, .long fb, .ref (a 13), .long (lN lx), .ref (a 14), .int (nI bl), .int (nI ta), .int (nI tl), .int (nI tk), .int (nI va), .ref (a 15), .ref (a 16), .ref (a 17)])), (a 1, .inl (cJ, 9, .inr (.inl (fR T)))), (a 12, .inl (cI, 3, .inl rf))] (fun (_ : Unit) => True) (fun _ => some (.int (eOld (kTwo x y) (oldN (unT' (T (xN x))) (unT' (T (xN y))) (T (xN x)).length (T (xN y)).length)))) (fun _ => [(a 0, .inr (6, [.ref (a 1), .ref (a 2), .int (nI hm), .int (nI un), .ref (a 3), .ref (a 4), .ref (a 5), .ref (a 6), .ref (a 7), .ref (a 8), .ref (a 9), .ref (a 10), .ref (a 11), .ref (a 12), .long fa, .long fb, .ref (a 13), .long (lN lx), .ref (a 14), .int (nI bl), .int (nI ta), .int (nI tl), .int (nI tk), .int (nI va), .ref (a 15), .ref (a 16), .ref (a 17)])), (a 1, .inl (cJ, 9, .inr (.inl (fR T)))), (a 12, .inl (cI, 3, .inl (rfU (kTwo x y) rf)))]) := by
  refine Ct.ofI (cc := cX9_older) (maxL := 4) (by decide) rfl (Nat.le_of_ble_eq_true rfl) ?_
  intro pG eG sG mG aG bG tG cG AG QG ls xh bh hml hown hts hK hP hD hS hA hend hl
  have hl : lv_has ls 4 [(0, .ref (a 0)), (1, .int x), (2, .int y)] := hl
  refine lv_iload_n xh bh dX9_older_0 rfl (lv_at hl 1 rfl) ?_
  refine Ct.callS0 (rest := []) xh bh hml hown hts hK hP hS hA (ct_X9_isBranch l D cI cJ cB cZ cA x ) (va_cwS 1 hts gX9_older_X9_isBranch rfl rfl rfl (by decide +kernel) ⟨Nat.le_of_ble_eq_true rfl, Nat.le_of_ble_eq_true rfl⟩) rfl rfl hl.1 (Nat.le_of_ble_eq_true rfl) dX9_older_1 ⟨Nat.le_refl _, Nat.le_refl _⟩ (fun _ H locs _ hP hS => ?_)
  refine W.eq (g2 := F0 mG 4 ls [.int (ib (upB x 7))]) rfl ?_
  refine xb_if_eq (tgt := 14) xh bh dX9_older_4 (by decide) (fun c_4 => ?_) (fun c_4 => ?_)
  · have hk : kTwo x y = 0 := if_neg (fun q => by rw [c_4] at q; exact absurd q.1 (by decide))
    refine lv_aload_n xh bh dX9_older_14 rfl (lv_at hl 0 rfl) ?_
    refine lv_bipush (v := (-2)) xh bh dX9_older_15 (by decide) ?_
    refine Ct.callV (As := [.int (-2)]) (rest := []) (wr := [(a 1, .inl (cJ, 9, .inr (.inl (fR T))))]) xh bh hml hown hts hK hP hD hS hA (ct_X9_bad l D cI cJ cB cZ cA a rf hm un fa fb lx bl ta tl tk va (-2) ) (cwV 1 hts gX9_older_X9_bad rfl rfl rfl (by decide +kernel) ⟨Nat.le_of_ble_eq_true rfl, Nat.le_of_ble_eq_true rfl⟩) rfl rfl hl.1 (Nat.le_of_ble_eq_true rfl) dX9_older_17 ⟨Nat.le_refl _, Nat.le_refl _⟩ 0 6 rfl rfl rfl [0, 2] [1] rfl (by decide) rfl rfl (by decide) (by decide) (fun _ H locs _ hP hD hS => ?_)
    have hP : va_P D vwCl [(a 1, .inl (cJ, 9, .inr (.inl (fR T)))), (a 0, .inr (6, [.ref (a 1), .ref (a 2), .int (nI hm), .int (nI un), .ref (a 3), .ref (a 4), .ref (a 5), .ref (a 6), .ref (a 7), .ref (a 8), .ref (a 9), .ref (a 10), .ref (a 11), .ref (a 12), .long fa, .long fb, .ref (a 13), .long (lN lx), .ref (a 14), .int (nI bl), .int (nI ta), .int (nI tl), .int (nI tk), .int (nI va), .ref (a 15), .ref (a 16), .ref (a 17)])), (a 12, .inl (cI, 3, .inl (upd rf 0 ((rf 0) + nI 1))))] H := hP
    have hD : va_D AG [(a 1, .inl (cJ, 9, .inr (.inl (fR T)))), (a 0, .inr (6, [.ref (a 1), .ref (a 2), .int (nI hm), .int (nI un), .ref (a 3), .ref (a 4), .ref (a 5), .ref (a 6), .ref (a 7), .ref (a 8), .ref (a 9), .ref (a 10), .ref (a 11), .ref (a 12), .long fa, .long fb, .ref (a 13), .long (lN lx), .ref (a 14), .int (nI bl), .int (nI ta), .int (nI tl), .int (nI tk), .int (nI va), .ref (a 15), .ref (a 16), .ref (a 17)])), (a 12, .inl (cI, 3, .inl (upd rf 0 ((rf 0) + nI 1))))] := hD
    refine W.eq (g2 := F0 mG 20 ls [.int (-2)]) rfl ?_
    exact hend (-2) () _ _ _ _ (congrArg (fun z => some (Value.int z)) (by rw [hk]; rfl)) trivial rfl dX9_older_20 (by rw [hk]; exact (hP.sub [1, 0, 2] rfl)) (by rw [hk]; exact (hD.sub [1, 0, 2] (by decide) rfl)) hS
  · refine lv_iload_n xh bh dX9_older_7 rfl (lv_at hl 2 rfl) ?_
    refine Ct.callS0 (rest := []) xh bh hml hown hts hK hP hS hA (ct_X9_isBranch l D cI cJ cB cZ cA y ) (va_cwS 1 hts gX9_older_X9_isBranch rfl rfl rfl (by decide +kernel) ⟨Nat.le_of_ble_eq_true rfl, Nat.le_of_ble_eq_true rfl⟩) rfl rfl hl.1 (Nat.le_of_ble_eq_true rfl) dX9_older_8 ⟨Nat.le_refl _, Nat.le_refl _⟩ (fun _ H locs _ hP hS => ?_)
    refine W.eq (g2 := F0 mG 11 ls [.int (ib (upB y 7))]) rfl ?_
    refine xb_if_ne (tgt := 21) xh bh dX9_older_11 (by decide) (fun c_11 => ?_) (fun c_11 => ?_)
    · have hk : kTwo x y = 3 := if_pos ⟨c_4, c_11⟩
      obtain ⟨k, hk9, rfl⟩ := upB_of (by decide) c_4
      obtain ⟨k2, hk8, rfl⟩ := upB_of (by decide) c_11
      have b1 := (hT k).1
      have b2 := (hT k2).1
      have b3 := popN_le (kN (T k))
      have b4 := popN_le (kN (T k2))
      refine lv_aload_n xh bh dX9_older_21 rfl (lv_at hl 0 rfl) ?_
      refine va_get (D := D) (ci := 6) (v := .ref (a 1)) (C := RX9) (T := TX9) (N := 27) xh bh hts (fun _ h => List.mem_cons_of_mem _ (List.mem_append_right _ (h))) hown hK.1 hP 0 rfl rfl 0 (by decide) (hts _ (List.mem_of_getElem? (i := 1) rfl)) (fun _ h9 => h9) rfl dX9_older_22 ?_
      refine lv_iload_n xh bh dX9_older_25 rfl (lv_at hl 1 rfl) ?_
      refine xa_lald xh bh hK.1 hP 1 1 rfl rfl (by omega) (by omega) dX9_older_26 ?_
      refine W.eq (g2 := F0 mG 27 ls [.long (eR (T k))]) rfl ?_
      refine Ct.callS0 (rest := []) xh bh hml hown hts hK hP hS hA (ct_X9_unlike l D cI cJ cB cZ cA (T k) (by exact hT _)) (va_cwS 1 hts gX9_older_X9_unlike rfl rfl rfl (by decide +kernel) ⟨Nat.le_of_ble_eq_true rfl, Nat.le_of_ble_eq_true rfl⟩) rfl rfl hl.1 (Nat.le_of_ble_eq_true rfl) dX9_older_27 ⟨Nat.le_refl _, Nat.le_refl _⟩ (fun _ H locs _ hP hS => ?_)
      refine W.eq (g2 := F0 mG 30 ls [.int (nI (popN (kN (T k))))]) rfl ?_
      refine lv_aload_n xh bh dX9_older_30 rfl (lv_at hl 0 rfl) ?_
      refine va_get (D := D) (ci := 6) (v := .ref (a 1)) (C := RX9) (T := TX9) (N := 27) xh bh hts (fun _ h => List.mem_cons_of_mem _ (List.mem_append_right _ (h))) hown hK.1 hP 0 rfl rfl 0 (by decide) (hts _ (List.mem_of_getElem? (i := 1) rfl)) (fun _ h9 => h9) rfl dX9_older_31 ?_
      refine lv_iload_n xh bh dX9_older_34 rfl (lv_at hl 2 rfl) ?_
      refine xa_lald xh bh hK.1 hP 1 1 rfl rfl (by omega) (by omega) dX9_older_35 ?_
      refine W.eq (g2 := F0 mG 36 ls [.long (eR (T k2)), .int (nI (popN (kN (T k))))]) rfl ?_
      refine Ct.callS0 (rest := [.int (nI (popN (kN (T k))))]) xh bh hml hown hts hK hP hS hA (ct_X9_unlike l D cI cJ cB cZ cA (T k2) (by exact hT _)) (va_cwS 1 hts gX9_older_X9_unlike rfl rfl rfl (by decide +kernel) ⟨Nat.le_of_ble_eq_true rfl, Nat.le_of_ble_eq_true rfl⟩) rfl rfl hl.1 (Nat.le_of_ble_eq_true rfl) dX9_older_36 ⟨Nat.le_refl _, Nat.le_refl _⟩ (fun _ H locs _ hP hS => ?_)
      refine W.eq (g2 := F0 mG 39 ls [.int (nI (popN (kN (T k2)))), .int (nI (popN (kN (T k))))]) rfl ?_
      refine lv_isub xh bh dX9_older_39 ?_
      refine lv_topi (fun v_40 ev_40 => ?_)
      refine lv_istore_n (lv' := [(3, .int v_40), (0, .ref (a 0)), (1, .int (nI k)), (2, .int (nI k2))]) xh bh dX9_older_40 rfl hl (by decide) rfl (fun ls hl => ?_)
      have b5 : popN (kN (T k)) < 1073741824 := Nat.lt_of_le_of_lt b3 (by decide)
      have b6 : popN (kN (T k2)) < 1073741824 := Nat.lt_of_le_of_lt b4 (by decide)
      have s1 := sgE ev_40 b5 b6
      refine lv_iload_n xh bh dX9_older_41 rfl (lv_at hl 0 rfl) ?_
      refine lv_if_ne (tgt := 67) xh bh dX9_older_42 (by decide) (fun c_42 => ?_) (fun c_42 => ?_)
      · rw [s1] at c_42
        refine lv_iload_n xh bh dX9_older_67 rfl (lv_at hl 0 rfl) ?_
        refine lv_istore_n (lv' := [(3, .int v_40), (0, .ref (a 0)), (1, .int (nI k)), (2, .int (nI k2))]) xh bh dX9_older_68 rfl hl (by decide) rfl (fun ls hl => ?_)
        have sL := sgL ev_40 b5 b6
        have sG := sgG ev_40 b5 b6
        refine lv_iload_n xh bh dX9_older_69 rfl (lv_at hl 0 rfl) ?_
        refine lv_if_le (tgt := 77) xh bh dX9_older_70 (by decide) (fun c_70 => ?_) (fun c_70 => ?_)
        · rw [sL] at c_70
          refine lv_iload_n xh bh dX9_older_77 rfl (lv_at hl 0 rfl) ?_
          refine lv_if_ge (tgt := 85) xh bh dX9_older_78 (by decide) (fun c_78 => ?_) (fun c_78 => ?_)
          · rw [sG] at c_78
            refine lv_iconst (v := (nI 2)) xh bh dX9_older_85 (by decide) ?_
            exact hend (nI 2) () _ _ _ _ (congrArg (fun z => some (Value.int z)) (by rw [hk, xN_nI (by omega), xN_nI (by omega)]; refine congrArg nI ?_; unfold oldN unT'; split <;> (try split) <;> (try split) <;> omega)) trivial rfl dX9_older_86 (by rw [hk]; exact hP) (by rw [hk]; exact hD) hS
          · rw [sG] at c_78
            refine lv_iconst (v := (nI 1)) xh bh dX9_older_81 (by decide) ?_
            refine lv_goto (tgt := 86) xh bh dX9_older_82 (by decide) ?_
            exact hend (nI 1) () _ _ _ _ (congrArg (fun z => some (Value.int z)) (by rw [hk, xN_nI (by omega), xN_nI (by omega)]; refine congrArg nI ?_; unfold oldN unT'; split <;> (try split) <;> (try split) <;> omega)) trivial rfl dX9_older_86 (by rw [hk]; exact hP) (by rw [hk]; exact hD) hS
        · rw [sL] at c_70
          refine lv_iconst (v := (nI 0)) xh bh dX9_older_73 (by decide) ?_
          refine lv_goto (tgt := 86) xh bh dX9_older_74 (by decide) ?_
          exact hend (nI 0) () _ _ _ _ (congrArg (fun z => some (Value.int z)) (by rw [hk, xN_nI (by omega), xN_nI (by omega)]; refine congrArg nI ?_; unfold oldN unT'; split <;> (try split) <;> (try split) <;> omega)) trivial rfl dX9_older_86 (by rw [hk]; exact hP) (by rw [hk]; exact hD) hS
      · rw [s1] at c_42
        refine lv_aload_n xh bh dX9_older_45 rfl (lv_at hl 1 rfl) ?_
        refine va_get (D := D) (ci := 6) (v := .ref (a 1)) (C := RX9) (T := TX9) (N := 27) xh bh hts (fun _ h => List.mem_cons_of_mem _ (List.mem_append_right _ (h))) hown hK.1 hP 0 rfl rfl 0 (by decide) (hts _ (List.mem_of_getElem? (i := 1) rfl)) (fun _ h9 => h9) rfl dX9_older_46 ?_
        refine lv_iload_n xh bh dX9_older_49 rfl (lv_at hl 2 rfl) ?_
        refine xa_lald xh bh hK.1 hP 1 1 rfl rfl (by omega) (by omega) dX9_older_50 ?_
        refine W.eq (g2 := F0 mG 51 ls [.long (eR (T k))]) rfl ?_
        refine Ct.callS0 (rest := []) xh bh hml hown hts hK hP hS hA (ct_X9_many l D cI cJ cB cZ cA (T k) (by exact hT _)) (va_cwS 1 hts gX9_older_X9_many rfl rfl rfl (by decide +kernel) ⟨Nat.le_of_ble_eq_true rfl, Nat.le_of_ble_eq_true rfl⟩) rfl rfl hl.1 (Nat.le_of_ble_eq_true rfl) dX9_older_51 ⟨Nat.le_refl _, Nat.le_refl _⟩ (fun _ H locs _ hP hS => ?_)
        refine W.eq (g2 := F0 mG 54 ls [.int (nI ((T k).length))]) rfl ?_
        refine lv_aload_n xh bh dX9_older_54 rfl (lv_at hl 1 rfl) ?_
        refine va_get (D := D) (ci := 6) (v := .ref (a 1)) (C := RX9) (T := TX9) (N := 27) xh bh hts (fun _ h => List.mem_cons_of_mem _ (List.mem_append_right _ (h))) hown hK.1 hP 0 rfl rfl 0 (by decide) (hts _ (List.mem_of_getElem? (i := 1) rfl)) (fun _ h9 => h9) rfl dX9_older_55 ?_
        refine lv_iload_n xh bh dX9_older_58 rfl (lv_at hl 3 rfl) ?_
        refine xa_lald xh bh hK.1 hP 1 1 rfl rfl (by omega) (by omega) dX9_older_59 ?_
        refine W.eq (g2 := F0 mG 60 ls [.long (eR (T k2)), .int (nI ((T k).length))]) rfl ?_
        refine Ct.callS0 (rest := [.int (nI ((T k).length))]) xh bh hml hown hts hK hP hS hA (ct_X9_many l D cI cJ cB cZ cA (T k2) (by exact hT _)) (va_cwS 1 hts gX9_older_X9_many rfl rfl rfl (by decide +kernel) ⟨Nat.le_of_ble_eq_true rfl, Nat.le_of_ble_eq_true rfl⟩) rfl rfl hl.1 (Nat.le_of_ble_eq_true rfl) dX9_older_60 ⟨Nat.le_refl _, Nat.le_refl _⟩ (fun _ H locs _ hP hS => ?_)
        refine W.eq (g2 := F0 mG 63 ls [.int (nI ((T k2).length)), .int (nI ((T k).length))]) rfl ?_
        refine lv_isub xh bh dX9_older_63 ?_
        refine lv_goto (tgt := 68) xh bh dX9_older_64 (by decide) ?_
        refine lv_topi (fun v_68 ev_68 => ?_)
        refine lv_istore_n (lv' := [(3, .int v_68), (0, .ref (a 0)), (1, .int (nI k)), (2, .int (nI k2))]) xh bh dX9_older_68 rfl hl (by decide) rfl (fun ls hl => ?_)
        have sL := sgL ev_68 (show (T k).length < 1073741824 by omega) (show (T k2).length < 1073741824 by omega)
        have sG := sgG ev_68 (show (T k).length < 1073741824 by omega) (show (T k2).length < 1073741824 by omega)
        refine lv_iload_n xh bh dX9_older_69 rfl (lv_at hl 0 rfl) ?_
        refine lv_if_le (tgt := 77) xh bh dX9_older_70 (by decide) (fun c_70 => ?_) (fun c_70 => ?_)
        · rw [sL] at c_70
          refine lv_iload_n xh bh dX9_older_77 rfl (lv_at hl 0 rfl) ?_
          refine lv_if_ge (tgt := 85) xh bh dX9_older_78 (by decide) (fun c_78 => ?_) (fun c_78 => ?_)
          · rw [sG] at c_78
            refine lv_iconst (v := (nI 2)) xh bh dX9_older_85 (by decide) ?_
            exact hend (nI 2) () _ _ _ _ (congrArg (fun z => some (Value.int z)) (by rw [hk, xN_nI (by omega), xN_nI (by omega)]; refine congrArg nI ?_; unfold oldN unT'; split <;> (try split) <;> (try split) <;> omega)) trivial rfl dX9_older_86 (by rw [hk]; exact hP) (by rw [hk]; exact hD) hS
          · rw [sG] at c_78
            refine lv_iconst (v := (nI 1)) xh bh dX9_older_81 (by decide) ?_
            refine lv_goto (tgt := 86) xh bh dX9_older_82 (by decide) ?_
            exact hend (nI 1) () _ _ _ _ (congrArg (fun z => some (Value.int z)) (by rw [hk, xN_nI (by omega), xN_nI (by omega)]; refine congrArg nI ?_; unfold oldN unT'; split <;> (try split) <;> (try split) <;> omega)) trivial rfl dX9_older_86 (by rw [hk]; exact hP) (by rw [hk]; exact hD) hS
        · rw [sL] at c_70
          refine lv_iconst (v := (nI 0)) xh bh dX9_older_73 (by decide) ?_
          refine lv_goto (tgt := 86) xh bh dX9_older_74 (by decide) ?_
          exact hend (nI 0) () _ _ _ _ (congrArg (fun z => some (Value.int z)) (by rw [hk, xN_nI (by omega), xN_nI (by omega)]; refine congrArg nI ?_; unfold oldN unT'; split <;> (try split) <;> (try split) <;> omega)) trivial rfl dX9_older_86 (by rw [hk]; exact hP) (by rw [hk]; exact hD) hS
    · have hk : kTwo x y = 0 := if_neg (fun q => by rw [c_11] at q; exact absurd q.2 (by decide))
      refine lv_aload_n xh bh dX9_older_14 rfl (lv_at hl 0 rfl) ?_
      refine lv_bipush (v := (-2)) xh bh dX9_older_15 (by decide) ?_
      refine Ct.callV (As := [.int (-2)]) (rest := []) (wr := [(a 1, .inl (cJ, 9, .inr (.inl (fR T))))]) xh bh hml hown hts hK hP hD hS hA (ct_X9_bad l D cI cJ cB cZ cA a rf hm un fa fb lx bl ta tl tk va (-2) ) (cwV 1 hts gX9_older_X9_bad rfl rfl rfl (by decide +kernel) ⟨Nat.le_of_ble_eq_true rfl, Nat.le_of_ble_eq_true rfl⟩) rfl rfl hl.1 (Nat.le_of_ble_eq_true rfl) dX9_older_17 ⟨Nat.le_refl _, Nat.le_refl _⟩ 0 6 rfl rfl rfl [0, 2] [1] rfl (by decide) rfl rfl (by decide) (by decide) (fun _ H locs _ hP hD hS => ?_)
      have hP : va_P D vwCl [(a 1, .inl (cJ, 9, .inr (.inl (fR T)))), (a 0, .inr (6, [.ref (a 1), .ref (a 2), .int (nI hm), .int (nI un), .ref (a 3), .ref (a 4), .ref (a 5), .ref (a 6), .ref (a 7), .ref (a 8), .ref (a 9), .ref (a 10), .ref (a 11), .ref (a 12), .long fa, .long fb, .ref (a 13), .long (lN lx), .ref (a 14), .int (nI bl), .int (nI ta), .int (nI tl), .int (nI tk), .int (nI va), .ref (a 15), .ref (a 16), .ref (a 17)])), (a 12, .inl (cI, 3, .inl (upd rf 0 ((rf 0) + nI 1))))] H := hP
      have hD : va_D AG [(a 1, .inl (cJ, 9, .inr (.inl (fR T)))), (a 0, .inr (6, [.ref (a 1), .ref (a 2), .int (nI hm), .int (nI un), .ref (a 3), .ref (a 4), .ref (a 5), .ref (a 6), .ref (a 7), .ref (a 8), .ref (a 9), .ref (a 10), .ref (a 11), .ref (a 12), .long fa, .long fb, .ref (a 13), .long (lN lx), .ref (a 14), .int (nI bl), .int (nI ta), .int (nI tl), .int (nI tk), .int (nI va), .ref (a 15), .ref (a 16), .ref (a 17)])), (a 12, .inl (cI, 3, .inl (upd rf 0 ((rf 0) + nI 1))))] := hD
      refine W.eq (g2 := F0 mG 20 ls [.int (-2)]) rfl ?_
      exact hend (-2) () _ _ _ _ (congrArg (fun z => some (Value.int z)) (by rw [hk]; rfl)) trivial rfl dX9_older_20 (by rw [hk]; exact (hP.sub [1, 0, 2] rfl)) (by rw [hk]; exact (hD.sub [1, 0, 2] (by decide) rfl)) hS

set_option maxHeartbeats 1000000 in
set_option maxRecDepth 100000 in
theorem ct_X9_fitsAt (l : Launch) (D : va_G) (cI cJ cB cZ cA : ClassId) (a : Nat → Nat) (T : Nat → List Nat) (hm : Nat) (un : Nat) (fa : Int64) (fb : Int64) (lx : Nat) (bl : Nat) (ta : Nat) (tl : Nat) (tk : Nat) (va : Nat) (t : List Nat) (p : Nat) (hT : ∀ k, okT (T k)) (ht : okT t) (hp : p ≤ 10) : Ct l yX9_fitsAt wsX9_fitsAt ({ frames := 1, cells := 0, slots := 0, locals := 22 }) D (tysG cI cJ cB cZ cA) [.ref (a 0), .long (eR t), .int (nI p)] [(a 0, .inr (6, [.ref (a 1), .ref (a 2), .int (nI hm), .int (nI un), .ref (a 3), .ref (a 4), .ref (a 5), .ref (a 6), .ref (a 7), .ref (a 8), .ref (a 9), .ref (a 10), .ref (a 11), .ref (a 12), .long fa, .long fb, .ref (a 13), .long (lN lx), .ref (a 14), .int (nI bl), .int (nI ta), .int (nI tl), .int (nI tk), .int (nI va), .ref (a 15), .ref (a 16), .ref (a 17)])), (a 1, .inl (cJ, 9, .inr (.inl (fR T))))] (fun (_ : Unit) => True) (fun _ => some (.int (ib (ftB (T 8) t p)))) (fun _ => [(a 0, .inr (6, [.ref (a 1), .ref (a 2), .int (nI hm), .int (nI un), .ref (a 3), .ref (a 4), .ref (a 5), .ref (a 6), .ref (a 7), .ref (a 8), .ref (a 9), .ref (a 10), .ref (a 11), .ref (a 12), .long fa, .long fb, .ref (a 13), .long (lN lx), .ref (a 14), .int (nI bl), .int (nI ta), .int (nI tl), .int (nI tk), .int (nI va), .ref (a 15), .ref (a 16), .ref (a 17)])), (a 1, .inl (cJ, 9, .inr (.inl (fR T))))]) := by
  refine Ct.ofI (cc := cX9_fitsAt) (maxL := 8) (by decide) rfl (Nat.le_of_ble_eq_true rfl) ?_
  intro pG eG sG mG aG bG tG cG AG QG ls xh bh hml hown hts hK hP hD hS hA hend hl
  have hl : lv_has ls 8 [(0, .ref (a 0)), (1, .long (eR t)), (3, .int (nI p))] := hl
  have h8 := hT 8
  have l8 := h8.1
  have lt := ht.1
  refine lv_aload_n xh bh dX9_fitsAt_0 rfl (lv_at hl 0 rfl) ?_
  refine va_get (D := D) (ci := 6) (v := .ref (a 1)) (C := RX9) (T := TX9) (N := 27) xh bh hts (fun _ h => List.mem_cons_of_mem _ (List.mem_append_right _ (h))) hown hK.1 hP 0 rfl rfl 0 (by decide) (hts _ (List.mem_of_getElem? (i := 1) rfl)) (fun _ h9 => h9) rfl dX9_fitsAt_1 ?_
  refine lv_bipush (v := (nI 8)) xh bh dX9_fitsAt_4 (by decide) ?_
  refine xa_lald xh bh hK.1 hP 1 1 rfl rfl (by omega) (by omega) dX9_fitsAt_6 ?_
  refine W.eq (g2 := F0 mG 7 ls [.long (eR (T 8))]) rfl ?_
  refine lv_lstore (lv' := [(4, .long (eR (T 8))), (0, .ref (a 0)), (1, .long (eR t)), (3, .int (nI p))]) xh bh dX9_fitsAt_7 hl (by decide) rfl (fun ls hl => ?_)
  have cut_30 : ∀ (f0 : Bool), (f0 = decide (p + (T 8).length ≤ t.length)) → ∀ (H : Heap) (locs : List Loc) (ls : Array Slot), va_P D vwCl [(a 0, .inr (6, [.ref (a 1), .ref (a 2), .int (nI hm), .int (nI un), .ref (a 3), .ref (a 4), .ref (a 5), .ref (a 6), .ref (a 7), .ref (a 8), .ref (a 9), .ref (a 10), .ref (a 11), .ref (a 12), .long fa, .long fb, .ref (a 13), .long (lN lx), .ref (a 14), .int (nI bl), .int (nI ta), .int (nI tl), .int (nI tk), .int (nI va), .ref (a 15), .ref (a 16), .ref (a 17)])), (a 1, .inl (cJ, 9, .inr (.inl (fR T))))] H → va_D AG [(a 0, .inr (6, [.ref (a 1), .ref (a 2), .int (nI hm), .int (nI un), .ref (a 3), .ref (a 4), .ref (a 5), .ref (a 6), .ref (a 7), .ref (a 8), .ref (a 9), .ref (a 10), .ref (a 11), .ref (a 12), .long fa, .long fb, .ref (a 13), .long (lN lx), .ref (a 14), .int (nI bl), .int (nI ta), .int (nI tl), .int (nI tk), .int (nI va), .ref (a 15), .ref (a 16), .ref (a 17)])), (a 1, .inl (cJ, 9, .inr (.inl (fR T))))] → va_S AG sG.heap H locs → lv_has ls 8 [(0, .ref (a 0)), (1, .long (eR t)), (3, .int (nI p)), (4, .long (eR (T 8))), (6, .int (ib f0))] → W pG l eG ({ frames := 1, cells := 0, slots := 0, locals := 22 }) sG mG aG bG tG cG H locs 0 0 QG (F0 mG 30 ls []) := by
    intro f0 h0 H locs ls hP hD hS hl
    refine lv_iconst (v := (nI 0)) xh bh dX9_fitsAt_30 (by decide) ?_
    refine lv_istore (lv' := [(7, .int (nI 0)), (0, .ref (a 0)), (1, .long (eR t)), (3, .int (nI p)), (4, .long (eR (T 8))), (6, .int (ib f0))]) xh bh dX9_fitsAt_31 hl (by decide) rfl (fun ls hl => ?_)
    have cut_33 : ∀ (n_33 : Nat), ∀ (k : Nat), ∀ (f : Bool), (k ≤ (T 8).length) → (f = (f0 && stB (T 8) t p k)) → ((T 8).length - k) < n_33 → ∀ (H : Heap) (locs : List Loc) (ls : Array Slot), va_P D vwCl [(a 0, .inr (6, [.ref (a 1), .ref (a 2), .int (nI hm), .int (nI un), .ref (a 3), .ref (a 4), .ref (a 5), .ref (a 6), .ref (a 7), .ref (a 8), .ref (a 9), .ref (a 10), .ref (a 11), .ref (a 12), .long fa, .long fb, .ref (a 13), .long (lN lx), .ref (a 14), .int (nI bl), .int (nI ta), .int (nI tl), .int (nI tk), .int (nI va), .ref (a 15), .ref (a 16), .ref (a 17)])), (a 1, .inl (cJ, 9, .inr (.inl (fR T))))] H → va_D AG [(a 0, .inr (6, [.ref (a 1), .ref (a 2), .int (nI hm), .int (nI un), .ref (a 3), .ref (a 4), .ref (a 5), .ref (a 6), .ref (a 7), .ref (a 8), .ref (a 9), .ref (a 10), .ref (a 11), .ref (a 12), .long fa, .long fb, .ref (a 13), .long (lN lx), .ref (a 14), .int (nI bl), .int (nI ta), .int (nI tl), .int (nI tk), .int (nI va), .ref (a 15), .ref (a 16), .ref (a 17)])), (a 1, .inl (cJ, 9, .inr (.inl (fR T))))] → va_S AG sG.heap H locs → lv_has ls 8 [(0, .ref (a 0)), (1, .long (eR t)), (3, .int (nI p)), (4, .long (eR (T 8))), (6, .int (ib f)), (7, .int (nI k))] → W pG l eG ({ frames := 1, cells := 0, slots := 0, locals := 22 }) sG mG aG bG tG cG H locs 0 0 QG (F0 mG 33 ls []) := by
      intro n_33
      induction n_33 with
      | zero =>
        intro k f hk hf hmu
        exact absurd hmu (Nat.not_lt_zero _)
      | succ n_33 ih_33 =>
        intro k f hk hf hmu H locs ls hP hD hS hl
        refine lv_iload xh bh dX9_fitsAt_33 (lv_at hl 5 rfl) ?_
        refine lv_lload xh bh dX9_fitsAt_35 (lv_at hl 3 rfl) ?_
        refine Ct.callS0 (rest := [.int (nI k)]) xh bh hml hown hts hK hP hS hA (ct_X9_many l D cI cJ cB cZ cA (T 8) (by exact h8)) (va_cwS 1 hts gX9_fitsAt_X9_many rfl rfl rfl (by decide +kernel) ⟨Nat.le_of_ble_eq_true rfl, Nat.le_of_ble_eq_true rfl⟩) rfl rfl hl.1 (Nat.le_of_ble_eq_true rfl) dX9_fitsAt_37 ⟨Nat.le_refl _, Nat.le_refl _⟩ (fun _ H locs _ hP hS => ?_)
        refine W.eq (g2 := F0 mG 40 ls [.int (nI ((T 8).length)), .int (nI k)]) rfl ?_
        refine xn_icmp_ge (tgt := 91) xh bh dX9_fitsAt_40 (by decide) (by omega) (by omega) (fun c_40 => ?_) (fun c_40 => ?_)
        · refine lv_iload xh bh dX9_fitsAt_91 (lv_at hl 4 rfl) ?_
          exact hend (ib f) () _ _ _ _ (congrArg (fun z => some (Value.int (ib z))) (by unfold ftB; rw [← h0]; first | (rw [hf, show k = (T 8).length by omega]) | (rw [c_45]; cases q : f0 with | false => rfl | true => rw [q, Bool.true_and] at hf; exact stB_false (hf.symm.trans c_45) _ hk))) trivial (vz_ib _) dX9_fitsAt_93 hP hD hS
        · refine lv_iload xh bh dX9_fitsAt_43 (lv_at hl 4 rfl) ?_
          refine xb_if_eq (tgt := 91) xh bh dX9_fitsAt_45 (by decide) (fun c_45 => ?_) (fun c_45 => ?_)
          · refine lv_iload xh bh dX9_fitsAt_91 (lv_at hl 4 rfl) ?_
            exact hend (ib f) () _ _ _ _ (congrArg (fun z => some (Value.int (ib z))) (by unfold ftB; rw [← h0]; first | (rw [hf, show k = (T 8).length by omega]) | (rw [c_45]; cases q : f0 with | false => rfl | true => rw [q, Bool.true_and] at hf; exact stB_false (hf.symm.trans c_45) _ hk))) trivial (vz_ib _) dX9_fitsAt_93 hP hD hS
          · have q0 : f0 = true := by
              rw [hf] at c_45
              exact (Bool.and_eq_true_iff.mp c_45).1
            rw [h0] at q0
            have q1 := of_decide_eq_true q0
            refine lv_lload xh bh dX9_fitsAt_48 (lv_at hl 3 rfl) ?_
            refine lv_iload xh bh dX9_fitsAt_50 (lv_at hl 5 rfl) ?_
            refine Ct.callS0 (rest := []) xh bh hml hown hts hK hP hS hA (ct_X9_partOf l D cI cJ cB cZ cA (T 8) k (by exact h8) (by omega)) (va_cwS 2 hts gX9_fitsAt_X9_partOf rfl rfl rfl (by decide +kernel) ⟨Nat.le_of_ble_eq_true rfl, Nat.le_of_ble_eq_true rfl⟩) rfl rfl hl.1 (Nat.le_of_ble_eq_true rfl) dX9_fitsAt_52 ⟨Nat.le_refl _, Nat.le_refl _⟩ (fun _ H locs _ hP hS => ?_)
            refine W.eq (g2 := F0 mG 55 ls [.int (nI ((T 8).getD k 0))]) rfl ?_
            refine lv_bipush (v := (nI 8)) xh bh dX9_fitsAt_55 (by decide) ?_
            refine xn_icmp_eq (tgt := 78) xh bh dX9_fitsAt_57 (by decide) (by have := h8.getD k; omega) (by have := h8.getD k; omega) (fun c_57 => ?_) (fun c_57 => ?_)
            · refine lv_iconst (v := (nI 1)) xh bh dX9_fitsAt_78 (by decide) ?_
              refine lv_goto (tgt := 83) xh bh dX9_fitsAt_79 (by decide) ?_
              refine lv_istore (lv' := [(6, .int (nI 1)), (0, .ref (a 0)), (1, .long (eR t)), (3, .int (nI p)), (4, .long (eR (T 8))), (7, .int (nI k))]) xh bh dX9_fitsAt_83 hl (by decide) rfl (fun ls hl => ?_)
              refine lv_iinc (v := (nI (k + 1))) (lv' := [(7, .int (nI (k + 1))), (6, .int (nI 1)), (0, .ref (a 0)), (1, .long (eR t)), (3, .int (nI p)), (4, .long (eR (T 8)))]) xh bh dX9_fitsAt_85 hl (k := 5) rfl (by exact xn_inc _ _) (by decide) rfl (fun ls hl => ?_)
              refine lv_goto (tgt := 33) xh bh dX9_fitsAt_88 (by decide) ?_
              exact ih_33 (k + 1) true (by omega) (by show _ = (f0 && (stB (T 8) t p k && _)); rw [← Bool.and_assoc, ← hf, c_45]; first | (rw [decide_eq_true c_57]; rfl) | (rw [decide_eq_false c_57, decide_eq_true c_75]; rfl) | (rw [decide_eq_false c_57, decide_eq_false c_75]; rfl)) (by omega) _ _ ls hP hD hS (lv_sub hl [2, 3, 4, 5, 1, 0] rfl)
            · refine lv_lload xh bh dX9_fitsAt_60 (lv_at hl 3 rfl) ?_
              refine lv_iload xh bh dX9_fitsAt_62 (lv_at hl 5 rfl) ?_
              refine Ct.callS0 (rest := []) xh bh hml hown hts hK hP hS hA (ct_X9_partOf l D cI cJ cB cZ cA (T 8) k (by exact h8) (by omega)) (va_cwS 2 hts gX9_fitsAt_X9_partOf rfl rfl rfl (by decide +kernel) ⟨Nat.le_of_ble_eq_true rfl, Nat.le_of_ble_eq_true rfl⟩) rfl rfl hl.1 (Nat.le_of_ble_eq_true rfl) dX9_fitsAt_64 ⟨Nat.le_refl _, Nat.le_refl _⟩ (fun _ H locs _ hP hS => ?_)
              refine W.eq (g2 := F0 mG 67 ls [.int (nI ((T 8).getD k 0))]) rfl ?_
              refine lv_lload_n xh bh dX9_fitsAt_67 rfl (lv_at hl 1 rfl) ?_
              refine lv_iload_n xh bh dX9_fitsAt_68 rfl (lv_at hl 2 rfl) ?_
              refine lv_iload xh bh dX9_fitsAt_69 (lv_at hl 5 rfl) ?_
              refine xn_iadd xh bh dX9_fitsAt_71 ?_
              refine Ct.callS0 (rest := [.int (nI ((T 8).getD k 0))]) xh bh hml hown hts hK hP hS hA (ct_X9_partOf l D cI cJ cB cZ cA t (p + k) (by first | assumption | exact okT_nil) (by omega)) (va_cwS 2 hts gX9_fitsAt_X9_partOf rfl rfl rfl (by decide +kernel) ⟨Nat.le_of_ble_eq_true rfl, Nat.le_of_ble_eq_true rfl⟩) rfl rfl hl.1 (Nat.le_of_ble_eq_true rfl) dX9_fitsAt_72 ⟨Nat.le_refl _, Nat.le_refl _⟩ (fun _ H locs _ hP hS => ?_)
              refine W.eq (g2 := F0 mG 75 ls [.int (nI (t.getD (p + k) 0)), .int (nI ((T 8).getD k 0))]) rfl ?_
              refine xn_icmp_ne (tgt := 82) xh bh dX9_fitsAt_75 (by decide) (by have := h8.getD k; have := ht.getD (p + k); omega) (by have := h8.getD k; have := ht.getD (p + k); omega) (fun c_75 => ?_) (fun c_75 => ?_)
              · refine lv_iconst (v := (nI 0)) xh bh dX9_fitsAt_82 (by decide) ?_
                refine lv_istore (lv' := [(6, .int (nI 0)), (0, .ref (a 0)), (1, .long (eR t)), (3, .int (nI p)), (4, .long (eR (T 8))), (7, .int (nI k))]) xh bh dX9_fitsAt_83 hl (by decide) rfl (fun ls hl => ?_)
                refine lv_iinc (v := (nI (k + 1))) (lv' := [(7, .int (nI (k + 1))), (6, .int (nI 0)), (0, .ref (a 0)), (1, .long (eR t)), (3, .int (nI p)), (4, .long (eR (T 8)))]) xh bh dX9_fitsAt_85 hl (k := 5) rfl (by exact xn_inc _ _) (by decide) rfl (fun ls hl => ?_)
                refine lv_goto (tgt := 33) xh bh dX9_fitsAt_88 (by decide) ?_
                exact ih_33 (k + 1) false (by omega) (by show _ = (f0 && (stB (T 8) t p k && _)); rw [← Bool.and_assoc, ← hf, c_45]; first | (rw [decide_eq_true c_57]; rfl) | (rw [decide_eq_false c_57, decide_eq_true c_75]; rfl) | (rw [decide_eq_false c_57, decide_eq_false c_75]; rfl)) (by omega) _ _ ls hP hD hS (lv_sub hl [2, 3, 4, 5, 1, 0] rfl)
              · refine lv_iconst (v := (nI 1)) xh bh dX9_fitsAt_78 (by decide) ?_
                refine lv_goto (tgt := 83) xh bh dX9_fitsAt_79 (by decide) ?_
                refine lv_istore (lv' := [(6, .int (nI 1)), (0, .ref (a 0)), (1, .long (eR t)), (3, .int (nI p)), (4, .long (eR (T 8))), (7, .int (nI k))]) xh bh dX9_fitsAt_83 hl (by decide) rfl (fun ls hl => ?_)
                refine lv_iinc (v := (nI (k + 1))) (lv' := [(7, .int (nI (k + 1))), (6, .int (nI 1)), (0, .ref (a 0)), (1, .long (eR t)), (3, .int (nI p)), (4, .long (eR (T 8)))]) xh bh dX9_fitsAt_85 hl (k := 5) rfl (by exact xn_inc _ _) (by decide) rfl (fun ls hl => ?_)
                refine lv_goto (tgt := 33) xh bh dX9_fitsAt_88 (by decide) ?_
                exact ih_33 (k + 1) true (by omega) (by show _ = (f0 && (stB (T 8) t p k && _)); rw [← Bool.and_assoc, ← hf, c_45]; first | (rw [decide_eq_true c_57]; rfl) | (rw [decide_eq_false c_57, decide_eq_true c_75]; rfl) | (rw [decide_eq_false c_57, decide_eq_false c_75]; rfl)) (by omega) _ _ ls hP hD hS (lv_sub hl [2, 3, 4, 5, 1, 0] rfl)
    exact cut_33 ((T 8).length - 0 + 1) 0 f0 (by exact Nat.zero_le _) (by exact (Bool.and_true _).symm) (Nat.lt_succ_self _) _ _ ls hP hD hS (lv_sub hl [1, 2, 3, 4, 5, 0] rfl)
  refine lv_iload_n xh bh dX9_fitsAt_9 rfl (lv_at hl 3 rfl) ?_
  refine lv_lload xh bh dX9_fitsAt_10 (lv_at hl 0 rfl) ?_
  refine Ct.callS0 (rest := [.int (nI p)]) xh bh hml hown hts hK hP hS hA (ct_X9_many l D cI cJ cB cZ cA (T 8) (by exact h8)) (va_cwS 1 hts gX9_fitsAt_X9_many rfl rfl rfl (by decide +kernel) ⟨Nat.le_of_ble_eq_true rfl, Nat.le_of_ble_eq_true rfl⟩) rfl rfl hl.1 (Nat.le_of_ble_eq_true rfl) dX9_fitsAt_12 ⟨Nat.le_refl _, Nat.le_refl _⟩ (fun _ H locs _ hP hS => ?_)
  refine W.eq (g2 := F0 mG 15 ls [.int (nI ((T 8).length)), .int (nI p)]) rfl ?_
  refine xn_iadd xh bh dX9_fitsAt_15 ?_
  refine lv_lload_n xh bh dX9_fitsAt_16 rfl (lv_at hl 2 rfl) ?_
  refine Ct.callS0 (rest := [.int (nI (p + ((T 8).length)))]) xh bh hml hown hts hK hP hS hA (ct_X9_many l D cI cJ cB cZ cA t (by first | assumption | exact okT_nil)) (va_cwS 1 hts gX9_fitsAt_X9_many rfl rfl rfl (by decide +kernel) ⟨Nat.le_of_ble_eq_true rfl, Nat.le_of_ble_eq_true rfl⟩) rfl rfl hl.1 (Nat.le_of_ble_eq_true rfl) dX9_fitsAt_17 ⟨Nat.le_refl _, Nat.le_refl _⟩ (fun _ H locs _ hP hS => ?_)
  refine W.eq (g2 := F0 mG 20 ls [.int (nI t.length), .int (nI (p + ((T 8).length)))]) rfl ?_
  refine xn_icmp_gt (tgt := 27) xh bh dX9_fitsAt_20 (by decide) (by omega) (by omega) (fun c_20 => ?_) (fun c_20 => ?_)
  · refine lv_iconst (v := (nI 0)) xh bh dX9_fitsAt_27 (by decide) ?_
    refine lv_istore (lv' := [(6, .int (nI 0)), (4, .long (eR (T 8))), (0, .ref (a 0)), (1, .long (eR t)), (3, .int (nI p))]) xh bh dX9_fitsAt_28 hl (by decide) rfl (fun ls hl => ?_)
    exact cut_30 false (by first | exact (decide_eq_true c_20).symm | exact (decide_eq_false (by omega)).symm) _ _ ls hP hD hS (lv_sub hl [2, 3, 4, 1, 0] rfl)
  · refine lv_iconst (v := (nI 1)) xh bh dX9_fitsAt_23 (by decide) ?_
    refine lv_goto (tgt := 28) xh bh dX9_fitsAt_24 (by decide) ?_
    refine lv_istore (lv' := [(6, .int (nI 1)), (4, .long (eR (T 8))), (0, .ref (a 0)), (1, .long (eR t)), (3, .int (nI p))]) xh bh dX9_fitsAt_28 hl (by decide) rfl (fun ls hl => ?_)
    exact cut_30 true (by first | exact (decide_eq_true c_20).symm | exact (decide_eq_false (by omega)).symm) _ _ ls hP hD hS (lv_sub hl [2, 3, 4, 1, 0] rfl)

set_option maxHeartbeats 1000000 in
set_option maxRecDepth 100000 in
theorem ct_X9_fits (l : Launch) (D : va_G) (cI cJ cB cZ cA : ClassId) (a : Nat → Nat) (T : Nat → List Nat) (rf : Nat → Int32) (hm : Nat) (un : Nat) (fa : Int64) (fb : Int64) (lx : Nat) (bl : Nat) (ta : Nat) (tl : Nat) (tk : Nat) (va : Nat) (x : Int32) (y : Int32) (hT : ∀ k, okT (T k)) : Ct l yX9_fits wsX9_fits ({ frames := 2, cells := 0, slots := 0, locals := 49 }) D (tysG cI cJ cB cZ cA) [.ref (a 0), .int x, .int y] [(a 0, .inr (6, [.ref (a 1), .ref (a 2), .int (nI hm), .int (nI un), .ref (a 3), .ref (a 4), .ref (a 5), .ref (a 6), .ref (a 7), .ref (a 8), .ref (a 9), .ref (a 10), .ref (a 11), .ref (a 12), .long fa, .long fb, .ref (a 13), .long (lN lx), .ref (a 14), .int (nI bl), .int (nI ta), .int (nI tl), .int (nI tk), .int (nI va), .ref (a 15), .ref (a 16), .ref (a 17)])), (a 1, .inl (cJ, 9, .inr (.inl (fR T)))), (a 12, .inl (cI, 3, .inl rf))] (fun (_ : Unit) => True) (fun _ => some (.int (eFit (kFit x y) (xN y) (ftN (T 8) (T (xN x)) ((T (xN x)).length + 1)) (f1I (T 8) (T (xN x)) ((T (xN x)).length + 1))))) (fun _ => [(a 0, .inr (6, [.ref (a 1), .ref (a 2), .int (nI hm), .int (nI un), .ref (a 3), .ref (a 4), .ref (a 5), .ref (a 6), .ref (a 7), .ref (a 8), .ref (a 9), .ref (a 10), .ref (a 11), .ref (a 12), .long fa, .long fb, .ref (a 13), .long (lN lx), .ref (a 14), .int (nI bl), .int (nI ta), .int (nI tl), .int (nI tk), .int (nI va), .ref (a 15), .ref (a 16), .ref (a 17)])), (a 1, .inl (cJ, 9, .inr (.inl (fR T)))), (a 12, .inl (cI, 3, .inl (rfU (kFit x y) rf)))]) := by
  refine Ct.ofI (cc := cX9_fits) (maxL := 7) (by decide) rfl (Nat.le_of_ble_eq_true rfl) ?_
  intro pG eG sG mG aG bG tG cG AG QG ls xh bh hml hown hts hK hP hD hS hA hend hl
  have hl : lv_has ls 7 [(0, .ref (a 0)), (1, .int x), (2, .int y)] := hl
  refine lv_iload_n xh bh dX9_fits_0 rfl (lv_at hl 1 rfl) ?_
  refine Ct.callS0 (rest := []) xh bh hml hown hts hK hP hS hA (ct_X9_isBranch l D cI cJ cB cZ cA x ) (va_cwS 1 hts gX9_fits_X9_isBranch rfl rfl rfl (by decide +kernel) ⟨Nat.le_of_ble_eq_true rfl, Nat.le_of_ble_eq_true rfl⟩) rfl rfl hl.1 (Nat.le_of_ble_eq_true rfl) dX9_fits_1 ⟨Nat.le_refl _, Nat.le_refl _⟩ (fun _ H locs _ hP hS => ?_)
  refine W.eq (g2 := F0 mG 4 ls [.int (ib (upB x 7))]) rfl ?_
  refine xb_if_eq (tgt := 17) xh bh dX9_fits_4 (by decide) (fun c_4 => ?_) (fun c_4 => ?_)
  · have hk : kFit x y = 0 := if_neg (fun q => by rw [c_4] at q; exact absurd q.1 (by decide))
    refine lv_aload_n xh bh dX9_fits_17 rfl (lv_at hl 0 rfl) ?_
    refine lv_bipush (v := (-10)) xh bh dX9_fits_18 (by decide) ?_
    refine Ct.callV (As := [.int (-10)]) (rest := []) (wr := [(a 1, .inl (cJ, 9, .inr (.inl (fR T))))]) xh bh hml hown hts hK hP hD hS hA (ct_X9_bad l D cI cJ cB cZ cA a rf hm un fa fb lx bl ta tl tk va (-10) ) (cwV 1 hts gX9_fits_X9_bad rfl rfl rfl (by decide +kernel) ⟨Nat.le_of_ble_eq_true rfl, Nat.le_of_ble_eq_true rfl⟩) rfl rfl hl.1 (Nat.le_of_ble_eq_true rfl) dX9_fits_20 ⟨Nat.le_refl _, Nat.le_refl _⟩ 0 6 rfl rfl rfl [0, 2] [1] rfl (by decide) rfl rfl (by decide) (by decide) (fun _ H locs _ hP hD hS => ?_)
    have hP : va_P D vwCl [(a 1, .inl (cJ, 9, .inr (.inl (fR T)))), (a 0, .inr (6, [.ref (a 1), .ref (a 2), .int (nI hm), .int (nI un), .ref (a 3), .ref (a 4), .ref (a 5), .ref (a 6), .ref (a 7), .ref (a 8), .ref (a 9), .ref (a 10), .ref (a 11), .ref (a 12), .long fa, .long fb, .ref (a 13), .long (lN lx), .ref (a 14), .int (nI bl), .int (nI ta), .int (nI tl), .int (nI tk), .int (nI va), .ref (a 15), .ref (a 16), .ref (a 17)])), (a 12, .inl (cI, 3, .inl (upd rf 0 ((rf 0) + nI 1))))] H := hP
    have hD : va_D AG [(a 1, .inl (cJ, 9, .inr (.inl (fR T)))), (a 0, .inr (6, [.ref (a 1), .ref (a 2), .int (nI hm), .int (nI un), .ref (a 3), .ref (a 4), .ref (a 5), .ref (a 6), .ref (a 7), .ref (a 8), .ref (a 9), .ref (a 10), .ref (a 11), .ref (a 12), .long fa, .long fb, .ref (a 13), .long (lN lx), .ref (a 14), .int (nI bl), .int (nI ta), .int (nI tl), .int (nI tk), .int (nI va), .ref (a 15), .ref (a 16), .ref (a 17)])), (a 12, .inl (cI, 3, .inl (upd rf 0 ((rf 0) + nI 1))))] := hD
    refine W.eq (g2 := F0 mG 23 ls [.int (-10)]) rfl ?_
    exact hend (-10) () _ _ _ _ (congrArg (fun z => some (Value.int z)) (by rw [hk]; rfl)) trivial rfl dX9_fits_23 (by rw [hk]; exact (hP.sub [1, 0, 2] rfl)) (by rw [hk]; exact (hD.sub [1, 0, 2] (by decide) rfl)) hS
  · refine lv_iload_n xh bh dX9_fits_7 rfl (lv_at hl 2 rfl) ?_
    refine lv_i2l xh bh dX9_fits_8 rfl ?_
    refine lv_lconst (v := lN 0) xh bh dX9_fits_9 (by decide) ?_
    refine lv_lconst (v := lN 1) xh bh dX9_fits_10 (by decide) ?_
    refine Ct.callS0 (rest := []) xh bh hml hown hts hK hP hS hA (ct_X9_in l D cI cJ cB cZ cA y.toInt64 (lN 0) (lN 1) ) (va_cwS 3 hts gX9_fits_X9_in rfl rfl rfl (by decide +kernel) ⟨Nat.le_of_ble_eq_true rfl, Nat.le_of_ble_eq_true rfl⟩) rfl rfl hl.1 (Nat.le_of_ble_eq_true rfl) dX9_fits_11 ⟨Nat.le_refl _, Nat.le_refl _⟩ (fun _ H locs _ hP hS => ?_)
    refine W.eq (g2 := F0 mG 14 ls [.int (ib (decide (¬ y.toInt64 < (lN 0) ∧ ¬ (lN 1) < y.toInt64)))]) rfl ?_
    refine xw_topi (x := (ib (decide (¬ y.toInt64 < (lN 0) ∧ ¬ (lN 1) < y.toInt64)))) (y := (ib (upB y 1))) (by rw [upB_long (by decide)]) ?_
    refine xb_if_ne (tgt := 24) xh bh dX9_fits_14 (by decide) (fun c_14 => ?_) (fun c_14 => ?_)
    · have hk : kFit x y = 3 := if_pos ⟨c_4, c_14⟩
      obtain ⟨k, hk9, rfl⟩ := upB_of (by decide) c_4
      obtain ⟨y2, hk8, rfl⟩ := upB_of (by decide) c_14
      have lk := (hT k).1
      refine lv_iconst (v := (nI 0)) xh bh dX9_fits_24 (by decide) ?_
      refine lv_istore_n (lv' := [(3, .int (nI 0)), (0, .ref (a 0)), (1, .int (nI k)), (2, .int (nI y2))]) xh bh dX9_fits_25 rfl hl (by decide) rfl (fun ls hl => ?_)
      refine lv_iconst (v := (-1)) xh bh dX9_fits_26 (by decide) ?_
      refine lv_istore (lv' := [(4, .int (-1)), (3, .int (nI 0)), (0, .ref (a 0)), (1, .int (nI k)), (2, .int (nI y2))]) xh bh dX9_fits_27 hl (by decide) rfl (fun ls hl => ?_)
      refine lv_iconst (v := (nI 0)) xh bh dX9_fits_29 (by decide) ?_
      refine lv_istore (lv' := [(5, .int (nI 0)), (4, .int (-1)), (3, .int (nI 0)), (0, .ref (a 0)), (1, .int (nI k)), (2, .int (nI y2))]) xh bh dX9_fits_30 hl (by decide) rfl (fun ls hl => ?_)
      have cut_32 : ∀ (n_32 : Nat), ∀ (p : Nat), ∀ (n : Nat), ∀ (f : Int32), (p ≤ (T k).length + 1) → (n = ftN (T 8) (T k) p) → (f = f1I (T 8) (T k) p) → ((T k).length + 1 - p) < n_32 → ∀ (H : Heap) (locs : List Loc) (ls : Array Slot), va_P D vwCl [(a 0, .inr (6, [.ref (a 1), .ref (a 2), .int (nI hm), .int (nI un), .ref (a 3), .ref (a 4), .ref (a 5), .ref (a 6), .ref (a 7), .ref (a 8), .ref (a 9), .ref (a 10), .ref (a 11), .ref (a 12), .long fa, .long fb, .ref (a 13), .long (lN lx), .ref (a 14), .int (nI bl), .int (nI ta), .int (nI tl), .int (nI tk), .int (nI va), .ref (a 15), .ref (a 16), .ref (a 17)])), (a 1, .inl (cJ, 9, .inr (.inl (fR T)))), (a 12, .inl (cI, 3, .inl rf))] H → va_D AG [(a 0, .inr (6, [.ref (a 1), .ref (a 2), .int (nI hm), .int (nI un), .ref (a 3), .ref (a 4), .ref (a 5), .ref (a 6), .ref (a 7), .ref (a 8), .ref (a 9), .ref (a 10), .ref (a 11), .ref (a 12), .long fa, .long fb, .ref (a 13), .long (lN lx), .ref (a 14), .int (nI bl), .int (nI ta), .int (nI tl), .int (nI tk), .int (nI va), .ref (a 15), .ref (a 16), .ref (a 17)])), (a 1, .inl (cJ, 9, .inr (.inl (fR T)))), (a 12, .inl (cI, 3, .inl rf))] → va_S AG sG.heap H locs → lv_has ls 7 [(0, .ref (a 0)), (1, .int (nI k)), (2, .int (nI y2)), (3, .int (nI n)), (4, .int f), (5, .int (nI p))] → W pG l eG ({ frames := 2, cells := 0, slots := 0, locals := 49 }) sG mG aG bG tG cG H locs 0 0 QG (F0 mG 32 ls []) := by
        intro n_32
        induction n_32 with
        | zero =>
          intro p n f hp hn hf hmu
          exact absurd hmu (Nat.not_lt_zero _)
        | succ n_32 ih_32 =>
          intro p n f hp hn hf hmu H locs ls hP hD hS hl
          refine lv_iload xh bh dX9_fits_32 (lv_at hl 5 rfl) ?_
          refine lv_aload_n xh bh dX9_fits_34 rfl (lv_at hl 0 rfl) ?_
          refine va_get (D := D) (ci := 6) (v := .ref (a 1)) (C := RX9) (T := TX9) (N := 27) xh bh hts (fun _ h => List.mem_cons_of_mem _ (List.mem_append_right _ (h))) hown hK.1 hP 0 rfl rfl 0 (by decide) (hts _ (List.mem_of_getElem? (i := 1) rfl)) (fun _ h9 => h9) rfl dX9_fits_35 ?_
          refine lv_iload_n xh bh dX9_fits_38 rfl (lv_at hl 1 rfl) ?_
          refine xa_lald xh bh hK.1 hP 1 1 rfl rfl (by omega) (by omega) dX9_fits_39 ?_
          refine W.eq (g2 := F0 mG 40 ls [.long (eR (T k)), .int (nI p)]) rfl ?_
          refine Ct.callS0 (rest := [.int (nI p)]) xh bh hml hown hts hK hP hS hA (ct_X9_many l D cI cJ cB cZ cA (T k) (by exact hT _)) (va_cwS 1 hts gX9_fits_X9_many rfl rfl rfl (by decide +kernel) ⟨Nat.le_of_ble_eq_true rfl, Nat.le_of_ble_eq_true rfl⟩) rfl rfl hl.1 (Nat.le_of_ble_eq_true rfl) dX9_fits_40 ⟨Nat.le_refl _, Nat.le_refl _⟩ (fun _ H locs _ hP hS => ?_)
          refine W.eq (g2 := F0 mG 43 ls [.int (nI ((T k).length)), .int (nI p)]) rfl ?_
          refine xn_icmp_gt (tgt := 97) xh bh dX9_fits_43 (by decide) (by omega) (by omega) (fun c_43 => ?_) (fun c_43 => ?_)
          · refine lv_iload_n xh bh dX9_fits_97 rfl (lv_at hl 2 rfl) ?_
            refine xn_if_ne (tgt := 105) xh bh dX9_fits_98 (by decide) (by omega) (fun c_98 => ?_) (fun c_98 => ?_)
            · refine lv_iload xh bh dX9_fits_105 (lv_at hl 4 rfl) ?_
              exact hend f () _ _ _ _ (congrArg (fun z => some (Value.int z)) (by rw [hk, xN_nI (by omega), xN_nI (by omega), show (T k).length + 1 = p by omega, ← hn, ← hf]; first | (rw [c_98]; rfl) | (rw [show y2 = 1 by omega]; rfl))) trivial rfl dX9_fits_107 (by rw [hk]; exact hP) (by rw [hk]; exact hD) hS
            · refine lv_iload_n xh bh dX9_fits_101 rfl (lv_at hl 3 rfl) ?_
              refine lv_goto (tgt := 107) xh bh dX9_fits_102 (by decide) ?_
              exact hend (nI n) () _ _ _ _ (congrArg (fun z => some (Value.int z)) (by rw [hk, xN_nI (by omega), xN_nI (by omega), show (T k).length + 1 = p by omega, ← hn, ← hf]; first | (rw [c_98]; rfl) | (rw [show y2 = 1 by omega]; rfl))) trivial rfl dX9_fits_107 (by rw [hk]; exact hP) (by rw [hk]; exact hD) hS
          · refine lv_aload_n xh bh dX9_fits_46 rfl (lv_at hl 0 rfl) ?_
            refine lv_aload_n xh bh dX9_fits_47 rfl (lv_at hl 0 rfl) ?_
            refine va_get (D := D) (ci := 6) (v := .ref (a 1)) (C := RX9) (T := TX9) (N := 27) xh bh hts (fun _ h => List.mem_cons_of_mem _ (List.mem_append_right _ (h))) hown hK.1 hP 0 rfl rfl 0 (by decide) (hts _ (List.mem_of_getElem? (i := 1) rfl)) (fun _ h9 => h9) rfl dX9_fits_48 ?_
            refine lv_iload_n xh bh dX9_fits_51 rfl (lv_at hl 1 rfl) ?_
            refine xa_lald xh bh hK.1 hP 1 1 rfl rfl (by omega) (by omega) dX9_fits_52 ?_
            refine W.eq (g2 := F0 mG 53 ls [.long (eR (T k)), .ref (a 0)]) rfl ?_
            refine lv_iload xh bh dX9_fits_53 (lv_at hl 5 rfl) ?_
            refine Ct.callV (As := [.long (eR (T k)), .int (nI p)]) (rest := []) (wr := [(a 12, .inl (cI, 3, .inl rf))]) xh bh hml hown hts hK hP hD hS hA (ct_X9_fitsAt l D cI cJ cB cZ cA a T hm un fa fb lx bl ta tl tk va (T k) p (by first | assumption) (by exact hT _) (by first | assumption | omega)) (cwV 2 hts gX9_fits_X9_fitsAt rfl rfl rfl (by decide +kernel) ⟨Nat.le_of_ble_eq_true rfl, Nat.le_of_ble_eq_true rfl⟩) rfl rfl hl.1 (Nat.le_of_ble_eq_true rfl) dX9_fits_55 ⟨Nat.le_refl _, Nat.le_refl _⟩ 0 6 rfl rfl rfl [0, 1] [2] rfl (by decide) rfl rfl (by decide) (by decide) (fun _ H locs _ hP hD hS => ?_)
            have hP : va_P D vwCl [(a 12, .inl (cI, 3, .inl rf)), (a 0, .inr (6, [.ref (a 1), .ref (a 2), .int (nI hm), .int (nI un), .ref (a 3), .ref (a 4), .ref (a 5), .ref (a 6), .ref (a 7), .ref (a 8), .ref (a 9), .ref (a 10), .ref (a 11), .ref (a 12), .long fa, .long fb, .ref (a 13), .long (lN lx), .ref (a 14), .int (nI bl), .int (nI ta), .int (nI tl), .int (nI tk), .int (nI va), .ref (a 15), .ref (a 16), .ref (a 17)])), (a 1, .inl (cJ, 9, .inr (.inl (fR T))))] H := hP
            have hD : va_D AG [(a 12, .inl (cI, 3, .inl rf)), (a 0, .inr (6, [.ref (a 1), .ref (a 2), .int (nI hm), .int (nI un), .ref (a 3), .ref (a 4), .ref (a 5), .ref (a 6), .ref (a 7), .ref (a 8), .ref (a 9), .ref (a 10), .ref (a 11), .ref (a 12), .long fa, .long fb, .ref (a 13), .long (lN lx), .ref (a 14), .int (nI bl), .int (nI ta), .int (nI tl), .int (nI tk), .int (nI va), .ref (a 15), .ref (a 16), .ref (a 17)])), (a 1, .inl (cJ, 9, .inr (.inl (fR T))))] := hD
            refine W.eq (g2 := F0 mG 58 ls [.int (ib (ftB (T 8) (T k) p))]) rfl ?_
            refine lv_istore (lv' := [(6, .int (ib (ftB (T 8) (T k) p))), (0, .ref (a 0)), (1, .int (nI k)), (2, .int (nI y2)), (3, .int (nI n)), (4, .int f), (5, .int (nI p))]) xh bh dX9_fits_58 hl (by decide) rfl (fun ls hl => ?_)
            refine lv_iload xh bh dX9_fits_60 (lv_at hl 0 rfl) ?_
            refine xb_if_eq (tgt := 74) xh bh dX9_fits_62 (by decide) (fun c_62 => ?_) (fun c_62 => ?_)
            · refine lv_iload xh bh dX9_fits_74 (lv_at hl 5 rfl) ?_
              refine lv_istore (lv' := [(4, .int f), (6, .int (ib (ftB (T 8) (T k) p))), (0, .ref (a 0)), (1, .int (nI k)), (2, .int (nI y2)), (3, .int (nI n)), (5, .int (nI p))]) xh bh dX9_fits_76 hl (by decide) rfl (fun ls hl => ?_)
              refine lv_iload_n xh bh dX9_fits_78 rfl (lv_at hl 5 rfl) ?_
              refine lv_iload xh bh dX9_fits_79 (lv_at hl 1 rfl) ?_
              refine xb_if_eq (tgt := 88) xh bh dX9_fits_81 (by decide) (fun c_81 => ?_) (fun c_81 => ?_)
              · refine lv_iconst (v := (nI 0)) xh bh dX9_fits_88 (by decide) ?_
                refine xn_iadd xh bh dX9_fits_89 ?_
                refine lv_istore_n (lv' := [(3, .int (nI (n + 0))), (4, .int f), (6, .int (ib (ftB (T 8) (T k) p))), (0, .ref (a 0)), (1, .int (nI k)), (2, .int (nI y2)), (5, .int (nI p))]) xh bh dX9_fits_90 rfl hl (by decide) rfl (fun ls hl => ?_)
                refine lv_iinc (v := (nI (p + 1))) (lv' := [(5, .int (nI (p + 1))), (3, .int (nI (n + 0))), (4, .int f), (6, .int (ib (ftB (T 8) (T k) p))), (0, .ref (a 0)), (1, .int (nI k)), (2, .int (nI y2))]) xh bh dX9_fits_91 hl (k := 6) rfl (by exact xn_inc _ _) (by decide) rfl (fun ls hl => ?_)
                refine lv_goto (tgt := 32) xh bh dX9_fits_94 (by decide) ?_
                exact ih_32 (p + 1) (n + 0) f (by omega) (by rw [hn]; show _ = ftN (T 8) (T k) p + (if ftB (T 8) (T k) p = true then 1 else 0); first | rw [if_pos c_81] | rw [if_neg (by rw [c_81]; decide)]) (by show _ = (if ftB (T 8) (T k) p = true ∧ ftN (T 8) (T k) p = 0 then nI p else f1I (T 8) (T k) p); rw [← hn, ← hf]; first | exact (if_pos (And.intro c_62 c_66)).symm | exact (if_neg (fun q => c_66 q.2)).symm | exact (if_neg (fun q => by rw [c_62] at q; exact absurd q.1 (by decide))).symm) (by omega) _ _ ls (hP.sub [1, 2, 0] rfl) (hD.sub [1, 2, 0] (by decide) rfl) hS (lv_sub hl [4, 5, 6, 1, 2, 0] rfl)
              · refine lv_iconst (v := (nI 1)) xh bh dX9_fits_84 (by decide) ?_
                refine lv_goto (tgt := 89) xh bh dX9_fits_85 (by decide) ?_
                refine xn_iadd xh bh dX9_fits_89 ?_
                refine lv_istore_n (lv' := [(3, .int (nI (n + 1))), (4, .int f), (6, .int (ib (ftB (T 8) (T k) p))), (0, .ref (a 0)), (1, .int (nI k)), (2, .int (nI y2)), (5, .int (nI p))]) xh bh dX9_fits_90 rfl hl (by decide) rfl (fun ls hl => ?_)
                refine lv_iinc (v := (nI (p + 1))) (lv' := [(5, .int (nI (p + 1))), (3, .int (nI (n + 1))), (4, .int f), (6, .int (ib (ftB (T 8) (T k) p))), (0, .ref (a 0)), (1, .int (nI k)), (2, .int (nI y2))]) xh bh dX9_fits_91 hl (k := 6) rfl (by exact xn_inc _ _) (by decide) rfl (fun ls hl => ?_)
                refine lv_goto (tgt := 32) xh bh dX9_fits_94 (by decide) ?_
                exact ih_32 (p + 1) (n + 1) f (by omega) (by rw [hn]; show _ = ftN (T 8) (T k) p + (if ftB (T 8) (T k) p = true then 1 else 0); first | rw [if_pos c_81] | rw [if_neg (by rw [c_81]; decide)]) (by show _ = (if ftB (T 8) (T k) p = true ∧ ftN (T 8) (T k) p = 0 then nI p else f1I (T 8) (T k) p); rw [← hn, ← hf]; first | exact (if_pos (And.intro c_62 c_66)).symm | exact (if_neg (fun q => c_66 q.2)).symm | exact (if_neg (fun q => by rw [c_62] at q; exact absurd q.1 (by decide))).symm) (by omega) _ _ ls (hP.sub [1, 2, 0] rfl) (hD.sub [1, 2, 0] (by decide) rfl) hS (lv_sub hl [4, 5, 6, 1, 2, 0] rfl)
            · refine lv_iload_n xh bh dX9_fits_65 rfl (lv_at hl 4 rfl) ?_
              refine xn_if_ne (tgt := 74) xh bh dX9_fits_66 (by decide) (by have := ftN_le (T 8) (T k) p; omega) (fun c_66 => ?_) (fun c_66 => ?_)
              · refine lv_iload xh bh dX9_fits_74 (lv_at hl 5 rfl) ?_
                refine lv_istore (lv' := [(4, .int f), (6, .int (ib (ftB (T 8) (T k) p))), (0, .ref (a 0)), (1, .int (nI k)), (2, .int (nI y2)), (3, .int (nI n)), (5, .int (nI p))]) xh bh dX9_fits_76 hl (by decide) rfl (fun ls hl => ?_)
                refine lv_iload_n xh bh dX9_fits_78 rfl (lv_at hl 5 rfl) ?_
                refine lv_iload xh bh dX9_fits_79 (lv_at hl 1 rfl) ?_
                refine xb_if_eq (tgt := 88) xh bh dX9_fits_81 (by decide) (fun c_81 => ?_) (fun c_81 => ?_)
                · refine lv_iconst (v := (nI 0)) xh bh dX9_fits_88 (by decide) ?_
                  refine xn_iadd xh bh dX9_fits_89 ?_
                  refine lv_istore_n (lv' := [(3, .int (nI (n + 0))), (4, .int f), (6, .int (ib (ftB (T 8) (T k) p))), (0, .ref (a 0)), (1, .int (nI k)), (2, .int (nI y2)), (5, .int (nI p))]) xh bh dX9_fits_90 rfl hl (by decide) rfl (fun ls hl => ?_)
                  refine lv_iinc (v := (nI (p + 1))) (lv' := [(5, .int (nI (p + 1))), (3, .int (nI (n + 0))), (4, .int f), (6, .int (ib (ftB (T 8) (T k) p))), (0, .ref (a 0)), (1, .int (nI k)), (2, .int (nI y2))]) xh bh dX9_fits_91 hl (k := 6) rfl (by exact xn_inc _ _) (by decide) rfl (fun ls hl => ?_)
                  refine lv_goto (tgt := 32) xh bh dX9_fits_94 (by decide) ?_
                  exact ih_32 (p + 1) (n + 0) f (by omega) (by rw [hn]; show _ = ftN (T 8) (T k) p + (if ftB (T 8) (T k) p = true then 1 else 0); first | rw [if_pos c_81] | rw [if_neg (by rw [c_81]; decide)]) (by show _ = (if ftB (T 8) (T k) p = true ∧ ftN (T 8) (T k) p = 0 then nI p else f1I (T 8) (T k) p); rw [← hn, ← hf]; first | exact (if_pos (And.intro c_62 c_66)).symm | exact (if_neg (fun q => c_66 q.2)).symm | exact (if_neg (fun q => by rw [c_62] at q; exact absurd q.1 (by decide))).symm) (by omega) _ _ ls (hP.sub [1, 2, 0] rfl) (hD.sub [1, 2, 0] (by decide) rfl) hS (lv_sub hl [4, 5, 6, 1, 2, 0] rfl)
                · refine lv_iconst (v := (nI 1)) xh bh dX9_fits_84 (by decide) ?_
                  refine lv_goto (tgt := 89) xh bh dX9_fits_85 (by decide) ?_
                  refine xn_iadd xh bh dX9_fits_89 ?_
                  refine lv_istore_n (lv' := [(3, .int (nI (n + 1))), (4, .int f), (6, .int (ib (ftB (T 8) (T k) p))), (0, .ref (a 0)), (1, .int (nI k)), (2, .int (nI y2)), (5, .int (nI p))]) xh bh dX9_fits_90 rfl hl (by decide) rfl (fun ls hl => ?_)
                  refine lv_iinc (v := (nI (p + 1))) (lv' := [(5, .int (nI (p + 1))), (3, .int (nI (n + 1))), (4, .int f), (6, .int (ib (ftB (T 8) (T k) p))), (0, .ref (a 0)), (1, .int (nI k)), (2, .int (nI y2))]) xh bh dX9_fits_91 hl (k := 6) rfl (by exact xn_inc _ _) (by decide) rfl (fun ls hl => ?_)
                  refine lv_goto (tgt := 32) xh bh dX9_fits_94 (by decide) ?_
                  exact ih_32 (p + 1) (n + 1) f (by omega) (by rw [hn]; show _ = ftN (T 8) (T k) p + (if ftB (T 8) (T k) p = true then 1 else 0); first | rw [if_pos c_81] | rw [if_neg (by rw [c_81]; decide)]) (by show _ = (if ftB (T 8) (T k) p = true ∧ ftN (T 8) (T k) p = 0 then nI p else f1I (T 8) (T k) p); rw [← hn, ← hf]; first | exact (if_pos (And.intro c_62 c_66)).symm | exact (if_neg (fun q => c_66 q.2)).symm | exact (if_neg (fun q => by rw [c_62] at q; exact absurd q.1 (by decide))).symm) (by omega) _ _ ls (hP.sub [1, 2, 0] rfl) (hD.sub [1, 2, 0] (by decide) rfl) hS (lv_sub hl [4, 5, 6, 1, 2, 0] rfl)
              · refine lv_iload xh bh dX9_fits_69 (lv_at hl 6 rfl) ?_
                refine lv_goto (tgt := 76) xh bh dX9_fits_71 (by decide) ?_
                refine lv_istore (lv' := [(4, .int (nI p)), (6, .int (ib (ftB (T 8) (T k) p))), (0, .ref (a 0)), (1, .int (nI k)), (2, .int (nI y2)), (3, .int (nI n)), (5, .int (nI p))]) xh bh dX9_fits_76 hl (by decide) rfl (fun ls hl => ?_)
                refine lv_iload_n xh bh dX9_fits_78 rfl (lv_at hl 5 rfl) ?_
                refine lv_iload xh bh dX9_fits_79 (lv_at hl 1 rfl) ?_
                refine xb_if_eq (tgt := 88) xh bh dX9_fits_81 (by decide) (fun c_81 => ?_) (fun c_81 => ?_)
                · refine lv_iconst (v := (nI 0)) xh bh dX9_fits_88 (by decide) ?_
                  refine xn_iadd xh bh dX9_fits_89 ?_
                  refine lv_istore_n (lv' := [(3, .int (nI (n + 0))), (4, .int (nI p)), (6, .int (ib (ftB (T 8) (T k) p))), (0, .ref (a 0)), (1, .int (nI k)), (2, .int (nI y2)), (5, .int (nI p))]) xh bh dX9_fits_90 rfl hl (by decide) rfl (fun ls hl => ?_)
                  refine lv_iinc (v := (nI (p + 1))) (lv' := [(5, .int (nI (p + 1))), (3, .int (nI (n + 0))), (4, .int (nI p)), (6, .int (ib (ftB (T 8) (T k) p))), (0, .ref (a 0)), (1, .int (nI k)), (2, .int (nI y2))]) xh bh dX9_fits_91 hl (k := 6) rfl (by exact xn_inc _ _) (by decide) rfl (fun ls hl => ?_)
                  refine lv_goto (tgt := 32) xh bh dX9_fits_94 (by decide) ?_
                  exact ih_32 (p + 1) (n + 0) (nI p) (by omega) (by rw [hn]; show _ = ftN (T 8) (T k) p + (if ftB (T 8) (T k) p = true then 1 else 0); first | rw [if_pos c_81] | rw [if_neg (by rw [c_81]; decide)]) (by show _ = (if ftB (T 8) (T k) p = true ∧ ftN (T 8) (T k) p = 0 then nI p else f1I (T 8) (T k) p); rw [← hn, ← hf]; first | exact (if_pos (And.intro c_62 c_66)).symm | exact (if_neg (fun q => c_66 q.2)).symm | exact (if_neg (fun q => by rw [c_62] at q; exact absurd q.1 (by decide))).symm) (by omega) _ _ ls (hP.sub [1, 2, 0] rfl) (hD.sub [1, 2, 0] (by decide) rfl) hS (lv_sub hl [4, 5, 6, 1, 2, 0] rfl)
                · refine lv_iconst (v := (nI 1)) xh bh dX9_fits_84 (by decide) ?_
                  refine lv_goto (tgt := 89) xh bh dX9_fits_85 (by decide) ?_
                  refine xn_iadd xh bh dX9_fits_89 ?_
                  refine lv_istore_n (lv' := [(3, .int (nI (n + 1))), (4, .int (nI p)), (6, .int (ib (ftB (T 8) (T k) p))), (0, .ref (a 0)), (1, .int (nI k)), (2, .int (nI y2)), (5, .int (nI p))]) xh bh dX9_fits_90 rfl hl (by decide) rfl (fun ls hl => ?_)
                  refine lv_iinc (v := (nI (p + 1))) (lv' := [(5, .int (nI (p + 1))), (3, .int (nI (n + 1))), (4, .int (nI p)), (6, .int (ib (ftB (T 8) (T k) p))), (0, .ref (a 0)), (1, .int (nI k)), (2, .int (nI y2))]) xh bh dX9_fits_91 hl (k := 6) rfl (by exact xn_inc _ _) (by decide) rfl (fun ls hl => ?_)
                  refine lv_goto (tgt := 32) xh bh dX9_fits_94 (by decide) ?_
                  exact ih_32 (p + 1) (n + 1) (nI p) (by omega) (by rw [hn]; show _ = ftN (T 8) (T k) p + (if ftB (T 8) (T k) p = true then 1 else 0); first | rw [if_pos c_81] | rw [if_neg (by rw [c_81]; decide)]) (by show _ = (if ftB (T 8) (T k) p = true ∧ ftN (T 8) (T k) p = 0 then nI p else f1I (T 8) (T k) p); rw [← hn, ← hf]; first | exact (if_pos (And.intro c_62 c_66)).symm | exact (if_neg (fun q => c_66 q.2)).symm | exact (if_neg (fun q => by rw [c_62] at q; exact absurd q.1 (by decide))).symm) (by omega) _ _ ls (hP.sub [1, 2, 0] rfl) (hD.sub [1, 2, 0] (by decide) rfl) hS (lv_sub hl [4, 5, 6, 1, 2, 0] rfl)
      exact cut_32 ((T k).length + 1 - 0 + 1) 0 0 (-1) (by exact Nat.zero_le _) (by rfl) (by rfl) (Nat.lt_succ_self _) _ _ ls hP hD hS (lv_sub hl [3, 4, 5, 2, 1, 0] rfl)
    · have hk : kFit x y = 0 := if_neg (fun q => by rw [c_14] at q; exact absurd q.2 (by decide))
      refine lv_aload_n xh bh dX9_fits_17 rfl (lv_at hl 0 rfl) ?_
      refine lv_bipush (v := (-10)) xh bh dX9_fits_18 (by decide) ?_
      refine Ct.callV (As := [.int (-10)]) (rest := []) (wr := [(a 1, .inl (cJ, 9, .inr (.inl (fR T))))]) xh bh hml hown hts hK hP hD hS hA (ct_X9_bad l D cI cJ cB cZ cA a rf hm un fa fb lx bl ta tl tk va (-10) ) (cwV 1 hts gX9_fits_X9_bad rfl rfl rfl (by decide +kernel) ⟨Nat.le_of_ble_eq_true rfl, Nat.le_of_ble_eq_true rfl⟩) rfl rfl hl.1 (Nat.le_of_ble_eq_true rfl) dX9_fits_20 ⟨Nat.le_refl _, Nat.le_refl _⟩ 0 6 rfl rfl rfl [0, 2] [1] rfl (by decide) rfl rfl (by decide) (by decide) (fun _ H locs _ hP hD hS => ?_)
      have hP : va_P D vwCl [(a 1, .inl (cJ, 9, .inr (.inl (fR T)))), (a 0, .inr (6, [.ref (a 1), .ref (a 2), .int (nI hm), .int (nI un), .ref (a 3), .ref (a 4), .ref (a 5), .ref (a 6), .ref (a 7), .ref (a 8), .ref (a 9), .ref (a 10), .ref (a 11), .ref (a 12), .long fa, .long fb, .ref (a 13), .long (lN lx), .ref (a 14), .int (nI bl), .int (nI ta), .int (nI tl), .int (nI tk), .int (nI va), .ref (a 15), .ref (a 16), .ref (a 17)])), (a 12, .inl (cI, 3, .inl (upd rf 0 ((rf 0) + nI 1))))] H := hP
      have hD : va_D AG [(a 1, .inl (cJ, 9, .inr (.inl (fR T)))), (a 0, .inr (6, [.ref (a 1), .ref (a 2), .int (nI hm), .int (nI un), .ref (a 3), .ref (a 4), .ref (a 5), .ref (a 6), .ref (a 7), .ref (a 8), .ref (a 9), .ref (a 10), .ref (a 11), .ref (a 12), .long fa, .long fb, .ref (a 13), .long (lN lx), .ref (a 14), .int (nI bl), .int (nI ta), .int (nI tl), .int (nI tk), .int (nI va), .ref (a 15), .ref (a 16), .ref (a 17)])), (a 12, .inl (cI, 3, .inl (upd rf 0 ((rf 0) + nI 1))))] := hD
      refine W.eq (g2 := F0 mG 23 ls [.int (-10)]) rfl ?_
      exact hend (-10) () _ _ _ _ (congrArg (fun z => some (Value.int z)) (by rw [hk]; rfl)) trivial rfl dX9_fits_23 (by rw [hk]; exact (hP.sub [1, 0, 2] rfl)) (by rw [hk]; exact (hD.sub [1, 0, 2] (by decide) rfl)) hS

set_option maxHeartbeats 1000000 in
set_option maxRecDepth 100000 in
theorem ct_X9_covers (l : Launch) (D : va_G) (cI cJ cB cZ cA : ClassId) (a : Nat → Nat) (T : Nat → List Nat) (rf : Nat → Int32) (hm : Nat) (un : Nat) (fa : Int64) (fb : Int64) (lx : Nat) (bl : Nat) (ta : Nat) (tl : Nat) (tk : Nat) (va : Nat) (x : Int32) (hT : ∀ k, okT (T k)) : Ct l yX9_covers wsX9_covers ({ frames := 2, cells := 0, slots := 0, locals := 49 }) D (tysG cI cJ cB cZ cA) [.ref (a 0), .int x] [(a 0, .inr (6, [.ref (a 1), .ref (a 2), .int (nI hm), .int (nI un), .ref (a 3), .ref (a 4), .ref (a 5), .ref (a 6), .ref (a 7), .ref (a 8), .ref (a 9), .ref (a 10), .ref (a 11), .ref (a 12), .long fa, .long fb, .ref (a 13), .long (lN lx), .ref (a 14), .int (nI bl), .int (nI ta), .int (nI tl), .int (nI tk), .int (nI va), .ref (a 15), .ref (a 16), .ref (a 17)])), (a 1, .inl (cJ, 9, .inr (.inl (fR T)))), (a 12, .inl (cI, 3, .inl rf))] (fun (_ : Unit) => True) (fun _ => some (.int (eTwo (kBr x) (cvI (T 8) (T (xN x)))))) (fun _ => [(a 0, .inr (6, [.ref (a 1), .ref (a 2), .int (nI hm), .int (nI un), .ref (a 3), .ref (a 4), .ref (a 5), .ref (a 6), .ref (a 7), .ref (a 8), .ref (a 9), .ref (a 10), .ref (a 11), .ref (a 12), .long fa, .long fb, .ref (a 13), .long (lN lx), .ref (a 14), .int (nI bl), .int (nI ta), .int (nI tl), .int (nI tk), .int (nI va), .ref (a 15), .ref (a 16), .ref (a 17)])), (a 1, .inl (cJ, 9, .inr (.inl (fR T)))), (a 12, .inl (cI, 3, .inl (rfU (kBr x) rf)))]) := by
  refine Ct.ofI (cc := cX9_covers) (maxL := 7) (by decide) rfl (Nat.le_of_ble_eq_true rfl) ?_
  intro pG eG sG mG aG bG tG cG AG QG ls xh bh hml hown hts hK hP hD hS hA hend hl
  have hl : lv_has ls 7 [(0, .ref (a 0)), (1, .int x)] := hl
  refine lv_iload_n xh bh dX9_covers_0 rfl (lv_at hl 1 rfl) ?_
  refine Ct.callS0 (rest := []) xh bh hml hown hts hK hP hS hA (ct_X9_isBranch l D cI cJ cB cZ cA x ) (va_cwS 1 hts gX9_covers_X9_isBranch rfl rfl rfl (by decide +kernel) ⟨Nat.le_of_ble_eq_true rfl, Nat.le_of_ble_eq_true rfl⟩) rfl rfl hl.1 (Nat.le_of_ble_eq_true rfl) dX9_covers_1 ⟨Nat.le_refl _, Nat.le_refl _⟩ (fun _ H locs _ hP hS => ?_)
  refine W.eq (g2 := F0 mG 4 ls [.int (ib (upB x 7))]) rfl ?_
  refine xb_if_ne (tgt := 14) xh bh dX9_covers_4 (by decide) (fun c_4 => ?_) (fun c_4 => ?_)
  · have hk : kBr x = 3 := if_pos c_4
    obtain ⟨k, hk9, rfl⟩ := upB_of (by decide) c_4
    have lk := (hT k).1
    have l8 := (hT 8).1
    refine lv_aload_n xh bh dX9_covers_14 rfl (lv_at hl 0 rfl) ?_
    refine va_get (D := D) (ci := 6) (v := .ref (a 1)) (C := RX9) (T := TX9) (N := 27) xh bh hts (fun _ h => List.mem_cons_of_mem _ (List.mem_append_right _ (h))) hown hK.1 hP 0 rfl rfl 0 (by decide) (hts _ (List.mem_of_getElem? (i := 1) rfl)) (fun _ h9 => h9) rfl dX9_covers_15 ?_
    refine lv_iload_n xh bh dX9_covers_18 rfl (lv_at hl 1 rfl) ?_
    refine xa_lald xh bh hK.1 hP 1 1 rfl rfl (by omega) (by omega) dX9_covers_19 ?_
    refine W.eq (g2 := F0 mG 20 ls [.long (eR (T k))]) rfl ?_
    refine lv_lstore_n (lv' := [(2, .long (eR (T k))), (0, .ref (a 0)), (1, .int (nI k))]) xh bh dX9_covers_20 rfl hl (by decide) rfl (fun ls hl => ?_)
    refine lv_iconst (v := (nI 0)) xh bh dX9_covers_21 (by decide) ?_
    refine lv_istore (lv' := [(4, .int (nI 0)), (2, .long (eR (T k))), (0, .ref (a 0)), (1, .int (nI k))]) xh bh dX9_covers_22 hl (by decide) rfl (fun ls hl => ?_)
    refine lv_iconst (v := (nI 0)) xh bh dX9_covers_24 (by decide) ?_
    refine lv_istore (lv' := [(5, .int (nI 0)), (4, .int (nI 0)), (2, .long (eR (T k))), (0, .ref (a 0)), (1, .int (nI k))]) xh bh dX9_covers_25 hl (by decide) rfl (fun ls hl => ?_)
    have cut_27 : ∀ (n_27 : Nat), ∀ (p : Nat), ∀ (z : Nat), (p ≤ (T k).length) → (z = cvN (T 8) (T k) p) → ((T k).length - p) < n_27 → ∀ (H : Heap) (locs : List Loc) (ls : Array Slot), va_P D vwCl [(a 0, .inr (6, [.ref (a 1), .ref (a 2), .int (nI hm), .int (nI un), .ref (a 3), .ref (a 4), .ref (a 5), .ref (a 6), .ref (a 7), .ref (a 8), .ref (a 9), .ref (a 10), .ref (a 11), .ref (a 12), .long fa, .long fb, .ref (a 13), .long (lN lx), .ref (a 14), .int (nI bl), .int (nI ta), .int (nI tl), .int (nI tk), .int (nI va), .ref (a 15), .ref (a 16), .ref (a 17)])), (a 1, .inl (cJ, 9, .inr (.inl (fR T)))), (a 12, .inl (cI, 3, .inl rf))] H → va_D AG [(a 0, .inr (6, [.ref (a 1), .ref (a 2), .int (nI hm), .int (nI un), .ref (a 3), .ref (a 4), .ref (a 5), .ref (a 6), .ref (a 7), .ref (a 8), .ref (a 9), .ref (a 10), .ref (a 11), .ref (a 12), .long fa, .long fb, .ref (a 13), .long (lN lx), .ref (a 14), .int (nI bl), .int (nI ta), .int (nI tl), .int (nI tk), .int (nI va), .ref (a 15), .ref (a 16), .ref (a 17)])), (a 1, .inl (cJ, 9, .inr (.inl (fR T)))), (a 12, .inl (cI, 3, .inl rf))] → va_S AG sG.heap H locs → lv_has ls 7 [(0, .ref (a 0)), (1, .int (nI k)), (2, .long (eR (T k))), (4, .int (nI z)), (5, .int (nI p))] → W pG l eG ({ frames := 2, cells := 0, slots := 0, locals := 49 }) sG mG aG bG tG cG H locs 0 0 QG (F0 mG 27 ls []) := by
      intro n_27
      induction n_27 with
      | zero =>
        intro p z hp hz hmu
        exact absurd hmu (Nat.not_lt_zero _)
      | succ n_27 ih_27 =>
        intro p z hp hz hmu H locs ls hP hD hS hl
        refine lv_iload xh bh dX9_covers_27 (lv_at hl 4 rfl) ?_
        refine lv_lload_n xh bh dX9_covers_29 rfl (lv_at hl 2 rfl) ?_
        refine Ct.callS0 (rest := [.int (nI p)]) xh bh hml hown hts hK hP hS hA (ct_X9_many l D cI cJ cB cZ cA (T k) (by exact hT _)) (va_cwS 1 hts gX9_covers_X9_many rfl rfl rfl (by decide +kernel) ⟨Nat.le_of_ble_eq_true rfl, Nat.le_of_ble_eq_true rfl⟩) rfl rfl hl.1 (Nat.le_of_ble_eq_true rfl) dX9_covers_30 ⟨Nat.le_refl _, Nat.le_refl _⟩ (fun _ H locs _ hP hS => ?_)
        refine W.eq (g2 := F0 mG 33 ls [.int (nI ((T k).length)), .int (nI p)]) rfl ?_
        refine xn_icmp_ge (tgt := 82) xh bh dX9_covers_33 (by decide) (by omega) (by omega) (fun c_33 => ?_) (fun c_33 => ?_)
        · refine lv_aload_n xh bh dX9_covers_82 rfl (lv_at hl 0 rfl) ?_
          refine Ct.callV (As := []) (rest := []) (wr := [(a 12, .inl (cI, 3, .inl rf))]) xh bh hml hown hts hK hP hD hS hA (ct_X9_rowMany l D cI cJ cB cZ cA a T hm un fa fb lx bl ta tl tk va (by first | assumption)) (cwV 0 hts gX9_covers_X9_rowMany rfl rfl rfl (by decide +kernel) ⟨Nat.le_of_ble_eq_true rfl, Nat.le_of_ble_eq_true rfl⟩) rfl rfl hl.1 (Nat.le_of_ble_eq_true rfl) dX9_covers_83 ⟨Nat.le_refl _, Nat.le_refl _⟩ 0 6 rfl rfl rfl [0, 1] [2] rfl (by decide) rfl rfl (by decide) (by decide) (fun _ H locs _ hP hD hS => ?_)
          have hP : va_P D vwCl [(a 12, .inl (cI, 3, .inl rf)), (a 0, .inr (6, [.ref (a 1), .ref (a 2), .int (nI hm), .int (nI un), .ref (a 3), .ref (a 4), .ref (a 5), .ref (a 6), .ref (a 7), .ref (a 8), .ref (a 9), .ref (a 10), .ref (a 11), .ref (a 12), .long fa, .long fb, .ref (a 13), .long (lN lx), .ref (a 14), .int (nI bl), .int (nI ta), .int (nI tl), .int (nI tk), .int (nI va), .ref (a 15), .ref (a 16), .ref (a 17)])), (a 1, .inl (cJ, 9, .inr (.inl (fR T))))] H := hP
          have hD : va_D AG [(a 12, .inl (cI, 3, .inl rf)), (a 0, .inr (6, [.ref (a 1), .ref (a 2), .int (nI hm), .int (nI un), .ref (a 3), .ref (a 4), .ref (a 5), .ref (a 6), .ref (a 7), .ref (a 8), .ref (a 9), .ref (a 10), .ref (a 11), .ref (a 12), .long fa, .long fb, .ref (a 13), .long (lN lx), .ref (a 14), .int (nI bl), .int (nI ta), .int (nI tl), .int (nI tk), .int (nI va), .ref (a 15), .ref (a 16), .ref (a 17)])), (a 1, .inl (cJ, 9, .inr (.inl (fR T))))] := hD
          refine W.eq (g2 := F0 mG 86 ls [.int (nI ((T 8).length))]) rfl ?_
          refine xn_if_le (tgt := 106) xh bh dX9_covers_86 (by decide) (by omega) (fun c_86 => ?_) (fun c_86 => ?_)
          · have d86 : ¬ 0 < (T 8).length := by omega
            refine lv_iconst (v := (nI 0)) xh bh dX9_covers_106 (by decide) ?_
            exact hend (nI 0) () _ _ _ _ (congrArg (fun z => some (Value.int z)) (by rw [hk, xN_nI (by omega)]; refine congrArg nI ?_; unfold cvI; rw [show (T k).length = p by omega, ← hz]; first | exact if_pos (And.intro c_86 d99) | exact if_neg (fun q => d99 q.2) | exact if_neg (fun q => d86 q.1))) trivial rfl dX9_covers_107 (by rw [hk]; exact (hP.sub [1, 2, 0] rfl)) (by rw [hk]; exact (hD.sub [1, 2, 0] (by decide) rfl)) hS
          · refine lv_iload xh bh dX9_covers_89 (lv_at hl 3 rfl) ?_
            refine lv_iconst (v := (nI 1)) xh bh dX9_covers_91 (by decide) ?_
            refine lv_lload_n xh bh dX9_covers_92 rfl (lv_at hl 2 rfl) ?_
            refine Ct.callS0 (rest := [.int (nI 1), .int (nI z)]) xh bh hml hown hts hK hP hS hA (ct_X9_many l D cI cJ cB cZ cA (T k) (by exact hT _)) (va_cwS 1 hts gX9_covers_X9_many rfl rfl rfl (by decide +kernel) ⟨Nat.le_of_ble_eq_true rfl, Nat.le_of_ble_eq_true rfl⟩) rfl rfl hl.1 (Nat.le_of_ble_eq_true rfl) dX9_covers_93 ⟨Nat.le_refl _, Nat.le_refl _⟩ (fun _ H locs _ hP hS => ?_)
            refine W.eq (g2 := F0 mG 96 ls [.int (nI ((T k).length)), .int (nI 1), .int (nI z)]) rfl ?_
            refine xn_ishl1 xh bh dX9_covers_96 (by omega) ?_
            refine lv_iconst (v := (nI 1)) xh bh dX9_covers_97 (by decide) ?_
            refine xn_isub xh bh dX9_covers_98 (by exact Nat.two_pow_pos _) ?_
            refine xn_icmp_ne (tgt := 106) xh bh dX9_covers_99 (by decide) (by first | (have := covB (T 8) (T k) l8 p (by omega); omega) | (have : 2 ^ (T k).length ≤ 2 ^ 10 := Nat.pow_le_pow_right (by decide) lk; omega)) (by first | (have := covB (T 8) (T k) l8 p (by omega); omega) | (have : 2 ^ (T k).length ≤ 2 ^ 10 := Nat.pow_le_pow_right (by decide) lk; omega)) (fun c_99 => ?_) (fun c_99 => ?_)
            · have d99 : ¬ z = 2 ^ p - 1 := fun q => c_99 (by rw [q, show (T k).length = p by omega])
              refine lv_iconst (v := (nI 0)) xh bh dX9_covers_106 (by decide) ?_
              exact hend (nI 0) () _ _ _ _ (congrArg (fun z => some (Value.int z)) (by rw [hk, xN_nI (by omega)]; refine congrArg nI ?_; unfold cvI; rw [show (T k).length = p by omega, ← hz]; first | exact if_pos (And.intro c_86 d99) | exact if_neg (fun q => d99 q.2) | exact if_neg (fun q => d86 q.1))) trivial rfl dX9_covers_107 (by rw [hk]; exact (hP.sub [1, 2, 0] rfl)) (by rw [hk]; exact (hD.sub [1, 2, 0] (by decide) rfl)) hS
            · have d99 : z = 2 ^ p - 1 := by rw [c_99, show (T k).length = p by omega]
              refine lv_iconst (v := (nI 1)) xh bh dX9_covers_102 (by decide) ?_
              refine lv_goto (tgt := 107) xh bh dX9_covers_103 (by decide) ?_
              exact hend (nI 1) () _ _ _ _ (congrArg (fun z => some (Value.int z)) (by rw [hk, xN_nI (by omega)]; refine congrArg nI ?_; unfold cvI; rw [show (T k).length = p by omega, ← hz]; first | exact if_pos (And.intro c_86 d99) | exact if_neg (fun q => d99 q.2) | exact if_neg (fun q => d86 q.1))) trivial rfl dX9_covers_107 (by rw [hk]; exact (hP.sub [1, 2, 0] rfl)) (by rw [hk]; exact (hD.sub [1, 2, 0] (by decide) rfl)) hS
        · refine lv_iconst (v := (nI 0)) xh bh dX9_covers_36 (by decide) ?_
          refine lv_istore (lv' := [(6, .int (nI 0)), (0, .ref (a 0)), (1, .int (nI k)), (2, .long (eR (T k))), (4, .int (nI z)), (5, .int (nI p))]) xh bh dX9_covers_37 hl (by decide) rfl (fun ls hl => ?_)
          have cut_39 : ∀ (n_39 : Nat), ∀ (j : Nat), ∀ (z2 : Nat), (j ≤ (T 8).length) → (z2 = cvN (T 8) (T k) p ||| rbN p j) → (0 < j → ftB (T 8) (T k) p = true) → ((T 8).length - j) < n_39 → ∀ (H : Heap) (locs : List Loc) (ls : Array Slot), va_P D vwCl [(a 0, .inr (6, [.ref (a 1), .ref (a 2), .int (nI hm), .int (nI un), .ref (a 3), .ref (a 4), .ref (a 5), .ref (a 6), .ref (a 7), .ref (a 8), .ref (a 9), .ref (a 10), .ref (a 11), .ref (a 12), .long fa, .long fb, .ref (a 13), .long (lN lx), .ref (a 14), .int (nI bl), .int (nI ta), .int (nI tl), .int (nI tk), .int (nI va), .ref (a 15), .ref (a 16), .ref (a 17)])), (a 1, .inl (cJ, 9, .inr (.inl (fR T)))), (a 12, .inl (cI, 3, .inl rf))] H → va_D AG [(a 0, .inr (6, [.ref (a 1), .ref (a 2), .int (nI hm), .int (nI un), .ref (a 3), .ref (a 4), .ref (a 5), .ref (a 6), .ref (a 7), .ref (a 8), .ref (a 9), .ref (a 10), .ref (a 11), .ref (a 12), .long fa, .long fb, .ref (a 13), .long (lN lx), .ref (a 14), .int (nI bl), .int (nI ta), .int (nI tl), .int (nI tk), .int (nI va), .ref (a 15), .ref (a 16), .ref (a 17)])), (a 1, .inl (cJ, 9, .inr (.inl (fR T)))), (a 12, .inl (cI, 3, .inl rf))] → va_S AG sG.heap H locs → lv_has ls 7 [(0, .ref (a 0)), (1, .int (nI k)), (2, .long (eR (T k))), (4, .int (nI z2)), (5, .int (nI p)), (6, .int (nI j))] → W pG l eG ({ frames := 2, cells := 0, slots := 0, locals := 49 }) sG mG aG bG tG cG H locs 0 0 QG (F0 mG 39 ls []) := by
            intro n_39
            induction n_39 with
            | zero =>
              intro j z2 hj hz2 hq hmu
              exact absurd hmu (Nat.not_lt_zero _)
            | succ n_39 ih_39 =>
              intro j z2 hj hz2 hq hmu H locs ls hP hD hS hl
              refine lv_iload xh bh dX9_covers_39 (lv_at hl 5 rfl) ?_
              refine lv_aload_n xh bh dX9_covers_41 rfl (lv_at hl 0 rfl) ?_
              refine Ct.callV (As := []) (rest := [.int (nI j)]) (wr := [(a 12, .inl (cI, 3, .inl rf))]) xh bh hml hown hts hK hP hD hS hA (ct_X9_rowMany l D cI cJ cB cZ cA a T hm un fa fb lx bl ta tl tk va (by first | assumption)) (cwV 0 hts gX9_covers_X9_rowMany rfl rfl rfl (by decide +kernel) ⟨Nat.le_of_ble_eq_true rfl, Nat.le_of_ble_eq_true rfl⟩) rfl rfl hl.1 (Nat.le_of_ble_eq_true rfl) dX9_covers_42 ⟨Nat.le_refl _, Nat.le_refl _⟩ 0 6 rfl rfl rfl [0, 1] [2] rfl (by decide) rfl rfl (by decide) (by decide) (fun _ H locs _ hP hD hS => ?_)
              have hP : va_P D vwCl [(a 12, .inl (cI, 3, .inl rf)), (a 0, .inr (6, [.ref (a 1), .ref (a 2), .int (nI hm), .int (nI un), .ref (a 3), .ref (a 4), .ref (a 5), .ref (a 6), .ref (a 7), .ref (a 8), .ref (a 9), .ref (a 10), .ref (a 11), .ref (a 12), .long fa, .long fb, .ref (a 13), .long (lN lx), .ref (a 14), .int (nI bl), .int (nI ta), .int (nI tl), .int (nI tk), .int (nI va), .ref (a 15), .ref (a 16), .ref (a 17)])), (a 1, .inl (cJ, 9, .inr (.inl (fR T))))] H := hP
              have hD : va_D AG [(a 12, .inl (cI, 3, .inl rf)), (a 0, .inr (6, [.ref (a 1), .ref (a 2), .int (nI hm), .int (nI un), .ref (a 3), .ref (a 4), .ref (a 5), .ref (a 6), .ref (a 7), .ref (a 8), .ref (a 9), .ref (a 10), .ref (a 11), .ref (a 12), .long fa, .long fb, .ref (a 13), .long (lN lx), .ref (a 14), .int (nI bl), .int (nI ta), .int (nI tl), .int (nI tk), .int (nI va), .ref (a 15), .ref (a 16), .ref (a 17)])), (a 1, .inl (cJ, 9, .inr (.inl (fR T))))] := hD
              refine W.eq (g2 := F0 mG 45 ls [.int (nI ((T 8).length)), .int (nI j)]) rfl ?_
              refine xn_icmp_ge (tgt := 76) xh bh dX9_covers_45 (by decide) (by omega) (by omega) (fun c_45 => ?_) (fun c_45 => ?_)
              · refine lv_iinc (v := (nI (p + 1))) (lv' := [(5, .int (nI (p + 1))), (0, .ref (a 0)), (1, .int (nI k)), (2, .long (eR (T k))), (4, .int (nI z2)), (6, .int (nI j))]) xh bh dX9_covers_76 hl (k := 4) rfl (by exact xn_inc _ _) (by decide) rfl (fun ls hl => ?_)
                refine lv_goto (tgt := 27) xh bh dX9_covers_79 (by decide) ?_
                exact ih_27 (p + 1) z2 (by omega) (by rw [hz2]; first | exact covS hq (Or.inr c_55) | exact covS hq (Or.inl (by omega))) (by omega) _ _ ls (hP.sub [1, 2, 0] rfl) (hD.sub [1, 2, 0] (by decide) rfl) hS (lv_sub hl [1, 2, 3, 4, 0] rfl)
              · refine lv_aload_n xh bh dX9_covers_48 rfl (lv_at hl 0 rfl) ?_
                refine lv_lload_n xh bh dX9_covers_49 rfl (lv_at hl 2 rfl) ?_
                refine lv_iload xh bh dX9_covers_50 (lv_at hl 4 rfl) ?_
                refine Ct.callV (As := [.long (eR (T k)), .int (nI p)]) (rest := []) (wr := [(a 12, .inl (cI, 3, .inl rf))]) xh bh hml hown hts hK hP hD hS hA (ct_X9_fitsAt l D cI cJ cB cZ cA a T hm un fa fb lx bl ta tl tk va (T k) p (by first | assumption) (by exact hT _) (by first | assumption | omega)) (cwV 2 hts gX9_covers_X9_fitsAt rfl rfl rfl (by decide +kernel) ⟨Nat.le_of_ble_eq_true rfl, Nat.le_of_ble_eq_true rfl⟩) rfl rfl hl.1 (Nat.le_of_ble_eq_true rfl) dX9_covers_52 ⟨Nat.le_refl _, Nat.le_refl _⟩ 0 6 rfl rfl rfl [1, 2] [0] rfl (by decide) rfl rfl (by decide) (by decide) (fun _ H locs _ hP hD hS => ?_)
                have hP : va_P D vwCl [(a 12, .inl (cI, 3, .inl rf)), (a 0, .inr (6, [.ref (a 1), .ref (a 2), .int (nI hm), .int (nI un), .ref (a 3), .ref (a 4), .ref (a 5), .ref (a 6), .ref (a 7), .ref (a 8), .ref (a 9), .ref (a 10), .ref (a 11), .ref (a 12), .long fa, .long fb, .ref (a 13), .long (lN lx), .ref (a 14), .int (nI bl), .int (nI ta), .int (nI tl), .int (nI tk), .int (nI va), .ref (a 15), .ref (a 16), .ref (a 17)])), (a 1, .inl (cJ, 9, .inr (.inl (fR T))))] H := hP
                have hD : va_D AG [(a 12, .inl (cI, 3, .inl rf)), (a 0, .inr (6, [.ref (a 1), .ref (a 2), .int (nI hm), .int (nI un), .ref (a 3), .ref (a 4), .ref (a 5), .ref (a 6), .ref (a 7), .ref (a 8), .ref (a 9), .ref (a 10), .ref (a 11), .ref (a 12), .long fa, .long fb, .ref (a 13), .long (lN lx), .ref (a 14), .int (nI bl), .int (nI ta), .int (nI tl), .int (nI tk), .int (nI va), .ref (a 15), .ref (a 16), .ref (a 17)])), (a 1, .inl (cJ, 9, .inr (.inl (fR T))))] := hD
                refine W.eq (g2 := F0 mG 55 ls [.int (ib (ftB (T 8) (T k) p))]) rfl ?_
                refine xb_if_eq (tgt := 76) xh bh dX9_covers_55 (by decide) (fun c_55 => ?_) (fun c_55 => ?_)
                · refine lv_iinc (v := (nI (p + 1))) (lv' := [(5, .int (nI (p + 1))), (0, .ref (a 0)), (1, .int (nI k)), (2, .long (eR (T k))), (4, .int (nI z2)), (6, .int (nI j))]) xh bh dX9_covers_76 hl (k := 4) rfl (by exact xn_inc _ _) (by decide) rfl (fun ls hl => ?_)
                  refine lv_goto (tgt := 27) xh bh dX9_covers_79 (by decide) ?_
                  exact ih_27 (p + 1) z2 (by omega) (by rw [hz2]; first | exact covS hq (Or.inr c_55) | exact covS hq (Or.inl (by omega))) (by omega) _ _ ls (hP.sub [1, 2, 0] rfl) (hD.sub [1, 2, 0] (by decide) rfl) hS (lv_sub hl [1, 2, 3, 4, 0] rfl)
                · refine lv_iload xh bh dX9_covers_58 (lv_at hl 3 rfl) ?_
                  refine lv_iconst (v := (nI 1)) xh bh dX9_covers_60 (by decide) ?_
                  refine lv_iload xh bh dX9_covers_61 (lv_at hl 4 rfl) ?_
                  refine lv_iload xh bh dX9_covers_63 (lv_at hl 5 rfl) ?_
                  refine xn_iadd xh bh dX9_covers_65 ?_
                  refine xn_ishl1 xh bh dX9_covers_66 (by omega) ?_
                  refine xn_ior xh bh dX9_covers_67 ?_
                  refine lv_istore (lv' := [(4, .int (nI (z2 ||| (2 ^ (p + j))))), (0, .ref (a 0)), (1, .int (nI k)), (2, .long (eR (T k))), (5, .int (nI p)), (6, .int (nI j))]) xh bh dX9_covers_68 hl (by decide) rfl (fun ls hl => ?_)
                  refine lv_iinc (v := (nI (j + 1))) (lv' := [(6, .int (nI (j + 1))), (4, .int (nI (z2 ||| (2 ^ (p + j))))), (0, .ref (a 0)), (1, .int (nI k)), (2, .long (eR (T k))), (5, .int (nI p))]) xh bh dX9_covers_70 hl (k := 5) rfl (by exact xn_inc _ _) (by decide) rfl (fun ls hl => ?_)
                  refine lv_goto (tgt := 39) xh bh dX9_covers_73 (by decide) ?_
                  exact ih_39 (j + 1) (z2 ||| (2 ^ (p + j))) (by omega) (by rw [hz2, Nat.or_assoc]; rfl) (by exact fun _ => c_55) (by omega) _ _ ls (hP.sub [1, 2, 0] rfl) (hD.sub [1, 2, 0] (by decide) rfl) hS (lv_sub hl [2, 3, 4, 1, 5, 0] rfl)
          exact cut_39 ((T 8).length - 0 + 1) 0 z (by exact Nat.zero_le _) (by rw [hz]; exact (Nat.or_zero _).symm) (by exact fun q => absurd q (Nat.lt_irrefl _)) (Nat.lt_succ_self _) _ _ ls hP hD hS (lv_sub hl [1, 2, 3, 4, 5, 0] rfl)
    exact cut_27 ((T k).length - 0 + 1) 0 0 (by exact Nat.zero_le _) (by rfl) (Nat.lt_succ_self _) _ _ ls hP hD hS (lv_sub hl [3, 4, 2, 1, 0] rfl)
  · have hk : kBr x = 0 := if_neg (by rw [c_4]; decide)
    refine lv_aload_n xh bh dX9_covers_7 rfl (lv_at hl 0 rfl) ?_
    refine lv_bipush (v := (-2)) xh bh dX9_covers_8 (by decide) ?_
    refine Ct.callV (As := [.int (-2)]) (rest := []) (wr := [(a 1, .inl (cJ, 9, .inr (.inl (fR T))))]) xh bh hml hown hts hK hP hD hS hA (ct_X9_bad l D cI cJ cB cZ cA a rf hm un fa fb lx bl ta tl tk va (-2) ) (cwV 1 hts gX9_covers_X9_bad rfl rfl rfl (by decide +kernel) ⟨Nat.le_of_ble_eq_true rfl, Nat.le_of_ble_eq_true rfl⟩) rfl rfl hl.1 (Nat.le_of_ble_eq_true rfl) dX9_covers_10 ⟨Nat.le_refl _, Nat.le_refl _⟩ 0 6 rfl rfl rfl [0, 2] [1] rfl (by decide) rfl rfl (by decide) (by decide) (fun _ H locs _ hP hD hS => ?_)
    have hP : va_P D vwCl [(a 1, .inl (cJ, 9, .inr (.inl (fR T)))), (a 0, .inr (6, [.ref (a 1), .ref (a 2), .int (nI hm), .int (nI un), .ref (a 3), .ref (a 4), .ref (a 5), .ref (a 6), .ref (a 7), .ref (a 8), .ref (a 9), .ref (a 10), .ref (a 11), .ref (a 12), .long fa, .long fb, .ref (a 13), .long (lN lx), .ref (a 14), .int (nI bl), .int (nI ta), .int (nI tl), .int (nI tk), .int (nI va), .ref (a 15), .ref (a 16), .ref (a 17)])), (a 12, .inl (cI, 3, .inl (upd rf 0 ((rf 0) + nI 1))))] H := hP
    have hD : va_D AG [(a 1, .inl (cJ, 9, .inr (.inl (fR T)))), (a 0, .inr (6, [.ref (a 1), .ref (a 2), .int (nI hm), .int (nI un), .ref (a 3), .ref (a 4), .ref (a 5), .ref (a 6), .ref (a 7), .ref (a 8), .ref (a 9), .ref (a 10), .ref (a 11), .ref (a 12), .long fa, .long fb, .ref (a 13), .long (lN lx), .ref (a 14), .int (nI bl), .int (nI ta), .int (nI tl), .int (nI tk), .int (nI va), .ref (a 15), .ref (a 16), .ref (a 17)])), (a 12, .inl (cI, 3, .inl (upd rf 0 ((rf 0) + nI 1))))] := hD
    refine W.eq (g2 := F0 mG 13 ls [.int (-2)]) rfl ?_
    exact hend (-2) () _ _ _ _ (congrArg (fun z => some (Value.int z)) (by rw [hk]; rfl)) trivial rfl dX9_covers_13 (by rw [hk]; exact (hP.sub [1, 0, 2] rfl)) (by rw [hk]; exact (hD.sub [1, 0, 2] (by decide) rfl)) hS

set_option maxHeartbeats 1000000 in
set_option maxRecDepth 100000 in
theorem ct_X9_heard (l : Launch) (D : va_G) (cI cJ cB cZ cA : ClassId) (a : Nat → Nat) (hs : Nat → Nat) (rf : Nat → Int32) (hm : Nat) (un : Nat) (fa : Int64) (fb : Int64) (lx : Nat) (bl : Nat) (ta : Nat) (tl : Nat) (tk : Nat) (va : Nat) (x : Int32) (y : Int32) (hhm : hm ≤ 6) : Ct l yX9_heard wsX9_heard ({ frames := 2, cells := 0, slots := 0, locals := 45 }) D (tysG cI cJ cB cZ cA) [.ref (a 0), .int x, .int y] [(a 0, .inr (6, [.ref (a 1), .ref (a 2), .int (nI hm), .int (nI un), .ref (a 3), .ref (a 4), .ref (a 5), .ref (a 6), .ref (a 7), .ref (a 8), .ref (a 9), .ref (a 10), .ref (a 11), .ref (a 12), .long fa, .long fb, .ref (a 13), .long (lN lx), .ref (a 14), .int (nI bl), .int (nI ta), .int (nI tl), .int (nI tk), .int (nI va), .ref (a 15), .ref (a 16), .ref (a 17)])), (a 3, .inl (cI, 12, .inl (fN hs))), (a 12, .inl (cI, 3, .inl rf))] (fun (_ : Unit) => True) (fun _ => some (.int (eHd (kHd x y hm) hm))) (fun _ => [(a 0, .inr (6, [.ref (a 1), .ref (a 2), .int (nI (s3N (kHd x y hm) hm (hm + 1))), .int (nI un), .ref (a 3), .ref (a 4), .ref (a 5), .ref (a 6), .ref (a 7), .ref (a 8), .ref (a 9), .ref (a 10), .ref (a 11), .ref (a 12), .long fa, .long fb, .ref (a 13), .long (lN lx), .ref (a 14), .int (nI bl), .int (nI ta), .int (nI tl), .int (nI tk), .int (nI va), .ref (a 15), .ref (a 16), .ref (a 17)])), (a 3, .inl (cI, 12, .inl (fN (upK (kHd x y hm) (upK (kHd x y hm) hs (2 * hm) (xN x)) (2 * hm + 1) (xN y))))), (a 12, .inl (cI, 3, .inl (rfU (kHd x y hm) rf)))]) := by
  refine Ct.ofI (cc := cX9_heard) (maxL := 3) (by decide) rfl (Nat.le_of_ble_eq_true rfl) ?_
  intro pG eG sG mG aG bG tG cG AG QG ls xh bh hml hown hts hK hP hD hS hA hend hl
  have hl : lv_has ls 3 [(0, .ref (a 0)), (1, .int x), (2, .int y)] := hl
  refine lv_iload_n xh bh dX9_heard_0 rfl (lv_at hl 1 rfl) ?_
  refine Ct.callS0 (rest := []) xh bh hml hown hts hK hP hS hA (ct_X9_isPart l D cI cJ cB cZ cA x ) (va_cwS 1 hts gX9_heard_X9_isPart rfl rfl rfl (by decide +kernel) ⟨Nat.le_of_ble_eq_true rfl, Nat.le_of_ble_eq_true rfl⟩) rfl rfl hl.1 (Nat.le_of_ble_eq_true rfl) dX9_heard_1 ⟨Nat.le_refl _, Nat.le_refl _⟩ (fun _ H locs _ hP hS => ?_)
  refine W.eq (g2 := F0 mG 4 ls [.int (ib (upB x 9))]) rfl ?_
  refine xb_if_eq (tgt := 17) xh bh dX9_heard_4 (by decide) (fun c_4 => ?_) (fun c_4 => ?_)
  · have hk : kHd x y hm = 0 := if_neg (fun q => by rw [c_4] at q; exact absurd q.1 (by decide))
    refine lv_aload_n xh bh dX9_heard_17 rfl (lv_at hl 0 rfl) ?_
    refine lv_bipush (v := (-2)) xh bh dX9_heard_18 (by decide) ?_
    refine Ct.callV (As := [.int (-2)]) (rest := []) (wr := [(a 3, .inl (cI, 12, .inl (fN hs)))]) xh bh hml hown hts hK hP hD hS hA (ct_X9_bad l D cI cJ cB cZ cA a rf hm un fa fb lx bl ta tl tk va (-2) ) (cwV 1 hts gX9_heard_X9_bad rfl rfl rfl (by decide +kernel) ⟨Nat.le_of_ble_eq_true rfl, Nat.le_of_ble_eq_true rfl⟩) rfl rfl hl.1 (Nat.le_of_ble_eq_true rfl) dX9_heard_20 ⟨Nat.le_refl _, Nat.le_refl _⟩ 0 6 rfl rfl rfl [0, 2] [1] rfl (by decide) rfl rfl (by decide) (by decide) (fun _ H locs _ hP hD hS => ?_)
    have hP : va_P D vwCl [(a 3, .inl (cI, 12, .inl (fN hs))), (a 0, .inr (6, [.ref (a 1), .ref (a 2), .int (nI hm), .int (nI un), .ref (a 3), .ref (a 4), .ref (a 5), .ref (a 6), .ref (a 7), .ref (a 8), .ref (a 9), .ref (a 10), .ref (a 11), .ref (a 12), .long fa, .long fb, .ref (a 13), .long (lN lx), .ref (a 14), .int (nI bl), .int (nI ta), .int (nI tl), .int (nI tk), .int (nI va), .ref (a 15), .ref (a 16), .ref (a 17)])), (a 12, .inl (cI, 3, .inl (upd rf 0 ((rf 0) + nI 1))))] H := hP
    have hD : va_D AG [(a 3, .inl (cI, 12, .inl (fN hs))), (a 0, .inr (6, [.ref (a 1), .ref (a 2), .int (nI hm), .int (nI un), .ref (a 3), .ref (a 4), .ref (a 5), .ref (a 6), .ref (a 7), .ref (a 8), .ref (a 9), .ref (a 10), .ref (a 11), .ref (a 12), .long fa, .long fb, .ref (a 13), .long (lN lx), .ref (a 14), .int (nI bl), .int (nI ta), .int (nI tl), .int (nI tk), .int (nI va), .ref (a 15), .ref (a 16), .ref (a 17)])), (a 12, .inl (cI, 3, .inl (upd rf 0 ((rf 0) + nI 1))))] := hD
    refine W.eq (g2 := F0 mG 23 ls [.int (-2)]) rfl ?_
    exact hend (-2) () _ _ _ _ (congrArg (fun z => some (Value.int z)) (by rw [hk]; rfl)) trivial rfl dX9_heard_23 (by rw [hk]; exact (hP.sub [1, 0, 2] rfl)) (by rw [hk]; exact (hD.sub [1, 0, 2] (by decide) rfl)) hS
  · refine lv_iload_n xh bh dX9_heard_7 rfl (lv_at hl 2 rfl) ?_
    refine lv_i2l xh bh dX9_heard_8 rfl ?_
    refine lv_lconst (v := lN 0) xh bh dX9_heard_9 (by decide) ?_
    refine lv_lconst (v := lN 1) xh bh dX9_heard_10 (by decide) ?_
    refine Ct.callS0 (rest := []) xh bh hml hown hts hK hP hS hA (ct_X9_in l D cI cJ cB cZ cA y.toInt64 (lN 0) (lN 1) ) (va_cwS 3 hts gX9_heard_X9_in rfl rfl rfl (by decide +kernel) ⟨Nat.le_of_ble_eq_true rfl, Nat.le_of_ble_eq_true rfl⟩) rfl rfl hl.1 (Nat.le_of_ble_eq_true rfl) dX9_heard_11 ⟨Nat.le_refl _, Nat.le_refl _⟩ (fun _ H locs _ hP hS => ?_)
    refine W.eq (g2 := F0 mG 14 ls [.int (ib (decide (¬ y.toInt64 < (lN 0) ∧ ¬ (lN 1) < y.toInt64)))]) rfl ?_
    refine xw_topi (x := (ib (decide (¬ y.toInt64 < (lN 0) ∧ ¬ (lN 1) < y.toInt64)))) (y := (ib (upB y 1))) (by rw [upB_long (by decide)]) ?_
    refine xb_if_ne (tgt := 24) xh bh dX9_heard_14 (by decide) (fun c_14 => ?_) (fun c_14 => ?_)
    · refine lv_aload_n xh bh dX9_heard_24 rfl (lv_at hl 0 rfl) ?_
      refine va_get (D := D) (ci := 6) (v := .int (nI hm)) (C := RX9) (T := TX9) (N := 27) xh bh hts (fun _ h => List.mem_cons_of_mem _ (List.mem_append_right _ (h))) hown hK.1 hP 0 rfl rfl 2 (by decide) (hts _ (List.mem_of_getElem? (i := 1) rfl)) (fun _ h9 => h9) rfl dX9_heard_25 ?_
      refine lv_bipush (v := (nI 6)) xh bh dX9_heard_28 (by decide) ?_
      refine xn_icmp_ne (tgt := 38) xh bh dX9_heard_30 (by decide) (by omega) (by omega) (fun c_30 => ?_) (fun c_30 => ?_)
      · have hk : kHd x y hm = 3 := (if_pos (And.intro c_4 c_14)).trans (if_neg c_30)
        obtain ⟨k, hk9, rfl⟩ := upB_of (by decide) c_4
        obtain ⟨y2, hk8, rfl⟩ := upB_of (by decide) c_14
        refine lv_aload_n xh bh dX9_heard_38 rfl (lv_at hl 0 rfl) ?_
        refine va_get (D := D) (ci := 6) (v := .ref (a 3)) (C := RX9) (T := TX9) (N := 27) xh bh hts (fun _ h => List.mem_cons_of_mem _ (List.mem_append_right _ (h))) hown hK.1 hP 0 rfl rfl 4 (by decide) (hts _ (List.mem_of_getElem? (i := 2) rfl)) (fun _ h9 => h9) rfl dX9_heard_39 ?_
        refine lv_iconst (v := (nI 2)) xh bh dX9_heard_42 (by decide) ?_
        refine lv_aload_n xh bh dX9_heard_43 rfl (lv_at hl 0 rfl) ?_
        refine va_get (D := D) (ci := 6) (v := .int (nI hm)) (C := RX9) (T := TX9) (N := 27) xh bh hts (fun _ h => List.mem_cons_of_mem _ (List.mem_append_right _ (h))) hown hK.1 hP 0 rfl rfl 2 (by decide) (hts _ (List.mem_of_getElem? (i := 1) rfl)) (fun _ h9 => h9) rfl dX9_heard_44 ?_
        refine xn_imul xh bh dX9_heard_47 ?_
        refine lv_iload_n xh bh dX9_heard_48 rfl (lv_at hl 1 rfl) ?_
        refine xN_iast xh bh hK.1 hP hD hS 1 0 rfl rfl (by omega) (by omega) dX9_heard_49 (fun H locs hP hD hS => ?_)
        have hP : va_P D vwCl [(a 0, .inr (6, [.ref (a 1), .ref (a 2), .int (nI hm), .int (nI un), .ref (a 3), .ref (a 4), .ref (a 5), .ref (a 6), .ref (a 7), .ref (a 8), .ref (a 9), .ref (a 10), .ref (a 11), .ref (a 12), .long fa, .long fb, .ref (a 13), .long (lN lx), .ref (a 14), .int (nI bl), .int (nI ta), .int (nI tl), .int (nI tk), .int (nI va), .ref (a 15), .ref (a 16), .ref (a 17)])), (a 3, .inl (cI, 12, .inl (fN (va_up hs (2 * hm) k)))), (a 12, .inl (cI, 3, .inl rf))] H := hP
        have hD : va_D AG [(a 0, .inr (6, [.ref (a 1), .ref (a 2), .int (nI hm), .int (nI un), .ref (a 3), .ref (a 4), .ref (a 5), .ref (a 6), .ref (a 7), .ref (a 8), .ref (a 9), .ref (a 10), .ref (a 11), .ref (a 12), .long fa, .long fb, .ref (a 13), .long (lN lx), .ref (a 14), .int (nI bl), .int (nI ta), .int (nI tl), .int (nI tk), .int (nI va), .ref (a 15), .ref (a 16), .ref (a 17)])), (a 3, .inl (cI, 12, .inl (fN (va_up hs (2 * hm) k)))), (a 12, .inl (cI, 3, .inl rf))] := hD
        refine lv_aload_n xh bh dX9_heard_50 rfl (lv_at hl 0 rfl) ?_
        refine va_get (D := D) (ci := 6) (v := .ref (a 3)) (C := RX9) (T := TX9) (N := 27) xh bh hts (fun _ h => List.mem_cons_of_mem _ (List.mem_append_right _ (h))) hown hK.1 hP 0 rfl rfl 4 (by decide) (hts _ (List.mem_of_getElem? (i := 2) rfl)) (fun _ h9 => h9) rfl dX9_heard_51 ?_
        refine lv_iconst (v := (nI 2)) xh bh dX9_heard_54 (by decide) ?_
        refine lv_aload_n xh bh dX9_heard_55 rfl (lv_at hl 0 rfl) ?_
        refine va_get (D := D) (ci := 6) (v := .int (nI hm)) (C := RX9) (T := TX9) (N := 27) xh bh hts (fun _ h => List.mem_cons_of_mem _ (List.mem_append_right _ (h))) hown hK.1 hP 0 rfl rfl 2 (by decide) (hts _ (List.mem_of_getElem? (i := 1) rfl)) (fun _ h9 => h9) rfl dX9_heard_56 ?_
        refine xn_imul xh bh dX9_heard_59 ?_
        refine lv_iconst (v := (nI 1)) xh bh dX9_heard_60 (by decide) ?_
        refine xn_iadd xh bh dX9_heard_61 ?_
        refine lv_iload_n xh bh dX9_heard_62 rfl (lv_at hl 2 rfl) ?_
        refine xN_iast xh bh hK.1 hP hD hS 1 0 rfl rfl (by omega) (by omega) dX9_heard_63 (fun H locs hP hD hS => ?_)
        have hP : va_P D vwCl [(a 0, .inr (6, [.ref (a 1), .ref (a 2), .int (nI hm), .int (nI un), .ref (a 3), .ref (a 4), .ref (a 5), .ref (a 6), .ref (a 7), .ref (a 8), .ref (a 9), .ref (a 10), .ref (a 11), .ref (a 12), .long fa, .long fb, .ref (a 13), .long (lN lx), .ref (a 14), .int (nI bl), .int (nI ta), .int (nI tl), .int (nI tk), .int (nI va), .ref (a 15), .ref (a 16), .ref (a 17)])), (a 3, .inl (cI, 12, .inl (fN (va_up (va_up hs (2 * hm) k) ((2 * hm) + 1) y2)))), (a 12, .inl (cI, 3, .inl rf))] H := hP
        have hD : va_D AG [(a 0, .inr (6, [.ref (a 1), .ref (a 2), .int (nI hm), .int (nI un), .ref (a 3), .ref (a 4), .ref (a 5), .ref (a 6), .ref (a 7), .ref (a 8), .ref (a 9), .ref (a 10), .ref (a 11), .ref (a 12), .long fa, .long fb, .ref (a 13), .long (lN lx), .ref (a 14), .int (nI bl), .int (nI ta), .int (nI tl), .int (nI tk), .int (nI va), .ref (a 15), .ref (a 16), .ref (a 17)])), (a 3, .inl (cI, 12, .inl (fN (va_up (va_up hs (2 * hm) k) ((2 * hm) + 1) y2)))), (a 12, .inl (cI, 3, .inl rf))] := hD
        refine lv_aload_n xh bh dX9_heard_64 rfl (lv_at hl 0 rfl) ?_
        refine lv_dup xh bh dX9_heard_65 rfl ?_
        refine va_get (D := D) (ci := 6) (v := .int (nI hm)) (C := RX9) (T := TX9) (N := 27) xh bh hts (fun _ h => List.mem_cons_of_mem _ (List.mem_append_right _ (h))) hown hK.1 hP 0 rfl rfl 2 (by decide) (hts _ (List.mem_of_getElem? (i := 1) rfl)) (fun _ h9 => h9) rfl dX9_heard_66 ?_
        refine lv_iconst (v := (nI 1)) xh bh dX9_heard_69 (by decide) ?_
        refine xn_iadd xh bh dX9_heard_70 ?_
        refine va_put (D := D) (ci := 6) (v := .int (nI (hm + 1))) (ty := .int) (C := RX9) (T := TX9) (N := 27) xh bh hts (fun _ h => List.mem_cons_of_mem _ (List.mem_append_right _ (h))) tyX9 tyX9_ok nmX9 hown hK.1 hP hD hS 0 rfl rfl 2 (by decide) (hts _ (List.mem_of_getElem? (i := 1) rfl)) (fun _ h9 => h9) rfl (by decide +kernel) (by rfl) (by rfl) (Nat.le_of_ble_eq_true rfl) dX9_heard_71 (fun H locs hP hD hS => ?_)
        have hP : va_P D vwCl [(a 0, .inr (6, [.ref (a 1), .ref (a 2), .int (nI (hm + 1)), .int (nI un), .ref (a 3), .ref (a 4), .ref (a 5), .ref (a 6), .ref (a 7), .ref (a 8), .ref (a 9), .ref (a 10), .ref (a 11), .ref (a 12), .long fa, .long fb, .ref (a 13), .long (lN lx), .ref (a 14), .int (nI bl), .int (nI ta), .int (nI tl), .int (nI tk), .int (nI va), .ref (a 15), .ref (a 16), .ref (a 17)])), (a 3, .inl (cI, 12, .inl (fN (va_up (va_up hs (2 * hm) k) ((2 * hm) + 1) y2)))), (a 12, .inl (cI, 3, .inl rf))] H := hP
        have hD : va_D AG [(a 0, .inr (6, [.ref (a 1), .ref (a 2), .int (nI (hm + 1)), .int (nI un), .ref (a 3), .ref (a 4), .ref (a 5), .ref (a 6), .ref (a 7), .ref (a 8), .ref (a 9), .ref (a 10), .ref (a 11), .ref (a 12), .long fa, .long fb, .ref (a 13), .long (lN lx), .ref (a 14), .int (nI bl), .int (nI ta), .int (nI tl), .int (nI tk), .int (nI va), .ref (a 15), .ref (a 16), .ref (a 17)])), (a 3, .inl (cI, 12, .inl (fN (va_up (va_up hs (2 * hm) k) ((2 * hm) + 1) y2)))), (a 12, .inl (cI, 3, .inl rf))] := hD
        refine lv_aload_n xh bh dX9_heard_74 rfl (lv_at hl 0 rfl) ?_
        refine va_get (D := D) (ci := 6) (v := .int (nI (hm + 1))) (C := RX9) (T := TX9) (N := 27) xh bh hts (fun _ h => List.mem_cons_of_mem _ (List.mem_append_right _ (h))) hown hK.1 hP 0 rfl rfl 2 (by decide) (hts _ (List.mem_of_getElem? (i := 1) rfl)) (fun _ h9 => h9) rfl dX9_heard_75 ?_
        exact hend (nI (hm + 1)) () _ _ _ _ (congrArg (fun z => some (Value.int z)) (by rw [hk]; rfl)) trivial rfl dX9_heard_78 (by rw [hk, xN_nI (by omega), xN_nI (by omega)]; exact hP) (by rw [hk, xN_nI (by omega), xN_nI (by omega)]; exact hD) hS
      · have hk : kHd x y hm = 2 := (if_pos (And.intro c_4 c_14)).trans (if_pos c_30)
        refine lv_aload_n xh bh dX9_heard_33 rfl (lv_at hl 0 rfl) ?_
        refine Ct.callV (As := []) (rest := []) (wr := [(a 3, .inl (cI, 12, .inl (fN hs)))]) xh bh hml hown hts hK hP hD hS hA (ct_X9_full l D cI cJ cB cZ cA a rf hm un fa fb lx bl ta tl tk va ) (cwV 0 hts gX9_heard_X9_full rfl rfl rfl (by decide +kernel) ⟨Nat.le_of_ble_eq_true rfl, Nat.le_of_ble_eq_true rfl⟩) rfl rfl hl.1 (Nat.le_of_ble_eq_true rfl) dX9_heard_34 ⟨Nat.le_refl _, Nat.le_refl _⟩ 0 6 rfl rfl rfl [0, 2] [1] rfl (by decide) rfl rfl (by decide) (by decide) (fun _ H locs _ hP hD hS => ?_)
        have hP : va_P D vwCl [(a 3, .inl (cI, 12, .inl (fN hs))), (a 0, .inr (6, [.ref (a 1), .ref (a 2), .int (nI hm), .int (nI un), .ref (a 3), .ref (a 4), .ref (a 5), .ref (a 6), .ref (a 7), .ref (a 8), .ref (a 9), .ref (a 10), .ref (a 11), .ref (a 12), .long fa, .long fb, .ref (a 13), .long (lN lx), .ref (a 14), .int (nI bl), .int (nI ta), .int (nI tl), .int (nI tk), .int (nI va), .ref (a 15), .ref (a 16), .ref (a 17)])), (a 12, .inl (cI, 3, .inl (upd rf 2 ((rf 2) + nI 1))))] H := hP
        have hD : va_D AG [(a 3, .inl (cI, 12, .inl (fN hs))), (a 0, .inr (6, [.ref (a 1), .ref (a 2), .int (nI hm), .int (nI un), .ref (a 3), .ref (a 4), .ref (a 5), .ref (a 6), .ref (a 7), .ref (a 8), .ref (a 9), .ref (a 10), .ref (a 11), .ref (a 12), .long fa, .long fb, .ref (a 13), .long (lN lx), .ref (a 14), .int (nI bl), .int (nI ta), .int (nI tl), .int (nI tk), .int (nI va), .ref (a 15), .ref (a 16), .ref (a 17)])), (a 12, .inl (cI, 3, .inl (upd rf 2 ((rf 2) + nI 1))))] := hD
        refine W.eq (g2 := F0 mG 37 ls [.int (-4)]) rfl ?_
        exact hend (-4) () _ _ _ _ (congrArg (fun z => some (Value.int z)) (by rw [hk]; rfl)) trivial rfl dX9_heard_37 (by rw [hk]; exact (hP.sub [1, 0, 2] rfl)) (by rw [hk]; exact (hD.sub [1, 0, 2] (by decide) rfl)) hS
    · have hk : kHd x y hm = 0 := if_neg (fun q => by rw [c_14] at q; exact absurd q.2 (by decide))
      refine lv_aload_n xh bh dX9_heard_17 rfl (lv_at hl 0 rfl) ?_
      refine lv_bipush (v := (-2)) xh bh dX9_heard_18 (by decide) ?_
      refine Ct.callV (As := [.int (-2)]) (rest := []) (wr := [(a 3, .inl (cI, 12, .inl (fN hs)))]) xh bh hml hown hts hK hP hD hS hA (ct_X9_bad l D cI cJ cB cZ cA a rf hm un fa fb lx bl ta tl tk va (-2) ) (cwV 1 hts gX9_heard_X9_bad rfl rfl rfl (by decide +kernel) ⟨Nat.le_of_ble_eq_true rfl, Nat.le_of_ble_eq_true rfl⟩) rfl rfl hl.1 (Nat.le_of_ble_eq_true rfl) dX9_heard_20 ⟨Nat.le_refl _, Nat.le_refl _⟩ 0 6 rfl rfl rfl [0, 2] [1] rfl (by decide) rfl rfl (by decide) (by decide) (fun _ H locs _ hP hD hS => ?_)
      have hP : va_P D vwCl [(a 3, .inl (cI, 12, .inl (fN hs))), (a 0, .inr (6, [.ref (a 1), .ref (a 2), .int (nI hm), .int (nI un), .ref (a 3), .ref (a 4), .ref (a 5), .ref (a 6), .ref (a 7), .ref (a 8), .ref (a 9), .ref (a 10), .ref (a 11), .ref (a 12), .long fa, .long fb, .ref (a 13), .long (lN lx), .ref (a 14), .int (nI bl), .int (nI ta), .int (nI tl), .int (nI tk), .int (nI va), .ref (a 15), .ref (a 16), .ref (a 17)])), (a 12, .inl (cI, 3, .inl (upd rf 0 ((rf 0) + nI 1))))] H := hP
      have hD : va_D AG [(a 3, .inl (cI, 12, .inl (fN hs))), (a 0, .inr (6, [.ref (a 1), .ref (a 2), .int (nI hm), .int (nI un), .ref (a 3), .ref (a 4), .ref (a 5), .ref (a 6), .ref (a 7), .ref (a 8), .ref (a 9), .ref (a 10), .ref (a 11), .ref (a 12), .long fa, .long fb, .ref (a 13), .long (lN lx), .ref (a 14), .int (nI bl), .int (nI ta), .int (nI tl), .int (nI tk), .int (nI va), .ref (a 15), .ref (a 16), .ref (a 17)])), (a 12, .inl (cI, 3, .inl (upd rf 0 ((rf 0) + nI 1))))] := hD
      refine W.eq (g2 := F0 mG 23 ls [.int (-2)]) rfl ?_
      exact hend (-2) () _ _ _ _ (congrArg (fun z => some (Value.int z)) (by rw [hk]; rfl)) trivial rfl dX9_heard_23 (by rw [hk]; exact (hP.sub [1, 0, 2] rfl)) (by rw [hk]; exact (hD.sub [1, 0, 2] (by decide) rfl)) hS

set_option maxHeartbeats 1000000 in
set_option maxRecDepth 100000 in
theorem ct_X9_forget (l : Launch) (D : va_G) (cI cJ cB cZ cA : ClassId) (a : Nat → Nat) (hm : Nat) (un : Nat) (fa : Int64) (fb : Int64) (lx : Nat) (bl : Nat) (ta : Nat) (tl : Nat) (tk : Nat) (va : Nat) : Ct l yX9_forget wsX9_forget ({ frames := 0, cells := 0, slots := 0, locals := 0 }) D (tysG cI cJ cB cZ cA) [.ref (a 0)] [(a 0, .inr (6, [.ref (a 1), .ref (a 2), .int (nI hm), .int (nI un), .ref (a 3), .ref (a 4), .ref (a 5), .ref (a 6), .ref (a 7), .ref (a 8), .ref (a 9), .ref (a 10), .ref (a 11), .ref (a 12), .long fa, .long fb, .ref (a 13), .long (lN lx), .ref (a 14), .int (nI bl), .int (nI ta), .int (nI tl), .int (nI tk), .int (nI va), .ref (a 15), .ref (a 16), .ref (a 17)]))] (fun (_ : Unit) => True) (fun _ => some (.int (nI hm))) (fun _ => [(a 0, .inr (6, [.ref (a 1), .ref (a 2), .int (nI 0), .int (nI un), .ref (a 3), .ref (a 4), .ref (a 5), .ref (a 6), .ref (a 7), .ref (a 8), .ref (a 9), .ref (a 10), .ref (a 11), .ref (a 12), .long fa, .long fb, .ref (a 13), .long (lN lx), .ref (a 14), .int (nI bl), .int (nI ta), .int (nI tl), .int (nI tk), .int (nI va), .ref (a 15), .ref (a 16), .ref (a 17)]))]) := by
  refine Ct.ofI (cc := cX9_forget) (maxL := 2) (by decide) rfl (Nat.le_of_ble_eq_true rfl) ?_
  intro pG eG sG mG aG bG tG cG AG QG ls xh bh hml hown hts hK hP hD hS hA hend hl
  have hl : lv_has ls 2 [(0, .ref (a 0))] := hl
  refine lv_aload_n xh bh dX9_forget_0 rfl (lv_at hl 0 rfl) ?_
  refine va_get (D := D) (ci := 6) (v := .int (nI hm)) (C := RX9) (T := TX9) (N := 27) xh bh hts (fun _ h => List.mem_cons_of_mem _ (List.mem_append_right _ (h))) hown hK.1 hP 0 rfl rfl 2 (by decide) (hts _ (List.mem_of_getElem? (i := 1) rfl)) (fun _ h9 => h9) rfl dX9_forget_1 ?_
  refine lv_istore_n (lv' := [(1, .int (nI hm)), (0, .ref (a 0))]) xh bh dX9_forget_4 rfl hl (by decide) rfl (fun ls hl => ?_)
  refine lv_aload_n xh bh dX9_forget_5 rfl (lv_at hl 1 rfl) ?_
  refine lv_iconst (v := (nI 0)) xh bh dX9_forget_6 (by decide) ?_
  refine va_put (D := D) (ci := 6) (v := .int (nI 0)) (ty := .int) (C := RX9) (T := TX9) (N := 27) xh bh hts (fun _ h => List.mem_cons_of_mem _ (List.mem_append_right _ (h))) tyX9 tyX9_ok nmX9 hown hK.1 hP hD hS 0 rfl rfl 2 (by decide) (hts _ (List.mem_of_getElem? (i := 1) rfl)) (fun _ h9 => h9) rfl (by decide +kernel) (by rfl) (by rfl) (Nat.le_of_ble_eq_true rfl) dX9_forget_7 (fun H locs hP hD hS => ?_)
  have hP : va_P D vwCl [(a 0, .inr (6, [.ref (a 1), .ref (a 2), .int (nI 0), .int (nI un), .ref (a 3), .ref (a 4), .ref (a 5), .ref (a 6), .ref (a 7), .ref (a 8), .ref (a 9), .ref (a 10), .ref (a 11), .ref (a 12), .long fa, .long fb, .ref (a 13), .long (lN lx), .ref (a 14), .int (nI bl), .int (nI ta), .int (nI tl), .int (nI tk), .int (nI va), .ref (a 15), .ref (a 16), .ref (a 17)]))] H := hP
  have hD : va_D AG [(a 0, .inr (6, [.ref (a 1), .ref (a 2), .int (nI 0), .int (nI un), .ref (a 3), .ref (a 4), .ref (a 5), .ref (a 6), .ref (a 7), .ref (a 8), .ref (a 9), .ref (a 10), .ref (a 11), .ref (a 12), .long fa, .long fb, .ref (a 13), .long (lN lx), .ref (a 14), .int (nI bl), .int (nI ta), .int (nI tl), .int (nI tk), .int (nI va), .ref (a 15), .ref (a 16), .ref (a 17)]))] := hD
  refine lv_iload_n xh bh dX9_forget_10 rfl (lv_at hl 0 rfl) ?_
  exact hend (nI hm) () _ _ _ _ (congrArg (fun z => some (Value.int (nI z))) (by rfl)) trivial rfl dX9_forget_11 hP hD hS

set_option maxHeartbeats 1000000 in
set_option maxRecDepth 100000 in
theorem ct_X9_door (l : Launch) (D : va_G) (cI cJ cB cZ cA : ClassId) (a : Nat → Nat) (T : Nat → List Nat) (hs : Nat → Nat) (hm : Nat) (un : Nat) (fa : Int64) (fb : Int64) (lx : Nat) (bl : Nat) (ta : Nat) (tl : Nat) (tk : Nat) (va : Nat) (hT : ∀ k, okT (T k)) (hh : ∀ j, j < 2 * hm → hs j < 10) (hhm : hm ≤ 6) : Ct l yX9_door wsX9_door ({ frames := 2, cells := 0, slots := 0, locals := 46 }) D (tysG cI cJ cB cZ cA) [.ref (a 0)] [(a 0, .inr (6, [.ref (a 1), .ref (a 2), .int (nI hm), .int (nI un), .ref (a 3), .ref (a 4), .ref (a 5), .ref (a 6), .ref (a 7), .ref (a 8), .ref (a 9), .ref (a 10), .ref (a 11), .ref (a 12), .long fa, .long fb, .ref (a 13), .long (lN lx), .ref (a 14), .int (nI bl), .int (nI ta), .int (nI tl), .int (nI tk), .int (nI va), .ref (a 15), .ref (a 16), .ref (a 17)])), (a 1, .inl (cJ, 9, .inr (.inl (fR T)))), (a 3, .inl (cI, 12, .inl (fN hs)))] (fun (_ : Unit) => True) (fun _ => some (.int (nI (drN T hs hm 8)))) (fun _ => [(a 0, .inr (6, [.ref (a 1), .ref (a 2), .int (nI hm), .int (nI un), .ref (a 3), .ref (a 4), .ref (a 5), .ref (a 6), .ref (a 7), .ref (a 8), .ref (a 9), .ref (a 10), .ref (a 11), .ref (a 12), .long fa, .long fb, .ref (a 13), .long (lN lx), .ref (a 14), .int (nI bl), .int (nI ta), .int (nI tl), .int (nI tk), .int (nI va), .ref (a 15), .ref (a 16), .ref (a 17)])), (a 1, .inl (cJ, 9, .inr (.inl (fR T)))), (a 3, .inl (cI, 12, .inl (fN hs)))]) := by
  refine Ct.ofI (cc := cX9_door) (maxL := 5) (by decide) rfl (Nat.le_of_ble_eq_true rfl) ?_
  intro pG eG sG mG aG bG tG cG AG QG ls xh bh hml hown hts hK hP hD hS hA hend hl
  have hl : lv_has ls 5 [(0, .ref (a 0))] := hl
  refine lv_iconst (v := (nI 0)) xh bh dX9_door_0 (by decide) ?_
  refine lv_istore_n (lv' := [(1, .int (nI 0)), (0, .ref (a 0))]) xh bh dX9_door_1 rfl hl (by decide) rfl (fun ls hl => ?_)
  refine lv_iconst (v := (nI 0)) xh bh dX9_door_2 (by decide) ?_
  refine lv_istore_n (lv' := [(2, .int (nI 0)), (1, .int (nI 0)), (0, .ref (a 0))]) xh bh dX9_door_3 rfl hl (by decide) rfl (fun ls hl => ?_)
  have cut_4 : ∀ (n_4 : Nat), ∀ (b : Nat), ∀ (r : Nat), (b ≤ 8) → (r = drN T hs hm b) → (8 - b) < n_4 → ∀ (H : Heap) (locs : List Loc) (ls : Array Slot), va_P D vwCl [(a 0, .inr (6, [.ref (a 1), .ref (a 2), .int (nI hm), .int (nI un), .ref (a 3), .ref (a 4), .ref (a 5), .ref (a 6), .ref (a 7), .ref (a 8), .ref (a 9), .ref (a 10), .ref (a 11), .ref (a 12), .long fa, .long fb, .ref (a 13), .long (lN lx), .ref (a 14), .int (nI bl), .int (nI ta), .int (nI tl), .int (nI tk), .int (nI va), .ref (a 15), .ref (a 16), .ref (a 17)])), (a 1, .inl (cJ, 9, .inr (.inl (fR T)))), (a 3, .inl (cI, 12, .inl (fN hs)))] H → va_D AG [(a 0, .inr (6, [.ref (a 1), .ref (a 2), .int (nI hm), .int (nI un), .ref (a 3), .ref (a 4), .ref (a 5), .ref (a 6), .ref (a 7), .ref (a 8), .ref (a 9), .ref (a 10), .ref (a 11), .ref (a 12), .long fa, .long fb, .ref (a 13), .long (lN lx), .ref (a 14), .int (nI bl), .int (nI ta), .int (nI tl), .int (nI tk), .int (nI va), .ref (a 15), .ref (a 16), .ref (a 17)])), (a 1, .inl (cJ, 9, .inr (.inl (fR T)))), (a 3, .inl (cI, 12, .inl (fN hs)))] → va_S AG sG.heap H locs → lv_has ls 5 [(0, .ref (a 0)), (1, .int (nI r)), (2, .int (nI b))] → W pG l eG ({ frames := 2, cells := 0, slots := 0, locals := 46 }) sG mG aG bG tG cG H locs 0 0 QG (F0 mG 4 ls []) := by
    intro n_4
    induction n_4 with
    | zero =>
      intro b r hb hr hmu
      exact absurd hmu (Nat.not_lt_zero _)
    | succ n_4 ih_4 =>
      intro b r hb hr hmu H locs ls hP hD hS hl
      refine lv_iload_n xh bh dX9_door_4 rfl (lv_at hl 2 rfl) ?_
      refine lv_bipush (v := (nI 8)) xh bh dX9_door_5 (by decide) ?_
      refine xn_icmp_ge (tgt := 116) xh bh dX9_door_7 (by decide) (by omega) (by omega) (fun c_7 => ?_) (fun c_7 => ?_)
      · refine lv_iload_n xh bh dX9_door_116 rfl (lv_at hl 1 rfl) ?_
        exact hend (nI r) () _ _ _ _ (congrArg (fun z => some (Value.int (nI z))) (by rw [hr, show b = 8 by omega])) trivial rfl dX9_door_117 hP hD hS
      · have cut_27 : ∀ (f0 : Bool), (f0 = decide (T b ≠ [])) → ∀ (H : Heap) (locs : List Loc) (ls : Array Slot), va_P D vwCl [(a 0, .inr (6, [.ref (a 1), .ref (a 2), .int (nI hm), .int (nI un), .ref (a 3), .ref (a 4), .ref (a 5), .ref (a 6), .ref (a 7), .ref (a 8), .ref (a 9), .ref (a 10), .ref (a 11), .ref (a 12), .long fa, .long fb, .ref (a 13), .long (lN lx), .ref (a 14), .int (nI bl), .int (nI ta), .int (nI tl), .int (nI tk), .int (nI va), .ref (a 15), .ref (a 16), .ref (a 17)])), (a 1, .inl (cJ, 9, .inr (.inl (fR T)))), (a 3, .inl (cI, 12, .inl (fN hs)))] H → va_D AG [(a 0, .inr (6, [.ref (a 1), .ref (a 2), .int (nI hm), .int (nI un), .ref (a 3), .ref (a 4), .ref (a 5), .ref (a 6), .ref (a 7), .ref (a 8), .ref (a 9), .ref (a 10), .ref (a 11), .ref (a 12), .long fa, .long fb, .ref (a 13), .long (lN lx), .ref (a 14), .int (nI bl), .int (nI ta), .int (nI tl), .int (nI tk), .int (nI va), .ref (a 15), .ref (a 16), .ref (a 17)])), (a 1, .inl (cJ, 9, .inr (.inl (fR T)))), (a 3, .inl (cI, 12, .inl (fN hs)))] → va_S AG sG.heap H locs → lv_has ls 5 [(0, .ref (a 0)), (1, .int (nI r)), (2, .int (nI b)), (3, .int (ib f0))] → W pG l eG ({ frames := 2, cells := 0, slots := 0, locals := 46 }) sG mG aG bG tG cG H locs 0 0 QG (F0 mG 27 ls []) := by
          intro f0 h0 H locs ls hP hD hS hl
          refine lv_iconst (v := (nI 0)) xh bh dX9_door_27 (by decide) ?_
          refine lv_istore (lv' := [(4, .int (nI 0)), (0, .ref (a 0)), (1, .int (nI r)), (2, .int (nI b)), (3, .int (ib f0))]) xh bh dX9_door_28 hl (by decide) rfl (fun ls hl => ?_)
          have cut_30 : ∀ (n_30 : Nat), ∀ (k : Nat), ∀ (f : Bool), (k ≤ hm) → (f = doB T hs b k) → (hm - k) < n_30 → ∀ (H : Heap) (locs : List Loc) (ls : Array Slot), va_P D vwCl [(a 0, .inr (6, [.ref (a 1), .ref (a 2), .int (nI hm), .int (nI un), .ref (a 3), .ref (a 4), .ref (a 5), .ref (a 6), .ref (a 7), .ref (a 8), .ref (a 9), .ref (a 10), .ref (a 11), .ref (a 12), .long fa, .long fb, .ref (a 13), .long (lN lx), .ref (a 14), .int (nI bl), .int (nI ta), .int (nI tl), .int (nI tk), .int (nI va), .ref (a 15), .ref (a 16), .ref (a 17)])), (a 1, .inl (cJ, 9, .inr (.inl (fR T)))), (a 3, .inl (cI, 12, .inl (fN hs)))] H → va_D AG [(a 0, .inr (6, [.ref (a 1), .ref (a 2), .int (nI hm), .int (nI un), .ref (a 3), .ref (a 4), .ref (a 5), .ref (a 6), .ref (a 7), .ref (a 8), .ref (a 9), .ref (a 10), .ref (a 11), .ref (a 12), .long fa, .long fb, .ref (a 13), .long (lN lx), .ref (a 14), .int (nI bl), .int (nI ta), .int (nI tl), .int (nI tk), .int (nI va), .ref (a 15), .ref (a 16), .ref (a 17)])), (a 1, .inl (cJ, 9, .inr (.inl (fR T)))), (a 3, .inl (cI, 12, .inl (fN hs)))] → va_S AG sG.heap H locs → lv_has ls 5 [(0, .ref (a 0)), (1, .int (nI r)), (2, .int (nI b)), (3, .int (ib f)), (4, .int (nI k))] → W pG l eG ({ frames := 2, cells := 0, slots := 0, locals := 46 }) sG mG aG bG tG cG H locs 0 0 QG (F0 mG 30 ls []) := by
            intro n_30
            induction n_30 with
            | zero =>
              intro k f hk hf hmu
              exact absurd hmu (Nat.not_lt_zero _)
            | succ n_30 ih_30 =>
              intro k f hk hf hmu H locs ls hP hD hS hl
              refine lv_iload xh bh dX9_door_30 (lv_at hl 4 rfl) ?_
              refine lv_aload_n xh bh dX9_door_32 rfl (lv_at hl 0 rfl) ?_
              refine va_get (D := D) (ci := 6) (v := .int (nI hm)) (C := RX9) (T := TX9) (N := 27) xh bh hts (fun _ h => List.mem_cons_of_mem _ (List.mem_append_right _ (h))) hown hK.1 hP 0 rfl rfl 2 (by decide) (hts _ (List.mem_of_getElem? (i := 2) rfl)) (fun _ h9 => h9) rfl dX9_door_33 ?_
              refine xn_icmp_ge (tgt := 96) xh bh dX9_door_36 (by decide) (by omega) (by omega) (fun c_36 => ?_) (fun c_36 => ?_)
              · refine lv_iload_n xh bh dX9_door_96 rfl (lv_at hl 1 rfl) ?_
                refine lv_iload_n xh bh dX9_door_97 rfl (lv_at hl 3 rfl) ?_
                refine xb_if_eq (tgt := 107) xh bh dX9_door_98 (by decide) (fun c_98 => ?_) (fun c_98 => ?_)
                · refine lv_iconst (v := (nI 0)) xh bh dX9_door_107 (by decide) ?_
                  refine xn_ior xh bh dX9_door_108 ?_
                  refine lv_istore_n (lv' := [(1, .int (nI (r ||| 0))), (0, .ref (a 0)), (2, .int (nI b)), (3, .int (ib f)), (4, .int (nI k))]) xh bh dX9_door_109 rfl hl (by decide) rfl (fun ls hl => ?_)
                  refine lv_iinc (v := (nI (b + 1))) (lv' := [(2, .int (nI (b + 1))), (1, .int (nI (r ||| 0))), (0, .ref (a 0)), (3, .int (ib f)), (4, .int (nI k))]) xh bh dX9_door_110 hl (k := 2) rfl (by exact xn_inc _ _) (by decide) rfl (fun ls hl => ?_)
                  refine lv_goto (tgt := 4) xh bh dX9_door_113 (by decide) ?_
                  exact ih_4 (b + 1) (r ||| 0) (by omega) (by rw [hr]; first | exact (drN_y (by rw [← c_98, hf, show k = hm by omega])).symm | exact (drN_n (by rw [← c_98, hf, show k = hm by omega])).symm) (by omega) _ _ ls hP hD hS (lv_sub hl [2, 1, 0] rfl)
                · refine lv_iconst (v := (nI 1)) xh bh dX9_door_101 (by decide) ?_
                  refine lv_iload_n xh bh dX9_door_102 rfl (lv_at hl 2 rfl) ?_
                  refine xn_ishl1 xh bh dX9_door_103 (by omega) ?_
                  refine lv_goto (tgt := 108) xh bh dX9_door_104 (by decide) ?_
                  refine xn_ior xh bh dX9_door_108 ?_
                  refine lv_istore_n (lv' := [(1, .int (nI (r ||| (2 ^ b)))), (0, .ref (a 0)), (2, .int (nI b)), (3, .int (ib f)), (4, .int (nI k))]) xh bh dX9_door_109 rfl hl (by decide) rfl (fun ls hl => ?_)
                  refine lv_iinc (v := (nI (b + 1))) (lv' := [(2, .int (nI (b + 1))), (1, .int (nI (r ||| (2 ^ b)))), (0, .ref (a 0)), (3, .int (ib f)), (4, .int (nI k))]) xh bh dX9_door_110 hl (k := 2) rfl (by exact xn_inc _ _) (by decide) rfl (fun ls hl => ?_)
                  refine lv_goto (tgt := 4) xh bh dX9_door_113 (by decide) ?_
                  exact ih_4 (b + 1) (r ||| (2 ^ b)) (by omega) (by rw [hr]; first | exact (drN_y (by rw [← c_98, hf, show k = hm by omega])).symm | exact (drN_n (by rw [← c_98, hf, show k = hm by omega])).symm) (by omega) _ _ ls hP hD hS (lv_sub hl [2, 1, 0] rfl)
              · refine lv_iload_n xh bh dX9_door_39 rfl (lv_at hl 3 rfl) ?_
                refine xb_if_eq (tgt := 88) xh bh dX9_door_40 (by decide) (fun c_40 => ?_) (fun c_40 => ?_)
                · refine lv_iconst (v := (nI 0)) xh bh dX9_door_88 (by decide) ?_
                  refine lv_istore_n (lv' := [(3, .int (nI 0)), (0, .ref (a 0)), (1, .int (nI r)), (2, .int (nI b)), (4, .int (nI k))]) xh bh dX9_door_89 rfl hl (by decide) rfl (fun ls hl => ?_)
                  refine lv_iinc (v := (nI (k + 1))) (lv' := [(4, .int (nI (k + 1))), (3, .int (nI 0)), (0, .ref (a 0)), (1, .int (nI r)), (2, .int (nI b))]) xh bh dX9_door_90 hl (k := 4) rfl (by exact xn_inc _ _) (by decide) rfl (fun ls hl => ?_)
                  refine lv_goto (tgt := 30) xh bh dX9_door_93 (by decide) ?_
                  exact ih_30 (k + 1) false (by omega) (by show _ = (doB T hs b k && _); rw [← hf, c_40]; first | rfl | exact bq1 c_73 c_81 | exact bq2 c_73 c_81 | exact bq3 c_73 c_81 | exact bq4 c_73 c_81) (by omega) _ _ ls hP hD hS (lv_sub hl [2, 3, 4, 1, 0] rfl)
                · refine lv_aload_n xh bh dX9_door_43 rfl (lv_at hl 0 rfl) ?_
                  refine va_get (D := D) (ci := 6) (v := .ref (a 1)) (C := RX9) (T := TX9) (N := 27) xh bh hts (fun _ h => List.mem_cons_of_mem _ (List.mem_append_right _ (h))) hown hK.1 hP 0 rfl rfl 0 (by decide) (hts _ (List.mem_of_getElem? (i := 1) rfl)) (fun _ h9 => h9) rfl dX9_door_44 ?_
                  refine lv_iload_n xh bh dX9_door_47 rfl (lv_at hl 2 rfl) ?_
                  refine xa_lald xh bh hK.1 hP 1 1 rfl rfl (by omega) (by omega) dX9_door_48 ?_
                  refine W.eq (g2 := F0 mG 49 ls [.long (eR (T b))]) rfl ?_
                  refine lv_aload_n xh bh dX9_door_49 rfl (lv_at hl 0 rfl) ?_
                  refine va_get (D := D) (ci := 6) (v := .ref (a 3)) (C := RX9) (T := TX9) (N := 27) xh bh hts (fun _ h => List.mem_cons_of_mem _ (List.mem_append_right _ (h))) hown hK.1 hP 0 rfl rfl 4 (by decide) (hts _ (List.mem_of_getElem? (i := 3) rfl)) (fun _ h9 => h9) rfl dX9_door_50 ?_
                  refine lv_iconst (v := (nI 2)) xh bh dX9_door_53 (by decide) ?_
                  refine lv_iload xh bh dX9_door_54 (lv_at hl 4 rfl) ?_
                  refine xn_imul xh bh dX9_door_56 ?_
                  refine xa_iald xh bh hK.1 hP 2 0 rfl rfl (by omega) (by omega) dX9_door_57 ?_
                  refine W.eq (g2 := F0 mG 58 ls [.int (nI (hs (2 * k))), .long (eR (T b))]) rfl ?_
                  refine Ct.callS0 (rest := []) xh bh hml hown hts hK hP hS hA (ct_X9_has l D cI cJ cB cZ cA (T b) (hs (2 * k)) (by exact hT _) (by exact hh _ (by omega))) (va_cwS 2 hts gX9_door_X9_has rfl rfl rfl (by decide +kernel) ⟨Nat.le_of_ble_eq_true rfl, Nat.le_of_ble_eq_true rfl⟩) rfl rfl hl.1 (Nat.le_of_ble_eq_true rfl) dX9_door_58 ⟨Nat.le_refl _, Nat.le_refl _⟩ (fun _ H locs _ hP hS => ?_)
                  refine W.eq (g2 := F0 mG 61 ls [.int (ib (decide ((hs (2 * k)) ∈ (T b))))]) rfl ?_
                  refine lv_aload_n xh bh dX9_door_61 rfl (lv_at hl 0 rfl) ?_
                  refine va_get (D := D) (ci := 6) (v := .ref (a 3)) (C := RX9) (T := TX9) (N := 27) xh bh hts (fun _ h => List.mem_cons_of_mem _ (List.mem_append_right _ (h))) hown hK.1 hP 0 rfl rfl 4 (by decide) (hts _ (List.mem_of_getElem? (i := 3) rfl)) (fun _ h9 => h9) rfl dX9_door_62 ?_
                  refine lv_iconst (v := (nI 2)) xh bh dX9_door_65 (by decide) ?_
                  refine lv_iload xh bh dX9_door_66 (lv_at hl 4 rfl) ?_
                  refine xn_imul xh bh dX9_door_68 ?_
                  refine lv_iconst (v := (nI 1)) xh bh dX9_door_69 (by decide) ?_
                  refine xn_iadd xh bh dX9_door_70 ?_
                  refine xa_iald xh bh hK.1 hP 2 0 rfl rfl (by omega) (by omega) dX9_door_71 ?_
                  refine W.eq (g2 := F0 mG 72 ls [.int (nI (hs ((2 * k) + 1))), .int (ib (decide ((hs (2 * k)) ∈ (T b))))]) rfl ?_
                  refine lv_iconst (v := (nI 1)) xh bh dX9_door_72 (by decide) ?_
                  refine xn_icmp_ne (tgt := 80) xh bh dX9_door_73 (by decide) (by have := hh (2 * k + 1) (by omega); omega) (by have := hh (2 * k + 1) (by omega); omega) (fun c_73 => ?_) (fun c_73 => ?_)
                  · refine lv_iconst (v := (nI 0)) xh bh dX9_door_80 (by decide) ?_
                    refine lv_icmp_ne (tgt := 88) xh bh dX9_door_81 (by decide) (fun c_81 => ?_) (fun c_81 => ?_)
                    · refine lv_iconst (v := (nI 0)) xh bh dX9_door_88 (by decide) ?_
                      refine lv_istore_n (lv' := [(3, .int (nI 0)), (0, .ref (a 0)), (1, .int (nI r)), (2, .int (nI b)), (4, .int (nI k))]) xh bh dX9_door_89 rfl hl (by decide) rfl (fun ls hl => ?_)
                      refine lv_iinc (v := (nI (k + 1))) (lv' := [(4, .int (nI (k + 1))), (3, .int (nI 0)), (0, .ref (a 0)), (1, .int (nI r)), (2, .int (nI b))]) xh bh dX9_door_90 hl (k := 4) rfl (by exact xn_inc _ _) (by decide) rfl (fun ls hl => ?_)
                      refine lv_goto (tgt := 30) xh bh dX9_door_93 (by decide) ?_
                      exact ih_30 (k + 1) false (by omega) (by show _ = (doB T hs b k && _); rw [← hf, c_40]; first | rfl | exact bq1 c_73 c_81 | exact bq2 c_73 c_81 | exact bq3 c_73 c_81 | exact bq4 c_73 c_81) (by omega) _ _ ls hP hD hS (lv_sub hl [2, 3, 4, 1, 0] rfl)
                    · refine lv_iconst (v := (nI 1)) xh bh dX9_door_84 (by decide) ?_
                      refine lv_goto (tgt := 89) xh bh dX9_door_85 (by decide) ?_
                      refine lv_istore_n (lv' := [(3, .int (nI 1)), (0, .ref (a 0)), (1, .int (nI r)), (2, .int (nI b)), (4, .int (nI k))]) xh bh dX9_door_89 rfl hl (by decide) rfl (fun ls hl => ?_)
                      refine lv_iinc (v := (nI (k + 1))) (lv' := [(4, .int (nI (k + 1))), (3, .int (nI 1)), (0, .ref (a 0)), (1, .int (nI r)), (2, .int (nI b))]) xh bh dX9_door_90 hl (k := 4) rfl (by exact xn_inc _ _) (by decide) rfl (fun ls hl => ?_)
                      refine lv_goto (tgt := 30) xh bh dX9_door_93 (by decide) ?_
                      exact ih_30 (k + 1) true (by omega) (by show _ = (doB T hs b k && _); rw [← hf, c_40]; first | rfl | exact bq1 c_73 c_81 | exact bq2 c_73 c_81 | exact bq3 c_73 c_81 | exact bq4 c_73 c_81) (by omega) _ _ ls hP hD hS (lv_sub hl [2, 3, 4, 1, 0] rfl)
                  · refine lv_iconst (v := (nI 1)) xh bh dX9_door_76 (by decide) ?_
                    refine lv_goto (tgt := 81) xh bh dX9_door_77 (by decide) ?_
                    refine lv_icmp_ne (tgt := 88) xh bh dX9_door_81 (by decide) (fun c_81 => ?_) (fun c_81 => ?_)
                    · refine lv_iconst (v := (nI 0)) xh bh dX9_door_88 (by decide) ?_
                      refine lv_istore_n (lv' := [(3, .int (nI 0)), (0, .ref (a 0)), (1, .int (nI r)), (2, .int (nI b)), (4, .int (nI k))]) xh bh dX9_door_89 rfl hl (by decide) rfl (fun ls hl => ?_)
                      refine lv_iinc (v := (nI (k + 1))) (lv' := [(4, .int (nI (k + 1))), (3, .int (nI 0)), (0, .ref (a 0)), (1, .int (nI r)), (2, .int (nI b))]) xh bh dX9_door_90 hl (k := 4) rfl (by exact xn_inc _ _) (by decide) rfl (fun ls hl => ?_)
                      refine lv_goto (tgt := 30) xh bh dX9_door_93 (by decide) ?_
                      exact ih_30 (k + 1) false (by omega) (by show _ = (doB T hs b k && _); rw [← hf, c_40]; first | rfl | exact bq1 c_73 c_81 | exact bq2 c_73 c_81 | exact bq3 c_73 c_81 | exact bq4 c_73 c_81) (by omega) _ _ ls hP hD hS (lv_sub hl [2, 3, 4, 1, 0] rfl)
                    · refine lv_iconst (v := (nI 1)) xh bh dX9_door_84 (by decide) ?_
                      refine lv_goto (tgt := 89) xh bh dX9_door_85 (by decide) ?_
                      refine lv_istore_n (lv' := [(3, .int (nI 1)), (0, .ref (a 0)), (1, .int (nI r)), (2, .int (nI b)), (4, .int (nI k))]) xh bh dX9_door_89 rfl hl (by decide) rfl (fun ls hl => ?_)
                      refine lv_iinc (v := (nI (k + 1))) (lv' := [(4, .int (nI (k + 1))), (3, .int (nI 1)), (0, .ref (a 0)), (1, .int (nI r)), (2, .int (nI b))]) xh bh dX9_door_90 hl (k := 4) rfl (by exact xn_inc _ _) (by decide) rfl (fun ls hl => ?_)
                      refine lv_goto (tgt := 30) xh bh dX9_door_93 (by decide) ?_
                      exact ih_30 (k + 1) true (by omega) (by show _ = (doB T hs b k && _); rw [← hf, c_40]; first | rfl | exact bq1 c_73 c_81 | exact bq2 c_73 c_81 | exact bq3 c_73 c_81 | exact bq4 c_73 c_81) (by omega) _ _ ls hP hD hS (lv_sub hl [2, 3, 4, 1, 0] rfl)
          exact cut_30 (hm - 0 + 1) 0 f0 (by exact Nat.zero_le _) (by exact h0) (Nat.lt_succ_self _) _ _ ls hP hD hS (lv_sub hl [1, 2, 3, 4, 0] rfl)
        refine lv_aload_n xh bh dX9_door_10 rfl (lv_at hl 0 rfl) ?_
        refine va_get (D := D) (ci := 6) (v := .ref (a 1)) (C := RX9) (T := TX9) (N := 27) xh bh hts (fun _ h => List.mem_cons_of_mem _ (List.mem_append_right _ (h))) hown hK.1 hP 0 rfl rfl 0 (by decide) (hts _ (List.mem_of_getElem? (i := 1) rfl)) (fun _ h9 => h9) rfl dX9_door_11 ?_
        refine lv_iload_n xh bh dX9_door_14 rfl (lv_at hl 2 rfl) ?_
        refine xa_lald xh bh hK.1 hP 1 1 rfl rfl (by omega) (by omega) dX9_door_15 ?_
        refine W.eq (g2 := F0 mG 16 ls [.long (eR (T b))]) rfl ?_
        refine lv_lconst (v := lN 0) xh bh dX9_door_16 (by decide) ?_
        refine W.lcmp xh bh dX9_door_17 ?_
        refine xt_if_eqR (tgt := 25) xh bh dX9_door_18 (by decide) (by exact hT _) (fun c_18 => ?_) (fun c_18 => ?_)
        · refine lv_iconst (v := (nI 0)) xh bh dX9_door_25 (by decide) ?_
          refine lv_istore_n (lv' := [(3, .int (nI 0)), (0, .ref (a 0)), (1, .int (nI r)), (2, .int (nI b))]) xh bh dX9_door_26 rfl hl (by decide) rfl (fun ls hl => ?_)
          exact cut_27 false (by first | exact (decide_eq_true c_18).symm | exact (decide_eq_false (fun q => q c_18)).symm) _ _ ls hP hD hS (lv_sub hl [1, 2, 3, 0] rfl)
        · refine lv_iconst (v := (nI 1)) xh bh dX9_door_21 (by decide) ?_
          refine lv_goto (tgt := 26) xh bh dX9_door_22 (by decide) ?_
          refine lv_istore_n (lv' := [(3, .int (nI 1)), (0, .ref (a 0)), (1, .int (nI r)), (2, .int (nI b))]) xh bh dX9_door_26 rfl hl (by decide) rfl (fun ls hl => ?_)
          exact cut_27 true (by first | exact (decide_eq_true c_18).symm | exact (decide_eq_false (fun q => q c_18)).symm) _ _ ls hP hD hS (lv_sub hl [1, 2, 3, 0] rfl)
  exact cut_4 (8 - 0 + 1) 0 0 (by exact Nat.zero_le _) (by rfl) (Nat.lt_succ_self _) _ _ ls hP hD hS (lv_sub hl [2, 1, 0] rfl)

set_option maxHeartbeats 1000000 in
set_option maxRecDepth 100000 in
theorem ct_X9_next (l : Launch) (D : va_G) (cI cJ cB cZ cA : ClassId) (a : Nat → Nat) (T : Nat → List Nat) (hs : Nat → Nat) (hm : Nat) (un : Nat) (fa : Int64) (fb : Int64) (lx : Nat) (bl : Nat) (ta : Nat) (tl : Nat) (tk : Nat) (va : Nat) (hT : ∀ k, okT (T k)) (hh : ∀ j, j < 2 * hm → hs j < 10) (hhm : hm ≤ 6) : Ct l yX9_next wsX9_next ({ frames := 3, cells := 0, slots := 0, locals := 70 }) D (tysG cI cJ cB cZ cA) [.ref (a 0)] [(a 0, .inr (6, [.ref (a 1), .ref (a 2), .int (nI hm), .int (nI un), .ref (a 3), .ref (a 4), .ref (a 5), .ref (a 6), .ref (a 7), .ref (a 8), .ref (a 9), .ref (a 10), .ref (a 11), .ref (a 12), .long fa, .long fb, .ref (a 13), .long (lN lx), .ref (a 14), .int (nI bl), .int (nI ta), .int (nI tl), .int (nI tk), .int (nI va), .ref (a 15), .ref (a 16), .ref (a 17)])), (a 1, .inl (cJ, 9, .inr (.inl (fR T)))), (a 3, .inl (cI, 12, .inl (fN hs)))] (fun (_ : Unit) => True) (fun _ => some (.int (nxI T (drN T hs hm 8)))) (fun _ => [(a 0, .inr (6, [.ref (a 1), .ref (a 2), .int (nI hm), .int (nI un), .ref (a 3), .ref (a 4), .ref (a 5), .ref (a 6), .ref (a 7), .ref (a 8), .ref (a 9), .ref (a 10), .ref (a 11), .ref (a 12), .long fa, .long fb, .ref (a 13), .long (lN lx), .ref (a 14), .int (nI bl), .int (nI ta), .int (nI tl), .int (nI tk), .int (nI va), .ref (a 15), .ref (a 16), .ref (a 17)])), (a 1, .inl (cJ, 9, .inr (.inl (fR T)))), (a 3, .inl (cI, 12, .inl (fN hs)))]) := by
  refine Ct.ofI (cc := cX9_next) (maxL := 7) (by decide) rfl (Nat.le_of_ble_eq_true rfl) ?_
  intro pG eG sG mG aG bG tG cG AG QG ls xh bh hml hown hts hK hP hD hS hA hend hl
  have hl : lv_has ls 7 [(0, .ref (a 0))] := hl
  obtain ⟨z, hz⟩ : ∃ z, z = drN T hs hm 8 := ⟨_, rfl⟩
  have hzl := drN_lt T hs hm 8
  rw [← hz] at hzl
  refine lv_aload_n xh bh dX9_next_0 rfl (lv_at hl 0 rfl) ?_
  refine Ct.callV (As := []) (rest := []) (wr := []) xh bh hml hown hts hK hP hD hS hA (ct_X9_door l D cI cJ cB cZ cA a T hs hm un fa fb lx bl ta tl tk va (by first | assumption) (by first | assumption) (by first | assumption | omega)) (cwV 0 hts gX9_next_X9_door rfl rfl rfl (by decide +kernel) ⟨Nat.le_of_ble_eq_true rfl, Nat.le_of_ble_eq_true rfl⟩) rfl rfl hl.1 (Nat.le_of_ble_eq_true rfl) dX9_next_1 ⟨Nat.le_refl _, Nat.le_refl _⟩ 0 6 rfl rfl rfl [0, 1, 2] [] rfl (by decide) rfl rfl (by decide) (by decide) (fun _ H locs _ hP hD hS => ?_)
  have hP : va_P D vwCl [(a 0, .inr (6, [.ref (a 1), .ref (a 2), .int (nI hm), .int (nI un), .ref (a 3), .ref (a 4), .ref (a 5), .ref (a 6), .ref (a 7), .ref (a 8), .ref (a 9), .ref (a 10), .ref (a 11), .ref (a 12), .long fa, .long fb, .ref (a 13), .long (lN lx), .ref (a 14), .int (nI bl), .int (nI ta), .int (nI tl), .int (nI tk), .int (nI va), .ref (a 15), .ref (a 16), .ref (a 17)])), (a 1, .inl (cJ, 9, .inr (.inl (fR T)))), (a 3, .inl (cI, 12, .inl (fN hs)))] H := hP
  have hD : va_D AG [(a 0, .inr (6, [.ref (a 1), .ref (a 2), .int (nI hm), .int (nI un), .ref (a 3), .ref (a 4), .ref (a 5), .ref (a 6), .ref (a 7), .ref (a 8), .ref (a 9), .ref (a 10), .ref (a 11), .ref (a 12), .long fa, .long fb, .ref (a 13), .long (lN lx), .ref (a 14), .int (nI bl), .int (nI ta), .int (nI tl), .int (nI tk), .int (nI va), .ref (a 15), .ref (a 16), .ref (a 17)])), (a 1, .inl (cJ, 9, .inr (.inl (fR T)))), (a 3, .inl (cI, 12, .inl (fN hs)))] := hD
  refine W.eq (g2 := F0 mG 4 ls [.int (nI (drN T hs hm 8))]) rfl ?_
  refine xw_topi (x := (nI (drN T hs hm 8))) (y := (nI z)) (by rw [hz]) ?_
  refine lv_istore_n (lv' := [(1, .int (nI z)), (0, .ref (a 0))]) xh bh dX9_next_4 rfl hl (by decide) rfl (fun ls hl => ?_)
  refine lv_iconst (v := (-1)) xh bh dX9_next_5 (by decide) ?_
  refine lv_istore_n (lv' := [(2, .int (-1)), (1, .int (nI z)), (0, .ref (a 0))]) xh bh dX9_next_6 rfl hl (by decide) rfl (fun ls hl => ?_)
  refine lv_ldc (v := (nI 1000000)) xh bh hown (hts _ (List.mem_of_getElem? (i := 1) rfl)) dX9_next_7 ?_
  refine lv_istore_n (lv' := [(3, .int (nI 1000000)), (2, .int (-1)), (1, .int (nI z)), (0, .ref (a 0))]) xh bh dX9_next_9 rfl hl (by decide) rfl (fun ls hl => ?_)
  refine lv_iconst (v := (nI 0)) xh bh dX9_next_10 (by decide) ?_
  refine lv_istore (lv' := [(4, .int (nI 0)), (3, .int (nI 1000000)), (2, .int (-1)), (1, .int (nI z)), (0, .ref (a 0))]) xh bh dX9_next_11 hl (by decide) rfl (fun ls hl => ?_)
  have cut_13 : ∀ (n_13 : Nat), ∀ (x : Nat), ∀ (w : Int32), ∀ (f : Nat), (x ≤ 10) → (w = (nxP T z x).1) → (f = (nxP T z x).2) → (x = 0 ∨ 0 < z) → (10 - x) < n_13 → ∀ (H : Heap) (locs : List Loc) (ls : Array Slot), va_P D vwCl [(a 0, .inr (6, [.ref (a 1), .ref (a 2), .int (nI hm), .int (nI un), .ref (a 3), .ref (a 4), .ref (a 5), .ref (a 6), .ref (a 7), .ref (a 8), .ref (a 9), .ref (a 10), .ref (a 11), .ref (a 12), .long fa, .long fb, .ref (a 13), .long (lN lx), .ref (a 14), .int (nI bl), .int (nI ta), .int (nI tl), .int (nI tk), .int (nI va), .ref (a 15), .ref (a 16), .ref (a 17)])), (a 1, .inl (cJ, 9, .inr (.inl (fR T)))), (a 3, .inl (cI, 12, .inl (fN hs)))] H → va_D AG [(a 0, .inr (6, [.ref (a 1), .ref (a 2), .int (nI hm), .int (nI un), .ref (a 3), .ref (a 4), .ref (a 5), .ref (a 6), .ref (a 7), .ref (a 8), .ref (a 9), .ref (a 10), .ref (a 11), .ref (a 12), .long fa, .long fb, .ref (a 13), .long (lN lx), .ref (a 14), .int (nI bl), .int (nI ta), .int (nI tl), .int (nI tk), .int (nI va), .ref (a 15), .ref (a 16), .ref (a 17)])), (a 1, .inl (cJ, 9, .inr (.inl (fR T)))), (a 3, .inl (cI, 12, .inl (fN hs)))] → va_S AG sG.heap H locs → lv_has ls 7 [(0, .ref (a 0)), (1, .int (nI z)), (2, .int w), (3, .int (nI f)), (4, .int (nI x))] → W pG l eG ({ frames := 3, cells := 0, slots := 0, locals := 70 }) sG mG aG bG tG cG H locs 0 0 QG (F0 mG 13 ls []) := by
    intro n_13
    induction n_13 with
    | zero =>
      intro x w f hx hw hf h0 hmu
      exact absurd hmu (Nat.not_lt_zero _)
    | succ n_13 ih_13 =>
      intro x w f hx hw hf h0 hmu H locs ls hP hD hS hl
      refine lv_iload xh bh dX9_next_13 (lv_at hl 4 rfl) ?_
      refine lv_bipush (v := (nI 10)) xh bh dX9_next_15 (by decide) ?_
      refine xn_icmp_ge (tgt := 129) xh bh dX9_next_17 (by decide) (by omega) (by omega) (fun c_17 => ?_) (fun c_17 => ?_)
      · refine lv_iload_n xh bh dX9_next_129 rfl (lv_at hl 2 rfl) ?_
        exact hend w () _ _ _ _ (congrArg (fun z => some (Value.int z)) (by rw [← hz]; unfold nxI; first | (rw [if_neg (show ¬ z = 0 by omega), hw, show x = 10 by omega]) | (rw [if_pos c_21, hw, show x = 0 by omega]; rfl))) trivial rfl dX9_next_130 hP hD hS
      · refine lv_iload_n xh bh dX9_next_20 rfl (lv_at hl 1 rfl) ?_
        refine xn_if_le (tgt := 129) xh bh dX9_next_21 (by decide) (by omega) (fun c_21 => ?_) (fun c_21 => ?_)
        · refine lv_iload_n xh bh dX9_next_129 rfl (lv_at hl 2 rfl) ?_
          exact hend w () _ _ _ _ (congrArg (fun z => some (Value.int z)) (by rw [← hz]; unfold nxI; first | (rw [if_neg (show ¬ z = 0 by omega), hw, show x = 10 by omega]) | (rw [if_pos c_21, hw, show x = 0 by omega]; rfl))) trivial rfl dX9_next_130 hP hD hS
        · refine lv_iconst (v := (nI 0)) xh bh dX9_next_24 (by decide) ?_
          refine lv_istore (lv' := [(5, .int (nI 0)), (0, .ref (a 0)), (1, .int (nI z)), (2, .int w), (3, .int (nI f)), (4, .int (nI x))]) xh bh dX9_next_25 hl (by decide) rfl (fun ls hl => ?_)
          refine lv_iconst (v := (nI 0)) xh bh dX9_next_27 (by decide) ?_
          refine lv_istore (lv' := [(6, .int (nI 0)), (5, .int (nI 0)), (0, .ref (a 0)), (1, .int (nI z)), (2, .int w), (3, .int (nI f)), (4, .int (nI x))]) xh bh dX9_next_28 hl (by decide) rfl (fun ls hl => ?_)
          have cut_30 : ∀ (n_30 : Nat), ∀ (b : Nat), ∀ (n : Nat), (b ≤ 8) → (n = nyN T z x b) → (8 - b) < n_30 → ∀ (H : Heap) (locs : List Loc) (ls : Array Slot), va_P D vwCl [(a 0, .inr (6, [.ref (a 1), .ref (a 2), .int (nI hm), .int (nI un), .ref (a 3), .ref (a 4), .ref (a 5), .ref (a 6), .ref (a 7), .ref (a 8), .ref (a 9), .ref (a 10), .ref (a 11), .ref (a 12), .long fa, .long fb, .ref (a 13), .long (lN lx), .ref (a 14), .int (nI bl), .int (nI ta), .int (nI tl), .int (nI tk), .int (nI va), .ref (a 15), .ref (a 16), .ref (a 17)])), (a 1, .inl (cJ, 9, .inr (.inl (fR T)))), (a 3, .inl (cI, 12, .inl (fN hs)))] H → va_D AG [(a 0, .inr (6, [.ref (a 1), .ref (a 2), .int (nI hm), .int (nI un), .ref (a 3), .ref (a 4), .ref (a 5), .ref (a 6), .ref (a 7), .ref (a 8), .ref (a 9), .ref (a 10), .ref (a 11), .ref (a 12), .long fa, .long fb, .ref (a 13), .long (lN lx), .ref (a 14), .int (nI bl), .int (nI ta), .int (nI tl), .int (nI tk), .int (nI va), .ref (a 15), .ref (a 16), .ref (a 17)])), (a 1, .inl (cJ, 9, .inr (.inl (fR T)))), (a 3, .inl (cI, 12, .inl (fN hs)))] → va_S AG sG.heap H locs → lv_has ls 7 [(0, .ref (a 0)), (1, .int (nI z)), (2, .int w), (3, .int (nI f)), (4, .int (nI x)), (5, .int (nI n)), (6, .int (nI b))] → W pG l eG ({ frames := 3, cells := 0, slots := 0, locals := 70 }) sG mG aG bG tG cG H locs 0 0 QG (F0 mG 30 ls []) := by
            intro n_30
            induction n_30 with
            | zero =>
              intro b n hb hn hmu
              exact absurd hmu (Nat.not_lt_zero _)
            | succ n_30 ih_30 =>
              intro b n hb hn hmu H locs ls hP hD hS hl
              refine lv_iload xh bh dX9_next_30 (lv_at hl 6 rfl) ?_
              refine lv_bipush (v := (nI 8)) xh bh dX9_next_32 (by decide) ?_
              refine xn_icmp_ge (tgt := 78) xh bh dX9_next_34 (by decide) (by omega) (by omega) (fun c_34 => ?_) (fun c_34 => ?_)
              · have hn8 : n = nyN T z x 8 := by rw [hn, show b = 8 by omega]
                have b1 := popN_le z
                have b2 := nyN_le T z x 8
                have cut_103 : ∀ (g : Nat), (g = grN T z x) → ∀ (H : Heap) (locs : List Loc) (ls : Array Slot), va_P D vwCl [(a 0, .inr (6, [.ref (a 1), .ref (a 2), .int (nI hm), .int (nI un), .ref (a 3), .ref (a 4), .ref (a 5), .ref (a 6), .ref (a 7), .ref (a 8), .ref (a 9), .ref (a 10), .ref (a 11), .ref (a 12), .long fa, .long fb, .ref (a 13), .long (lN lx), .ref (a 14), .int (nI bl), .int (nI ta), .int (nI tl), .int (nI tk), .int (nI va), .ref (a 15), .ref (a 16), .ref (a 17)])), (a 1, .inl (cJ, 9, .inr (.inl (fR T)))), (a 3, .inl (cI, 12, .inl (fN hs)))] H → va_D AG [(a 0, .inr (6, [.ref (a 1), .ref (a 2), .int (nI hm), .int (nI un), .ref (a 3), .ref (a 4), .ref (a 5), .ref (a 6), .ref (a 7), .ref (a 8), .ref (a 9), .ref (a 10), .ref (a 11), .ref (a 12), .long fa, .long fb, .ref (a 13), .long (lN lx), .ref (a 14), .int (nI bl), .int (nI ta), .int (nI tl), .int (nI tk), .int (nI va), .ref (a 15), .ref (a 16), .ref (a 17)])), (a 1, .inl (cJ, 9, .inr (.inl (fR T)))), (a 3, .inl (cI, 12, .inl (fN hs)))] → va_S AG sG.heap H locs → lv_has ls 7 [(0, .ref (a 0)), (1, .int (nI z)), (2, .int w), (3, .int (nI f)), (4, .int (nI x)), (6, .int (nI g))] → W pG l eG ({ frames := 3, cells := 0, slots := 0, locals := 70 }) sG mG aG bG tG cG H locs 0 0 QG (F0 mG 103 ls []) := by
                  intro g hg H locs ls hP hD hS hl
                  refine lv_iload xh bh dX9_next_103 (lv_at hl 5 rfl) ?_
                  have b3 := grN_le T z x
                  have b4 := nxP_le T z x
                  refine lv_iload_n xh bh dX9_next_105 rfl (lv_at hl 3 rfl) ?_
                  refine xn_icmp_ge (tgt := 114) xh bh dX9_next_106 (by decide) (by omega) (by omega) (fun c_106 => ?_) (fun c_106 => ?_)
                  · refine lv_iload_n xh bh dX9_next_114 rfl (lv_at hl 2 rfl) ?_
                    refine lv_istore_n (lv' := [(2, .int w), (0, .ref (a 0)), (1, .int (nI z)), (3, .int (nI f)), (4, .int (nI x)), (6, .int (nI g))]) xh bh dX9_next_115 rfl hl (by decide) rfl (fun ls hl => ?_)
                    refine lv_iload_n xh bh dX9_next_116 rfl (lv_at hl 3 rfl) ?_
                    refine lv_iload xh bh dX9_next_117 (lv_at hl 5 rfl) ?_
                    refine Ct.callS0 (rest := []) xh bh hml hown hts hK hP hS hA (ct_X9_least l D cI cJ cB cZ cA f g (by omega) (by omega)) (va_cwS 2 hts gX9_next_X9_least rfl rfl rfl (by decide +kernel) ⟨Nat.le_of_ble_eq_true rfl, Nat.le_of_ble_eq_true rfl⟩) rfl rfl hl.1 (Nat.le_of_ble_eq_true rfl) dX9_next_119 ⟨Nat.le_refl _, Nat.le_refl _⟩ (fun _ H locs _ hP hS => ?_)
                    refine W.eq (g2 := F0 mG 122 ls [.int (nI (min f g))]) rfl ?_
                    refine lv_istore_n (lv' := [(3, .int (nI (min f g))), (2, .int w), (0, .ref (a 0)), (1, .int (nI z)), (4, .int (nI x)), (6, .int (nI g))]) xh bh dX9_next_122 rfl hl (by decide) rfl (fun ls hl => ?_)
                    refine lv_iinc (v := (nI (x + 1))) (lv' := [(4, .int (nI (x + 1))), (3, .int (nI (min f g))), (2, .int w), (0, .ref (a 0)), (1, .int (nI z)), (6, .int (nI g))]) xh bh dX9_next_123 hl (k := 4) rfl (by exact xn_inc _ _) (by decide) rfl (fun ls hl => ?_)
                    refine lv_goto (tgt := 13) xh bh dX9_next_126 (by decide) ?_
                    exact ih_13 (x + 1) w (min f g) (by omega) (by first | (rw [nxP_y (by rw [← hg, ← hf]; exact c_106)]) | (rw [nxP_n (by rw [← hg, ← hf]; omega)]; exact hw)) (by first | (rw [nxP_y (by rw [← hg, ← hf]; exact c_106)]; show min f g = grN T z x; omega) | (rw [nxP_n (by rw [← hg, ← hf]; omega), ← hf]; omega)) (by exact Or.inr c_21) (by omega) _ _ ls hP hD hS (lv_sub hl [3, 4, 2, 1, 0] rfl)
                  · refine lv_iload xh bh dX9_next_109 (lv_at hl 4 rfl) ?_
                    refine lv_goto (tgt := 115) xh bh dX9_next_111 (by decide) ?_
                    refine lv_istore_n (lv' := [(2, .int (nI x)), (0, .ref (a 0)), (1, .int (nI z)), (3, .int (nI f)), (4, .int (nI x)), (6, .int (nI g))]) xh bh dX9_next_115 rfl hl (by decide) rfl (fun ls hl => ?_)
                    refine lv_iload_n xh bh dX9_next_116 rfl (lv_at hl 3 rfl) ?_
                    refine lv_iload xh bh dX9_next_117 (lv_at hl 5 rfl) ?_
                    refine Ct.callS0 (rest := []) xh bh hml hown hts hK hP hS hA (ct_X9_least l D cI cJ cB cZ cA f g (by omega) (by omega)) (va_cwS 2 hts gX9_next_X9_least rfl rfl rfl (by decide +kernel) ⟨Nat.le_of_ble_eq_true rfl, Nat.le_of_ble_eq_true rfl⟩) rfl rfl hl.1 (Nat.le_of_ble_eq_true rfl) dX9_next_119 ⟨Nat.le_refl _, Nat.le_refl _⟩ (fun _ H locs _ hP hS => ?_)
                    refine W.eq (g2 := F0 mG 122 ls [.int (nI (min f g))]) rfl ?_
                    refine lv_istore_n (lv' := [(3, .int (nI (min f g))), (2, .int (nI x)), (0, .ref (a 0)), (1, .int (nI z)), (4, .int (nI x)), (6, .int (nI g))]) xh bh dX9_next_122 rfl hl (by decide) rfl (fun ls hl => ?_)
                    refine lv_iinc (v := (nI (x + 1))) (lv' := [(4, .int (nI (x + 1))), (3, .int (nI (min f g))), (2, .int (nI x)), (0, .ref (a 0)), (1, .int (nI z)), (6, .int (nI g))]) xh bh dX9_next_123 hl (k := 4) rfl (by exact xn_inc _ _) (by decide) rfl (fun ls hl => ?_)
                    refine lv_goto (tgt := 13) xh bh dX9_next_126 (by decide) ?_
                    exact ih_13 (x + 1) (nI x) (min f g) (by omega) (by first | (rw [nxP_y (by rw [← hg, ← hf]; exact c_106)]) | (rw [nxP_n (by rw [← hg, ← hf]; omega)]; exact hw)) (by first | (rw [nxP_y (by rw [← hg, ← hf]; exact c_106)]; show min f g = grN T z x; omega) | (rw [nxP_n (by rw [← hg, ← hf]; omega), ← hf]; omega)) (by exact Or.inr c_21) (by omega) _ _ ls hP hD hS (lv_sub hl [3, 4, 2, 1, 0] rfl)
                refine lv_iconst (v := (nI 2)) xh bh dX9_next_78 (by decide) ?_
                refine lv_iload xh bh dX9_next_79 (lv_at hl 5 rfl) ?_
                refine xn_imul xh bh dX9_next_81 ?_
                refine lv_iload_n xh bh dX9_next_82 rfl (lv_at hl 1 rfl) ?_
                refine Ct.callS0 (rest := [.int (nI (2 * n))]) xh bh hml hown hts hK hP hS hA (ct_X9_bits l D cI cJ cB cZ cA z (by omega)) (va_cwS 1 hts gX9_next_X9_bits rfl rfl rfl (by decide +kernel) ⟨Nat.le_of_ble_eq_true rfl, Nat.le_of_ble_eq_true rfl⟩) rfl rfl hl.1 (Nat.le_of_ble_eq_true rfl) dX9_next_83 ⟨Nat.le_refl _, Nat.le_refl _⟩ (fun _ H locs _ hP hS => ?_)
                refine W.eq (g2 := F0 mG 86 ls [.int (nI (popN z)), .int (nI (2 * n))]) rfl ?_
                refine xn_icmp_le (tgt := 94) xh bh dX9_next_86 (by decide) (by omega) (by omega) (fun c_86 => ?_) (fun c_86 => ?_)
                · refine lv_iload_n xh bh dX9_next_94 rfl (lv_at hl 1 rfl) ?_
                  refine Ct.callS0 (rest := []) xh bh hml hown hts hK hP hS hA (ct_X9_bits l D cI cJ cB cZ cA z (by omega)) (va_cwS 1 hts gX9_next_X9_bits rfl rfl rfl (by decide +kernel) ⟨Nat.le_of_ble_eq_true rfl, Nat.le_of_ble_eq_true rfl⟩) rfl rfl hl.1 (Nat.le_of_ble_eq_true rfl) dX9_next_95 ⟨Nat.le_refl _, Nat.le_refl _⟩ (fun _ H locs _ hP hS => ?_)
                  refine W.eq (g2 := F0 mG 98 ls [.int (nI (popN z))]) rfl ?_
                  refine lv_iload xh bh dX9_next_98 (lv_at hl 5 rfl) ?_
                  refine xn_isub xh bh dX9_next_100 (by omega) ?_
                  refine lv_istore (lv' := [(6, .int (nI ((popN z) - n))), (0, .ref (a 0)), (1, .int (nI z)), (2, .int w), (3, .int (nI f)), (4, .int (nI x)), (5, .int (nI n))]) xh bh dX9_next_101 hl (by decide) rfl (fun ls hl => ?_)
                  exact cut_103 ((popN z) - n) (by unfold grN; rw [← hn8]; first | exact (if_pos c_86).symm | exact (if_neg (by omega)).symm) _ _ ls hP hD hS (lv_sub hl [1, 2, 3, 4, 5, 0] rfl)
                · refine lv_iload xh bh dX9_next_89 (lv_at hl 5 rfl) ?_
                  refine lv_goto (tgt := 101) xh bh dX9_next_91 (by decide) ?_
                  refine lv_istore (lv' := [(6, .int (nI n)), (0, .ref (a 0)), (1, .int (nI z)), (2, .int w), (3, .int (nI f)), (4, .int (nI x)), (5, .int (nI n))]) xh bh dX9_next_101 hl (by decide) rfl (fun ls hl => ?_)
                  exact cut_103 n (by unfold grN; rw [← hn8]; first | exact (if_pos c_86).symm | exact (if_neg (by omega)).symm) _ _ ls hP hD hS (lv_sub hl [1, 2, 3, 4, 5, 0] rfl)
              · refine lv_iload xh bh dX9_next_37 (lv_at hl 5 rfl) ?_
                refine lv_iload_n xh bh dX9_next_39 rfl (lv_at hl 1 rfl) ?_
                refine lv_iload xh bh dX9_next_40 (lv_at hl 6 rfl) ?_
                refine xn_ishr xh bh dX9_next_42 (by omega) (by omega) ?_
                refine lv_iconst (v := (nI 1)) xh bh dX9_next_43 (by decide) ?_
                refine xn_iand xh bh dX9_next_44 ?_
                refine lv_iconst (v := (nI 1)) xh bh dX9_next_45 (by decide) ?_
                refine xn_icmp_ne (tgt := 68) xh bh dX9_next_46 (by decide) (by have := Nat.and_le_right (n := z / 2 ^ b) (m := 1); omega) (by have := Nat.and_le_right (n := z / 2 ^ b) (m := 1); omega) (fun c_46 => ?_) (fun c_46 => ?_)
                · refine lv_iconst (v := (nI 0)) xh bh dX9_next_68 (by decide) ?_
                  refine xn_iadd xh bh dX9_next_69 ?_
                  refine lv_istore (lv' := [(5, .int (nI (n + 0))), (0, .ref (a 0)), (1, .int (nI z)), (2, .int w), (3, .int (nI f)), (4, .int (nI x)), (6, .int (nI b))]) xh bh dX9_next_70 hl (by decide) rfl (fun ls hl => ?_)
                  refine lv_iinc (v := (nI (b + 1))) (lv' := [(6, .int (nI (b + 1))), (5, .int (nI (n + 0))), (0, .ref (a 0)), (1, .int (nI z)), (2, .int w), (3, .int (nI f)), (4, .int (nI x))]) xh bh dX9_next_72 hl (k := 6) rfl (by exact xn_inc _ _) (by decide) rfl (fun ls hl => ?_)
                  refine lv_goto (tgt := 30) xh bh dX9_next_75 (by decide) ?_
                  exact ih_30 (b + 1) (n + 0) (by omega) (by rw [hn]; first | exact (nyN_y (by rw [and1] at c_46; exact c_46) (of_decide_eq_true c_61)).symm | exact (nyN_n (fun q => by rw [and1] at c_46; exact c_46 q.1)).symm | exact (nyN_n (fun q => of_decide_eq_false c_61 q.2)).symm) (by omega) _ _ ls hP hD hS (lv_sub hl [2, 3, 4, 5, 6, 1, 0] rfl)
                · refine lv_aload_n xh bh dX9_next_49 rfl (lv_at hl 0 rfl) ?_
                  refine va_get (D := D) (ci := 6) (v := .ref (a 1)) (C := RX9) (T := TX9) (N := 27) xh bh hts (fun _ h => List.mem_cons_of_mem _ (List.mem_append_right _ (h))) hown hK.1 hP 0 rfl rfl 0 (by decide) (hts _ (List.mem_of_getElem? (i := 2) rfl)) (fun _ h9 => h9) rfl dX9_next_50 ?_
                  refine lv_iload xh bh dX9_next_53 (lv_at hl 6 rfl) ?_
                  refine xa_lald xh bh hK.1 hP 1 1 rfl rfl (by omega) (by omega) dX9_next_55 ?_
                  refine W.eq (g2 := F0 mG 56 ls [.long (eR (T b)), .int (nI n)]) rfl ?_
                  refine lv_iload xh bh dX9_next_56 (lv_at hl 4 rfl) ?_
                  refine Ct.callS0 (rest := [.int (nI n)]) xh bh hml hown hts hK hP hS hA (ct_X9_has l D cI cJ cB cZ cA (T b) x (by exact hT _) (by first | assumption | omega)) (va_cwS 2 hts gX9_next_X9_has rfl rfl rfl (by decide +kernel) ⟨Nat.le_of_ble_eq_true rfl, Nat.le_of_ble_eq_true rfl⟩) rfl rfl hl.1 (Nat.le_of_ble_eq_true rfl) dX9_next_58 ⟨Nat.le_refl _, Nat.le_refl _⟩ (fun _ H locs _ hP hS => ?_)
                  refine W.eq (g2 := F0 mG 61 ls [.int (ib (decide (x ∈ (T b)))), .int (nI n)]) rfl ?_
                  refine xb_if_eq (tgt := 68) xh bh dX9_next_61 (by decide) (fun c_61 => ?_) (fun c_61 => ?_)
                  · refine lv_iconst (v := (nI 0)) xh bh dX9_next_68 (by decide) ?_
                    refine xn_iadd xh bh dX9_next_69 ?_
                    refine lv_istore (lv' := [(5, .int (nI (n + 0))), (0, .ref (a 0)), (1, .int (nI z)), (2, .int w), (3, .int (nI f)), (4, .int (nI x)), (6, .int (nI b))]) xh bh dX9_next_70 hl (by decide) rfl (fun ls hl => ?_)
                    refine lv_iinc (v := (nI (b + 1))) (lv' := [(6, .int (nI (b + 1))), (5, .int (nI (n + 0))), (0, .ref (a 0)), (1, .int (nI z)), (2, .int w), (3, .int (nI f)), (4, .int (nI x))]) xh bh dX9_next_72 hl (k := 6) rfl (by exact xn_inc _ _) (by decide) rfl (fun ls hl => ?_)
                    refine lv_goto (tgt := 30) xh bh dX9_next_75 (by decide) ?_
                    exact ih_30 (b + 1) (n + 0) (by omega) (by rw [hn]; first | exact (nyN_y (by rw [and1] at c_46; exact c_46) (of_decide_eq_true c_61)).symm | exact (nyN_n (fun q => by rw [and1] at c_46; exact c_46 q.1)).symm | exact (nyN_n (fun q => of_decide_eq_false c_61 q.2)).symm) (by omega) _ _ ls hP hD hS (lv_sub hl [2, 3, 4, 5, 6, 1, 0] rfl)
                  · refine lv_iconst (v := (nI 1)) xh bh dX9_next_64 (by decide) ?_
                    refine lv_goto (tgt := 69) xh bh dX9_next_65 (by decide) ?_
                    refine xn_iadd xh bh dX9_next_69 ?_
                    refine lv_istore (lv' := [(5, .int (nI (n + 1))), (0, .ref (a 0)), (1, .int (nI z)), (2, .int w), (3, .int (nI f)), (4, .int (nI x)), (6, .int (nI b))]) xh bh dX9_next_70 hl (by decide) rfl (fun ls hl => ?_)
                    refine lv_iinc (v := (nI (b + 1))) (lv' := [(6, .int (nI (b + 1))), (5, .int (nI (n + 1))), (0, .ref (a 0)), (1, .int (nI z)), (2, .int w), (3, .int (nI f)), (4, .int (nI x))]) xh bh dX9_next_72 hl (k := 6) rfl (by exact xn_inc _ _) (by decide) rfl (fun ls hl => ?_)
                    refine lv_goto (tgt := 30) xh bh dX9_next_75 (by decide) ?_
                    exact ih_30 (b + 1) (n + 1) (by omega) (by rw [hn]; first | exact (nyN_y (by rw [and1] at c_46; exact c_46) (of_decide_eq_true c_61)).symm | exact (nyN_n (fun q => by rw [and1] at c_46; exact c_46 q.1)).symm | exact (nyN_n (fun q => of_decide_eq_false c_61 q.2)).symm) (by omega) _ _ ls hP hD hS (lv_sub hl [2, 3, 4, 5, 6, 1, 0] rfl)
          exact cut_30 (8 - 0 + 1) 0 0 (by exact Nat.zero_le _) (by rfl) (Nat.lt_succ_self _) _ _ ls hP hD hS (lv_sub hl [2, 3, 4, 5, 6, 1, 0] rfl)
  exact cut_13 (10 - 0 + 1) 0 (-1) 1000000 (by exact Nat.zero_le _) (by rfl) (by rfl) (by exact Or.inl rfl) (Nat.lt_succ_self _) _ _ ls hP hD hS (lv_sub hl [4, 3, 2, 1, 0] rfl)

set_option maxHeartbeats 1000000 in
set_option maxRecDepth 100000 in
theorem ct_X9_fun (l : Launch) (D : va_G) (cI cJ cB cZ cA : ClassId) (a : Nat → Nat) (T : Nat → List Nat) (rf : Nat → Int32) (hm : Nat) (un : Nat) (fa : Int64) (fb : Int64) (lx : Nat) (bl : Nat) (ta : Nat) (tl : Nat) (tk : Nat) (va : Nat) (x : Int32) (hT : ∀ k, okT (T k)) : Ct l yX9_fun wsX9_fun ({ frames := 2, cells := 0, slots := 0, locals := 49 }) D (tysG cI cJ cB cZ cA) [.ref (a 0), .int x] [(a 0, .inr (6, [.ref (a 1), .ref (a 2), .int (nI hm), .int (nI un), .ref (a 3), .ref (a 4), .ref (a 5), .ref (a 6), .ref (a 7), .ref (a 8), .ref (a 9), .ref (a 10), .ref (a 11), .ref (a 12), .long fa, .long fb, .ref (a 13), .long (lN lx), .ref (a 14), .int (nI bl), .int (nI ta), .int (nI tl), .int (nI tk), .int (nI va), .ref (a 15), .ref (a 16), .ref (a 17)])), (a 1, .inl (cJ, 9, .inr (.inl (fR T)))), (a 12, .inl (cI, 3, .inl rf))] (fun (_ : Unit) => True) (fun _ => some (.int (eFun (kBr x) (funT (T (xN x)))))) (fun _ => [(a 0, .inr (6, [.ref (a 1), .ref (a 2), .int (nI hm), .int (nI un), .ref (a 3), .ref (a 4), .ref (a 5), .ref (a 6), .ref (a 7), .ref (a 8), .ref (a 9), .ref (a 10), .ref (a 11), .ref (a 12), .long fa, .long fb, .ref (a 13), .long (lN lx), .ref (a 14), .int (nI bl), .int (nI ta), .int (nI tl), .int (nI tk), .int (nI va), .ref (a 15), .ref (a 16), .ref (a 17)])), (a 1, .inl (cJ, 9, .inr (.inl (fR T)))), (a 12, .inl (cI, 3, .inl (rfU (kBr x) rf)))]) := by
  refine Ct.ofI (cc := cX9_fun) (maxL := 2) (by decide) rfl (Nat.le_of_ble_eq_true rfl) ?_
  intro pG eG sG mG aG bG tG cG AG QG ls xh bh hml hown hts hK hP hD hS hA hend hl
  have hl : lv_has ls 2 [(0, .ref (a 0)), (1, .int x)] := hl
  refine lv_iload_n xh bh dX9_fun_0 rfl (lv_at hl 1 rfl) ?_
  refine Ct.callS0 (rest := []) xh bh hml hown hts hK hP hS hA (ct_X9_isBranch l D cI cJ cB cZ cA x ) (va_cwS 1 hts gX9_fun_X9_isBranch rfl rfl rfl (by decide +kernel) ⟨Nat.le_of_ble_eq_true rfl, Nat.le_of_ble_eq_true rfl⟩) rfl rfl hl.1 (Nat.le_of_ble_eq_true rfl) dX9_fun_1 ⟨Nat.le_refl _, Nat.le_refl _⟩ (fun _ H locs _ hP hS => ?_)
  refine W.eq (g2 := F0 mG 4 ls [.int (ib (upB x 7))]) rfl ?_
  refine xb_if_eq (tgt := 19) xh bh dX9_fun_4 (by decide) (fun c_4 => ?_) (fun c_4 => ?_)
  · have hk : kBr x = 0 := if_neg (by rw [c_4]; decide)
    refine lv_aload_n xh bh dX9_fun_19 rfl (lv_at hl 0 rfl) ?_
    refine lv_sipush (v := (-1000)) xh bh dX9_fun_20 (by decide) ?_
    refine Ct.callV (As := [.int (-1000)]) (rest := []) (wr := [(a 1, .inl (cJ, 9, .inr (.inl (fR T))))]) xh bh hml hown hts hK hP hD hS hA (ct_X9_bad l D cI cJ cB cZ cA a rf hm un fa fb lx bl ta tl tk va (-1000) ) (cwV 1 hts gX9_fun_X9_bad rfl rfl rfl (by decide +kernel) ⟨Nat.le_of_ble_eq_true rfl, Nat.le_of_ble_eq_true rfl⟩) rfl rfl hl.1 (Nat.le_of_ble_eq_true rfl) dX9_fun_23 ⟨Nat.le_refl _, Nat.le_refl _⟩ 0 6 rfl rfl rfl [0, 2] [1] rfl (by decide) rfl rfl (by decide) (by decide) (fun _ H locs _ hP hD hS => ?_)
    have hP : va_P D vwCl [(a 1, .inl (cJ, 9, .inr (.inl (fR T)))), (a 0, .inr (6, [.ref (a 1), .ref (a 2), .int (nI hm), .int (nI un), .ref (a 3), .ref (a 4), .ref (a 5), .ref (a 6), .ref (a 7), .ref (a 8), .ref (a 9), .ref (a 10), .ref (a 11), .ref (a 12), .long fa, .long fb, .ref (a 13), .long (lN lx), .ref (a 14), .int (nI bl), .int (nI ta), .int (nI tl), .int (nI tk), .int (nI va), .ref (a 15), .ref (a 16), .ref (a 17)])), (a 12, .inl (cI, 3, .inl (upd rf 0 ((rf 0) + nI 1))))] H := hP
    have hD : va_D AG [(a 1, .inl (cJ, 9, .inr (.inl (fR T)))), (a 0, .inr (6, [.ref (a 1), .ref (a 2), .int (nI hm), .int (nI un), .ref (a 3), .ref (a 4), .ref (a 5), .ref (a 6), .ref (a 7), .ref (a 8), .ref (a 9), .ref (a 10), .ref (a 11), .ref (a 12), .long fa, .long fb, .ref (a 13), .long (lN lx), .ref (a 14), .int (nI bl), .int (nI ta), .int (nI tl), .int (nI tk), .int (nI va), .ref (a 15), .ref (a 16), .ref (a 17)])), (a 12, .inl (cI, 3, .inl (upd rf 0 ((rf 0) + nI 1))))] := hD
    refine W.eq (g2 := F0 mG 26 ls [.int (-1000)]) rfl ?_
    exact hend (-1000) () _ _ _ _ (congrArg (fun z => some (Value.int z)) (by rw [hk]; first | rfl | (rw [xN_nI (by omega)]; rfl))) trivial rfl dX9_fun_26 (by rw [hk]; exact (hP.sub [1, 0, 2] rfl)) (by rw [hk]; exact (hD.sub [1, 0, 2] (by decide) rfl)) hS
  · have hk : kBr x = 3 := if_pos c_4
    obtain ⟨k, hk9, rfl⟩ := upB_of (by decide) c_4
    refine lv_aload_n xh bh dX9_fun_7 rfl (lv_at hl 0 rfl) ?_
    refine va_get (D := D) (ci := 6) (v := .ref (a 1)) (C := RX9) (T := TX9) (N := 27) xh bh hts (fun _ h => List.mem_cons_of_mem _ (List.mem_append_right _ (h))) hown hK.1 hP 0 rfl rfl 0 (by decide) (hts _ (List.mem_of_getElem? (i := 1) rfl)) (fun _ h9 => h9) rfl dX9_fun_8 ?_
    refine lv_iload_n xh bh dX9_fun_11 rfl (lv_at hl 1 rfl) ?_
    refine xa_lald xh bh hK.1 hP 1 1 rfl rfl (by omega) (by omega) dX9_fun_12 ?_
    refine W.eq (g2 := F0 mG 13 ls [.long (eR (T k))]) rfl ?_
    refine Ct.callS0 (rest := []) xh bh hml hown hts hK hP hS hA (ct_X9_funOf l D cI cJ cB cZ cA (T k) (by exact hT _)) (va_cwS 1 hts gX9_fun_X9_funOf rfl rfl rfl (by decide +kernel) ⟨Nat.le_of_ble_eq_true rfl, Nat.le_of_ble_eq_true rfl⟩) rfl rfl hl.1 (Nat.le_of_ble_eq_true rfl) dX9_fun_13 ⟨Nat.le_refl _, Nat.le_refl _⟩ (fun _ H locs _ hP hS => ?_)
    refine W.eq (g2 := F0 mG 16 ls [.int (funT (T k))]) rfl ?_
    refine lv_goto (tgt := 26) xh bh dX9_fun_16 (by decide) ?_
    exact hend (funT (T k)) () _ _ _ _ (congrArg (fun z => some (Value.int z)) (by rw [hk]; first | rfl | (rw [xN_nI (by omega)]; rfl))) trivial rfl dX9_fun_26 (by rw [hk]; exact hP) (by rw [hk]; exact hD) hS

set_option maxHeartbeats 1000000 in
set_option maxRecDepth 100000 in
theorem ct_X9_slip (l : Launch) (D : va_G) (cI cJ cB cZ cA : ClassId) (a : Nat → Nat) (T : Nat → List Nat) (rf : Nat → Int32) (hm : Nat) (un : Nat) (fa : Int64) (fb : Int64) (lx : Nat) (bl : Nat) (ta : Nat) (tl : Nat) (tk : Nat) (va : Nat) (x : Int32) (hT : ∀ k, okT (T k)) : Ct l yX9_slip wsX9_slip ({ frames := 5, cells := 0, slots := 0, locals := 119 }) D (tysG cI cJ cB cZ cA) [.ref (a 0), .int x] [(a 0, .inr (6, [.ref (a 1), .ref (a 2), .int (nI hm), .int (nI un), .ref (a 3), .ref (a 4), .ref (a 5), .ref (a 6), .ref (a 7), .ref (a 8), .ref (a 9), .ref (a 10), .ref (a 11), .ref (a 12), .long fa, .long fb, .ref (a 13), .long (lN lx), .ref (a 14), .int (nI bl), .int (nI ta), .int (nI tl), .int (nI tk), .int (nI va), .ref (a 15), .ref (a 16), .ref (a 17)])), (a 1, .inl (cJ, 9, .inr (.inl (fR T)))), (a 12, .inl (cI, 3, .inl rf))] (fun (_ : Unit) => True) (fun _ => some (.int (eSlip (kBr x) (slP (T (xN x)) 500).1))) (fun _ => [(a 0, .inr (6, [.ref (a 1), .ref (a 2), .int (nI hm), .int (nI un), .ref (a 3), .ref (a 4), .ref (a 5), .ref (a 6), .ref (a 7), .ref (a 8), .ref (a 9), .ref (a 10), .ref (a 11), .ref (a 12), .long fa, .long fb, .ref (a 13), .long (lN lx), .ref (a 14), .int (nI bl), .int (nI ta), .int (nI tl), .int (nI tk), .int (nI va), .ref (a 15), .ref (a 16), .ref (a 17)])), (a 1, .inl (cJ, 9, .inr (.inl (fR T)))), (a 12, .inl (cI, 3, .inl (rfU (kBr x) rf)))]) := by
  refine Ct.ofI (cc := cX9_slip) (maxL := 6) (by decide) rfl (Nat.le_of_ble_eq_true rfl) ?_
  intro pG eG sG mG aG bG tG cG AG QG ls xh bh hml hown hts hK hP hD hS hA hend hl
  have hl : lv_has ls 6 [(0, .ref (a 0)), (1, .int x)] := hl
  refine lv_iload_n xh bh dX9_slip_0 rfl (lv_at hl 1 rfl) ?_
  refine Ct.callS0 (rest := []) xh bh hml hown hts hK hP hS hA (ct_X9_isBranch l D cI cJ cB cZ cA x ) (va_cwS 1 hts gX9_slip_X9_isBranch rfl rfl rfl (by decide +kernel) ⟨Nat.le_of_ble_eq_true rfl, Nat.le_of_ble_eq_true rfl⟩) rfl rfl hl.1 (Nat.le_of_ble_eq_true rfl) dX9_slip_1 ⟨Nat.le_refl _, Nat.le_refl _⟩ (fun _ H locs _ hP hS => ?_)
  refine W.eq (g2 := F0 mG 4 ls [.int (ib (upB x 7))]) rfl ?_
  refine xb_if_ne (tgt := 14) xh bh dX9_slip_4 (by decide) (fun c_4 => ?_) (fun c_4 => ?_)
  · have hk : kBr x = 3 := if_pos c_4
    obtain ⟨k, hk9, rfl⟩ := upB_of (by decide) c_4
    refine lv_iconst (v := (nI 0)) xh bh dX9_slip_14 (by decide) ?_
    refine lv_istore_n (lv' := [(2, .int (nI 0)), (0, .ref (a 0)), (1, .int (nI k))]) xh bh dX9_slip_15 rfl hl (by decide) rfl (fun ls hl => ?_)
    refine lv_aload_n xh bh dX9_slip_16 rfl (lv_at hl 1 rfl) ?_
    refine va_get (D := D) (ci := 6) (v := .ref (a 1)) (C := RX9) (T := TX9) (N := 27) xh bh hts (fun _ h => List.mem_cons_of_mem _ (List.mem_append_right _ (h))) hown hK.1 hP 0 rfl rfl 0 (by decide) (hts _ (List.mem_of_getElem? (i := 1) rfl)) (fun _ h9 => h9) rfl dX9_slip_17 ?_
    refine lv_iload_n xh bh dX9_slip_20 rfl (lv_at hl 2 rfl) ?_
    refine xa_lald xh bh hK.1 hP 1 1 rfl rfl (by omega) (by omega) dX9_slip_21 ?_
    refine W.eq (g2 := F0 mG 22 ls [.long (eR (T k))]) rfl ?_
    refine Ct.callS0 (rest := []) xh bh hml hown hts hK hP hS hA (ct_X9_funOf l D cI cJ cB cZ cA (T k) (by exact hT _)) (va_cwS 1 hts gX9_slip_X9_funOf rfl rfl rfl (by decide +kernel) ⟨Nat.le_of_ble_eq_true rfl, Nat.le_of_ble_eq_true rfl⟩) rfl rfl hl.1 (Nat.le_of_ble_eq_true rfl) dX9_slip_22 ⟨Nat.le_refl _, Nat.le_refl _⟩ (fun _ H locs _ hP hS => ?_)
    refine W.eq (g2 := F0 mG 25 ls [.int (funT (T k))]) rfl ?_
    refine lv_istore_n (lv' := [(3, .int (funT (T k))), (2, .int (nI 0)), (0, .ref (a 0)), (1, .int (nI k))]) xh bh dX9_slip_25 rfl hl (by decide) rfl (fun ls hl => ?_)
    refine lv_bipush (v := (nI 100)) xh bh dX9_slip_26 (by decide) ?_
    refine lv_istore (lv' := [(4, .int (nI 100)), (3, .int (funT (T k))), (2, .int (nI 0)), (0, .ref (a 0)), (1, .int (nI k))]) xh bh dX9_slip_28 hl (by decide) rfl (fun ls hl => ?_)
    have cut_30 : ∀ (n_30 : Nat), ∀ (c1 : Nat), ∀ (b : Nat), ∀ (m : Int32), (100 ≤ c1 ∧ c1 ≤ 600) → (b = (slP (T k) (c1 - 100)).1) → (m = (slP (T k) (c1 - 100)).2) → (600 - c1) < n_30 → ∀ (H : Heap) (locs : List Loc) (ls : Array Slot), va_P D vwCl [(a 0, .inr (6, [.ref (a 1), .ref (a 2), .int (nI hm), .int (nI un), .ref (a 3), .ref (a 4), .ref (a 5), .ref (a 6), .ref (a 7), .ref (a 8), .ref (a 9), .ref (a 10), .ref (a 11), .ref (a 12), .long fa, .long fb, .ref (a 13), .long (lN lx), .ref (a 14), .int (nI bl), .int (nI ta), .int (nI tl), .int (nI tk), .int (nI va), .ref (a 15), .ref (a 16), .ref (a 17)])), (a 1, .inl (cJ, 9, .inr (.inl (fR T)))), (a 12, .inl (cI, 3, .inl rf))] H → va_D AG [(a 0, .inr (6, [.ref (a 1), .ref (a 2), .int (nI hm), .int (nI un), .ref (a 3), .ref (a 4), .ref (a 5), .ref (a 6), .ref (a 7), .ref (a 8), .ref (a 9), .ref (a 10), .ref (a 11), .ref (a 12), .long fa, .long fb, .ref (a 13), .long (lN lx), .ref (a 14), .int (nI bl), .int (nI ta), .int (nI tl), .int (nI tk), .int (nI va), .ref (a 15), .ref (a 16), .ref (a 17)])), (a 1, .inl (cJ, 9, .inr (.inl (fR T)))), (a 12, .inl (cI, 3, .inl rf))] → va_S AG sG.heap H locs → lv_has ls 6 [(0, .ref (a 0)), (1, .int (nI k)), (2, .int (nI b)), (3, .int m), (4, .int (nI c1))] → W pG l eG ({ frames := 5, cells := 0, slots := 0, locals := 119 }) sG mG aG bG tG cG H locs 0 0 QG (F0 mG 30 ls []) := by
      intro n_30
      induction n_30 with
      | zero =>
        intro c1 b m hc hb hm9 hmu
        exact absurd hmu (Nat.not_lt_zero _)
      | succ n_30 ih_30 =>
        intro c1 b m hc hb hm9 hmu H locs ls hP hD hS hl
        refine lv_iload xh bh dX9_slip_30 (lv_at hl 4 rfl) ?_
        refine lv_sipush (v := (nI 600)) xh bh dX9_slip_32 (by decide) ?_
        refine xn_icmp_ge (tgt := 102) xh bh dX9_slip_35 (by decide) (by omega) (by omega) (fun c_35 => ?_) (fun c_35 => ?_)
        · refine lv_iload_n xh bh dX9_slip_102 rfl (lv_at hl 2 rfl) ?_
          exact hend (nI b) () _ _ _ _ (congrArg (fun z => some (Value.int z)) (by rw [hk, xN_nI (by omega), hb, show c1 - 100 = 500 by omega]; rfl)) trivial rfl dX9_slip_103 (by rw [hk]; exact hP) (by rw [hk]; exact hD) hS
        · refine lv_iload xh bh dX9_slip_38 (lv_at hl 4 rfl) ?_
          refine lv_bipush (v := (nI 100)) xh bh dX9_slip_40 (by decide) ?_
          refine xn_idiv xh bh dX9_slip_42 (by omega) (by omega) (by omega) ?_
          refine lv_iload xh bh dX9_slip_43 (lv_at hl 4 rfl) ?_
          refine lv_bipush (v := (nI 10)) xh bh dX9_slip_45 (by decide) ?_
          refine xn_idiv xh bh dX9_slip_47 (by omega) (by omega) (by omega) ?_
          refine lv_bipush (v := (nI 10)) xh bh dX9_slip_48 (by decide) ?_
          refine xn_irem xh bh dX9_slip_50 (by omega) (by omega) (by omega) ?_
          refine lv_iload xh bh dX9_slip_51 (lv_at hl 4 rfl) ?_
          refine lv_bipush (v := (nI 10)) xh bh dX9_slip_53 (by decide) ?_
          refine xn_irem xh bh dX9_slip_55 (by omega) (by omega) (by omega) ?_
          refine lv_aload_n xh bh dX9_slip_56 rfl (lv_at hl 0 rfl) ?_
          refine va_get (D := D) (ci := 6) (v := .ref (a 1)) (C := RX9) (T := TX9) (N := 27) xh bh hts (fun _ h => List.mem_cons_of_mem _ (List.mem_append_right _ (h))) hown hK.1 hP 0 rfl rfl 0 (by decide) (hts _ (List.mem_of_getElem? (i := 1) rfl)) (fun _ h9 => h9) rfl dX9_slip_57 ?_
          refine lv_iload_n xh bh dX9_slip_60 rfl (lv_at hl 1 rfl) ?_
          refine xa_lald xh bh hK.1 hP 1 1 rfl rfl (by omega) (by omega) dX9_slip_61 ?_
          refine W.eq (g2 := F0 mG 62 ls [.long (eR (T k)), .int (nI (c1 % 10)), .int (nI ((c1 / 10) % 10)), .int (nI (c1 / 100))]) rfl ?_
          refine Ct.callS0 (rest := []) xh bh hml hown hts hK hP hS hA (ct_X9_slips l D cI cJ cB cZ cA (c1 / 100) ((c1 / 10) % 10) (c1 % 10) (T k) (by exact hT _) (by first | assumption | omega) (by first | assumption | omega) (by first | assumption | omega)) (va_cwS 4 hts gX9_slip_X9_slips rfl rfl rfl (by decide +kernel) ⟨Nat.le_of_ble_eq_true rfl, Nat.le_of_ble_eq_true rfl⟩) rfl rfl hl.1 (Nat.le_of_ble_eq_true rfl) dX9_slip_62 ⟨Nat.le_refl _, Nat.le_refl _⟩ (fun _ H locs _ hP hS => ?_)
          refine W.eq (g2 := F0 mG 65 ls [.long (eR (slipT (T k) (c1 / 100) ((c1 / 10) % 10) (c1 % 10)))]) rfl ?_
          refine Ct.callS0 (rest := []) xh bh hml hown hts hK hP hS hA (ct_X9_funOf l D cI cJ cB cZ cA (slipT (T k) (c1 / 100) ((c1 / 10) % 10) (c1 % 10)) (by exact okT_slip (hT _) _ _ (by omega))) (va_cwS 1 hts gX9_slip_X9_funOf rfl rfl rfl (by decide +kernel) ⟨Nat.le_of_ble_eq_true rfl, Nat.le_of_ble_eq_true rfl⟩) rfl rfl hl.1 (Nat.le_of_ble_eq_true rfl) dX9_slip_65 ⟨Nat.le_refl _, Nat.le_refl _⟩ (fun _ H locs _ hP hS => ?_)
          refine W.eq (g2 := F0 mG 68 ls [.int (funT (slipT (T k) (c1 / 100) ((c1 / 10) % 10) (c1 % 10)))]) rfl ?_
          refine lv_istore (lv' := [(5, .int (funT (slipT (T k) (c1 / 100) ((c1 / 10) % 10) (c1 % 10)))), (0, .ref (a 0)), (1, .int (nI k)), (2, .int (nI b)), (3, .int m), (4, .int (nI c1))]) xh bh dX9_slip_68 hl (by decide) rfl (fun ls hl => ?_)
          refine lv_iload xh bh dX9_slip_70 (lv_at hl 0 rfl) ?_
          refine lv_iload_n xh bh dX9_slip_72 rfl (lv_at hl 4 rfl) ?_
          refine lv_icmp_le (tgt := 81) xh bh dX9_slip_73 (by decide) (fun c_73 => ?_) (fun c_73 => ?_)
          · refine lv_iload_n xh bh dX9_slip_81 rfl (lv_at hl 3 rfl) ?_
            refine lv_istore_n (lv' := [(2, .int (nI b)), (5, .int (funT (slipT (T k) (c1 / 100) ((c1 / 10) % 10) (c1 % 10)))), (0, .ref (a 0)), (1, .int (nI k)), (3, .int m), (4, .int (nI c1))]) xh bh dX9_slip_82 rfl hl (by decide) rfl (fun ls hl => ?_)
            refine lv_iload xh bh dX9_slip_83 (lv_at hl 1 rfl) ?_
            refine lv_iload_n xh bh dX9_slip_85 rfl (lv_at hl 4 rfl) ?_
            refine lv_icmp_le (tgt := 94) xh bh dX9_slip_86 (by decide) (fun c_86 => ?_) (fun c_86 => ?_)
            · refine lv_iload_n xh bh dX9_slip_94 rfl (lv_at hl 4 rfl) ?_
              refine lv_istore_n (lv' := [(3, .int m), (2, .int (nI b)), (5, .int (funT (slipT (T k) (c1 / 100) ((c1 / 10) % 10) (c1 % 10)))), (0, .ref (a 0)), (1, .int (nI k)), (4, .int (nI c1))]) xh bh dX9_slip_95 rfl hl (by decide) rfl (fun ls hl => ?_)
              refine lv_iinc (v := (nI (c1 + 1))) (lv' := [(4, .int (nI (c1 + 1))), (3, .int m), (2, .int (nI b)), (5, .int (funT (slipT (T k) (c1 / 100) ((c1 / 10) % 10) (c1 % 10)))), (0, .ref (a 0)), (1, .int (nI k))]) xh bh dX9_slip_96 hl (k := 5) rfl (by exact xn_inc _ _) (by decide) rfl (fun ls hl => ?_)
              refine lv_goto (tgt := 30) xh bh dX9_slip_99 (by decide) ?_
              exact ih_30 (c1 + 1) b m (by omega) (by first | exact (slH_n hc.1 hb hm9 c_73).1 | exact (slH_y hc.1 hb hm9 c_73).1) (by first | exact (slH_n hc.1 hb hm9 c_73).2 | exact (slH_y hc.1 hb hm9 c_73).2 | exact absurd c_73 c_86 | exact absurd c_86 c_73) (by omega) _ _ ls hP hD hS (lv_sub hl [4, 5, 2, 1, 0] rfl)
            · refine lv_iload xh bh dX9_slip_89 (lv_at hl 1 rfl) ?_
              refine lv_goto (tgt := 95) xh bh dX9_slip_91 (by decide) ?_
              refine lv_istore_n (lv' := [(3, .int (funT (slipT (T k) (c1 / 100) ((c1 / 10) % 10) (c1 % 10)))), (2, .int (nI b)), (5, .int (funT (slipT (T k) (c1 / 100) ((c1 / 10) % 10) (c1 % 10)))), (0, .ref (a 0)), (1, .int (nI k)), (4, .int (nI c1))]) xh bh dX9_slip_95 rfl hl (by decide) rfl (fun ls hl => ?_)
              refine lv_iinc (v := (nI (c1 + 1))) (lv' := [(4, .int (nI (c1 + 1))), (3, .int (funT (slipT (T k) (c1 / 100) ((c1 / 10) % 10) (c1 % 10)))), (2, .int (nI b)), (5, .int (funT (slipT (T k) (c1 / 100) ((c1 / 10) % 10) (c1 % 10)))), (0, .ref (a 0)), (1, .int (nI k))]) xh bh dX9_slip_96 hl (k := 5) rfl (by exact xn_inc _ _) (by decide) rfl (fun ls hl => ?_)
              refine lv_goto (tgt := 30) xh bh dX9_slip_99 (by decide) ?_
              exact ih_30 (c1 + 1) b (funT (slipT (T k) (c1 / 100) ((c1 / 10) % 10) (c1 % 10))) (by omega) (by first | exact (slH_n hc.1 hb hm9 c_73).1 | exact (slH_y hc.1 hb hm9 c_73).1) (by first | exact (slH_n hc.1 hb hm9 c_73).2 | exact (slH_y hc.1 hb hm9 c_73).2 | exact absurd c_73 c_86 | exact absurd c_86 c_73) (by omega) _ _ ls hP hD hS (lv_sub hl [4, 5, 2, 1, 0] rfl)
          · refine lv_iload xh bh dX9_slip_76 (lv_at hl 5 rfl) ?_
            refine lv_goto (tgt := 82) xh bh dX9_slip_78 (by decide) ?_
            refine lv_istore_n (lv' := [(2, .int (nI c1)), (5, .int (funT (slipT (T k) (c1 / 100) ((c1 / 10) % 10) (c1 % 10)))), (0, .ref (a 0)), (1, .int (nI k)), (3, .int m), (4, .int (nI c1))]) xh bh dX9_slip_82 rfl hl (by decide) rfl (fun ls hl => ?_)
            refine lv_iload xh bh dX9_slip_83 (lv_at hl 1 rfl) ?_
            refine lv_iload_n xh bh dX9_slip_85 rfl (lv_at hl 4 rfl) ?_
            refine lv_icmp_le (tgt := 94) xh bh dX9_slip_86 (by decide) (fun c_86 => ?_) (fun c_86 => ?_)
            · refine lv_iload_n xh bh dX9_slip_94 rfl (lv_at hl 4 rfl) ?_
              refine lv_istore_n (lv' := [(3, .int m), (2, .int (nI c1)), (5, .int (funT (slipT (T k) (c1 / 100) ((c1 / 10) % 10) (c1 % 10)))), (0, .ref (a 0)), (1, .int (nI k)), (4, .int (nI c1))]) xh bh dX9_slip_95 rfl hl (by decide) rfl (fun ls hl => ?_)
              refine lv_iinc (v := (nI (c1 + 1))) (lv' := [(4, .int (nI (c1 + 1))), (3, .int m), (2, .int (nI c1)), (5, .int (funT (slipT (T k) (c1 / 100) ((c1 / 10) % 10) (c1 % 10)))), (0, .ref (a 0)), (1, .int (nI k))]) xh bh dX9_slip_96 hl (k := 5) rfl (by exact xn_inc _ _) (by decide) rfl (fun ls hl => ?_)
              refine lv_goto (tgt := 30) xh bh dX9_slip_99 (by decide) ?_
              exact ih_30 (c1 + 1) c1 m (by omega) (by first | exact (slH_n hc.1 hb hm9 c_73).1 | exact (slH_y hc.1 hb hm9 c_73).1) (by first | exact (slH_n hc.1 hb hm9 c_73).2 | exact (slH_y hc.1 hb hm9 c_73).2 | exact absurd c_73 c_86 | exact absurd c_86 c_73) (by omega) _ _ ls hP hD hS (lv_sub hl [4, 5, 2, 1, 0] rfl)
            · refine lv_iload xh bh dX9_slip_89 (lv_at hl 1 rfl) ?_
              refine lv_goto (tgt := 95) xh bh dX9_slip_91 (by decide) ?_
              refine lv_istore_n (lv' := [(3, .int (funT (slipT (T k) (c1 / 100) ((c1 / 10) % 10) (c1 % 10)))), (2, .int (nI c1)), (5, .int (funT (slipT (T k) (c1 / 100) ((c1 / 10) % 10) (c1 % 10)))), (0, .ref (a 0)), (1, .int (nI k)), (4, .int (nI c1))]) xh bh dX9_slip_95 rfl hl (by decide) rfl (fun ls hl => ?_)
              refine lv_iinc (v := (nI (c1 + 1))) (lv' := [(4, .int (nI (c1 + 1))), (3, .int (funT (slipT (T k) (c1 / 100) ((c1 / 10) % 10) (c1 % 10)))), (2, .int (nI c1)), (5, .int (funT (slipT (T k) (c1 / 100) ((c1 / 10) % 10) (c1 % 10)))), (0, .ref (a 0)), (1, .int (nI k))]) xh bh dX9_slip_96 hl (k := 5) rfl (by exact xn_inc _ _) (by decide) rfl (fun ls hl => ?_)
              refine lv_goto (tgt := 30) xh bh dX9_slip_99 (by decide) ?_
              exact ih_30 (c1 + 1) c1 (funT (slipT (T k) (c1 / 100) ((c1 / 10) % 10) (c1 % 10))) (by omega) (by first | exact (slH_n hc.1 hb hm9 c_73).1 | exact (slH_y hc.1 hb hm9 c_73).1) (by first | exact (slH_n hc.1 hb hm9 c_73).2 | exact (slH_y hc.1 hb hm9 c_73).2 | exact absurd c_73 c_86 | exact absurd c_86 c_73) (by omega) _ _ ls hP hD hS (lv_sub hl [4, 5, 2, 1, 0] rfl)
    exact cut_30 (600 - 100 + 1) 100 0 (funT (T k)) (by exact ⟨Nat.le_refl _, by omega⟩) (by rfl) (by rfl) (Nat.lt_succ_self _) _ _ ls hP hD hS (lv_sub hl [3, 4, 2, 1, 0] rfl)
  · have hk : kBr x = 0 := if_neg (by rw [c_4]; decide)
    refine lv_aload_n xh bh dX9_slip_7 rfl (lv_at hl 0 rfl) ?_
    refine lv_bipush (v := (-2)) xh bh dX9_slip_8 (by decide) ?_
    refine Ct.callV (As := [.int (-2)]) (rest := []) (wr := [(a 1, .inl (cJ, 9, .inr (.inl (fR T))))]) xh bh hml hown hts hK hP hD hS hA (ct_X9_bad l D cI cJ cB cZ cA a rf hm un fa fb lx bl ta tl tk va (-2) ) (cwV 1 hts gX9_slip_X9_bad rfl rfl rfl (by decide +kernel) ⟨Nat.le_of_ble_eq_true rfl, Nat.le_of_ble_eq_true rfl⟩) rfl rfl hl.1 (Nat.le_of_ble_eq_true rfl) dX9_slip_10 ⟨Nat.le_refl _, Nat.le_refl _⟩ 0 6 rfl rfl rfl [0, 2] [1] rfl (by decide) rfl rfl (by decide) (by decide) (fun _ H locs _ hP hD hS => ?_)
    have hP : va_P D vwCl [(a 1, .inl (cJ, 9, .inr (.inl (fR T)))), (a 0, .inr (6, [.ref (a 1), .ref (a 2), .int (nI hm), .int (nI un), .ref (a 3), .ref (a 4), .ref (a 5), .ref (a 6), .ref (a 7), .ref (a 8), .ref (a 9), .ref (a 10), .ref (a 11), .ref (a 12), .long fa, .long fb, .ref (a 13), .long (lN lx), .ref (a 14), .int (nI bl), .int (nI ta), .int (nI tl), .int (nI tk), .int (nI va), .ref (a 15), .ref (a 16), .ref (a 17)])), (a 12, .inl (cI, 3, .inl (upd rf 0 ((rf 0) + nI 1))))] H := hP
    have hD : va_D AG [(a 1, .inl (cJ, 9, .inr (.inl (fR T)))), (a 0, .inr (6, [.ref (a 1), .ref (a 2), .int (nI hm), .int (nI un), .ref (a 3), .ref (a 4), .ref (a 5), .ref (a 6), .ref (a 7), .ref (a 8), .ref (a 9), .ref (a 10), .ref (a 11), .ref (a 12), .long fa, .long fb, .ref (a 13), .long (lN lx), .ref (a 14), .int (nI bl), .int (nI ta), .int (nI tl), .int (nI tk), .int (nI va), .ref (a 15), .ref (a 16), .ref (a 17)])), (a 12, .inl (cI, 3, .inl (upd rf 0 ((rf 0) + nI 1))))] := hD
    refine W.eq (g2 := F0 mG 13 ls [.int (-2)]) rfl ?_
    exact hend (-2) () _ _ _ _ (congrArg (fun z => some (Value.int z)) (by rw [hk]; rfl)) trivial rfl dX9_slip_13 (by rw [hk]; exact (hP.sub [1, 0, 2] rfl)) (by rw [hk]; exact (hD.sub [1, 0, 2] (by decide) rfl)) hS
