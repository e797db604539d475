-- rows laid by wip/whole/gen.py
set_option maxHeartbeats 1000000 in
set_option maxRecDepth 100000 in
theorem ct_X9_funniest (l : Launch) (D : va_G) (cI cJ cB cZ cA : ClassId) (a : Nat → Nat) (rf : Nat → Int32) (hm : Nat) (un : Nat) (fa : Int64) (fb : Int64) (lx : Nat) (bl : Nat) (ta : Nat) (tl : Nat) (tk : Nat) (va : Nat) (m : Int32) (i : Int32) : Ct l yX9_funniest wsX9_funniest ({ frames := 2, cells := 0, slots := 0, locals := 49 }) D (tysG cI cJ cB cZ cA) [.ref (a 0), .int m, .int i] [(a 0, .inr (6, [.ref (a 1), .ref (a 2), .int (nI hm), .int (nI un), .ref (a 3), .ref (a 4), .ref (a 5), .ref (a 6), .ref (a 7), .ref (a 8), .ref (a 9), .ref (a 10), .ref (a 11), .ref (a 12), .long fa, .long fb, .ref (a 13), .long (lN lx), .ref (a 14), .int (nI bl), .int (nI ta), .int (nI tl), .int (nI tk), .int (nI va), .ref (a 15), .ref (a 16), .ref (a 17)])), (a 12, .inl (cI, 3, .inl rf))] (fun (_ : Unit) => True) (fun _ => some (.int (eFn (kFn m i) (xN m) i (fmP (10 ^ xN m) (xN m) (10 ^ xN m))))) (fun _ => [(a 0, .inr (6, [.ref (a 1), .ref (a 2), .int (nI hm), .int (nI un), .ref (a 3), .ref (a 4), .ref (a 5), .ref (a 6), .ref (a 7), .ref (a 8), .ref (a 9), .ref (a 10), .ref (a 11), .ref (a 12), .long fa, .long fb, .ref (a 13), .long (lN lx), .ref (a 14), .int (nI bl), .int (nI ta), .int (nI tl), .int (nI tk), .int (nI va), .ref (a 15), .ref (a 16), .ref (a 17)])), (a 12, .inl (cI, 3, .inl (rfU (kFn m i) rf)))]) := by
  refine Ct.ofI (cc := cX9_funniest) (maxL := 11) (by decide) rfl (Nat.le_of_ble_eq_true rfl) ?_
  intro pG eG sG mG aG bG tG cG AG QG ls xh bh hml hown hts hK hP hD hS hA hend hl
  have hl : lv_has ls 11 [(0, .ref (a 0)), (1, .int m), (2, .int i)] := hl
  refine lv_iload_n xh bh dX9_funniest_0 rfl (lv_at hl 1 rfl) ?_
  refine lv_i2l xh bh dX9_funniest_1 rfl ?_
  refine lv_lconst (v := lN 0) xh bh dX9_funniest_2 (by decide) ?_
  refine lv_ldc2 (v := (lN 4)) xh bh hown (hts _ (List.mem_of_getElem? (i := 1) rfl)) dX9_funniest_3 ?_
  refine Ct.callS0 (rest := []) xh bh hml hown hts hK hP hS hA (ct_X9_in l D cI cJ cB cZ cA m.toInt64 (lN 0) (lN 4) ) (va_cwS 3 hts gX9_funniest_X9_in rfl rfl rfl (by decide +kernel) ⟨Nat.le_of_ble_eq_true rfl, Nat.le_of_ble_eq_true rfl⟩) rfl rfl hl.1 (Nat.le_of_ble_eq_true rfl) dX9_funniest_6 ⟨Nat.le_refl _, Nat.le_refl _⟩ (fun _ H locs _ hP hS => ?_)
  refine W.eq (g2 := F0 mG 9 ls [.int (ib (decide (¬ m.toInt64 < (lN 0) ∧ ¬ (lN 4) < m.toInt64)))]) rfl ?_
  refine xw_topi (x := (ib (decide (¬ m.toInt64 < (lN 0) ∧ ¬ (lN 4) < m.toInt64)))) (y := (ib (upB m 4))) (by rw [upB_long (by decide)]) ?_
  refine xb_if_eq (tgt := 17) xh bh dX9_funniest_9 (by decide) (fun c_9 => ?_) (fun c_9 => ?_)
  · have hk : kFn m i = 0 := if_neg (fun q => by rw [c_9] at q; exact absurd q.1 (by decide))
    refine lv_aload_n xh bh dX9_funniest_17 rfl (lv_at hl 0 rfl) ?_
    refine lv_sipush (v := (-1000)) xh bh dX9_funniest_18 (by decide) ?_
    refine Ct.callV (As := [.int (-1000)]) (rest := []) (wr := []) xh bh hml hown hts hK hP hD hS hA (ct_X9_bad l D cI cJ cB cZ cA a rf hm un fa fb lx bl ta tl tk va (-1000) ) (cwV 1 hts gX9_funniest_X9_bad rfl rfl rfl (by decide +kernel) ⟨Nat.le_of_ble_eq_true rfl, Nat.le_of_ble_eq_true rfl⟩) rfl rfl hl.1 (Nat.le_of_ble_eq_true rfl) dX9_funniest_21 ⟨Nat.le_refl _, Nat.le_refl _⟩ 0 6 rfl rfl rfl [0, 1] [] rfl (by decide) rfl rfl (by decide) (by decide) (fun _ H locs _ hP hD hS => ?_)
    have hP : va_P D vwCl [(a 0, .inr (6, [.ref (a 1), .ref (a 2), .int (nI hm), .int (nI un), .ref (a 3), .ref (a 4), .ref (a 5), .ref (a 6), .ref (a 7), .ref (a 8), .ref (a 9), .ref (a 10), .ref (a 11), .ref (a 12), .long fa, .long fb, .ref (a 13), .long (lN lx), .ref (a 14), .int (nI bl), .int (nI ta), .int (nI tl), .int (nI tk), .int (nI va), .ref (a 15), .ref (a 16), .ref (a 17)])), (a 12, .inl (cI, 3, .inl (upd rf 0 ((rf 0) + nI 1))))] H := hP
    have hD : va_D AG [(a 0, .inr (6, [.ref (a 1), .ref (a 2), .int (nI hm), .int (nI un), .ref (a 3), .ref (a 4), .ref (a 5), .ref (a 6), .ref (a 7), .ref (a 8), .ref (a 9), .ref (a 10), .ref (a 11), .ref (a 12), .long fa, .long fb, .ref (a 13), .long (lN lx), .ref (a 14), .int (nI bl), .int (nI ta), .int (nI tl), .int (nI tk), .int (nI va), .ref (a 15), .ref (a 16), .ref (a 17)])), (a 12, .inl (cI, 3, .inl (upd rf 0 ((rf 0) + nI 1))))] := hD
    refine W.eq (g2 := F0 mG 24 ls [.int (-1000)]) rfl ?_
    exact hend (-1000) () _ _ _ _ (congrArg (fun z => some (Value.int z)) (by rw [hk]; rfl)) trivial rfl dX9_funniest_24 (by rw [hk]; exact hP) (by rw [hk]; exact hD) hS
  · refine lv_iload_n xh bh dX9_funniest_12 rfl (lv_at hl 2 rfl) ?_
    refine lv_iconst (v := (-1)) xh bh dX9_funniest_13 (by decide) ?_
    refine lv_icmp_ge (tgt := 25) xh bh dX9_funniest_14 (by decide) (fun c_14 => ?_) (fun c_14 => ?_)
    · have hk : kFn m i = 3 := if_pos (And.intro c_9 c_14)
      obtain ⟨m2, hm9, rfl⟩ := upB_of (by decide) c_9
      refine lv_iconst (v := (nI 1)) xh bh dX9_funniest_25 (by decide) ?_
      refine lv_istore_n (lv' := [(3, .int (nI 1)), (0, .ref (a 0)), (1, .int (nI m2)), (2, .int i)]) xh bh dX9_funniest_26 rfl hl (by decide) rfl (fun ls hl => ?_)
      refine lv_ldc (v := (-1000000)) xh bh hown (hts _ (List.mem_of_getElem? (i := 2) rfl)) dX9_funniest_27 ?_
      refine lv_istore (lv' := [(4, .int (-1000000)), (3, .int (nI 1)), (0, .ref (a 0)), (1, .int (nI m2)), (2, .int i)]) xh bh dX9_funniest_29 hl (by decide) rfl (fun ls hl => ?_)
      refine lv_lconst (v := lN 0) xh bh dX9_funniest_31 (by decide) ?_
      refine lv_lstore (lv' := [(5, .long (lN 0)), (4, .int (-1000000)), (3, .int (nI 1)), (0, .ref (a 0)), (1, .int (nI m2)), (2, .int i)]) xh bh dX9_funniest_32 hl (by decide) rfl (fun ls hl => ?_)
      refine lv_iconst (v := (nI 0)) xh bh dX9_funniest_34 (by decide) ?_
      refine lv_istore (lv' := [(7, .int (nI 0)), (5, .long (lN 0)), (4, .int (-1000000)), (3, .int (nI 1)), (0, .ref (a 0)), (1, .int (nI m2)), (2, .int i)]) xh bh dX9_funniest_35 hl (by decide) rfl (fun ls hl => ?_)
      have cut_37 : ∀ (n_37 : Nat), ∀ (k : Nat), ∀ (R : Nat), (k ≤ m2) → (R = 10 ^ k) → (m2 - k) < n_37 → ∀ (H : Heap) (locs : List Loc) (ls : Array Slot), va_P D vwCl [(a 0, .inr (6, [.ref (a 1), .ref (a 2), .int (nI hm), .int (nI un), .ref (a 3), .ref (a 4), .ref (a 5), .ref (a 6), .ref (a 7), .ref (a 8), .ref (a 9), .ref (a 10), .ref (a 11), .ref (a 12), .long fa, .long fb, .ref (a 13), .long (lN lx), .ref (a 14), .int (nI bl), .int (nI ta), .int (nI tl), .int (nI tk), .int (nI va), .ref (a 15), .ref (a 16), .ref (a 17)])), (a 12, .inl (cI, 3, .inl rf))] H → va_D AG [(a 0, .inr (6, [.ref (a 1), .ref (a 2), .int (nI hm), .int (nI un), .ref (a 3), .ref (a 4), .ref (a 5), .ref (a 6), .ref (a 7), .ref (a 8), .ref (a 9), .ref (a 10), .ref (a 11), .ref (a 12), .long fa, .long fb, .ref (a 13), .long (lN lx), .ref (a 14), .int (nI bl), .int (nI ta), .int (nI tl), .int (nI tk), .int (nI va), .ref (a 15), .ref (a 16), .ref (a 17)])), (a 12, .inl (cI, 3, .inl rf))] → va_S AG sG.heap H locs → lv_has ls 11 [(0, .ref (a 0)), (1, .int (nI m2)), (2, .int i), (3, .int (nI R)), (4, .int (-1000000)), (5, .long (eR ([]))), (7, .int (nI k))] → W pG l eG ({ frames := 2, cells := 0, slots := 0, locals := 49 }) sG mG aG bG tG cG H locs 0 0 QG (F0 mG 37 ls []) := by
        intro n_37
        induction n_37 with
        | zero =>
          intro k R hk1 hR hmu
          exact absurd hmu (Nat.not_lt_zero _)
        | succ n_37 ih_37 =>
          intro k R hk1 hR hmu H locs ls hP hD hS hl
          refine lv_iload xh bh dX9_funniest_37 (lv_at hl 6 rfl) ?_
          refine lv_iload_n xh bh dX9_funniest_39 rfl (lv_at hl 1 rfl) ?_
          refine xn_icmp_ge (tgt := 54) xh bh dX9_funniest_40 (by decide) (by omega) (by omega) (fun c_40 => ?_) (fun c_40 => ?_)
          · have hR2 : R = 10 ^ m2 := by rw [hR, show k = m2 by omega]
            have hRl := pw10le m2 (by omega)
            rw [← hR2] at hRl
            refine lv_iconst (v := (nI 0)) xh bh dX9_funniest_54 (by decide) ?_
            refine lv_istore (lv' := [(7, .int (nI 0)), (0, .ref (a 0)), (1, .int (nI m2)), (2, .int i), (3, .int (nI R)), (4, .int (-1000000)), (5, .long (eR ([])))]) xh bh dX9_funniest_55 hl (by decide) rfl (fun ls hl => ?_)
            have cut_57 : ∀ (n_57 : Nat), ∀ (r : Nat), ∀ (f : Int32), ∀ (b : List Nat), (r ≤ R) → (f = (fmP R m2 r).1) → (b = (fmP R m2 r).2) → (R - r) < n_57 → ∀ (H : Heap) (locs : List Loc) (ls : Array Slot), va_P D vwCl [(a 0, .inr (6, [.ref (a 1), .ref (a 2), .int (nI hm), .int (nI un), .ref (a 3), .ref (a 4), .ref (a 5), .ref (a 6), .ref (a 7), .ref (a 8), .ref (a 9), .ref (a 10), .ref (a 11), .ref (a 12), .long fa, .long fb, .ref (a 13), .long (lN lx), .ref (a 14), .int (nI bl), .int (nI ta), .int (nI tl), .int (nI tk), .int (nI va), .ref (a 15), .ref (a 16), .ref (a 17)])), (a 12, .inl (cI, 3, .inl rf))] H → va_D AG [(a 0, .inr (6, [.ref (a 1), .ref (a 2), .int (nI hm), .int (nI un), .ref (a 3), .ref (a 4), .ref (a 5), .ref (a 6), .ref (a 7), .ref (a 8), .ref (a 9), .ref (a 10), .ref (a 11), .ref (a 12), .long fa, .long fb, .ref (a 13), .long (lN lx), .ref (a 14), .int (nI bl), .int (nI ta), .int (nI tl), .int (nI tk), .int (nI va), .ref (a 15), .ref (a 16), .ref (a 17)])), (a 12, .inl (cI, 3, .inl rf))] → va_S AG sG.heap H locs → lv_has ls 11 [(0, .ref (a 0)), (1, .int (nI m2)), (2, .int i), (3, .int (nI R)), (4, .int f), (5, .long (eR b)), (7, .int (nI r))] → W pG l eG ({ frames := 2, cells := 0, slots := 0, locals := 49 }) sG mG aG bG tG cG H locs 0 0 QG (F0 mG 57 ls []) := by
              intro n_57
              induction n_57 with
              | zero =>
                intro r f b hr hf hb hmu
                exact absurd hmu (Nat.not_lt_zero _)
              | succ n_57 ih_57 =>
                intro r f b hr hf hb hmu H locs ls hP hD hS hl
                refine lv_iload xh bh dX9_funniest_57 (lv_at hl 6 rfl) ?_
                refine lv_iload_n xh bh dX9_funniest_59 rfl (lv_at hl 3 rfl) ?_
                refine xn_icmp_ge (tgt := 147) xh bh dX9_funniest_60 (by decide) (by omega) (by omega) (fun c_60 => ?_) (fun c_60 => ?_)
                · refine lv_iload_n xh bh dX9_funniest_147 rfl (lv_at hl 2 rfl) ?_
                  refine lv_iconst (v := (-1)) xh bh dX9_funniest_148 (by decide) ?_
                  refine lv_icmp_ne (tgt := 157) xh bh dX9_funniest_149 (by decide) (fun c_149 => ?_) (fun c_149 => ?_)
                  · obtain ⟨i2, hi9, rfl⟩ := nn_of c_14 c_149
                    refine lv_iload_n xh bh dX9_funniest_157 rfl (lv_at hl 2 rfl) ?_
                    refine lv_iload_n xh bh dX9_funniest_158 rfl (lv_at hl 1 rfl) ?_
                    refine xn_icmp_ge (tgt := 171) xh bh dX9_funniest_159 (by decide) (by omega) (by omega) (fun c_159 => ?_) (fun c_159 => ?_)
                    · refine lv_bipush (v := (-5)) xh bh dX9_funniest_171 (by decide) ?_
                      exact hend (-5) () _ _ _ _ (congrArg (fun z => some (Value.int z)) (by rw [hk, xN_nI (show m2 < 2147483648 by omega), ← hR2, show fmP R m2 R = (f, b) by rw [hf, hb, show r = R by omega]]; first | exact (if_pos c_149) | exact (if_neg c_149).trans ((if_pos ((nI_ltI (by omega) (by omega)).mpr c_159)).trans (by rw [xN_nI (by omega)])) | exact (if_neg c_149).trans (if_neg (fun q => absurd ((nI_ltI (by omega) (by omega)).mp q) (by omega))))) trivial rfl dX9_funniest_173 (by rw [hk]; exact hP) (by rw [hk]; exact hD) hS
                    · refine lv_lload xh bh dX9_funniest_162 (lv_at hl 5 rfl) ?_
                      refine lv_iload_n xh bh dX9_funniest_164 rfl (lv_at hl 2 rfl) ?_
                      refine Ct.callS0 (rest := []) xh bh hml hown hts hK hP hS hA (ct_X9_partOf l D cI cJ cB cZ cA b i2 (by rw [hb]; exact fmP_ok (by omega) _) (by omega)) (va_cwS 2 hts gX9_funniest_X9_partOf rfl rfl rfl (by decide +kernel) ⟨Nat.le_of_ble_eq_true rfl, Nat.le_of_ble_eq_true rfl⟩) rfl rfl hl.1 (Nat.le_of_ble_eq_true rfl) dX9_funniest_165 ⟨Nat.le_refl _, Nat.le_refl _⟩ (fun _ H locs _ hP hS => ?_)
                      refine W.eq (g2 := F0 mG 168 ls [.int (nI (b.getD i2 0))]) rfl ?_
                      refine lv_goto (tgt := 173) xh bh dX9_funniest_168 (by decide) ?_
                      exact hend (nI (b.getD i2 0)) () _ _ _ _ (congrArg (fun z => some (Value.int z)) (by rw [hk, xN_nI (show m2 < 2147483648 by omega), ← hR2, show fmP R m2 R = (f, b) by rw [hf, hb, show r = R by omega]]; first | exact (if_pos c_149) | exact (if_neg c_149).trans ((if_pos ((nI_ltI (by omega) (by omega)).mpr c_159)).trans (by rw [xN_nI (by omega)])) | exact (if_neg c_149).trans (if_neg (fun q => absurd ((nI_ltI (by omega) (by omega)).mp q) (by omega))))) trivial rfl dX9_funniest_173 (by rw [hk]; exact hP) (by rw [hk]; exact hD) hS
                  · refine lv_iload xh bh dX9_funniest_152 (lv_at hl 4 rfl) ?_
                    refine lv_goto (tgt := 173) xh bh dX9_funniest_154 (by decide) ?_
                    exact hend f () _ _ _ _ (congrArg (fun z => some (Value.int z)) (by rw [hk, xN_nI (show m2 < 2147483648 by omega), ← hR2, show fmP R m2 R = (f, b) by rw [hf, hb, show r = R by omega]]; first | exact (if_pos c_149) | exact (if_neg c_149).trans ((if_pos ((nI_ltI (by omega) (by omega)).mpr c_159)).trans (by rw [xN_nI (by omega)])) | exact (if_neg c_149).trans (if_neg (fun q => absurd ((nI_ltI (by omega) (by omega)).mp q) (by omega))))) trivial rfl dX9_funniest_173 (by rw [hk]; exact hP) (by rw [hk]; exact hD) hS
                · refine lv_lconst (v := lN 0) xh bh dX9_funniest_63 (by decide) ?_
                  refine lv_lstore (lv' := [(8, .long (lN 0)), (0, .ref (a 0)), (1, .int (nI m2)), (2, .int i), (3, .int (nI R)), (4, .int f), (5, .long (eR b)), (7, .int (nI r))]) xh bh dX9_funniest_64 hl (by decide) rfl (fun ls hl => ?_)
                  refine lv_iload_n xh bh dX9_funniest_66 rfl (lv_at hl 4 rfl) ?_
                  refine lv_bipush (v := (nI 10)) xh bh dX9_funniest_67 (by decide) ?_
                  refine xn_idiv xh bh dX9_funniest_69 (by omega) (by omega) (by omega) ?_
                  refine lv_istore (lv' := [(10, .int (nI (R / 10))), (8, .long (lN 0)), (0, .ref (a 0)), (1, .int (nI m2)), (2, .int i), (3, .int (nI R)), (4, .int f), (5, .long (eR b)), (7, .int (nI r))]) xh bh dX9_funniest_70 hl (by decide) rfl (fun ls hl => ?_)
                  have cut_72 : ∀ (n_72 : Nat), ∀ (j : Nat), ∀ (y : Nat), ∀ (t : List Nat), (j ≤ m2) → (y = R / 10 ^ (j + 1)) → (t = dgL R r j) → (m2 - j) < n_72 → ∀ (H : Heap) (locs : List Loc) (ls : Array Slot), va_P D vwCl [(a 0, .inr (6, [.ref (a 1), .ref (a 2), .int (nI hm), .int (nI un), .ref (a 3), .ref (a 4), .ref (a 5), .ref (a 6), .ref (a 7), .ref (a 8), .ref (a 9), .ref (a 10), .ref (a 11), .ref (a 12), .long fa, .long fb, .ref (a 13), .long (lN lx), .ref (a 14), .int (nI bl), .int (nI ta), .int (nI tl), .int (nI tk), .int (nI va), .ref (a 15), .ref (a 16), .ref (a 17)])), (a 12, .inl (cI, 3, .inl rf))] H → va_D AG [(a 0, .inr (6, [.ref (a 1), .ref (a 2), .int (nI hm), .int (nI un), .ref (a 3), .ref (a 4), .ref (a 5), .ref (a 6), .ref (a 7), .ref (a 8), .ref (a 9), .ref (a 10), .ref (a 11), .ref (a 12), .long fa, .long fb, .ref (a 13), .long (lN lx), .ref (a 14), .int (nI bl), .int (nI ta), .int (nI tl), .int (nI tk), .int (nI va), .ref (a 15), .ref (a 16), .ref (a 17)])), (a 12, .inl (cI, 3, .inl rf))] → va_S AG sG.heap H locs → lv_has ls 11 [(0, .ref (a 0)), (1, .int (nI m2)), (2, .int i), (3, .int (nI R)), (4, .int f), (5, .long (eR b)), (7, .int (nI r)), (8, .long (eR t)), (10, .int (nI y))] → W pG l eG ({ frames := 2, cells := 0, slots := 0, locals := 49 }) sG mG aG bG tG cG H locs 0 0 QG (F0 mG 72 ls []) := by
                    intro n_72
                    induction n_72 with
                    | zero =>
                      intro j y t hj hy ht hmu
                      exact absurd hmu (Nat.not_lt_zero _)
                    | succ n_72 ih_72 =>
                      intro j y t hj hy ht hmu H locs ls hP hD hS hl
                      refine lv_iload xh bh dX9_funniest_72 (lv_at hl 8 rfl) ?_
                      refine xn_if_le (tgt := 102) xh bh dX9_funniest_74 (by decide) (by have hyl : y ≤ R := (by rw [hy]; exact Nat.div_le_self _ _); omega) (fun c_74 => ?_) (fun c_74 => ?_)
                      · have ht2 : t = dgL R r m2 := by
                          rw [ht, show j = m2 from Nat.le_antisymm hj (Nat.le_of_not_lt (fun q => by have := (pw10 m2 (by omega) j (by omega)).mpr q; rw [← hR2, ← hy] at this; omega))]
                        refine lv_lload xh bh dX9_funniest_102 (lv_at hl 7 rfl) ?_
                        refine Ct.callS0 (rest := []) xh bh hml hown hts hK hP hS hA (ct_X9_funOf l D cI cJ cB cZ cA t (by rw [ht]; exact dgL_ok _ _ _ (by omega))) (va_cwS 1 hts gX9_funniest_X9_funOf rfl rfl rfl (by decide +kernel) ⟨Nat.le_of_ble_eq_true rfl, Nat.le_of_ble_eq_true rfl⟩) rfl rfl hl.1 (Nat.le_of_ble_eq_true rfl) dX9_funniest_104 ⟨Nat.le_refl _, Nat.le_refl _⟩ (fun _ H locs _ hP hS => ?_)
                        refine W.eq (g2 := F0 mG 107 ls [.int (funT t)]) rfl ?_
                        refine lv_istore (lv' := [(10, .int (funT t)), (0, .ref (a 0)), (1, .int (nI m2)), (2, .int i), (3, .int (nI R)), (4, .int f), (5, .long (eR b)), (7, .int (nI r)), (8, .long (eR t))]) xh bh dX9_funniest_107 hl (by decide) rfl (fun ls hl => ?_)
                        refine lv_iload xh bh dX9_funniest_109 (lv_at hl 0 rfl) ?_
                        refine lv_iload xh bh dX9_funniest_111 (lv_at hl 5 rfl) ?_
                        refine lv_icmp_le (tgt := 121) xh bh dX9_funniest_113 (by decide) (fun c_113 => ?_) (fun c_113 => ?_)
                        · refine lv_lload xh bh dX9_funniest_121 (lv_at hl 6 rfl) ?_
                          refine lv_lstore (lv' := [(5, .long (eR b)), (10, .int (funT t)), (0, .ref (a 0)), (1, .int (nI m2)), (2, .int i), (3, .int (nI R)), (4, .int f), (7, .int (nI r)), (8, .long (eR t))]) xh bh dX9_funniest_123 hl (by decide) rfl (fun ls hl => ?_)
                          refine lv_iload xh bh dX9_funniest_125 (lv_at hl 1 rfl) ?_
                          refine lv_iload xh bh dX9_funniest_127 (lv_at hl 6 rfl) ?_
                          refine lv_icmp_le (tgt := 137) xh bh dX9_funniest_129 (by decide) (fun c_129 => ?_) (fun c_129 => ?_)
                          · refine lv_iload xh bh dX9_funniest_137 (lv_at hl 6 rfl) ?_
                            refine lv_istore (lv' := [(4, .int f), (5, .long (eR b)), (10, .int (funT t)), (0, .ref (a 0)), (1, .int (nI m2)), (2, .int i), (3, .int (nI R)), (7, .int (nI r)), (8, .long (eR t))]) xh bh dX9_funniest_139 hl (by decide) rfl (fun ls hl => ?_)
                            refine lv_iinc (v := (nI (r + 1))) (lv' := [(7, .int (nI (r + 1))), (4, .int f), (5, .long (eR b)), (10, .int (funT t)), (0, .ref (a 0)), (1, .int (nI m2)), (2, .int i), (3, .int (nI R)), (8, .long (eR t))]) xh bh dX9_funniest_141 hl (k := 7) rfl (by exact xn_inc _ _) (by decide) rfl (fun ls hl => ?_)
                            refine lv_goto (tgt := 57) xh bh dX9_funniest_144 (by decide) ?_
                            exact ih_57 (r + 1) f b (by omega) (by first | exact absurd c_113 c_129 | exact absurd c_129 c_113 | exact (fm_n hf hb ht2 c_113).1 | exact (fm_y hf ht2 c_113).1) (by first | exact (fm_n hf hb ht2 c_113).2 | exact (fm_y hf ht2 c_113).2) (by omega) _ _ ls hP hD hS (lv_sub hl [4, 5, 6, 7, 1, 2, 0] rfl)
                          · refine lv_iload xh bh dX9_funniest_132 (lv_at hl 1 rfl) ?_
                            refine lv_goto (tgt := 139) xh bh dX9_funniest_134 (by decide) ?_
                            refine lv_istore (lv' := [(4, .int (funT t)), (5, .long (eR b)), (10, .int (funT t)), (0, .ref (a 0)), (1, .int (nI m2)), (2, .int i), (3, .int (nI R)), (7, .int (nI r)), (8, .long (eR t))]) xh bh dX9_funniest_139 hl (by decide) rfl (fun ls hl => ?_)
                            refine lv_iinc (v := (nI (r + 1))) (lv' := [(7, .int (nI (r + 1))), (4, .int (funT t)), (5, .long (eR b)), (10, .int (funT t)), (0, .ref (a 0)), (1, .int (nI m2)), (2, .int i), (3, .int (nI R)), (8, .long (eR t))]) xh bh dX9_funniest_141 hl (k := 7) rfl (by exact xn_inc _ _) (by decide) rfl (fun ls hl => ?_)
                            refine lv_goto (tgt := 57) xh bh dX9_funniest_144 (by decide) ?_
                            exact ih_57 (r + 1) (funT t) b (by omega) (by first | exact absurd c_113 c_129 | exact absurd c_129 c_113 | exact (fm_n hf hb ht2 c_113).1 | exact (fm_y hf ht2 c_113).1) (by first | exact (fm_n hf hb ht2 c_113).2 | exact (fm_y hf ht2 c_113).2) (by omega) _ _ ls hP hD hS (lv_sub hl [4, 5, 6, 7, 1, 2, 0] rfl)
                        · refine lv_lload xh bh dX9_funniest_116 (lv_at hl 8 rfl) ?_
                          refine lv_goto (tgt := 123) xh bh dX9_funniest_118 (by decide) ?_
                          refine lv_lstore (lv' := [(5, .long (eR t)), (10, .int (funT t)), (0, .ref (a 0)), (1, .int (nI m2)), (2, .int i), (3, .int (nI R)), (4, .int f), (7, .int (nI r)), (8, .long (eR t))]) xh bh dX9_funniest_123 hl (by decide) rfl (fun ls hl => ?_)
                          refine lv_iload xh bh dX9_funniest_125 (lv_at hl 1 rfl) ?_
                          refine lv_iload xh bh dX9_funniest_127 (lv_at hl 6 rfl) ?_
                          refine lv_icmp_le (tgt := 137) xh bh dX9_funniest_129 (by decide) (fun c_129 => ?_) (fun c_129 => ?_)
                          · refine lv_iload xh bh dX9_funniest_137 (lv_at hl 6 rfl) ?_
                            refine lv_istore (lv' := [(4, .int f), (5, .long (eR t)), (10, .int (funT t)), (0, .ref (a 0)), (1, .int (nI m2)), (2, .int i), (3, .int (nI R)), (7, .int (nI r)), (8, .long (eR t))]) xh bh dX9_funniest_139 hl (by decide) rfl (fun ls hl => ?_)
                            refine lv_iinc (v := (nI (r + 1))) (lv' := [(7, .int (nI (r + 1))), (4, .int f), (5, .long (eR t)), (10, .int (funT t)), (0, .ref (a 0)), (1, .int (nI m2)), (2, .int i), (3, .int (nI R)), (8, .long (eR t))]) xh bh dX9_funniest_141 hl (k := 7) rfl (by exact xn_inc _ _) (by decide) rfl (fun ls hl => ?_)
                            refine lv_goto (tgt := 57) xh bh dX9_funniest_144 (by decide) ?_
                            exact ih_57 (r + 1) f t (by omega) (by first | exact absurd c_113 c_129 | exact absurd c_129 c_113 | exact (fm_n hf hb ht2 c_113).1 | exact (fm_y hf ht2 c_113).1) (by first | exact (fm_n hf hb ht2 c_113).2 | exact (fm_y hf ht2 c_113).2) (by omega) _ _ ls hP hD hS (lv_sub hl [4, 5, 6, 7, 1, 2, 0] rfl)
                          · refine lv_iload xh bh dX9_funniest_132 (lv_at hl 1 rfl) ?_
                            refine lv_goto (tgt := 139) xh bh dX9_funniest_134 (by decide) ?_
                            refine lv_istore (lv' := [(4, .int (funT t)), (5, .long (eR t)), (10, .int (funT t)), (0, .ref (a 0)), (1, .int (nI m2)), (2, .int i), (3, .int (nI R)), (7, .int (nI r)), (8, .long (eR t))]) xh bh dX9_funniest_139 hl (by decide) rfl (fun ls hl => ?_)
                            refine lv_iinc (v := (nI (r + 1))) (lv' := [(7, .int (nI (r + 1))), (4, .int (funT t)), (5, .long (eR t)), (10, .int (funT t)), (0, .ref (a 0)), (1, .int (nI m2)), (2, .int i), (3, .int (nI R)), (8, .long (eR t))]) xh bh dX9_funniest_141 hl (k := 7) rfl (by exact xn_inc _ _) (by decide) rfl (fun ls hl => ?_)
                            refine lv_goto (tgt := 57) xh bh dX9_funniest_144 (by decide) ?_
                            exact ih_57 (r + 1) (funT t) t (by omega) (by first | exact absurd c_113 c_129 | exact absurd c_129 c_113 | exact (fm_n hf hb ht2 c_113).1 | exact (fm_y hf ht2 c_113).1) (by first | exact (fm_n hf hb ht2 c_113).2 | exact (fm_y hf ht2 c_113).2) (by omega) _ _ ls hP hD hS (lv_sub hl [4, 5, 6, 7, 1, 2, 0] rfl)
                      · have hyl : y ≤ R := by rw [hy]; exact Nat.div_le_self _ _
                        have hj2 := (pw10 m2 (by omega) j (by omega)).mp (by rw [← hR2, ← hy]; exact c_74)
                        refine lv_lload xh bh dX9_funniest_77 (lv_at hl 7 rfl) ?_
                        refine lv_iload xh bh dX9_funniest_79 (lv_at hl 6 rfl) ?_
                        refine lv_iload xh bh dX9_funniest_81 (lv_at hl 8 rfl) ?_
                        refine xn_idiv xh bh dX9_funniest_83 (by omega) (by omega) (by omega) ?_
                        refine lv_bipush (v := (nI 10)) xh bh dX9_funniest_84 (by decide) ?_
                        refine xn_irem xh bh dX9_funniest_86 (by have : r / y ≤ r := Nat.div_le_self _ _; omega) (by omega) (by omega) ?_
                        refine Ct.callS0 (rest := []) xh bh hml hown hts hK hP hS hA (ct_X9_behind l D cI cJ cB cZ cA t ((r / y) % 10) (by rw [ht]; exact dgL_ok _ _ _ (by omega)) (by exact Nat.mod_lt _ (by decide))) (va_cwS 2 hts gX9_funniest_X9_behind rfl rfl rfl (by decide +kernel) ⟨Nat.le_of_ble_eq_true rfl, Nat.le_of_ble_eq_true rfl⟩) rfl rfl hl.1 (Nat.le_of_ble_eq_true rfl) dX9_funniest_87 ⟨Nat.le_refl _, Nat.le_refl _⟩ (fun _ H locs _ hP hS => ?_)
                        refine W.eq (g2 := F0 mG 90 ls [.long (eR (t ++ [((r / y) % 10)]))]) rfl ?_
                        refine lv_lstore (lv' := [(8, .long (eR (t ++ [((r / y) % 10)]))), (0, .ref (a 0)), (1, .int (nI m2)), (2, .int i), (3, .int (nI R)), (4, .int f), (5, .long (eR b)), (7, .int (nI r)), (10, .int (nI y))]) xh bh dX9_funniest_90 hl (by decide) rfl (fun ls hl => ?_)
                        refine lv_iload xh bh dX9_funniest_92 (lv_at hl 8 rfl) ?_
                        refine lv_bipush (v := (nI 10)) xh bh dX9_funniest_94 (by decide) ?_
                        refine xn_idiv xh bh dX9_funniest_96 (by omega) (by omega) (by omega) ?_
                        refine lv_istore (lv' := [(10, .int (nI (y / 10))), (8, .long (eR (t ++ [((r / y) % 10)]))), (0, .ref (a 0)), (1, .int (nI m2)), (2, .int i), (3, .int (nI R)), (4, .int f), (5, .long (eR b)), (7, .int (nI r))]) xh bh dX9_funniest_97 hl (by decide) rfl (fun ls hl => ?_)
                        refine lv_goto (tgt := 72) xh bh dX9_funniest_99 (by decide) ?_
                        exact ih_72 (j + 1) (y / 10) (t ++ [((r / y) % 10)]) (by have := (pw10 m2 (by omega) j (by omega)).mp (by rw [← hR2, ← hy]; exact c_74); omega) (by rw [hy, Nat.pow_succ 10 (j + 1), Nat.div_div_eq_div_mul]) (by rw [ht, hy]; rfl) (by have := (pw10 m2 (by omega) j (by omega)).mp (by rw [← hR2, ← hy]; exact c_74); omega) _ _ ls hP hD hS (lv_sub hl [2, 3, 4, 5, 6, 7, 8, 1, 0] rfl)
                  exact cut_72 (m2 - 0 + 1) 0 (R / 10) ([]) (by exact Nat.zero_le _) (by rfl) (by rfl) (Nat.lt_succ_self _) _ _ ls hP hD hS (lv_sub hl [2, 3, 4, 5, 6, 7, 8, 1, 0] rfl)
            exact cut_57 (R - 0 + 1) 0 (-1000000) ([]) (by exact Nat.zero_le _) (by rfl) (by rfl) (Nat.lt_succ_self _) _ _ ls hP hD hS (lv_sub hl [1, 2, 3, 4, 5, 6, 0] rfl)
          · refine lv_iload_n xh bh dX9_funniest_43 rfl (lv_at hl 3 rfl) ?_
            refine lv_bipush (v := (nI 10)) xh bh dX9_funniest_44 (by decide) ?_
            refine xn_imul xh bh dX9_funniest_46 ?_
            refine lv_istore_n (lv' := [(3, .int (nI (R * 10))), (0, .ref (a 0)), (1, .int (nI m2)), (2, .int i), (4, .int (-1000000)), (5, .long (eR ([]))), (7, .int (nI k))]) xh bh dX9_funniest_47 rfl hl (by decide) rfl (fun ls hl => ?_)
            refine lv_iinc (v := (nI (k + 1))) (lv' := [(7, .int (nI (k + 1))), (3, .int (nI (R * 10))), (0, .ref (a 0)), (1, .int (nI m2)), (2, .int i), (4, .int (-1000000)), (5, .long (eR ([])))]) xh bh dX9_funniest_48 hl (k := 6) rfl (by exact xn_inc _ _) (by decide) rfl (fun ls hl => ?_)
            refine lv_goto (tgt := 37) xh bh dX9_funniest_51 (by decide) ?_
            exact ih_37 (k + 1) (R * 10) (by omega) (by rw [hR, Nat.pow_succ]) (by omega) _ _ ls hP hD hS (lv_sub hl [2, 3, 4, 1, 5, 6, 0] rfl)
      exact cut_37 (m2 - 0 + 1) 0 1 (by exact Nat.zero_le _) (by rfl) (Nat.lt_succ_self _) _ _ ls hP hD hS (lv_sub hl [4, 5, 6, 3, 2, 1, 0] rfl)
    · have hk : kFn m i = 0 := if_neg (fun q => c_14 q.2)
      refine lv_aload_n xh bh dX9_funniest_17 rfl (lv_at hl 0 rfl) ?_
      refine lv_sipush (v := (-1000)) xh bh dX9_funniest_18 (by decide) ?_
      refine Ct.callV (As := [.int (-1000)]) (rest := []) (wr := []) xh bh hml hown hts hK hP hD hS hA (ct_X9_bad l D cI cJ cB cZ cA a rf hm un fa fb lx bl ta tl tk va (-1000) ) (cwV 1 hts gX9_funniest_X9_bad rfl rfl rfl (by decide +kernel) ⟨Nat.le_of_ble_eq_true rfl, Nat.le_of_ble_eq_true rfl⟩) rfl rfl hl.1 (Nat.le_of_ble_eq_true rfl) dX9_funniest_21 ⟨Nat.le_refl _, Nat.le_refl _⟩ 0 6 rfl rfl rfl [0, 1] [] rfl (by decide) rfl rfl (by decide) (by decide) (fun _ H locs _ hP hD hS => ?_)
      have hP : va_P D vwCl [(a 0, .inr (6, [.ref (a 1), .ref (a 2), .int (nI hm), .int (nI un), .ref (a 3), .ref (a 4), .ref (a 5), .ref (a 6), .ref (a 7), .ref (a 8), .ref (a 9), .ref (a 10), .ref (a 11), .ref (a 12), .long fa, .long fb, .ref (a 13), .long (lN lx), .ref (a 14), .int (nI bl), .int (nI ta), .int (nI tl), .int (nI tk), .int (nI va), .ref (a 15), .ref (a 16), .ref (a 17)])), (a 12, .inl (cI, 3, .inl (upd rf 0 ((rf 0) + nI 1))))] H := hP
      have hD : va_D AG [(a 0, .inr (6, [.ref (a 1), .ref (a 2), .int (nI hm), .int (nI un), .ref (a 3), .ref (a 4), .ref (a 5), .ref (a 6), .ref (a 7), .ref (a 8), .ref (a 9), .ref (a 10), .ref (a 11), .ref (a 12), .long fa, .long fb, .ref (a 13), .long (lN lx), .ref (a 14), .int (nI bl), .int (nI ta), .int (nI tl), .int (nI tk), .int (nI va), .ref (a 15), .ref (a 16), .ref (a 17)])), (a 12, .inl (cI, 3, .inl (upd rf 0 ((rf 0) + nI 1))))] := hD
      refine W.eq (g2 := F0 mG 24 ls [.int (-1000)]) rfl ?_
      exact hend (-1000) () _ _ _ _ (congrArg (fun z => some (Value.int z)) (by rw [hk]; rfl)) trivial rfl dX9_funniest_24 (by rw [hk]; exact hP) (by rw [hk]; exact hD) hS

set_option maxHeartbeats 1000000 in
set_option maxRecDepth 100000 in
theorem ct_X9_together (l : Launch) (D : va_G) (cI cJ cB cZ cA : ClassId) (a : Nat → Nat) (T : Nat → List Nat) (hm : Nat) (un : Nat) (fa : Int64) (fb : Int64) (lx : Nat) (bl : Nat) (ta : Nat) (tl : Nat) (tk : Nat) (va : Nat) (z : Nat) (hT : ∀ k, okT (T k)) (hz : z < 1024) : Ct l yX9_together wsX9_together ({ frames := 2, cells := 0, slots := 0, locals := 45 }) D (tysG cI cJ cB cZ cA) [.ref (a 0), .int (nI z)] [(a 0, .inr (6, [.ref (a 1), .ref (a 2), .int (nI hm), .int (nI un), .ref (a 3), .ref (a 4), .ref (a 5), .ref (a 6), .ref (a 7), .ref (a 8), .ref (a 9), .ref (a 10), .ref (a 11), .ref (a 12), .long fa, .long fb, .ref (a 13), .long (lN lx), .ref (a 14), .int (nI bl), .int (nI ta), .int (nI tl), .int (nI tk), .int (nI va), .ref (a 15), .ref (a 16), .ref (a 17)])), (a 1, .inl (cJ, 9, .inr (.inl (fR T))))] (fun (_ : Unit) => True) (fun _ => some (.int (optI (foT T z 256)))) (fun _ => [(a 0, .inr (6, [.ref (a 1), .ref (a 2), .int (nI hm), .int (nI un), .ref (a 3), .ref (a 4), .ref (a 5), .ref (a 6), .ref (a 7), .ref (a 8), .ref (a 9), .ref (a 10), .ref (a 11), .ref (a 12), .long fa, .long fb, .ref (a 13), .long (lN lx), .ref (a 14), .int (nI bl), .int (nI ta), .int (nI tl), .int (nI tk), .int (nI va), .ref (a 15), .ref (a 16), .ref (a 17)])), (a 1, .inl (cJ, 9, .inr (.inl (fR T))))]) := by
  refine Ct.ofI (cc := cX9_together) (maxL := 6) (by decide) rfl (Nat.le_of_ble_eq_true rfl) ?_
  intro pG eG sG mG aG bG tG cG AG QG ls xh bh hml hown hts hK hP hD hS hA hend hl
  have hl : lv_has ls 6 [(0, .ref (a 0)), (1, .int (nI z))] := hl
  refine lv_iconst (v := (-1)) xh bh dX9_together_0 (by decide) ?_
  refine lv_istore_n (lv' := [(2, .int (-1)), (0, .ref (a 0)), (1, .int (nI z))]) xh bh dX9_together_1 rfl hl (by decide) rfl (fun ls hl => ?_)
  refine lv_iconst (v := (nI 0)) xh bh dX9_together_2 (by decide) ?_
  refine lv_istore_n (lv' := [(3, .int (nI 0)), (2, .int (-1)), (0, .ref (a 0)), (1, .int (nI z))]) xh bh dX9_together_3 rfl hl (by decide) rfl (fun ls hl => ?_)
  have cut_4 : ∀ (n_4 : Nat), ∀ (s0 : Nat), ∀ (b : Int32), (s0 ≤ 256) → (b = optI (foT T z s0)) → (256 - s0) < n_4 → ∀ (H : Heap) (locs : List Loc) (ls : Array Slot), va_P D vwCl [(a 0, .inr (6, [.ref (a 1), .ref (a 2), .int (nI hm), .int (nI un), .ref (a 3), .ref (a 4), .ref (a 5), .ref (a 6), .ref (a 7), .ref (a 8), .ref (a 9), .ref (a 10), .ref (a 11), .ref (a 12), .long fa, .long fb, .ref (a 13), .long (lN lx), .ref (a 14), .int (nI bl), .int (nI ta), .int (nI tl), .int (nI tk), .int (nI va), .ref (a 15), .ref (a 16), .ref (a 17)])), (a 1, .inl (cJ, 9, .inr (.inl (fR T))))] H → va_D AG [(a 0, .inr (6, [.ref (a 1), .ref (a 2), .int (nI hm), .int (nI un), .ref (a 3), .ref (a 4), .ref (a 5), .ref (a 6), .ref (a 7), .ref (a 8), .ref (a 9), .ref (a 10), .ref (a 11), .ref (a 12), .long fa, .long fb, .ref (a 13), .long (lN lx), .ref (a 14), .int (nI bl), .int (nI ta), .int (nI tl), .int (nI tk), .int (nI va), .ref (a 15), .ref (a 16), .ref (a 17)])), (a 1, .inl (cJ, 9, .inr (.inl (fR T))))] → va_S AG sG.heap H locs → lv_has ls 6 [(0, .ref (a 0)), (1, .int (nI z)), (2, .int b), (3, .int (nI s0))] → W pG l eG ({ frames := 2, cells := 0, slots := 0, locals := 45 }) sG mG aG bG tG cG H locs 0 0 QG (F0 mG 4 ls []) := by
    intro n_4
    induction n_4 with
    | zero =>
      intro s0 b hs hb hmu
      exact absurd hmu (Nat.not_lt_zero _)
    | succ n_4 ih_4 =>
      intro s0 b hs hb hmu H locs ls hP hD hS hl
      refine lv_iload_n xh bh dX9_together_4 rfl (lv_at hl 3 rfl) ?_
      refine lv_sipush (v := (nI 256)) xh bh dX9_together_5 (by decide) ?_
      refine xn_icmp_ge (tgt := 96) xh bh dX9_together_8 (by decide) (by omega) (by omega) (fun c_8 => ?_) (fun c_8 => ?_)
      · refine lv_iload_n xh bh dX9_together_96 rfl (lv_at hl 2 rfl) ?_
        exact hend b () _ _ _ _ (congrArg (fun z => some (Value.int z)) (by rw [hb, show s0 = 256 by omega])) trivial rfl dX9_together_97 hP hD hS
      · refine lv_iconst (v := (nI 0)) xh bh dX9_together_11 (by decide) ?_
        refine lv_istore (lv' := [(4, .int (nI 0)), (0, .ref (a 0)), (1, .int (nI z)), (2, .int b), (3, .int (nI s0))]) xh bh dX9_together_12 hl (by decide) rfl (fun ls hl => ?_)
        refine lv_iconst (v := (nI 0)) xh bh dX9_together_14 (by decide) ?_
        refine lv_istore (lv' := [(5, .int (nI 0)), (4, .int (nI 0)), (0, .ref (a 0)), (1, .int (nI z)), (2, .int b), (3, .int (nI s0))]) xh bh dX9_together_15 hl (by decide) rfl (fun ls hl => ?_)
        have cut_17 : ∀ (n_17 : Nat), ∀ (i : Nat), ∀ (n : Nat), (i ≤ 8) → (n = ktN T s0 i) → (8 - i) < n_17 → ∀ (H : Heap) (locs : List Loc) (ls : Array Slot), va_P D vwCl [(a 0, .inr (6, [.ref (a 1), .ref (a 2), .int (nI hm), .int (nI un), .ref (a 3), .ref (a 4), .ref (a 5), .ref (a 6), .ref (a 7), .ref (a 8), .ref (a 9), .ref (a 10), .ref (a 11), .ref (a 12), .long fa, .long fb, .ref (a 13), .long (lN lx), .ref (a 14), .int (nI bl), .int (nI ta), .int (nI tl), .int (nI tk), .int (nI va), .ref (a 15), .ref (a 16), .ref (a 17)])), (a 1, .inl (cJ, 9, .inr (.inl (fR T))))] H → va_D AG [(a 0, .inr (6, [.ref (a 1), .ref (a 2), .int (nI hm), .int (nI un), .ref (a 3), .ref (a 4), .ref (a 5), .ref (a 6), .ref (a 7), .ref (a 8), .ref (a 9), .ref (a 10), .ref (a 11), .ref (a 12), .long fa, .long fb, .ref (a 13), .long (lN lx), .ref (a 14), .int (nI bl), .int (nI ta), .int (nI tl), .int (nI tk), .int (nI va), .ref (a 15), .ref (a 16), .ref (a 17)])), (a 1, .inl (cJ, 9, .inr (.inl (fR T))))] → va_S AG sG.heap H locs → lv_has ls 6 [(0, .ref (a 0)), (1, .int (nI z)), (2, .int b), (3, .int (nI s0)), (4, .int (nI n)), (5, .int (nI i))] → W pG l eG ({ frames := 2, cells := 0, slots := 0, locals := 45 }) sG mG aG bG tG cG H locs 0 0 QG (F0 mG 17 ls []) := by
          intro n_17
          induction n_17 with
          | zero =>
            intro i n hi hn hmu
            exact absurd hmu (Nat.not_lt_zero _)
          | succ n_17 ih_17 =>
            intro i n hi hn hmu H locs ls hP hD hS hl
            refine lv_iload xh bh dX9_together_17 (lv_at hl 5 rfl) ?_
            refine lv_bipush (v := (nI 8)) xh bh dX9_together_19 (by decide) ?_
            refine xn_icmp_ge (tgt := 59) xh bh dX9_together_21 (by decide) (by omega) (by omega) (fun c_21 => ?_) (fun c_21 => ?_)
            · have hn8 : n = ktN T s0 8 := by rw [hn, show i = 8 by omega]
              refine lv_iload_n xh bh dX9_together_59 rfl (lv_at hl 1 rfl) ?_
              refine lv_iload xh bh dX9_together_60 (lv_at hl 4 rfl) ?_
              refine lv_iconst (v := (-1)) xh bh dX9_together_62 (by decide) ?_
              refine lv_ixor xh bh dX9_together_63 ?_
              refine lv_iand xh bh dX9_together_64 ?_
              refine lv_if_ne (tgt := 88) xh bh dX9_together_65 (by decide) (fun c_65 => ?_) (fun c_65 => ?_)
              · refine lv_iload_n xh bh dX9_together_88 rfl (lv_at hl 2 rfl) ?_
                refine lv_istore_n (lv' := [(2, .int b), (0, .ref (a 0)), (1, .int (nI z)), (3, .int (nI s0)), (4, .int (nI n)), (5, .int (nI i))]) xh bh dX9_together_89 rfl hl (by decide) rfl (fun ls hl => ?_)
                refine lv_iinc (v := (nI (s0 + 1))) (lv' := [(3, .int (nI (s0 + 1))), (2, .int b), (0, .ref (a 0)), (1, .int (nI z)), (4, .int (nI n)), (5, .int (nI i))]) xh bh dX9_together_90 hl (k := 3) rfl (by exact xn_inc _ _) (by decide) rfl (fun ls hl => ?_)
                refine lv_goto (tgt := 4) xh bh dX9_together_93 (by decide) ?_
                exact ih_4 (s0 + 1) b (by omega) (by first | exact foT_e1 hb (by rw [← hn8]; exact c_65) | exact foT_e2 ho hfb | exact foT_eY (by rw [← hn8]; exact c_65) hfb) (by omega) _ _ ls hP hD hS (lv_sub hl [2, 3, 1, 0] rfl)
              · rcases optC (foT T z s0) with ho | ⟨kk, ho⟩
                · have q_2 : (-1) = b := by rw [hb, ho]; rfl
                  have hl : lv_has ls 6 [(0, .ref (a 0)), (1, .int (nI z)), (2, .int (-1)), (3, .int (nI s0)), (4, .int (nI n)), (5, .int (nI i))] := by rw [q_2]; exact hl
                  refine lv_iload_n xh bh dX9_together_68 rfl (lv_at hl 2 rfl) ?_
                  refine lv_iconst (v := (-1)) xh bh dX9_together_69 (by decide) ?_
                  refine lv_icmp_eq (tgt := 84) xh bh dX9_together_70 (by decide) (fun c_70 => ?_) (fun c_70 => ?_)
                  · have hfb := fbet_0 (s := s0) ho
                    refine lv_iload_n xh bh dX9_together_84 rfl (lv_at hl 3 rfl) ?_
                    refine lv_goto (tgt := 89) xh bh dX9_together_85 (by decide) ?_
                    refine lv_istore_n (lv' := [(2, .int (nI s0)), (0, .ref (a 0)), (1, .int (nI z)), (3, .int (nI s0)), (4, .int (nI n)), (5, .int (nI i))]) xh bh dX9_together_89 rfl hl (by decide) rfl (fun ls hl => ?_)
                    refine lv_iinc (v := (nI (s0 + 1))) (lv' := [(3, .int (nI (s0 + 1))), (2, .int (nI s0)), (0, .ref (a 0)), (1, .int (nI z)), (4, .int (nI n)), (5, .int (nI i))]) xh bh dX9_together_90 hl (k := 3) rfl (by exact xn_inc _ _) (by decide) rfl (fun ls hl => ?_)
                    refine lv_goto (tgt := 4) xh bh dX9_together_93 (by decide) ?_
                    exact ih_4 (s0 + 1) (nI s0) (by omega) (by first | exact foT_e1 hb (by rw [← hn8]; exact c_65) | exact foT_e2 ho hfb | exact foT_eY (by rw [← hn8]; exact c_65) hfb) (by omega) _ _ ls hP hD hS (lv_sub hl [2, 3, 1, 0] rfl)
                  · exact absurd rfl c_70
                · have q_2 : (nI kk) = b := by rw [hb, ho]; rfl
                  have hl : lv_has ls 6 [(0, .ref (a 0)), (1, .int (nI z)), (2, .int (nI kk)), (3, .int (nI s0)), (4, .int (nI n)), (5, .int (nI i))] := by rw [q_2]; exact hl
                  have hkk := foT_lt ho
                  refine lv_iload_n xh bh dX9_together_68 rfl (lv_at hl 2 rfl) ?_
                  refine lv_iconst (v := (-1)) xh bh dX9_together_69 (by decide) ?_
                  refine lv_icmp_eq (tgt := 84) xh bh dX9_together_70 (by decide) (fun c_70 => ?_) (fun c_70 => ?_)
                  · exact absurd c_70 (by exact fun q => absurd (q ▸ nI_pos' (n := kk) (by omega)) (by decide))
                  · refine lv_iload_n xh bh dX9_together_73 rfl (lv_at hl 3 rfl) ?_
                    refine Ct.callS0 (rest := []) xh bh hml hown hts hK hP hS hA (ct_X9_bits l D cI cJ cB cZ cA s0 (by first | assumption | omega)) (va_cwS 1 hts gX9_together_X9_bits rfl rfl rfl (by decide +kernel) ⟨Nat.le_of_ble_eq_true rfl, Nat.le_of_ble_eq_true rfl⟩) rfl rfl hl.1 (Nat.le_of_ble_eq_true rfl) dX9_together_74 ⟨Nat.le_refl _, Nat.le_refl _⟩ (fun _ H locs _ hP hS => ?_)
                    refine W.eq (g2 := F0 mG 77 ls [.int (nI (popN s0))]) rfl ?_
                    refine lv_iload_n xh bh dX9_together_77 rfl (lv_at hl 2 rfl) ?_
                    refine Ct.callS0 (rest := [.int (nI (popN s0))]) xh bh hml hown hts hK hP hS hA (ct_X9_bits l D cI cJ cB cZ cA kk (by first | assumption | omega)) (va_cwS 1 hts gX9_together_X9_bits rfl rfl rfl (by decide +kernel) ⟨Nat.le_of_ble_eq_true rfl, Nat.le_of_ble_eq_true rfl⟩) rfl rfl hl.1 (Nat.le_of_ble_eq_true rfl) dX9_together_78 ⟨Nat.le_refl _, Nat.le_refl _⟩ (fun _ H locs _ hP hS => ?_)
                    refine W.eq (g2 := F0 mG 81 ls [.int (nI (popN kk)), .int (nI (popN s0))]) rfl ?_
                    refine xn_icmp_ge (tgt := 88) xh bh dX9_together_81 (by decide) (by have := popN_le s0; have := popN_le kk; omega) (by have := popN_le s0; have := popN_le kk; omega) (fun c_81 => ?_) (fun c_81 => ?_)
                    · have hfb := fbet_n ho (Nat.not_lt.mpr c_81)
                      refine lv_iload_n xh bh dX9_together_88 rfl (lv_at hl 2 rfl) ?_
                      refine lv_istore_n (lv' := [(2, .int (nI kk)), (0, .ref (a 0)), (1, .int (nI z)), (3, .int (nI s0)), (4, .int (nI n)), (5, .int (nI i))]) xh bh dX9_together_89 rfl hl (by decide) rfl (fun ls hl => ?_)
                      refine lv_iinc (v := (nI (s0 + 1))) (lv' := [(3, .int (nI (s0 + 1))), (2, .int (nI kk)), (0, .ref (a 0)), (1, .int (nI z)), (4, .int (nI n)), (5, .int (nI i))]) xh bh dX9_together_90 hl (k := 3) rfl (by exact xn_inc _ _) (by decide) rfl (fun ls hl => ?_)
                      refine lv_goto (tgt := 4) xh bh dX9_together_93 (by decide) ?_
                      exact ih_4 (s0 + 1) (nI kk) (by omega) (by first | exact foT_e1 hb (by rw [← hn8]; exact c_65) | exact foT_e2 ho hfb | exact foT_eY (by rw [← hn8]; exact c_65) hfb) (by omega) _ _ ls hP hD hS (lv_sub hl [2, 3, 1, 0] rfl)
                    · have hfb := fbet_y ho c_81
                      refine lv_iload_n xh bh dX9_together_84 rfl (lv_at hl 3 rfl) ?_
                      refine lv_goto (tgt := 89) xh bh dX9_together_85 (by decide) ?_
                      refine lv_istore_n (lv' := [(2, .int (nI s0)), (0, .ref (a 0)), (1, .int (nI z)), (3, .int (nI s0)), (4, .int (nI n)), (5, .int (nI i))]) xh bh dX9_together_89 rfl hl (by decide) rfl (fun ls hl => ?_)
                      refine lv_iinc (v := (nI (s0 + 1))) (lv' := [(3, .int (nI (s0 + 1))), (2, .int (nI s0)), (0, .ref (a 0)), (1, .int (nI z)), (4, .int (nI n)), (5, .int (nI i))]) xh bh dX9_together_90 hl (k := 3) rfl (by exact xn_inc _ _) (by decide) rfl (fun ls hl => ?_)
                      refine lv_goto (tgt := 4) xh bh dX9_together_93 (by decide) ?_
                      exact ih_4 (s0 + 1) (nI s0) (by omega) (by first | exact foT_e1 hb (by rw [← hn8]; exact c_65) | exact foT_e2 ho hfb | exact foT_eY (by rw [← hn8]; exact c_65) hfb) (by omega) _ _ ls hP hD hS (lv_sub hl [2, 3, 1, 0] rfl)
            · refine lv_iload xh bh dX9_together_24 (lv_at hl 4 rfl) ?_
              refine lv_iload_n xh bh dX9_together_26 rfl (lv_at hl 3 rfl) ?_
              refine lv_iload xh bh dX9_together_27 (lv_at hl 5 rfl) ?_
              refine xn_ishr xh bh dX9_together_29 (by omega) (by omega) ?_
              refine lv_iconst (v := (nI 1)) xh bh dX9_together_30 (by decide) ?_
              refine xn_iand xh bh dX9_together_31 ?_
              refine lv_iconst (v := (nI 1)) xh bh dX9_together_32 (by decide) ?_
              refine xn_icmp_ne (tgt := 49) xh bh dX9_together_33 (by decide) (by have := Nat.and_le_right (n := s0 / 2 ^ i) (m := 1); omega) (by have := Nat.and_le_right (n := s0 / 2 ^ i) (m := 1); omega) (fun c_33 => ?_) (fun c_33 => ?_)
              · refine lv_iconst (v := (nI 0)) xh bh dX9_together_49 (by decide) ?_
                refine xn_ior xh bh dX9_together_50 ?_
                refine lv_istore (lv' := [(4, .int (nI (n ||| 0))), (0, .ref (a 0)), (1, .int (nI z)), (2, .int b), (3, .int (nI s0)), (5, .int (nI i))]) xh bh dX9_together_51 hl (by decide) rfl (fun ls hl => ?_)
                refine lv_iinc (v := (nI (i + 1))) (lv' := [(5, .int (nI (i + 1))), (4, .int (nI (n ||| 0))), (0, .ref (a 0)), (1, .int (nI z)), (2, .int b), (3, .int (nI s0))]) xh bh dX9_together_53 hl (k := 5) rfl (by exact xn_inc _ _) (by decide) rfl (fun ls hl => ?_)
                refine lv_goto (tgt := 17) xh bh dX9_together_56 (by decide) ?_
                exact ih_17 (i + 1) (n ||| 0) (by omega) (by rw [hn]; first | exact (ktN_y (by rw [and1] at c_33; exact c_33)).symm | (rw [Nat.or_zero]; exact (ktN_n (by rw [and1] at c_33; exact c_33)).symm)) (by omega) _ _ ls hP hD hS (lv_sub hl [2, 3, 4, 5, 1, 0] rfl)
              · refine lv_aload_n xh bh dX9_together_36 rfl (lv_at hl 0 rfl) ?_
                refine va_get (D := D) (ci := 6) (v := .ref (a 1)) (C := RX9) (T := TX9) (N := 27) xh bh hts (fun _ h => List.mem_cons_of_mem _ (List.mem_append_right _ (h))) hown hK.1 hP 0 rfl rfl 0 (by decide) (hts _ (List.mem_of_getElem? (i := 1) rfl)) (fun _ h9 => h9) rfl dX9_together_37 ?_
                refine lv_iload xh bh dX9_together_40 (lv_at hl 5 rfl) ?_
                refine xa_lald xh bh hK.1 hP 1 1 rfl rfl (by omega) (by omega) dX9_together_42 ?_
                refine W.eq (g2 := F0 mG 43 ls [.long (eR (T i)), .int (nI n)]) rfl ?_
                refine Ct.callS0 (rest := [.int (nI n)]) xh bh hml hown hts hK hP hS hA (ct_X9_partsOf l D cI cJ cB cZ cA (T i) (by exact hT _)) (va_cwS 1 hts gX9_together_X9_partsOf rfl rfl rfl (by decide +kernel) ⟨Nat.le_of_ble_eq_true rfl, Nat.le_of_ble_eq_true rfl⟩) rfl rfl hl.1 (Nat.le_of_ble_eq_true rfl) dX9_together_43 ⟨Nat.le_refl _, Nat.le_refl _⟩ (fun _ H locs _ hP hS => ?_)
                refine W.eq (g2 := F0 mG 46 ls [.int (nI (kN (T i))), .int (nI n)]) rfl ?_
                refine lv_goto (tgt := 50) xh bh dX9_together_46 (by decide) ?_
                refine xn_ior xh bh dX9_together_50 ?_
                refine lv_istore (lv' := [(4, .int (nI (n ||| (kN (T i))))), (0, .ref (a 0)), (1, .int (nI z)), (2, .int b), (3, .int (nI s0)), (5, .int (nI i))]) xh bh dX9_together_51 hl (by decide) rfl (fun ls hl => ?_)
                refine lv_iinc (v := (nI (i + 1))) (lv' := [(5, .int (nI (i + 1))), (4, .int (nI (n ||| (kN (T i))))), (0, .ref (a 0)), (1, .int (nI z)), (2, .int b), (3, .int (nI s0))]) xh bh dX9_together_53 hl (k := 5) rfl (by exact xn_inc _ _) (by decide) rfl (fun ls hl => ?_)
                refine lv_goto (tgt := 17) xh bh dX9_together_56 (by decide) ?_
                exact ih_17 (i + 1) (n ||| (kN (T i))) (by omega) (by rw [hn]; first | exact (ktN_y (by rw [and1] at c_33; exact c_33)).symm | (rw [Nat.or_zero]; exact (ktN_n (by rw [and1] at c_33; exact c_33)).symm)) (by omega) _ _ ls hP hD hS (lv_sub hl [2, 3, 4, 5, 1, 0] rfl)
        exact cut_17 (8 - 0 + 1) 0 0 (by exact Nat.zero_le _) (by rfl) (Nat.lt_succ_self _) _ _ ls hP hD hS (lv_sub hl [2, 3, 4, 5, 1, 0] rfl)
  exact cut_4 (256 - 0 + 1) 0 (-1) (by exact Nat.zero_le _) (by rfl) (Nat.lt_succ_self _) _ _ ls hP hD hS (lv_sub hl [2, 3, 1, 0] rfl)

set_option maxHeartbeats 1000000 in
set_option maxRecDepth 100000 in
theorem ct_X9_pawned (l : Launch) (D : va_G) (cI cJ cB cZ cA : ClassId) (a : Nat → Nat) (T : Nat → List Nat) (rf : Nat → Int32) (hm : Nat) (un : Nat) (fa : Int64) (fb : Int64) (lx : Nat) (bl : Nat) (ta : Nat) (tl : Nat) (tk : Nat) (va : Nat) (z : Int32) (w : Int32) (hT : ∀ k, okT (T k)) : Ct l yX9_pawned wsX9_pawned ({ frames := 3, cells := 0, slots := 0, locals := 70 }) D (tysG cI cJ cB cZ cA) [.ref (a 0), .int z, .int w] [(a 0, .inr (6, [.ref (a 1), .ref (a 2), .int (nI hm), .int (nI un), .ref (a 3), .ref (a 4), .ref (a 5), .ref (a 6), .ref (a 7), .ref (a 8), .ref (a 9), .ref (a 10), .ref (a 11), .ref (a 12), .long fa, .long fb, .ref (a 13), .long (lN lx), .ref (a 14), .int (nI bl), .int (nI ta), .int (nI tl), .int (nI tk), .int (nI va), .ref (a 15), .ref (a 16), .ref (a 17)])), (a 1, .inl (cJ, 9, .inr (.inl (fR T)))), (a 12, .inl (cI, 3, .inl rf))] (fun (_ : Unit) => True) (fun _ => some (.int (ePw (kPw z w) (xN w) (bwoN T (xN z) 8) (optI (foT T (xN z) 256))))) (fun _ => [(a 0, .inr (6, [.ref (a 1), .ref (a 2), .int (nI hm), .int (nI un), .ref (a 3), .ref (a 4), .ref (a 5), .ref (a 6), .ref (a 7), .ref (a 8), .ref (a 9), .ref (a 10), .ref (a 11), .ref (a 12), .long fa, .long fb, .ref (a 13), .long (lN lx), .ref (a 14), .int (nI bl), .int (nI ta), .int (nI tl), .int (nI tk), .int (nI va), .ref (a 15), .ref (a 16), .ref (a 17)])), (a 1, .inl (cJ, 9, .inr (.inl (fR T)))), (a 12, .inl (cI, 3, .inl (rfU (kPw z w) rf)))]) := by
  refine Ct.ofI (cc := cX9_pawned) (maxL := 5) (by decide) rfl (Nat.le_of_ble_eq_true rfl) ?_
  intro pG eG sG mG aG bG tG cG AG QG ls xh bh hml hown hts hK hP hD hS hA hend hl
  have hl : lv_has ls 5 [(0, .ref (a 0)), (1, .int z), (2, .int w)] := hl
  refine lv_iload_n xh bh dX9_pawned_0 rfl (lv_at hl 1 rfl) ?_
  refine lv_i2l xh bh dX9_pawned_1 rfl ?_
  refine lv_lconst (v := lN 0) xh bh dX9_pawned_2 (by decide) ?_
  refine lv_ldc2 (v := (lN 1023)) xh bh hown (hts _ (List.mem_of_getElem? (i := 1) rfl)) dX9_pawned_3 ?_
  refine Ct.callS0 (rest := []) xh bh hml hown hts hK hP hS hA (ct_X9_in l D cI cJ cB cZ cA z.toInt64 (lN 0) (lN 1023) ) (va_cwS 3 hts gX9_pawned_X9_in rfl rfl rfl (by decide +kernel) ⟨Nat.le_of_ble_eq_true rfl, Nat.le_of_ble_eq_true rfl⟩) rfl rfl hl.1 (Nat.le_of_ble_eq_true rfl) dX9_pawned_6 ⟨Nat.le_refl _, Nat.le_refl _⟩ (fun _ H locs _ hP hS => ?_)
  refine W.eq (g2 := F0 mG 9 ls [.int (ib (decide (¬ z.toInt64 < (lN 0) ∧ ¬ (lN 1023) < z.toInt64)))]) rfl ?_
  refine xw_topi (x := (ib (decide (¬ z.toInt64 < (lN 0) ∧ ¬ (lN 1023) < z.toInt64)))) (y := (ib (upB z 1023))) (by rw [upB_long (by decide)]) ?_
  refine xb_if_eq (tgt := 22) xh bh dX9_pawned_9 (by decide) (fun c_9 => ?_) (fun c_9 => ?_)
  · have hk : kPw z w = 0 := if_neg (fun q => by rw [c_9] at q; exact absurd q.1 (by decide))
    refine lv_aload_n xh bh dX9_pawned_22 rfl (lv_at hl 0 rfl) ?_
    refine lv_bipush (v := (-2)) xh bh dX9_pawned_23 (by decide) ?_
    refine Ct.callV (As := [.int (-2)]) (rest := []) (wr := [(a 1, .inl (cJ, 9, .inr (.inl (fR T))))]) xh bh hml hown hts hK hP hD hS hA (ct_X9_bad l D cI cJ cB cZ cA a rf hm un fa fb lx bl ta tl tk va (-2) ) (cwV 1 hts gX9_pawned_X9_bad rfl rfl rfl (by decide +kernel) ⟨Nat.le_of_ble_eq_true rfl, Nat.le_of_ble_eq_true rfl⟩) rfl rfl hl.1 (Nat.le_of_ble_eq_true rfl) dX9_pawned_25 ⟨Nat.le_refl _, Nat.le_refl _⟩ 0 6 rfl rfl rfl [0, 2] [1] rfl (by decide) rfl rfl (by decide) (by decide) (fun _ H locs _ hP hD hS => ?_)
    have hP : va_P D vwCl [(a 1, .inl (cJ, 9, .inr (.inl (fR T)))), (a 0, .inr (6, [.ref (a 1), .ref (a 2), .int (nI hm), .int (nI un), .ref (a 3), .ref (a 4), .ref (a 5), .ref (a 6), .ref (a 7), .ref (a 8), .ref (a 9), .ref (a 10), .ref (a 11), .ref (a 12), .long fa, .long fb, .ref (a 13), .long (lN lx), .ref (a 14), .int (nI bl), .int (nI ta), .int (nI tl), .int (nI tk), .int (nI va), .ref (a 15), .ref (a 16), .ref (a 17)])), (a 12, .inl (cI, 3, .inl (upd rf 0 ((rf 0) + nI 1))))] H := hP
    have hD : va_D AG [(a 1, .inl (cJ, 9, .inr (.inl (fR T)))), (a 0, .inr (6, [.ref (a 1), .ref (a 2), .int (nI hm), .int (nI un), .ref (a 3), .ref (a 4), .ref (a 5), .ref (a 6), .ref (a 7), .ref (a 8), .ref (a 9), .ref (a 10), .ref (a 11), .ref (a 12), .long fa, .long fb, .ref (a 13), .long (lN lx), .ref (a 14), .int (nI bl), .int (nI ta), .int (nI tl), .int (nI tk), .int (nI va), .ref (a 15), .ref (a 16), .ref (a 17)])), (a 12, .inl (cI, 3, .inl (upd rf 0 ((rf 0) + nI 1))))] := hD
    refine W.eq (g2 := F0 mG 28 ls [.int (-2)]) rfl ?_
    exact hend (-2) () _ _ _ _ (congrArg (fun z => some (Value.int z)) (by rw [hk]; rfl)) trivial rfl dX9_pawned_28 (by rw [hk]; exact (hP.sub [1, 0, 2] rfl)) (by rw [hk]; exact (hD.sub [1, 0, 2] (by decide) rfl)) hS
  · refine lv_iload_n xh bh dX9_pawned_12 rfl (lv_at hl 2 rfl) ?_
    refine lv_i2l xh bh dX9_pawned_13 rfl ?_
    refine lv_lconst (v := lN 0) xh bh dX9_pawned_14 (by decide) ?_
    refine lv_lconst (v := lN 1) xh bh dX9_pawned_15 (by decide) ?_
    refine Ct.callS0 (rest := []) xh bh hml hown hts hK hP hS hA (ct_X9_in l D cI cJ cB cZ cA w.toInt64 (lN 0) (lN 1) ) (va_cwS 3 hts gX9_pawned_X9_in rfl rfl rfl (by decide +kernel) ⟨Nat.le_of_ble_eq_true rfl, Nat.le_of_ble_eq_true rfl⟩) rfl rfl hl.1 (Nat.le_of_ble_eq_true rfl) dX9_pawned_16 ⟨Nat.le_refl _, Nat.le_refl _⟩ (fun _ H locs _ hP hS => ?_)
    refine W.eq (g2 := F0 mG 19 ls [.int (ib (decide (¬ w.toInt64 < (lN 0) ∧ ¬ (lN 1) < w.toInt64)))]) rfl ?_
    refine xw_topi (x := (ib (decide (¬ w.toInt64 < (lN 0) ∧ ¬ (lN 1) < w.toInt64)))) (y := (ib (upB w 1))) (by rw [upB_long (by decide)]) ?_
    refine xb_if_ne (tgt := 29) xh bh dX9_pawned_19 (by decide) (fun c_19 => ?_) (fun c_19 => ?_)
    · have hk : kPw z w = 3 := if_pos (And.intro c_9 c_19)
      obtain ⟨z2, hz9, rfl⟩ := upB_of (by decide) c_9
      obtain ⟨w2, hw9, rfl⟩ := upB_of (by decide) c_19
      refine lv_iconst (v := (nI 0)) xh bh dX9_pawned_29 (by decide) ?_
      refine lv_istore_n (lv' := [(3, .int (nI 0)), (0, .ref (a 0)), (1, .int (nI z2)), (2, .int (nI w2))]) xh bh dX9_pawned_30 rfl hl (by decide) rfl (fun ls hl => ?_)
      refine lv_iconst (v := (nI 0)) xh bh dX9_pawned_31 (by decide) ?_
      refine lv_istore (lv' := [(4, .int (nI 0)), (3, .int (nI 0)), (0, .ref (a 0)), (1, .int (nI z2)), (2, .int (nI w2))]) xh bh dX9_pawned_32 hl (by decide) rfl (fun ls hl => ?_)
      have cut_34 : ∀ (n_34 : Nat), ∀ (i : Nat), ∀ (r : Nat), (i ≤ 8) → (r = bwoN T z2 i) → (8 - i) < n_34 → ∀ (H : Heap) (locs : List Loc) (ls : Array Slot), va_P D vwCl [(a 0, .inr (6, [.ref (a 1), .ref (a 2), .int (nI hm), .int (nI un), .ref (a 3), .ref (a 4), .ref (a 5), .ref (a 6), .ref (a 7), .ref (a 8), .ref (a 9), .ref (a 10), .ref (a 11), .ref (a 12), .long fa, .long fb, .ref (a 13), .long (lN lx), .ref (a 14), .int (nI bl), .int (nI ta), .int (nI tl), .int (nI tk), .int (nI va), .ref (a 15), .ref (a 16), .ref (a 17)])), (a 1, .inl (cJ, 9, .inr (.inl (fR T)))), (a 12, .inl (cI, 3, .inl rf))] H → va_D AG [(a 0, .inr (6, [.ref (a 1), .ref (a 2), .int (nI hm), .int (nI un), .ref (a 3), .ref (a 4), .ref (a 5), .ref (a 6), .ref (a 7), .ref (a 8), .ref (a 9), .ref (a 10), .ref (a 11), .ref (a 12), .long fa, .long fb, .ref (a 13), .long (lN lx), .ref (a 14), .int (nI bl), .int (nI ta), .int (nI tl), .int (nI tk), .int (nI va), .ref (a 15), .ref (a 16), .ref (a 17)])), (a 1, .inl (cJ, 9, .inr (.inl (fR T)))), (a 12, .inl (cI, 3, .inl rf))] → va_S AG sG.heap H locs → lv_has ls 5 [(0, .ref (a 0)), (1, .int (nI z2)), (2, .int (nI w2)), (3, .int (nI r)), (4, .int (nI i))] → W pG l eG ({ frames := 3, cells := 0, slots := 0, locals := 70 }) sG mG aG bG tG cG H locs 0 0 QG (F0 mG 34 ls []) := by
        intro n_34
        induction n_34 with
        | zero =>
          intro i r hi hr hmu
          exact absurd hmu (Nat.not_lt_zero _)
        | succ n_34 ih_34 =>
          intro i r hi hr hmu H locs ls hP hD hS hl
          refine lv_iload xh bh dX9_pawned_34 (lv_at hl 4 rfl) ?_
          refine lv_bipush (v := (nI 8)) xh bh dX9_pawned_36 (by decide) ?_
          refine xn_icmp_ge (tgt := 85) xh bh dX9_pawned_38 (by decide) (by omega) (by omega) (fun c_38 => ?_) (fun c_38 => ?_)
          · refine lv_iload_n xh bh dX9_pawned_85 rfl (lv_at hl 2 rfl) ?_
            refine xn_if_ne (tgt := 93) xh bh dX9_pawned_86 (by decide) (by omega) (fun c_86 => ?_) (fun c_86 => ?_)
            · refine lv_aload_n xh bh dX9_pawned_93 rfl (lv_at hl 0 rfl) ?_
              refine lv_iload_n xh bh dX9_pawned_94 rfl (lv_at hl 1 rfl) ?_
              refine Ct.callV (As := [.int (nI z2)]) (rest := []) (wr := [(a 12, .inl (cI, 3, .inl rf))]) xh bh hml hown hts hK hP hD hS hA (ct_X9_together l D cI cJ cB cZ cA a T hm un fa fb lx bl ta tl tk va z2 (by first | assumption) (by first | assumption | omega)) (cwV 1 hts gX9_pawned_X9_together rfl rfl rfl (by decide +kernel) ⟨Nat.le_of_ble_eq_true rfl, Nat.le_of_ble_eq_true rfl⟩) rfl rfl hl.1 (Nat.le_of_ble_eq_true rfl) dX9_pawned_95 ⟨Nat.le_refl _, Nat.le_refl _⟩ 0 6 rfl rfl rfl [0, 1] [2] rfl (by decide) rfl rfl (by decide) (by decide) (fun _ H locs _ hP hD hS => ?_)
              have hP : va_P D vwCl [(a 12, .inl (cI, 3, .inl rf)), (a 0, .inr (6, [.ref (a 1), .ref (a 2), .int (nI hm), .int (nI un), .ref (a 3), .ref (a 4), .ref (a 5), .ref (a 6), .ref (a 7), .ref (a 8), .ref (a 9), .ref (a 10), .ref (a 11), .ref (a 12), .long fa, .long fb, .ref (a 13), .long (lN lx), .ref (a 14), .int (nI bl), .int (nI ta), .int (nI tl), .int (nI tk), .int (nI va), .ref (a 15), .ref (a 16), .ref (a 17)])), (a 1, .inl (cJ, 9, .inr (.inl (fR T))))] H := hP
              have hD : va_D AG [(a 12, .inl (cI, 3, .inl rf)), (a 0, .inr (6, [.ref (a 1), .ref (a 2), .int (nI hm), .int (nI un), .ref (a 3), .ref (a 4), .ref (a 5), .ref (a 6), .ref (a 7), .ref (a 8), .ref (a 9), .ref (a 10), .ref (a 11), .ref (a 12), .long fa, .long fb, .ref (a 13), .long (lN lx), .ref (a 14), .int (nI bl), .int (nI ta), .int (nI tl), .int (nI tk), .int (nI va), .ref (a 15), .ref (a 16), .ref (a 17)])), (a 1, .inl (cJ, 9, .inr (.inl (fR T))))] := hD
              refine W.eq (g2 := F0 mG 98 ls [.int (optI (foT T z2 256))]) rfl ?_
              exact hend (optI (foT T z2 256)) () _ _ _ _ (congrArg (fun z => some (Value.int z)) (by rw [hk, xN_nI (by omega), xN_nI (by omega)]; first | (rw [c_86, hr, show i = 8 by omega]; rfl) | (rw [show w2 = 1 by omega]; rfl))) trivial rfl dX9_pawned_98 (by rw [hk]; exact (hP.sub [1, 2, 0] rfl)) (by rw [hk]; exact (hD.sub [1, 2, 0] (by decide) rfl)) hS
            · refine lv_iload_n xh bh dX9_pawned_89 rfl (lv_at hl 3 rfl) ?_
              refine lv_goto (tgt := 98) xh bh dX9_pawned_90 (by decide) ?_
              exact hend (nI r) () _ _ _ _ (congrArg (fun z => some (Value.int z)) (by rw [hk, xN_nI (by omega), xN_nI (by omega)]; first | (rw [c_86, hr, show i = 8 by omega]; rfl) | (rw [show w2 = 1 by omega]; rfl))) trivial rfl dX9_pawned_98 (by rw [hk]; exact hP) (by rw [hk]; exact hD) hS
          · refine lv_iload_n xh bh dX9_pawned_41 rfl (lv_at hl 3 rfl) ?_
            refine lv_aload_n xh bh dX9_pawned_42 rfl (lv_at hl 0 rfl) ?_
            refine va_get (D := D) (ci := 6) (v := .ref (a 1)) (C := RX9) (T := TX9) (N := 27) xh bh hts (fun _ h => List.mem_cons_of_mem _ (List.mem_append_right _ (h))) hown hK.1 hP 0 rfl rfl 0 (by decide) (hts _ (List.mem_of_getElem? (i := 2) rfl)) (fun _ h9 => h9) rfl dX9_pawned_43 ?_
            refine lv_iload xh bh dX9_pawned_46 (lv_at hl 4 rfl) ?_
            refine xa_lald xh bh hK.1 hP 1 1 rfl rfl (by omega) (by omega) dX9_pawned_48 ?_
            refine W.eq (g2 := F0 mG 49 ls [.long (eR (T i)), .int (nI r)]) rfl ?_
            refine lv_lconst (v := lN 0) xh bh dX9_pawned_49 (by decide) ?_
            refine W.lcmp xh bh dX9_pawned_50 ?_
            refine xt_if_eqR (tgt := 76) xh bh dX9_pawned_51 (by decide) (by exact hT _) (fun c_51 => ?_) (fun c_51 => ?_)
            · refine lv_iconst (v := (nI 0)) xh bh dX9_pawned_76 (by decide) ?_
              refine xn_ior xh bh dX9_pawned_77 ?_
              refine lv_istore_n (lv' := [(3, .int (nI (r ||| 0))), (0, .ref (a 0)), (1, .int (nI z2)), (2, .int (nI w2)), (4, .int (nI i))]) xh bh dX9_pawned_78 rfl hl (by decide) rfl (fun ls hl => ?_)
              refine lv_iinc (v := (nI (i + 1))) (lv' := [(4, .int (nI (i + 1))), (3, .int (nI (r ||| 0))), (0, .ref (a 0)), (1, .int (nI z2)), (2, .int (nI w2))]) xh bh dX9_pawned_79 hl (k := 4) rfl (by exact xn_inc _ _) (by decide) rfl (fun ls hl => ?_)
              refine lv_goto (tgt := 34) xh bh dX9_pawned_82 (by decide) ?_
              exact ih_34 (i + 1) (r ||| 0) (by omega) (by rw [hr]; first | exact (bwoN_y c_51 c_66).symm | (rw [Nat.or_zero]; exact (bwoN_n (fun q => q.1 c_51)).symm) | (rw [Nat.or_zero]; exact (bwoN_n (fun q => c_66 q.2)).symm)) (by omega) _ _ ls hP hD hS (lv_sub hl [2, 3, 4, 1, 0] rfl)
            · refine lv_aload_n xh bh dX9_pawned_54 rfl (lv_at hl 0 rfl) ?_
              refine va_get (D := D) (ci := 6) (v := .ref (a 1)) (C := RX9) (T := TX9) (N := 27) xh bh hts (fun _ h => List.mem_cons_of_mem _ (List.mem_append_right _ (h))) hown hK.1 hP 0 rfl rfl 0 (by decide) (hts _ (List.mem_of_getElem? (i := 2) rfl)) (fun _ h9 => h9) rfl dX9_pawned_55 ?_
              refine lv_iload xh bh dX9_pawned_58 (lv_at hl 4 rfl) ?_
              refine xa_lald xh bh hK.1 hP 1 1 rfl rfl (by omega) (by omega) dX9_pawned_60 ?_
              refine W.eq (g2 := F0 mG 61 ls [.long (eR (T i)), .int (nI r)]) rfl ?_
              refine Ct.callS0 (rest := [.int (nI r)]) xh bh hml hown hts hK hP hS hA (ct_X9_partsOf l D cI cJ cB cZ cA (T i) (by exact hT _)) (va_cwS 1 hts gX9_pawned_X9_partsOf rfl rfl rfl (by decide +kernel) ⟨Nat.le_of_ble_eq_true rfl, Nat.le_of_ble_eq_true rfl⟩) rfl rfl hl.1 (Nat.le_of_ble_eq_true rfl) dX9_pawned_61 ⟨Nat.le_refl _, Nat.le_refl _⟩ (fun _ H locs _ hP hS => ?_)
              refine W.eq (g2 := F0 mG 64 ls [.int (nI (kN (T i))), .int (nI r)]) rfl ?_
              refine lv_iload_n xh bh dX9_pawned_64 rfl (lv_at hl 1 rfl) ?_
              refine xn_iand xh bh dX9_pawned_65 ?_
              refine xn_if_ne (tgt := 76) xh bh dX9_pawned_66 (by decide) (by have := (hT i).kNB; have := Nat.and_le_left (n := kN (T i)) (m := z2); omega) (fun c_66 => ?_) (fun c_66 => ?_)
              · refine lv_iconst (v := (nI 0)) xh bh dX9_pawned_76 (by decide) ?_
                refine xn_ior xh bh dX9_pawned_77 ?_
                refine lv_istore_n (lv' := [(3, .int (nI (r ||| 0))), (0, .ref (a 0)), (1, .int (nI z2)), (2, .int (nI w2)), (4, .int (nI i))]) xh bh dX9_pawned_78 rfl hl (by decide) rfl (fun ls hl => ?_)
                refine lv_iinc (v := (nI (i + 1))) (lv' := [(4, .int (nI (i + 1))), (3, .int (nI (r ||| 0))), (0, .ref (a 0)), (1, .int (nI z2)), (2, .int (nI w2))]) xh bh dX9_pawned_79 hl (k := 4) rfl (by exact xn_inc _ _) (by decide) rfl (fun ls hl => ?_)
                refine lv_goto (tgt := 34) xh bh dX9_pawned_82 (by decide) ?_
                exact ih_34 (i + 1) (r ||| 0) (by omega) (by rw [hr]; first | exact (bwoN_y c_51 c_66).symm | (rw [Nat.or_zero]; exact (bwoN_n (fun q => q.1 c_51)).symm) | (rw [Nat.or_zero]; exact (bwoN_n (fun q => c_66 q.2)).symm)) (by omega) _ _ ls hP hD hS (lv_sub hl [2, 3, 4, 1, 0] rfl)
              · refine lv_iconst (v := (nI 1)) xh bh dX9_pawned_69 (by decide) ?_
                refine lv_iload xh bh dX9_pawned_70 (lv_at hl 4 rfl) ?_
                refine xn_ishl1 xh bh dX9_pawned_72 (by omega) ?_
                refine lv_goto (tgt := 77) xh bh dX9_pawned_73 (by decide) ?_
                refine xn_ior xh bh dX9_pawned_77 ?_
                refine lv_istore_n (lv' := [(3, .int (nI (r ||| (2 ^ i)))), (0, .ref (a 0)), (1, .int (nI z2)), (2, .int (nI w2)), (4, .int (nI i))]) xh bh dX9_pawned_78 rfl hl (by decide) rfl (fun ls hl => ?_)
                refine lv_iinc (v := (nI (i + 1))) (lv' := [(4, .int (nI (i + 1))), (3, .int (nI (r ||| (2 ^ i)))), (0, .ref (a 0)), (1, .int (nI z2)), (2, .int (nI w2))]) xh bh dX9_pawned_79 hl (k := 4) rfl (by exact xn_inc _ _) (by decide) rfl (fun ls hl => ?_)
                refine lv_goto (tgt := 34) xh bh dX9_pawned_82 (by decide) ?_
                exact ih_34 (i + 1) (r ||| (2 ^ i)) (by omega) (by rw [hr]; first | exact (bwoN_y c_51 c_66).symm | (rw [Nat.or_zero]; exact (bwoN_n (fun q => q.1 c_51)).symm) | (rw [Nat.or_zero]; exact (bwoN_n (fun q => c_66 q.2)).symm)) (by omega) _ _ ls hP hD hS (lv_sub hl [2, 3, 4, 1, 0] rfl)
      exact cut_34 (8 - 0 + 1) 0 0 (by exact Nat.zero_le _) (by rfl) (Nat.lt_succ_self _) _ _ ls hP hD hS (lv_sub hl [2, 3, 4, 1, 0] rfl)
    · have hk : kPw z w = 0 := if_neg (fun q => by rw [c_19] at q; exact absurd q.2 (by decide))
      refine lv_aload_n xh bh dX9_pawned_22 rfl (lv_at hl 0 rfl) ?_
      refine lv_bipush (v := (-2)) xh bh dX9_pawned_23 (by decide) ?_
      refine Ct.callV (As := [.int (-2)]) (rest := []) (wr := [(a 1, .inl (cJ, 9, .inr (.inl (fR T))))]) xh bh hml hown hts hK hP hD hS hA (ct_X9_bad l D cI cJ cB cZ cA a rf hm un fa fb lx bl ta tl tk va (-2) ) (cwV 1 hts gX9_pawned_X9_bad rfl rfl rfl (by decide +kernel) ⟨Nat.le_of_ble_eq_true rfl, Nat.le_of_ble_eq_true rfl⟩) rfl rfl hl.1 (Nat.le_of_ble_eq_true rfl) dX9_pawned_25 ⟨Nat.le_refl _, Nat.le_refl _⟩ 0 6 rfl rfl rfl [0, 2] [1] rfl (by decide) rfl rfl (by decide) (by decide) (fun _ H locs _ hP hD hS => ?_)
      have hP : va_P D vwCl [(a 1, .inl (cJ, 9, .inr (.inl (fR T)))), (a 0, .inr (6, [.ref (a 1), .ref (a 2), .int (nI hm), .int (nI un), .ref (a 3), .ref (a 4), .ref (a 5), .ref (a 6), .ref (a 7), .ref (a 8), .ref (a 9), .ref (a 10), .ref (a 11), .ref (a 12), .long fa, .long fb, .ref (a 13), .long (lN lx), .ref (a 14), .int (nI bl), .int (nI ta), .int (nI tl), .int (nI tk), .int (nI va), .ref (a 15), .ref (a 16), .ref (a 17)])), (a 12, .inl (cI, 3, .inl (upd rf 0 ((rf 0) + nI 1))))] H := hP
      have hD : va_D AG [(a 1, .inl (cJ, 9, .inr (.inl (fR T)))), (a 0, .inr (6, [.ref (a 1), .ref (a 2), .int (nI hm), .int (nI un), .ref (a 3), .ref (a 4), .ref (a 5), .ref (a 6), .ref (a 7), .ref (a 8), .ref (a 9), .ref (a 10), .ref (a 11), .ref (a 12), .long fa, .long fb, .ref (a 13), .long (lN lx), .ref (a 14), .int (nI bl), .int (nI ta), .int (nI tl), .int (nI tk), .int (nI va), .ref (a 15), .ref (a 16), .ref (a 17)])), (a 12, .inl (cI, 3, .inl (upd rf 0 ((rf 0) + nI 1))))] := hD
      refine W.eq (g2 := F0 mG 28 ls [.int (-2)]) rfl ?_
      exact hend (-2) () _ _ _ _ (congrArg (fun z => some (Value.int z)) (by rw [hk]; rfl)) trivial rfl dX9_pawned_28 (by rw [hk]; exact (hP.sub [1, 0, 2] rfl)) (by rw [hk]; exact (hD.sub [1, 0, 2] (by decide) rfl)) hS
