-- rows laid by wip/whole/gen.py
set_option maxHeartbeats 1000000 in
set_option maxRecDepth 100000 in
theorem ct_J7_fill_d0a16 (l : Launch) (D : va_G) (cI cJ cB cZ cA : ClassId) (q : Nat) (T : Nat → List Nat) (t : List Nat) : Ct l yJ7_fill_d0a16 wsJ7_fill_d0a16 ({ frames := 0, cells := 0, slots := 0, locals := 0 }) D (tysG cI cJ cB cZ cA) [.ref q, .long (eC t)] [(q, .inl (cJ, 8, .inr (.inl (fC T))))] (fun (_ : Unit) => True) (fun _ => none) (fun _ => [(q, .inl (cJ, 8, .inr (.inl (fC (flT T t 8)))))]) := by
  refine Ct.ofV (cc := cJ7_fill_d0a16) (maxL := 5) (by decide) rfl (Nat.le_of_ble_eq_true rfl) ?_
  intro pG eG sG mG aG bG tG cG AG QG ls xh bh hml hown hts hK hP hD hS hA hend hl
  have hl : lv_has ls 5 [(0, .ref q), (1, .long (eC t))] := hl
  refine lv_iconst (v := (nI 0)) xh bh dJ7_fill_d0a16_0 (by decide) ?_
  refine lv_istore_n (lv' := [(3, .int (nI 0)), (0, .ref q), (1, .long (eC t))]) xh bh dJ7_fill_d0a16_1 rfl hl (by decide) rfl (fun ls hl => ?_)
  refine lv_aload_n xh bh dJ7_fill_d0a16_2 rfl (lv_at hl 1 rfl) ?_
  refine va_alen (v := nI 8) xh bh hK.1 hP 0 1 rfl rfl rfl dJ7_fill_d0a16_3 ?_
  refine lv_istore (lv' := [(4, .int (nI 8)), (3, .int (nI 0)), (0, .ref q), (1, .long (eC t))]) xh bh dJ7_fill_d0a16_4 hl (by decide) rfl (fun ls hl => ?_)
  have cut_6 : ∀ (n_6 : Nat), ∀ (i : Nat), ∀ (g : Nat → List Nat), (i ≤ 8) → (g = flT T t i) → (8 - i) < n_6 → ∀ (H : Heap) (locs : List Loc) (ls : Array Slot), va_P D vwCl [(q, .inl (cJ, 8, .inr (.inl (fC g))))] H → va_D AG [(q, .inl (cJ, 8, .inr (.inl (fC g))))] → va_S AG sG.heap H locs → lv_has ls 5 [(0, .ref q), (1, .long (eC t)), (3, .int (nI i)), (4, .int (nI 8))] → W pG l eG ({ frames := 0, cells := 0, slots := 0, locals := 0 }) sG mG aG bG tG cG H locs 0 0 QG (F0 mG 6 ls []) := by
    intro n_6
    induction n_6 with
    | zero =>
      intro i g hi hg hmu
      exact absurd hmu (Nat.not_lt_zero _)
    | succ n_6 ih_6 =>
      intro i g hi hg hmu H locs ls hP hD hS hl
      refine lv_iload_n xh bh dJ7_fill_d0a16_6 rfl (lv_at hl 2 rfl) ?_
      refine lv_iload xh bh dJ7_fill_d0a16_7 (lv_at hl 3 rfl) ?_
      refine xn_icmp_ge (tgt := 22) xh bh dJ7_fill_d0a16_9 (by decide) (by omega) (by omega) (fun c_9 => ?_) (fun c_9 => ?_)
      · exact hend () _ _ _ _ rfl trivial dJ7_fill_d0a16_22 (by rw [show flT T t 8 = g by rw [hg, show i = 8 by omega]]; exact hP) (by rw [show flT T t 8 = g by rw [hg, show i = 8 by omega]]; exact hD) hS
      · refine lv_aload_n xh bh dJ7_fill_d0a16_12 rfl (lv_at hl 0 rfl) ?_
        refine lv_iload_n xh bh dJ7_fill_d0a16_13 rfl (lv_at hl 2 rfl) ?_
        refine lv_lload_n xh bh dJ7_fill_d0a16_14 rfl (lv_at hl 1 rfl) ?_
        refine xc_last xh bh hK.1 hP hD hS 0 1 rfl rfl (by omega) (by omega) dJ7_fill_d0a16_15 (fun H locs hP hD hS => ?_)
        have hP : va_P D vwCl [(q, .inl (cJ, 8, .inr (.inl (fC (va_up g i t)))))] H := hP
        have hD : va_D AG [(q, .inl (cJ, 8, .inr (.inl (fC (va_up g i t)))))] := hD
        refine lv_iinc (v := (nI (i + 1))) (lv' := [(3, .int (nI (i + 1))), (0, .ref q), (1, .long (eC t)), (4, .int (nI 8))]) xh bh dJ7_fill_d0a16_16 hl (k := 2) rfl (by exact xn_inc _ _) (by decide) rfl (fun ls hl => ?_)
        refine lv_goto (tgt := 6) xh bh dJ7_fill_d0a16_19 (by decide) ?_
        exact ih_6 (i + 1) (va_up g i t) (by omega) (by rw [hg]; exact flT_s T t i) (by omega) _ _ ls hP hD hS (lv_sub hl [1, 2, 0, 3] rfl)
  exact cut_6 (8 - 0 + 1) 0 T (by exact Nat.zero_le _) (by exact flT_0 T t) (Nat.lt_succ_self _) _ _ ls hP hD hS (lv_sub hl [2, 3, 1, 0] rfl)

set_option maxHeartbeats 1000000 in
set_option maxRecDepth 100000 in
theorem ct_J7_fill_53178 (l : Launch) (D : va_G) (cI cJ cB cZ cA : ClassId) (q : Nat) (f : Nat → Int32) (x : Int32) : Ct l yJ7_fill_53178 wsJ7_fill_53178 ({ frames := 0, cells := 0, slots := 0, locals := 0 }) D (tysG cI cJ cB cZ cA) [.ref q, .int x] [(q, .inl (cI, 8, .inl f))] (fun (_ : Unit) => True) (fun _ => none) (fun _ => [(q, .inl (cI, 8, .inl (flI f x 8)))]) := by
  refine Ct.ofV (cc := cJ7_fill_53178) (maxL := 4) (by decide) rfl (Nat.le_of_ble_eq_true rfl) ?_
  intro pG eG sG mG aG bG tG cG AG QG ls xh bh hml hown hts hK hP hD hS hA hend hl
  have hl : lv_has ls 4 [(0, .ref q), (1, .int x)] := hl
  refine lv_iconst (v := (nI 0)) xh bh dJ7_fill_53178_0 (by decide) ?_
  refine lv_istore_n (lv' := [(2, .int (nI 0)), (0, .ref q), (1, .int x)]) xh bh dJ7_fill_53178_1 rfl hl (by decide) rfl (fun ls hl => ?_)
  refine lv_aload_n xh bh dJ7_fill_53178_2 rfl (lv_at hl 1 rfl) ?_
  refine va_alen (v := nI 8) xh bh hK.1 hP 0 0 rfl rfl rfl dJ7_fill_53178_3 ?_
  refine lv_istore_n (lv' := [(3, .int (nI 8)), (2, .int (nI 0)), (0, .ref q), (1, .int x)]) xh bh dJ7_fill_53178_4 rfl hl (by decide) rfl (fun ls hl => ?_)
  have cut_5 : ∀ (n_5 : Nat), ∀ (i : Nat), ∀ (g : Nat → Int32), (i ≤ 8) → (g = flI f x i) → (8 - i) < n_5 → ∀ (H : Heap) (locs : List Loc) (ls : Array Slot), va_P D vwCl [(q, .inl (cI, 8, .inl g))] H → va_D AG [(q, .inl (cI, 8, .inl g))] → va_S AG sG.heap H locs → lv_has ls 4 [(0, .ref q), (1, .int x), (2, .int (nI i)), (3, .int (nI 8))] → W pG l eG ({ frames := 0, cells := 0, slots := 0, locals := 0 }) sG mG aG bG tG cG H locs 0 0 QG (F0 mG 5 ls []) := by
    intro n_5
    induction n_5 with
    | zero =>
      intro i g hi hg hmu
      exact absurd hmu (Nat.not_lt_zero _)
    | succ n_5 ih_5 =>
      intro i g hi hg hmu H locs ls hP hD hS hl
      refine lv_iload_n xh bh dJ7_fill_53178_5 rfl (lv_at hl 2 rfl) ?_
      refine lv_iload_n xh bh dJ7_fill_53178_6 rfl (lv_at hl 3 rfl) ?_
      refine xn_icmp_ge (tgt := 20) xh bh dJ7_fill_53178_7 (by decide) (by omega) (by omega) (fun c_7 => ?_) (fun c_7 => ?_)
      · exact hend () _ _ _ _ rfl trivial dJ7_fill_53178_20 (by rw [show flI f x 8 = g by rw [hg, show i = 8 by omega]]; exact hP) (by rw [show flI f x 8 = g by rw [hg, show i = 8 by omega]]; exact hD) hS
      · refine lv_aload_n xh bh dJ7_fill_53178_10 rfl (lv_at hl 0 rfl) ?_
        refine lv_iload_n xh bh dJ7_fill_53178_11 rfl (lv_at hl 2 rfl) ?_
        refine lv_iload_n xh bh dJ7_fill_53178_12 rfl (lv_at hl 1 rfl) ?_
        refine xa_iast xh bh hK.1 hP hD hS 0 0 rfl rfl (by omega) (by omega) dJ7_fill_53178_13 (fun H locs hP hD hS => ?_)
        have hP : va_P D vwCl [(q, .inl (cI, 8, .inl (upd g i x)))] H := hP
        have hD : va_D AG [(q, .inl (cI, 8, .inl (upd g i x)))] := hD
        refine lv_iinc (v := (nI (i + 1))) (lv' := [(2, .int (nI (i + 1))), (0, .ref q), (1, .int x), (3, .int (nI 8))]) xh bh dJ7_fill_53178_14 hl (k := 2) rfl (by exact xn_inc _ _) (by decide) rfl (fun ls hl => ?_)
        refine lv_goto (tgt := 5) xh bh dJ7_fill_53178_17 (by decide) ?_
        exact ih_5 (i + 1) (upd g i x) (by omega) (by rw [hg]; exact flI_s f x i) (by omega) _ _ ls hP hD hS (lv_sub hl [1, 2, 0, 3] rfl)
  exact cut_5 (8 - 0 + 1) 0 f (by exact Nat.zero_le _) (by exact flI_0 f x) (Nat.lt_succ_self _) _ _ ls hP hD hS (lv_sub hl [2, 3, 1, 0] rfl)

set_option maxHeartbeats 1000000 in
set_option maxRecDepth 100000 in
theorem ct_X3_becomeNew (l : Launch) (D : va_G) (cI cJ cB cZ cA : ClassId) (h : Nat → Nat) (T : Nat → List Nat) (P : Nat → Int32) (row : List Nat) (hc : Nat) (un : Nat) : Ct l yX3_becomeNew wsX3_becomeNew ({ frames := 1, cells := 0, slots := 0, locals := 24 }) D (tysG cI cJ cB cZ cA) [.ref (h 0)] [(h 0, .inr (2, [.ref (h 1), .ref (h 2), .ref (h 3), .ref (h 4), .ref (h 5), .ref (h 6), .ref (h 7), .long (eC row), .int (nI hc), .int (nI un)])), (h 1, .inl (cJ, 8, .inr (.inl (fC T)))), (h 2, .inl (cI, 8, .inl P))] (fun (_ : Unit) => True) (fun _ => none) (fun _ => [(h 0, .inr (2, [.ref (h 1), .ref (h 2), .ref (h 3), .ref (h 4), .ref (h 5), .ref (h 6), .ref (h 7), .long (eC ([])), .int (nI 0), .int (nI 0)])), (h 1, .inl (cJ, 8, .inr (.inl (fC (flT T [] 8))))), (h 2, .inl (cI, 8, .inl (flI P (-1) 8)))]) := by
  refine Ct.ofV (cc := cX3_becomeNew) (maxL := 1) (by decide) rfl (Nat.le_of_ble_eq_true rfl) ?_
  intro pG eG sG mG aG bG tG cG AG QG ls xh bh hml hown hts hK hP hD hS hA hend hl
  have hl : lv_has ls 1 [(0, .ref (h 0))] := hl
  refine lv_aload_n xh bh dX3_becomeNew_0 rfl (lv_at hl 0 rfl) ?_
  refine va_get (D := D) (ci := 2) (v := .ref (h 1)) (C := RX3) (T := TX3) (N := 10) xh bh hts (fun _ h => List.mem_cons_of_mem _ (List.mem_append_right _ (h))) hown hK.1 hP 0 rfl rfl 0 (by decide) (hts _ (List.mem_of_getElem? (i := 1) rfl)) (fun _ h9 => h9) rfl dX3_becomeNew_1 ?_
  refine lv_lconst (v := lN 0) xh bh dX3_becomeNew_4 (by decide) ?_
  refine Ct.callS (rest := []) (wr := [(h 0, .inr (2, [.ref (h 1), .ref (h 2), .ref (h 3), .ref (h 4), .ref (h 5), .ref (h 6), .ref (h 7), .long (eC row), .int (nI hc), .int (nI un)])), (h 2, .inl (cI, 8, .inl P))]) xh bh hml hown hts hK hP hD hS hA (ct_J7_fill_d0a16 l D cI cJ cB cZ cA (h 1) T ([]) ) (va_cwS 2 hts gX3_becomeNew_J7_fill_d0a16 rfl rfl rfl (by decide +kernel) ⟨Nat.le_of_ble_eq_true rfl, Nat.le_of_ble_eq_true rfl⟩) rfl rfl hl.1 (Nat.le_of_ble_eq_true rfl) dX3_becomeNew_5 ⟨Nat.le_refl _, Nat.le_refl _⟩ [1] [0, 2] rfl (by decide) rfl rfl (by decide) (by decide) (fun _ H locs _ hP hD hS => ?_)
  have hP : va_P D vwCl [(h 0, .inr (2, [.ref (h 1), .ref (h 2), .ref (h 3), .ref (h 4), .ref (h 5), .ref (h 6), .ref (h 7), .long (eC row), .int (nI hc), .int (nI un)])), (h 2, .inl (cI, 8, .inl P)), (h 1, .inl (cJ, 8, .inr (.inl (fC (flT T ([]) 8)))))] H := hP
  have hD : va_D AG [(h 0, .inr (2, [.ref (h 1), .ref (h 2), .ref (h 3), .ref (h 4), .ref (h 5), .ref (h 6), .ref (h 7), .long (eC row), .int (nI hc), .int (nI un)])), (h 2, .inl (cI, 8, .inl P)), (h 1, .inl (cJ, 8, .inr (.inl (fC (flT T ([]) 8)))))] := hD
  refine W.eq (g2 := F0 mG 8 ls []) rfl ?_
  refine lv_aload_n xh bh dX3_becomeNew_8 rfl (lv_at hl 0 rfl) ?_
  refine va_get (D := D) (ci := 2) (v := .ref (h 2)) (C := RX3) (T := TX3) (N := 10) xh bh hts (fun _ h => List.mem_cons_of_mem _ (List.mem_append_right _ (h))) hown hK.1 hP 0 rfl rfl 1 (by decide) (hts _ (List.mem_of_getElem? (i := 2) rfl)) (fun _ h9 => h9) rfl dX3_becomeNew_9 ?_
  refine lv_iconst (v := (-1)) xh bh dX3_becomeNew_12 (by decide) ?_
  refine Ct.callS (rest := []) (wr := [(h 0, .inr (2, [.ref (h 1), .ref (h 2), .ref (h 3), .ref (h 4), .ref (h 5), .ref (h 6), .ref (h 7), .long (eC row), .int (nI hc), .int (nI un)])), (h 1, .inl (cJ, 8, .inr (.inl (fC (flT T ([]) 8)))))]) xh bh hml hown hts hK hP hD hS hA (ct_J7_fill_53178 l D cI cJ cB cZ cA (h 2) P (-1) ) (va_cwS 2 hts gX3_becomeNew_J7_fill_53178 rfl rfl rfl (by decide +kernel) ⟨Nat.le_of_ble_eq_true rfl, Nat.le_of_ble_eq_true rfl⟩) rfl rfl hl.1 (Nat.le_of_ble_eq_true rfl) dX3_becomeNew_13 ⟨Nat.le_refl _, Nat.le_refl _⟩ [1] [0, 2] rfl (by decide) rfl rfl (by decide) (by decide) (fun _ H locs _ hP hD hS => ?_)
  have hP : va_P D vwCl [(h 0, .inr (2, [.ref (h 1), .ref (h 2), .ref (h 3), .ref (h 4), .ref (h 5), .ref (h 6), .ref (h 7), .long (eC row), .int (nI hc), .int (nI un)])), (h 1, .inl (cJ, 8, .inr (.inl (fC (flT T ([]) 8))))), (h 2, .inl (cI, 8, .inl (flI P (-1) 8)))] H := hP
  have hD : va_D AG [(h 0, .inr (2, [.ref (h 1), .ref (h 2), .ref (h 3), .ref (h 4), .ref (h 5), .ref (h 6), .ref (h 7), .long (eC row), .int (nI hc), .int (nI un)])), (h 1, .inl (cJ, 8, .inr (.inl (fC (flT T ([]) 8))))), (h 2, .inl (cI, 8, .inl (flI P (-1) 8)))] := hD
  refine W.eq (g2 := F0 mG 16 ls []) rfl ?_
  refine lv_aload_n xh bh dX3_becomeNew_16 rfl (lv_at hl 0 rfl) ?_
  refine lv_lconst (v := lN 0) xh bh dX3_becomeNew_17 (by decide) ?_
  refine va_put (D := D) (ci := 2) (v := .long (lN 0)) (ty := .long) (C := RX3) (T := TX3) (N := 10) xh bh hts (fun _ h => List.mem_cons_of_mem _ (List.mem_append_right _ (h))) tyX3 tyX3_ok nmX3 hown hK.1 hP hD hS 0 rfl rfl 7 (by decide) (hts _ (List.mem_of_getElem? (i := 3) rfl)) (fun _ h9 => h9) rfl (by decide +kernel) (by rfl) (by rfl) (Nat.le_of_ble_eq_true rfl) dX3_becomeNew_18 (fun H locs hP hD hS => ?_)
  have hP : va_P D vwCl [(h 0, .inr (2, [.ref (h 1), .ref (h 2), .ref (h 3), .ref (h 4), .ref (h 5), .ref (h 6), .ref (h 7), .long (lN 0), .int (nI hc), .int (nI un)])), (h 1, .inl (cJ, 8, .inr (.inl (fC (flT T ([]) 8))))), (h 2, .inl (cI, 8, .inl (flI P (-1) 8)))] H := hP
  have hD : va_D AG [(h 0, .inr (2, [.ref (h 1), .ref (h 2), .ref (h 3), .ref (h 4), .ref (h 5), .ref (h 6), .ref (h 7), .long (lN 0), .int (nI hc), .int (nI un)])), (h 1, .inl (cJ, 8, .inr (.inl (fC (flT T ([]) 8))))), (h 2, .inl (cI, 8, .inl (flI P (-1) 8)))] := hD
  refine lv_aload_n xh bh dX3_becomeNew_21 rfl (lv_at hl 0 rfl) ?_
  refine lv_iconst (v := (nI 0)) xh bh dX3_becomeNew_22 (by decide) ?_
  refine va_put (D := D) (ci := 2) (v := .int (nI 0)) (ty := .int) (C := RX3) (T := TX3) (N := 10) xh bh hts (fun _ h => List.mem_cons_of_mem _ (List.mem_append_right _ (h))) tyX3 tyX3_ok nmX3 hown hK.1 hP hD hS 0 rfl rfl 8 (by decide) (hts _ (List.mem_of_getElem? (i := 4) rfl)) (fun _ h9 => h9) rfl (by decide +kernel) (by rfl) (by rfl) (Nat.le_of_ble_eq_true rfl) dX3_becomeNew_23 (fun H locs hP hD hS => ?_)
  have hP : va_P D vwCl [(h 0, .inr (2, [.ref (h 1), .ref (h 2), .ref (h 3), .ref (h 4), .ref (h 5), .ref (h 6), .ref (h 7), .long (lN 0), .int (nI 0), .int (nI un)])), (h 1, .inl (cJ, 8, .inr (.inl (fC (flT T ([]) 8))))), (h 2, .inl (cI, 8, .inl (flI P (-1) 8)))] H := hP
  have hD : va_D AG [(h 0, .inr (2, [.ref (h 1), .ref (h 2), .ref (h 3), .ref (h 4), .ref (h 5), .ref (h 6), .ref (h 7), .long (lN 0), .int (nI 0), .int (nI un)])), (h 1, .inl (cJ, 8, .inr (.inl (fC (flT T ([]) 8))))), (h 2, .inl (cI, 8, .inl (flI P (-1) 8)))] := hD
  refine lv_aload_n xh bh dX3_becomeNew_26 rfl (lv_at hl 0 rfl) ?_
  refine lv_iconst (v := (nI 0)) xh bh dX3_becomeNew_27 (by decide) ?_
  refine va_put (D := D) (ci := 2) (v := .int (nI 0)) (ty := .int) (C := RX3) (T := TX3) (N := 10) xh bh hts (fun _ h => List.mem_cons_of_mem _ (List.mem_append_right _ (h))) tyX3 tyX3_ok nmX3 hown hK.1 hP hD hS 0 rfl rfl 9 (by decide) (hts _ (List.mem_of_getElem? (i := 5) rfl)) (fun _ h9 => h9) rfl (by decide +kernel) (by rfl) (by rfl) (Nat.le_of_ble_eq_true rfl) dX3_becomeNew_28 (fun H locs hP hD hS => ?_)
  have hP : va_P D vwCl [(h 0, .inr (2, [.ref (h 1), .ref (h 2), .ref (h 3), .ref (h 4), .ref (h 5), .ref (h 6), .ref (h 7), .long (lN 0), .int (nI 0), .int (nI 0)])), (h 1, .inl (cJ, 8, .inr (.inl (fC (flT T ([]) 8))))), (h 2, .inl (cI, 8, .inl (flI P (-1) 8)))] H := hP
  have hD : va_D AG [(h 0, .inr (2, [.ref (h 1), .ref (h 2), .ref (h 3), .ref (h 4), .ref (h 5), .ref (h 6), .ref (h 7), .long (lN 0), .int (nI 0), .int (nI 0)])), (h 1, .inl (cJ, 8, .inr (.inl (fC (flT T ([]) 8))))), (h 2, .inl (cI, 8, .inl (flI P (-1) 8)))] := hD
  exact hend () _ _ _ _ rfl trivial dX3_becomeNew_31 hP hD hS

set_option maxHeartbeats 1000000 in
set_option maxRecDepth 100000 in
theorem ct_X3_becomeLike (l : Launch) (D : va_G) (cI cJ cB cZ cA : ClassId) (h : Nat → Nat) (T : Nat → List Nat) (P : Nat → Int32) (hp : Nat → Nat) (hi : Nat → Nat) (ub : Nat → Nat) (ut : Nat → List Nat) (up : Nat → Int32) (row : List Nat) (hc : Nat) (un : Nat) (g : Nat → Nat) (T2 : Nat → List Nat) (P2 : Nat → Int32) (hp2 : Nat → Nat) (hi2 : Nat → Nat) (ub2 : Nat → Nat) (ut2 : Nat → List Nat) (up2 : Nat → Int32) (row2 : List Nat) (hc2 : Nat) (un2 : Nat) : Ct l yX3_becomeLike wsX3_becomeLike ({ frames := 1, cells := 0, slots := 0, locals := 60 }) D (tysG cI cJ cB cZ cA) [.ref (h 0), .ref (g 0)] [(h 0, .inr (2, [.ref (h 1), .ref (h 2), .ref (h 3), .ref (h 4), .ref (h 5), .ref (h 6), .ref (h 7), .long (eC row), .int (nI hc), .int (nI un)])), (h 1, .inl (cJ, 8, .inr (.inl (fC T)))), (h 2, .inl (cI, 8, .inl P)), (h 3, .inl (cI, 6, .inl (fN hp))), (h 4, .inl (cI, 6, .inl (fN hi))), (h 5, .inl (cI, 8, .inl (fN ub))), (h 6, .inl (cJ, 8, .inr (.inl (fC ut)))), (h 7, .inl (cI, 8, .inl up)), (g 0, .inr (2, [.ref (g 1), .ref (g 2), .ref (g 3), .ref (g 4), .ref (g 5), .ref (g 6), .ref (g 7), .long (eC row2), .int (nI hc2), .int (nI un2)])), (g 1, .inl (cJ, 8, .inr (.inl (fC T2)))), (g 2, .inl (cI, 8, .inl P2)), (g 3, .inl (cI, 6, .inl (fN hp2))), (g 4, .inl (cI, 6, .inl (fN hi2))), (g 5, .inl (cI, 8, .inl (fN ub2))), (g 6, .inl (cJ, 8, .inr (.inl (fC ut2)))), (g 7, .inl (cI, 8, .inl up2))] (fun (_ : Unit) => True) (fun _ => none) (fun _ => [(h 0, .inr (2, [.ref (h 1), .ref (h 2), .ref (h 3), .ref (h 4), .ref (h 5), .ref (h 6), .ref (h 7), .long (eC row2), .int (nI hc2), .int (nI un2)])), (h 1, .inl (cJ, 8, .inr (.inl (fC (va_cpy T2 T 0 0 8))))), (h 2, .inl (cI, 8, .inl (va_cpy P2 P 0 0 8))), (h 3, .inl (cI, 6, .inl (fN (va_cpy hp2 hp 0 0 6)))), (h 4, .inl (cI, 6, .inl (fN (va_cpy hi2 hi 0 0 6)))), (h 5, .inl (cI, 8, .inl (fN (va_cpy ub2 ub 0 0 8)))), (h 6, .inl (cJ, 8, .inr (.inl (fC (va_cpy ut2 ut 0 0 8))))), (h 7, .inl (cI, 8, .inl (va_cpy up2 up 0 0 8))), (g 0, .inr (2, [.ref (g 1), .ref (g 2), .ref (g 3), .ref (g 4), .ref (g 5), .ref (g 6), .ref (g 7), .long (eC row2), .int (nI hc2), .int (nI un2)])), (g 1, .inl (cJ, 8, .inr (.inl (fC T2)))), (g 2, .inl (cI, 8, .inl P2)), (g 3, .inl (cI, 6, .inl (fN hp2))), (g 4, .inl (cI, 6, .inl (fN hi2))), (g 5, .inl (cI, 8, .inl (fN ub2))), (g 6, .inl (cJ, 8, .inr (.inl (fC ut2)))), (g 7, .inl (cI, 8, .inl up2))]) := by
  refine Ct.ofV (cc := cX3_becomeLike) (maxL := 2) (by decide) rfl (Nat.le_of_ble_eq_true rfl) ?_
  intro pG eG sG mG aG bG tG cG AG QG ls xh bh hml hown hts hK hP hD hS hA hend hl
  have hl : lv_has ls 2 [(0, .ref (h 0)), (1, .ref (g 0))] := hl
  refine lv_aload_n xh bh dX3_becomeLike_0 rfl (lv_at hl 1 rfl) ?_
  refine va_get (D := D) (ci := 2) (v := .ref (g 1)) (C := RX3) (T := TX3) (N := 10) xh bh hts (fun _ h => List.mem_cons_of_mem _ (List.mem_append_right _ (h))) hown hK.1 hP 8 rfl rfl 0 (by decide) (hts _ (List.mem_of_getElem? (i := 1) rfl)) (fun _ h9 => h9) rfl dX3_becomeLike_1 ?_
  refine lv_iconst (v := (nI 0)) xh bh dX3_becomeLike_4 (by decide) ?_
  refine lv_aload_n xh bh dX3_becomeLike_5 rfl (lv_at hl 0 rfl) ?_
  refine va_get (D := D) (ci := 2) (v := .ref (h 1)) (C := RX3) (T := TX3) (N := 10) xh bh hts (fun _ h => List.mem_cons_of_mem _ (List.mem_append_right _ (h))) hown hK.1 hP 0 rfl rfl 0 (by decide) (hts _ (List.mem_of_getElem? (i := 1) rfl)) (fun _ h9 => h9) rfl dX3_becomeLike_6 ?_
  refine lv_iconst (v := (nI 0)) xh bh dX3_becomeLike_9 (by decide) ?_
  refine lv_bipush (v := (nI 8)) xh bh dX3_becomeLike_10 (by decide) ?_
  refine xl_copy xh bh (by rw [hml]; exact hl.1.symm) hown (hts _ (List.mem_of_getElem? (i := 2) rfl)) (hts _ (List.mem_of_getElem? (i := 3) rfl)) (hts _ (List.mem_of_getElem? (i := 4) rfl)) (hts _ (List.mem_of_getElem? (i := 5) rfl)) hK.1 hP hD hS 9 1 1 rfl rfl rfl (by omega) (by omega) (by omega) (by omega) (Nat.le_of_ble_eq_true rfl) (Nat.le_of_ble_eq_true rfl) dX3_becomeLike_12 (fun H locs hP hD hS => ?_)
  have hP : va_P D vwCl [(h 0, .inr (2, [.ref (h 1), .ref (h 2), .ref (h 3), .ref (h 4), .ref (h 5), .ref (h 6), .ref (h 7), .long (eC row), .int (nI hc), .int (nI un)])), (h 1, .inl (cJ, 8, .inr (.inl (fC (va_cpy T2 T 0 0 8))))), (h 2, .inl (cI, 8, .inl P)), (h 3, .inl (cI, 6, .inl (fN hp))), (h 4, .inl (cI, 6, .inl (fN hi))), (h 5, .inl (cI, 8, .inl (fN ub))), (h 6, .inl (cJ, 8, .inr (.inl (fC ut)))), (h 7, .inl (cI, 8, .inl up)), (g 0, .inr (2, [.ref (g 1), .ref (g 2), .ref (g 3), .ref (g 4), .ref (g 5), .ref (g 6), .ref (g 7), .long (eC row2), .int (nI hc2), .int (nI un2)])), (g 1, .inl (cJ, 8, .inr (.inl (fC T2)))), (g 2, .inl (cI, 8, .inl P2)), (g 3, .inl (cI, 6, .inl (fN hp2))), (g 4, .inl (cI, 6, .inl (fN hi2))), (g 5, .inl (cI, 8, .inl (fN ub2))), (g 6, .inl (cJ, 8, .inr (.inl (fC ut2)))), (g 7, .inl (cI, 8, .inl up2))] H := by rw [← cpy_fC T2 T 0 0 8]; exact hP
  have hD : va_D AG [(h 0, .inr (2, [.ref (h 1), .ref (h 2), .ref (h 3), .ref (h 4), .ref (h 5), .ref (h 6), .ref (h 7), .long (eC row), .int (nI hc), .int (nI un)])), (h 1, .inl (cJ, 8, .inr (.inl (fC (va_cpy T2 T 0 0 8))))), (h 2, .inl (cI, 8, .inl P)), (h 3, .inl (cI, 6, .inl (fN hp))), (h 4, .inl (cI, 6, .inl (fN hi))), (h 5, .inl (cI, 8, .inl (fN ub))), (h 6, .inl (cJ, 8, .inr (.inl (fC ut)))), (h 7, .inl (cI, 8, .inl up)), (g 0, .inr (2, [.ref (g 1), .ref (g 2), .ref (g 3), .ref (g 4), .ref (g 5), .ref (g 6), .ref (g 7), .long (eC row2), .int (nI hc2), .int (nI un2)])), (g 1, .inl (cJ, 8, .inr (.inl (fC T2)))), (g 2, .inl (cI, 8, .inl P2)), (g 3, .inl (cI, 6, .inl (fN hp2))), (g 4, .inl (cI, 6, .inl (fN hi2))), (g 5, .inl (cI, 8, .inl (fN ub2))), (g 6, .inl (cJ, 8, .inr (.inl (fC ut2)))), (g 7, .inl (cI, 8, .inl up2))] := by rw [← cpy_fC T2 T 0 0 8]; exact hD
  refine lv_aload_n xh bh dX3_becomeLike_15 rfl (lv_at hl 1 rfl) ?_
  refine va_get (D := D) (ci := 2) (v := .ref (g 2)) (C := RX3) (T := TX3) (N := 10) xh bh hts (fun _ h => List.mem_cons_of_mem _ (List.mem_append_right _ (h))) hown hK.1 hP 8 rfl rfl 1 (by decide) (hts _ (List.mem_of_getElem? (i := 6) rfl)) (fun _ h9 => h9) rfl dX3_becomeLike_16 ?_
  refine lv_iconst (v := (nI 0)) xh bh dX3_becomeLike_19 (by decide) ?_
  refine lv_aload_n xh bh dX3_becomeLike_20 rfl (lv_at hl 0 rfl) ?_
  refine va_get (D := D) (ci := 2) (v := .ref (h 2)) (C := RX3) (T := TX3) (N := 10) xh bh hts (fun _ h => List.mem_cons_of_mem _ (List.mem_append_right _ (h))) hown hK.1 hP 0 rfl rfl 1 (by decide) (hts _ (List.mem_of_getElem? (i := 6) rfl)) (fun _ h9 => h9) rfl dX3_becomeLike_21 ?_
  refine lv_iconst (v := (nI 0)) xh bh dX3_becomeLike_24 (by decide) ?_
  refine lv_bipush (v := (nI 8)) xh bh dX3_becomeLike_25 (by decide) ?_
  refine xi_copy xh bh (by rw [hml]; exact hl.1.symm) hown (hts _ (List.mem_of_getElem? (i := 2) rfl)) (hts _ (List.mem_of_getElem? (i := 3) rfl)) (hts _ (List.mem_of_getElem? (i := 4) rfl)) (hts _ (List.mem_of_getElem? (i := 5) rfl)) hK.1 hP hD hS 10 2 0 rfl rfl rfl (by omega) (by omega) (by omega) (by omega) (Nat.le_of_ble_eq_true rfl) (Nat.le_of_ble_eq_true rfl) dX3_becomeLike_27 (fun H locs hP hD hS => ?_)
  have hP : va_P D vwCl [(h 0, .inr (2, [.ref (h 1), .ref (h 2), .ref (h 3), .ref (h 4), .ref (h 5), .ref (h 6), .ref (h 7), .long (eC row), .int (nI hc), .int (nI un)])), (h 1, .inl (cJ, 8, .inr (.inl (fC (va_cpy T2 T 0 0 8))))), (h 2, .inl (cI, 8, .inl (va_cpy P2 P 0 0 8))), (h 3, .inl (cI, 6, .inl (fN hp))), (h 4, .inl (cI, 6, .inl (fN hi))), (h 5, .inl (cI, 8, .inl (fN ub))), (h 6, .inl (cJ, 8, .inr (.inl (fC ut)))), (h 7, .inl (cI, 8, .inl up)), (g 0, .inr (2, [.ref (g 1), .ref (g 2), .ref (g 3), .ref (g 4), .ref (g 5), .ref (g 6), .ref (g 7), .long (eC row2), .int (nI hc2), .int (nI un2)])), (g 1, .inl (cJ, 8, .inr (.inl (fC T2)))), (g 2, .inl (cI, 8, .inl P2)), (g 3, .inl (cI, 6, .inl (fN hp2))), (g 4, .inl (cI, 6, .inl (fN hi2))), (g 5, .inl (cI, 8, .inl (fN ub2))), (g 6, .inl (cJ, 8, .inr (.inl (fC ut2)))), (g 7, .inl (cI, 8, .inl up2))] H := by exact hP
  have hD : va_D AG [(h 0, .inr (2, [.ref (h 1), .ref (h 2), .ref (h 3), .ref (h 4), .ref (h 5), .ref (h 6), .ref (h 7), .long (eC row), .int (nI hc), .int (nI un)])), (h 1, .inl (cJ, 8, .inr (.inl (fC (va_cpy T2 T 0 0 8))))), (h 2, .inl (cI, 8, .inl (va_cpy P2 P 0 0 8))), (h 3, .inl (cI, 6, .inl (fN hp))), (h 4, .inl (cI, 6, .inl (fN hi))), (h 5, .inl (cI, 8, .inl (fN ub))), (h 6, .inl (cJ, 8, .inr (.inl (fC ut)))), (h 7, .inl (cI, 8, .inl up)), (g 0, .inr (2, [.ref (g 1), .ref (g 2), .ref (g 3), .ref (g 4), .ref (g 5), .ref (g 6), .ref (g 7), .long (eC row2), .int (nI hc2), .int (nI un2)])), (g 1, .inl (cJ, 8, .inr (.inl (fC T2)))), (g 2, .inl (cI, 8, .inl P2)), (g 3, .inl (cI, 6, .inl (fN hp2))), (g 4, .inl (cI, 6, .inl (fN hi2))), (g 5, .inl (cI, 8, .inl (fN ub2))), (g 6, .inl (cJ, 8, .inr (.inl (fC ut2)))), (g 7, .inl (cI, 8, .inl up2))] := by exact hD
  refine lv_aload_n xh bh dX3_becomeLike_30 rfl (lv_at hl 1 rfl) ?_
  refine va_get (D := D) (ci := 2) (v := .ref (g 3)) (C := RX3) (T := TX3) (N := 10) xh bh hts (fun _ h => List.mem_cons_of_mem _ (List.mem_append_right _ (h))) hown hK.1 hP 8 rfl rfl 2 (by decide) (hts _ (List.mem_of_getElem? (i := 7) rfl)) (fun _ h9 => h9) rfl dX3_becomeLike_31 ?_
  refine lv_iconst (v := (nI 0)) xh bh dX3_becomeLike_34 (by decide) ?_
  refine lv_aload_n xh bh dX3_becomeLike_35 rfl (lv_at hl 0 rfl) ?_
  refine va_get (D := D) (ci := 2) (v := .ref (h 3)) (C := RX3) (T := TX3) (N := 10) xh bh hts (fun _ h => List.mem_cons_of_mem _ (List.mem_append_right _ (h))) hown hK.1 hP 0 rfl rfl 2 (by decide) (hts _ (List.mem_of_getElem? (i := 7) rfl)) (fun _ h9 => h9) rfl dX3_becomeLike_36 ?_
  refine lv_iconst (v := (nI 0)) xh bh dX3_becomeLike_39 (by decide) ?_
  refine lv_bipush (v := (nI 6)) xh bh dX3_becomeLike_40 (by decide) ?_
  refine xi_copy xh bh (by rw [hml]; exact hl.1.symm) hown (hts _ (List.mem_of_getElem? (i := 2) rfl)) (hts _ (List.mem_of_getElem? (i := 3) rfl)) (hts _ (List.mem_of_getElem? (i := 4) rfl)) (hts _ (List.mem_of_getElem? (i := 5) rfl)) hK.1 hP hD hS 11 3 0 rfl rfl rfl (by omega) (by omega) (by omega) (by omega) (Nat.le_of_ble_eq_true rfl) (Nat.le_of_ble_eq_true rfl) dX3_becomeLike_42 (fun H locs hP hD hS => ?_)
  have hP : va_P D vwCl [(h 0, .inr (2, [.ref (h 1), .ref (h 2), .ref (h 3), .ref (h 4), .ref (h 5), .ref (h 6), .ref (h 7), .long (eC row), .int (nI hc), .int (nI un)])), (h 1, .inl (cJ, 8, .inr (.inl (fC (va_cpy T2 T 0 0 8))))), (h 2, .inl (cI, 8, .inl (va_cpy P2 P 0 0 8))), (h 3, .inl (cI, 6, .inl (fN (va_cpy hp2 hp 0 0 6)))), (h 4, .inl (cI, 6, .inl (fN hi))), (h 5, .inl (cI, 8, .inl (fN ub))), (h 6, .inl (cJ, 8, .inr (.inl (fC ut)))), (h 7, .inl (cI, 8, .inl up)), (g 0, .inr (2, [.ref (g 1), .ref (g 2), .ref (g 3), .ref (g 4), .ref (g 5), .ref (g 6), .ref (g 7), .long (eC row2), .int (nI hc2), .int (nI un2)])), (g 1, .inl (cJ, 8, .inr (.inl (fC T2)))), (g 2, .inl (cI, 8, .inl P2)), (g 3, .inl (cI, 6, .inl (fN hp2))), (g 4, .inl (cI, 6, .inl (fN hi2))), (g 5, .inl (cI, 8, .inl (fN ub2))), (g 6, .inl (cJ, 8, .inr (.inl (fC ut2)))), (g 7, .inl (cI, 8, .inl up2))] H := by rw [← cpy_fN hp2 hp 0 0 6]; exact hP
  have hD : va_D AG [(h 0, .inr (2, [.ref (h 1), .ref (h 2), .ref (h 3), .ref (h 4), .ref (h 5), .ref (h 6), .ref (h 7), .long (eC row), .int (nI hc), .int (nI un)])), (h 1, .inl (cJ, 8, .inr (.inl (fC (va_cpy T2 T 0 0 8))))), (h 2, .inl (cI, 8, .inl (va_cpy P2 P 0 0 8))), (h 3, .inl (cI, 6, .inl (fN (va_cpy hp2 hp 0 0 6)))), (h 4, .inl (cI, 6, .inl (fN hi))), (h 5, .inl (cI, 8, .inl (fN ub))), (h 6, .inl (cJ, 8, .inr (.inl (fC ut)))), (h 7, .inl (cI, 8, .inl up)), (g 0, .inr (2, [.ref (g 1), .ref (g 2), .ref (g 3), .ref (g 4), .ref (g 5), .ref (g 6), .ref (g 7), .long (eC row2), .int (nI hc2), .int (nI un2)])), (g 1, .inl (cJ, 8, .inr (.inl (fC T2)))), (g 2, .inl (cI, 8, .inl P2)), (g 3, .inl (cI, 6, .inl (fN hp2))), (g 4, .inl (cI, 6, .inl (fN hi2))), (g 5, .inl (cI, 8, .inl (fN ub2))), (g 6, .inl (cJ, 8, .inr (.inl (fC ut2)))), (g 7, .inl (cI, 8, .inl up2))] := by rw [← cpy_fN hp2 hp 0 0 6]; exact hD
  refine lv_aload_n xh bh dX3_becomeLike_45 rfl (lv_at hl 1 rfl) ?_
  refine va_get (D := D) (ci := 2) (v := .ref (g 4)) (C := RX3) (T := TX3) (N := 10) xh bh hts (fun _ h => List.mem_cons_of_mem _ (List.mem_append_right _ (h))) hown hK.1 hP 8 rfl rfl 3 (by decide) (hts _ (List.mem_of_getElem? (i := 8) rfl)) (fun _ h9 => h9) rfl dX3_becomeLike_46 ?_
  refine lv_iconst (v := (nI 0)) xh bh dX3_becomeLike_49 (by decide) ?_
  refine lv_aload_n xh bh dX3_becomeLike_50 rfl (lv_at hl 0 rfl) ?_
  refine va_get (D := D) (ci := 2) (v := .ref (h 4)) (C := RX3) (T := TX3) (N := 10) xh bh hts (fun _ h => List.mem_cons_of_mem _ (List.mem_append_right _ (h))) hown hK.1 hP 0 rfl rfl 3 (by decide) (hts _ (List.mem_of_getElem? (i := 8) rfl)) (fun _ h9 => h9) rfl dX3_becomeLike_51 ?_
  refine lv_iconst (v := (nI 0)) xh bh dX3_becomeLike_54 (by decide) ?_
  refine lv_bipush (v := (nI 6)) xh bh dX3_becomeLike_55 (by decide) ?_
  refine xi_copy xh bh (by rw [hml]; exact hl.1.symm) hown (hts _ (List.mem_of_getElem? (i := 2) rfl)) (hts _ (List.mem_of_getElem? (i := 3) rfl)) (hts _ (List.mem_of_getElem? (i := 4) rfl)) (hts _ (List.mem_of_getElem? (i := 5) rfl)) hK.1 hP hD hS 12 4 0 rfl rfl rfl (by omega) (by omega) (by omega) (by omega) (Nat.le_of_ble_eq_true rfl) (Nat.le_of_ble_eq_true rfl) dX3_becomeLike_57 (fun H locs hP hD hS => ?_)
  have hP : va_P D vwCl [(h 0, .inr (2, [.ref (h 1), .ref (h 2), .ref (h 3), .ref (h 4), .ref (h 5), .ref (h 6), .ref (h 7), .long (eC row), .int (nI hc), .int (nI un)])), (h 1, .inl (cJ, 8, .inr (.inl (fC (va_cpy T2 T 0 0 8))))), (h 2, .inl (cI, 8, .inl (va_cpy P2 P 0 0 8))), (h 3, .inl (cI, 6, .inl (fN (va_cpy hp2 hp 0 0 6)))), (h 4, .inl (cI, 6, .inl (fN (va_cpy hi2 hi 0 0 6)))), (h 5, .inl (cI, 8, .inl (fN ub))), (h 6, .inl (cJ, 8, .inr (.inl (fC ut)))), (h 7, .inl (cI, 8, .inl up)), (g 0, .inr (2, [.ref (g 1), .ref (g 2), .ref (g 3), .ref (g 4), .ref (g 5), .ref (g 6), .ref (g 7), .long (eC row2), .int (nI hc2), .int (nI un2)])), (g 1, .inl (cJ, 8, .inr (.inl (fC T2)))), (g 2, .inl (cI, 8, .inl P2)), (g 3, .inl (cI, 6, .inl (fN hp2))), (g 4, .inl (cI, 6, .inl (fN hi2))), (g 5, .inl (cI, 8, .inl (fN ub2))), (g 6, .inl (cJ, 8, .inr (.inl (fC ut2)))), (g 7, .inl (cI, 8, .inl up2))] H := by rw [← cpy_fN hi2 hi 0 0 6]; exact hP
  have hD : va_D AG [(h 0, .inr (2, [.ref (h 1), .ref (h 2), .ref (h 3), .ref (h 4), .ref (h 5), .ref (h 6), .ref (h 7), .long (eC row), .int (nI hc), .int (nI un)])), (h 1, .inl (cJ, 8, .inr (.inl (fC (va_cpy T2 T 0 0 8))))), (h 2, .inl (cI, 8, .inl (va_cpy P2 P 0 0 8))), (h 3, .inl (cI, 6, .inl (fN (va_cpy hp2 hp 0 0 6)))), (h 4, .inl (cI, 6, .inl (fN (va_cpy hi2 hi 0 0 6)))), (h 5, .inl (cI, 8, .inl (fN ub))), (h 6, .inl (cJ, 8, .inr (.inl (fC ut)))), (h 7, .inl (cI, 8, .inl up)), (g 0, .inr (2, [.ref (g 1), .ref (g 2), .ref (g 3), .ref (g 4), .ref (g 5), .ref (g 6), .ref (g 7), .long (eC row2), .int (nI hc2), .int (nI un2)])), (g 1, .inl (cJ, 8, .inr (.inl (fC T2)))), (g 2, .inl (cI, 8, .inl P2)), (g 3, .inl (cI, 6, .inl (fN hp2))), (g 4, .inl (cI, 6, .inl (fN hi2))), (g 5, .inl (cI, 8, .inl (fN ub2))), (g 6, .inl (cJ, 8, .inr (.inl (fC ut2)))), (g 7, .inl (cI, 8, .inl up2))] := by rw [← cpy_fN hi2 hi 0 0 6]; exact hD
  refine lv_aload_n xh bh dX3_becomeLike_60 rfl (lv_at hl 1 rfl) ?_
  refine va_get (D := D) (ci := 2) (v := .ref (g 5)) (C := RX3) (T := TX3) (N := 10) xh bh hts (fun _ h => List.mem_cons_of_mem _ (List.mem_append_right _ (h))) hown hK.1 hP 8 rfl rfl 4 (by decide) (hts _ (List.mem_of_getElem? (i := 9) rfl)) (fun _ h9 => h9) rfl dX3_becomeLike_61 ?_
  refine lv_iconst (v := (nI 0)) xh bh dX3_becomeLike_64 (by decide) ?_
  refine lv_aload_n xh bh dX3_becomeLike_65 rfl (lv_at hl 0 rfl) ?_
  refine va_get (D := D) (ci := 2) (v := .ref (h 5)) (C := RX3) (T := TX3) (N := 10) xh bh hts (fun _ h => List.mem_cons_of_mem _ (List.mem_append_right _ (h))) hown hK.1 hP 0 rfl rfl 4 (by decide) (hts _ (List.mem_of_getElem? (i := 9) rfl)) (fun _ h9 => h9) rfl dX3_becomeLike_66 ?_
  refine lv_iconst (v := (nI 0)) xh bh dX3_becomeLike_69 (by decide) ?_
  refine lv_bipush (v := (nI 8)) xh bh dX3_becomeLike_70 (by decide) ?_
  refine xi_copy xh bh (by rw [hml]; exact hl.1.symm) hown (hts _ (List.mem_of_getElem? (i := 2) rfl)) (hts _ (List.mem_of_getElem? (i := 3) rfl)) (hts _ (List.mem_of_getElem? (i := 4) rfl)) (hts _ (List.mem_of_getElem? (i := 5) rfl)) hK.1 hP hD hS 13 5 0 rfl rfl rfl (by omega) (by omega) (by omega) (by omega) (Nat.le_of_ble_eq_true rfl) (Nat.le_of_ble_eq_true rfl) dX3_becomeLike_72 (fun H locs hP hD hS => ?_)
  have hP : va_P D vwCl [(h 0, .inr (2, [.ref (h 1), .ref (h 2), .ref (h 3), .ref (h 4), .ref (h 5), .ref (h 6), .ref (h 7), .long (eC row), .int (nI hc), .int (nI un)])), (h 1, .inl (cJ, 8, .inr (.inl (fC (va_cpy T2 T 0 0 8))))), (h 2, .inl (cI, 8, .inl (va_cpy P2 P 0 0 8))), (h 3, .inl (cI, 6, .inl (fN (va_cpy hp2 hp 0 0 6)))), (h 4, .inl (cI, 6, .inl (fN (va_cpy hi2 hi 0 0 6)))), (h 5, .inl (cI, 8, .inl (fN (va_cpy ub2 ub 0 0 8)))), (h 6, .inl (cJ, 8, .inr (.inl (fC ut)))), (h 7, .inl (cI, 8, .inl up)), (g 0, .inr (2, [.ref (g 1), .ref (g 2), .ref (g 3), .ref (g 4), .ref (g 5), .ref (g 6), .ref (g 7), .long (eC row2), .int (nI hc2), .int (nI un2)])), (g 1, .inl (cJ, 8, .inr (.inl (fC T2)))), (g 2, .inl (cI, 8, .inl P2)), (g 3, .inl (cI, 6, .inl (fN hp2))), (g 4, .inl (cI, 6, .inl (fN hi2))), (g 5, .inl (cI, 8, .inl (fN ub2))), (g 6, .inl (cJ, 8, .inr (.inl (fC ut2)))), (g 7, .inl (cI, 8, .inl up2))] H := by rw [← cpy_fN ub2 ub 0 0 8]; exact hP
  have hD : va_D AG [(h 0, .inr (2, [.ref (h 1), .ref (h 2), .ref (h 3), .ref (h 4), .ref (h 5), .ref (h 6), .ref (h 7), .long (eC row), .int (nI hc), .int (nI un)])), (h 1, .inl (cJ, 8, .inr (.inl (fC (va_cpy T2 T 0 0 8))))), (h 2, .inl (cI, 8, .inl (va_cpy P2 P 0 0 8))), (h 3, .inl (cI, 6, .inl (fN (va_cpy hp2 hp 0 0 6)))), (h 4, .inl (cI, 6, .inl (fN (va_cpy hi2 hi 0 0 6)))), (h 5, .inl (cI, 8, .inl (fN (va_cpy ub2 ub 0 0 8)))), (h 6, .inl (cJ, 8, .inr (.inl (fC ut)))), (h 7, .inl (cI, 8, .inl up)), (g 0, .inr (2, [.ref (g 1), .ref (g 2), .ref (g 3), .ref (g 4), .ref (g 5), .ref (g 6), .ref (g 7), .long (eC row2), .int (nI hc2), .int (nI un2)])), (g 1, .inl (cJ, 8, .inr (.inl (fC T2)))), (g 2, .inl (cI, 8, .inl P2)), (g 3, .inl (cI, 6, .inl (fN hp2))), (g 4, .inl (cI, 6, .inl (fN hi2))), (g 5, .inl (cI, 8, .inl (fN ub2))), (g 6, .inl (cJ, 8, .inr (.inl (fC ut2)))), (g 7, .inl (cI, 8, .inl up2))] := by rw [← cpy_fN ub2 ub 0 0 8]; exact hD
  refine lv_aload_n xh bh dX3_becomeLike_75 rfl (lv_at hl 1 rfl) ?_
  refine va_get (D := D) (ci := 2) (v := .ref (g 6)) (C := RX3) (T := TX3) (N := 10) xh bh hts (fun _ h => List.mem_cons_of_mem _ (List.mem_append_right _ (h))) hown hK.1 hP 8 rfl rfl 5 (by decide) (hts _ (List.mem_of_getElem? (i := 10) rfl)) (fun _ h9 => h9) rfl dX3_becomeLike_76 ?_
  refine lv_iconst (v := (nI 0)) xh bh dX3_becomeLike_79 (by decide) ?_
  refine lv_aload_n xh bh dX3_becomeLike_80 rfl (lv_at hl 0 rfl) ?_
  refine va_get (D := D) (ci := 2) (v := .ref (h 6)) (C := RX3) (T := TX3) (N := 10) xh bh hts (fun _ h => List.mem_cons_of_mem _ (List.mem_append_right _ (h))) hown hK.1 hP 0 rfl rfl 5 (by decide) (hts _ (List.mem_of_getElem? (i := 10) rfl)) (fun _ h9 => h9) rfl dX3_becomeLike_81 ?_
  refine lv_iconst (v := (nI 0)) xh bh dX3_becomeLike_84 (by decide) ?_
  refine lv_bipush (v := (nI 8)) xh bh dX3_becomeLike_85 (by decide) ?_
  refine xl_copy xh bh (by rw [hml]; exact hl.1.symm) hown (hts _ (List.mem_of_getElem? (i := 2) rfl)) (hts _ (List.mem_of_getElem? (i := 3) rfl)) (hts _ (List.mem_of_getElem? (i := 4) rfl)) (hts _ (List.mem_of_getElem? (i := 5) rfl)) hK.1 hP hD hS 14 6 1 rfl rfl rfl (by omega) (by omega) (by omega) (by omega) (Nat.le_of_ble_eq_true rfl) (Nat.le_of_ble_eq_true rfl) dX3_becomeLike_87 (fun H locs hP hD hS => ?_)
  have hP : va_P D vwCl [(h 0, .inr (2, [.ref (h 1), .ref (h 2), .ref (h 3), .ref (h 4), .ref (h 5), .ref (h 6), .ref (h 7), .long (eC row), .int (nI hc), .int (nI un)])), (h 1, .inl (cJ, 8, .inr (.inl (fC (va_cpy T2 T 0 0 8))))), (h 2, .inl (cI, 8, .inl (va_cpy P2 P 0 0 8))), (h 3, .inl (cI, 6, .inl (fN (va_cpy hp2 hp 0 0 6)))), (h 4, .inl (cI, 6, .inl (fN (va_cpy hi2 hi 0 0 6)))), (h 5, .inl (cI, 8, .inl (fN (va_cpy ub2 ub 0 0 8)))), (h 6, .inl (cJ, 8, .inr (.inl (fC (va_cpy ut2 ut 0 0 8))))), (h 7, .inl (cI, 8, .inl up)), (g 0, .inr (2, [.ref (g 1), .ref (g 2), .ref (g 3), .ref (g 4), .ref (g 5), .ref (g 6), .ref (g 7), .long (eC row2), .int (nI hc2), .int (nI un2)])), (g 1, .inl (cJ, 8, .inr (.inl (fC T2)))), (g 2, .inl (cI, 8, .inl P2)), (g 3, .inl (cI, 6, .inl (fN hp2))), (g 4, .inl (cI, 6, .inl (fN hi2))), (g 5, .inl (cI, 8, .inl (fN ub2))), (g 6, .inl (cJ, 8, .inr (.inl (fC ut2)))), (g 7, .inl (cI, 8, .inl up2))] H := by rw [← cpy_fC ut2 ut 0 0 8]; exact hP
  have hD : va_D AG [(h 0, .inr (2, [.ref (h 1), .ref (h 2), .ref (h 3), .ref (h 4), .ref (h 5), .ref (h 6), .ref (h 7), .long (eC row), .int (nI hc), .int (nI un)])), (h 1, .inl (cJ, 8, .inr (.inl (fC (va_cpy T2 T 0 0 8))))), (h 2, .inl (cI, 8, .inl (va_cpy P2 P 0 0 8))), (h 3, .inl (cI, 6, .inl (fN (va_cpy hp2 hp 0 0 6)))), (h 4, .inl (cI, 6, .inl (fN (va_cpy hi2 hi 0 0 6)))), (h 5, .inl (cI, 8, .inl (fN (va_cpy ub2 ub 0 0 8)))), (h 6, .inl (cJ, 8, .inr (.inl (fC (va_cpy ut2 ut 0 0 8))))), (h 7, .inl (cI, 8, .inl up)), (g 0, .inr (2, [.ref (g 1), .ref (g 2), .ref (g 3), .ref (g 4), .ref (g 5), .ref (g 6), .ref (g 7), .long (eC row2), .int (nI hc2), .int (nI un2)])), (g 1, .inl (cJ, 8, .inr (.inl (fC T2)))), (g 2, .inl (cI, 8, .inl P2)), (g 3, .inl (cI, 6, .inl (fN hp2))), (g 4, .inl (cI, 6, .inl (fN hi2))), (g 5, .inl (cI, 8, .inl (fN ub2))), (g 6, .inl (cJ, 8, .inr (.inl (fC ut2)))), (g 7, .inl (cI, 8, .inl up2))] := by rw [← cpy_fC ut2 ut 0 0 8]; exact hD
  refine lv_aload_n xh bh dX3_becomeLike_90 rfl (lv_at hl 1 rfl) ?_
  refine va_get (D := D) (ci := 2) (v := .ref (g 7)) (C := RX3) (T := TX3) (N := 10) xh bh hts (fun _ h => List.mem_cons_of_mem _ (List.mem_append_right _ (h))) hown hK.1 hP 8 rfl rfl 6 (by decide) (hts _ (List.mem_of_getElem? (i := 11) rfl)) (fun _ h9 => h9) rfl dX3_becomeLike_91 ?_
  refine lv_iconst (v := (nI 0)) xh bh dX3_becomeLike_94 (by decide) ?_
  refine lv_aload_n xh bh dX3_becomeLike_95 rfl (lv_at hl 0 rfl) ?_
  refine va_get (D := D) (ci := 2) (v := .ref (h 7)) (C := RX3) (T := TX3) (N := 10) xh bh hts (fun _ h => List.mem_cons_of_mem _ (List.mem_append_right _ (h))) hown hK.1 hP 0 rfl rfl 6 (by decide) (hts _ (List.mem_of_getElem? (i := 11) rfl)) (fun _ h9 => h9) rfl dX3_becomeLike_96 ?_
  refine lv_iconst (v := (nI 0)) xh bh dX3_becomeLike_99 (by decide) ?_
  refine lv_bipush (v := (nI 8)) xh bh dX3_becomeLike_100 (by decide) ?_
  refine xi_copy xh bh (by rw [hml]; exact hl.1.symm) hown (hts _ (List.mem_of_getElem? (i := 2) rfl)) (hts _ (List.mem_of_getElem? (i := 3) rfl)) (hts _ (List.mem_of_getElem? (i := 4) rfl)) (hts _ (List.mem_of_getElem? (i := 5) rfl)) hK.1 hP hD hS 15 7 0 rfl rfl rfl (by omega) (by omega) (by omega) (by omega) (Nat.le_of_ble_eq_true rfl) (Nat.le_of_ble_eq_true rfl) dX3_becomeLike_102 (fun H locs hP hD hS => ?_)
  have hP : va_P D vwCl [(h 0, .inr (2, [.ref (h 1), .ref (h 2), .ref (h 3), .ref (h 4), .ref (h 5), .ref (h 6), .ref (h 7), .long (eC row), .int (nI hc), .int (nI un)])), (h 1, .inl (cJ, 8, .inr (.inl (fC (va_cpy T2 T 0 0 8))))), (h 2, .inl (cI, 8, .inl (va_cpy P2 P 0 0 8))), (h 3, .inl (cI, 6, .inl (fN (va_cpy hp2 hp 0 0 6)))), (h 4, .inl (cI, 6, .inl (fN (va_cpy hi2 hi 0 0 6)))), (h 5, .inl (cI, 8, .inl (fN (va_cpy ub2 ub 0 0 8)))), (h 6, .inl (cJ, 8, .inr (.inl (fC (va_cpy ut2 ut 0 0 8))))), (h 7, .inl (cI, 8, .inl (va_cpy up2 up 0 0 8))), (g 0, .inr (2, [.ref (g 1), .ref (g 2), .ref (g 3), .ref (g 4), .ref (g 5), .ref (g 6), .ref (g 7), .long (eC row2), .int (nI hc2), .int (nI un2)])), (g 1, .inl (cJ, 8, .inr (.inl (fC T2)))), (g 2, .inl (cI, 8, .inl P2)), (g 3, .inl (cI, 6, .inl (fN hp2))), (g 4, .inl (cI, 6, .inl (fN hi2))), (g 5, .inl (cI, 8, .inl (fN ub2))), (g 6, .inl (cJ, 8, .inr (.inl (fC ut2)))), (g 7, .inl (cI, 8, .inl up2))] H := by exact hP
  have hD : va_D AG [(h 0, .inr (2, [.ref (h 1), .ref (h 2), .ref (h 3), .ref (h 4), .ref (h 5), .ref (h 6), .ref (h 7), .long (eC row), .int (nI hc), .int (nI un)])), (h 1, .inl (cJ, 8, .inr (.inl (fC (va_cpy T2 T 0 0 8))))), (h 2, .inl (cI, 8, .inl (va_cpy P2 P 0 0 8))), (h 3, .inl (cI, 6, .inl (fN (va_cpy hp2 hp 0 0 6)))), (h 4, .inl (cI, 6, .inl (fN (va_cpy hi2 hi 0 0 6)))), (h 5, .inl (cI, 8, .inl (fN (va_cpy ub2 ub 0 0 8)))), (h 6, .inl (cJ, 8, .inr (.inl (fC (va_cpy ut2 ut 0 0 8))))), (h 7, .inl (cI, 8, .inl (va_cpy up2 up 0 0 8))), (g 0, .inr (2, [.ref (g 1), .ref (g 2), .ref (g 3), .ref (g 4), .ref (g 5), .ref (g 6), .ref (g 7), .long (eC row2), .int (nI hc2), .int (nI un2)])), (g 1, .inl (cJ, 8, .inr (.inl (fC T2)))), (g 2, .inl (cI, 8, .inl P2)), (g 3, .inl (cI, 6, .inl (fN hp2))), (g 4, .inl (cI, 6, .inl (fN hi2))), (g 5, .inl (cI, 8, .inl (fN ub2))), (g 6, .inl (cJ, 8, .inr (.inl (fC ut2)))), (g 7, .inl (cI, 8, .inl up2))] := by exact hD
  refine lv_aload_n xh bh dX3_becomeLike_105 rfl (lv_at hl 0 rfl) ?_
  refine lv_aload_n xh bh dX3_becomeLike_106 rfl (lv_at hl 1 rfl) ?_
  refine va_get (D := D) (ci := 2) (v := .long (eC row2)) (C := RX3) (T := TX3) (N := 10) xh bh hts (fun _ h => List.mem_cons_of_mem _ (List.mem_append_right _ (h))) hown hK.1 hP 8 rfl rfl 7 (by decide) (hts _ (List.mem_of_getElem? (i := 12) rfl)) (fun _ h9 => h9) rfl dX3_becomeLike_107 ?_
  refine va_put (D := D) (ci := 2) (v := .long (eC row2)) (ty := .long) (C := RX3) (T := TX3) (N := 10) xh bh hts (fun _ h => List.mem_cons_of_mem _ (List.mem_append_right _ (h))) tyX3 tyX3_ok nmX3 hown hK.1 hP hD hS 0 rfl rfl 7 (by decide) (hts _ (List.mem_of_getElem? (i := 12) rfl)) (fun _ h9 => h9) rfl (by decide +kernel) (by rfl) (by rfl) (Nat.le_of_ble_eq_true rfl) dX3_becomeLike_110 (fun H locs hP hD hS => ?_)
  have hP : va_P D vwCl [(h 0, .inr (2, [.ref (h 1), .ref (h 2), .ref (h 3), .ref (h 4), .ref (h 5), .ref (h 6), .ref (h 7), .long (eC row2), .int (nI hc), .int (nI un)])), (h 1, .inl (cJ, 8, .inr (.inl (fC (va_cpy T2 T 0 0 8))))), (h 2, .inl (cI, 8, .inl (va_cpy P2 P 0 0 8))), (h 3, .inl (cI, 6, .inl (fN (va_cpy hp2 hp 0 0 6)))), (h 4, .inl (cI, 6, .inl (fN (va_cpy hi2 hi 0 0 6)))), (h 5, .inl (cI, 8, .inl (fN (va_cpy ub2 ub 0 0 8)))), (h 6, .inl (cJ, 8, .inr (.inl (fC (va_cpy ut2 ut 0 0 8))))), (h 7, .inl (cI, 8, .inl (va_cpy up2 up 0 0 8))), (g 0, .inr (2, [.ref (g 1), .ref (g 2), .ref (g 3), .ref (g 4), .ref (g 5), .ref (g 6), .ref (g 7), .long (eC row2), .int (nI hc2), .int (nI un2)])), (g 1, .inl (cJ, 8, .inr (.inl (fC T2)))), (g 2, .inl (cI, 8, .inl P2)), (g 3, .inl (cI, 6, .inl (fN hp2))), (g 4, .inl (cI, 6, .inl (fN hi2))), (g 5, .inl (cI, 8, .inl (fN ub2))), (g 6, .inl (cJ, 8, .inr (.inl (fC ut2)))), (g 7, .inl (cI, 8, .inl up2))] H := hP
  have hD : va_D AG [(h 0, .inr (2, [.ref (h 1), .ref (h 2), .ref (h 3), .ref (h 4), .ref (h 5), .ref (h 6), .ref (h 7), .long (eC row2), .int (nI hc), .int (nI un)])), (h 1, .inl (cJ, 8, .inr (.inl (fC (va_cpy T2 T 0 0 8))))), (h 2, .inl (cI, 8, .inl (va_cpy P2 P 0 0 8))), (h 3, .inl (cI, 6, .inl (fN (va_cpy hp2 hp 0 0 6)))), (h 4, .inl (cI, 6, .inl (fN (va_cpy hi2 hi 0 0 6)))), (h 5, .inl (cI, 8, .inl (fN (va_cpy ub2 ub 0 0 8)))), (h 6, .inl (cJ, 8, .inr (.inl (fC (va_cpy ut2 ut 0 0 8))))), (h 7, .inl (cI, 8, .inl (va_cpy up2 up 0 0 8))), (g 0, .inr (2, [.ref (g 1), .ref (g 2), .ref (g 3), .ref (g 4), .ref (g 5), .ref (g 6), .ref (g 7), .long (eC row2), .int (nI hc2), .int (nI un2)])), (g 1, .inl (cJ, 8, .inr (.inl (fC T2)))), (g 2, .inl (cI, 8, .inl P2)), (g 3, .inl (cI, 6, .inl (fN hp2))), (g 4, .inl (cI, 6, .inl (fN hi2))), (g 5, .inl (cI, 8, .inl (fN ub2))), (g 6, .inl (cJ, 8, .inr (.inl (fC ut2)))), (g 7, .inl (cI, 8, .inl up2))] := hD
  refine lv_aload_n xh bh dX3_becomeLike_113 rfl (lv_at hl 0 rfl) ?_
  refine lv_aload_n xh bh dX3_becomeLike_114 rfl (lv_at hl 1 rfl) ?_
  refine va_get (D := D) (ci := 2) (v := .int (nI hc2)) (C := RX3) (T := TX3) (N := 10) xh bh hts (fun _ h => List.mem_cons_of_mem _ (List.mem_append_right _ (h))) hown hK.1 hP 8 rfl rfl 8 (by decide) (hts _ (List.mem_of_getElem? (i := 13) rfl)) (fun _ h9 => h9) rfl dX3_becomeLike_115 ?_
  refine va_put (D := D) (ci := 2) (v := .int (nI hc2)) (ty := .int) (C := RX3) (T := TX3) (N := 10) xh bh hts (fun _ h => List.mem_cons_of_mem _ (List.mem_append_right _ (h))) tyX3 tyX3_ok nmX3 hown hK.1 hP hD hS 0 rfl rfl 8 (by decide) (hts _ (List.mem_of_getElem? (i := 13) rfl)) (fun _ h9 => h9) rfl (by decide +kernel) (by rfl) (by rfl) (Nat.le_of_ble_eq_true rfl) dX3_becomeLike_118 (fun H locs hP hD hS => ?_)
  have hP : va_P D vwCl [(h 0, .inr (2, [.ref (h 1), .ref (h 2), .ref (h 3), .ref (h 4), .ref (h 5), .ref (h 6), .ref (h 7), .long (eC row2), .int (nI hc2), .int (nI un)])), (h 1, .inl (cJ, 8, .inr (.inl (fC (va_cpy T2 T 0 0 8))))), (h 2, .inl (cI, 8, .inl (va_cpy P2 P 0 0 8))), (h 3, .inl (cI, 6, .inl (fN (va_cpy hp2 hp 0 0 6)))), (h 4, .inl (cI, 6, .inl (fN (va_cpy hi2 hi 0 0 6)))), (h 5, .inl (cI, 8, .inl (fN (va_cpy ub2 ub 0 0 8)))), (h 6, .inl (cJ, 8, .inr (.inl (fC (va_cpy ut2 ut 0 0 8))))), (h 7, .inl (cI, 8, .inl (va_cpy up2 up 0 0 8))), (g 0, .inr (2, [.ref (g 1), .ref (g 2), .ref (g 3), .ref (g 4), .ref (g 5), .ref (g 6), .ref (g 7), .long (eC row2), .int (nI hc2), .int (nI un2)])), (g 1, .inl (cJ, 8, .inr (.inl (fC T2)))), (g 2, .inl (cI, 8, .inl P2)), (g 3, .inl (cI, 6, .inl (fN hp2))), (g 4, .inl (cI, 6, .inl (fN hi2))), (g 5, .inl (cI, 8, .inl (fN ub2))), (g 6, .inl (cJ, 8, .inr (.inl (fC ut2)))), (g 7, .inl (cI, 8, .inl up2))] H := hP
  have hD : va_D AG [(h 0, .inr (2, [.ref (h 1), .ref (h 2), .ref (h 3), .ref (h 4), .ref (h 5), .ref (h 6), .ref (h 7), .long (eC row2), .int (nI hc2), .int (nI un)])), (h 1, .inl (cJ, 8, .inr (.inl (fC (va_cpy T2 T 0 0 8))))), (h 2, .inl (cI, 8, .inl (va_cpy P2 P 0 0 8))), (h 3, .inl (cI, 6, .inl (fN (va_cpy hp2 hp 0 0 6)))), (h 4, .inl (cI, 6, .inl (fN (va_cpy hi2 hi 0 0 6)))), (h 5, .inl (cI, 8, .inl (fN (va_cpy ub2 ub 0 0 8)))), (h 6, .inl (cJ, 8, .inr (.inl (fC (va_cpy ut2 ut 0 0 8))))), (h 7, .inl (cI, 8, .inl (va_cpy up2 up 0 0 8))), (g 0, .inr (2, [.ref (g 1), .ref (g 2), .ref (g 3), .ref (g 4), .ref (g 5), .ref (g 6), .ref (g 7), .long (eC row2), .int (nI hc2), .int (nI un2)])), (g 1, .inl (cJ, 8, .inr (.inl (fC T2)))), (g 2, .inl (cI, 8, .inl P2)), (g 3, .inl (cI, 6, .inl (fN hp2))), (g 4, .inl (cI, 6, .inl (fN hi2))), (g 5, .inl (cI, 8, .inl (fN ub2))), (g 6, .inl (cJ, 8, .inr (.inl (fC ut2)))), (g 7, .inl (cI, 8, .inl up2))] := hD
  refine lv_aload_n xh bh dX3_becomeLike_121 rfl (lv_at hl 0 rfl) ?_
  refine lv_aload_n xh bh dX3_becomeLike_122 rfl (lv_at hl 1 rfl) ?_
  refine va_get (D := D) (ci := 2) (v := .int (nI un2)) (C := RX3) (T := TX3) (N := 10) xh bh hts (fun _ h => List.mem_cons_of_mem _ (List.mem_append_right _ (h))) hown hK.1 hP 8 rfl rfl 9 (by decide) (hts _ (List.mem_of_getElem? (i := 14) rfl)) (fun _ h9 => h9) rfl dX3_becomeLike_123 ?_
  refine va_put (D := D) (ci := 2) (v := .int (nI un2)) (ty := .int) (C := RX3) (T := TX3) (N := 10) xh bh hts (fun _ h => List.mem_cons_of_mem _ (List.mem_append_right _ (h))) tyX3 tyX3_ok nmX3 hown hK.1 hP hD hS 0 rfl rfl 9 (by decide) (hts _ (List.mem_of_getElem? (i := 14) rfl)) (fun _ h9 => h9) rfl (by decide +kernel) (by rfl) (by rfl) (Nat.le_of_ble_eq_true rfl) dX3_becomeLike_126 (fun H locs hP hD hS => ?_)
  have hP : va_P D vwCl [(h 0, .inr (2, [.ref (h 1), .ref (h 2), .ref (h 3), .ref (h 4), .ref (h 5), .ref (h 6), .ref (h 7), .long (eC row2), .int (nI hc2), .int (nI un2)])), (h 1, .inl (cJ, 8, .inr (.inl (fC (va_cpy T2 T 0 0 8))))), (h 2, .inl (cI, 8, .inl (va_cpy P2 P 0 0 8))), (h 3, .inl (cI, 6, .inl (fN (va_cpy hp2 hp 0 0 6)))), (h 4, .inl (cI, 6, .inl (fN (va_cpy hi2 hi 0 0 6)))), (h 5, .inl (cI, 8, .inl (fN (va_cpy ub2 ub 0 0 8)))), (h 6, .inl (cJ, 8, .inr (.inl (fC (va_cpy ut2 ut 0 0 8))))), (h 7, .inl (cI, 8, .inl (va_cpy up2 up 0 0 8))), (g 0, .inr (2, [.ref (g 1), .ref (g 2), .ref (g 3), .ref (g 4), .ref (g 5), .ref (g 6), .ref (g 7), .long (eC row2), .int (nI hc2), .int (nI un2)])), (g 1, .inl (cJ, 8, .inr (.inl (fC T2)))), (g 2, .inl (cI, 8, .inl P2)), (g 3, .inl (cI, 6, .inl (fN hp2))), (g 4, .inl (cI, 6, .inl (fN hi2))), (g 5, .inl (cI, 8, .inl (fN ub2))), (g 6, .inl (cJ, 8, .inr (.inl (fC ut2)))), (g 7, .inl (cI, 8, .inl up2))] H := hP
  have hD : va_D AG [(h 0, .inr (2, [.ref (h 1), .ref (h 2), .ref (h 3), .ref (h 4), .ref (h 5), .ref (h 6), .ref (h 7), .long (eC row2), .int (nI hc2), .int (nI un2)])), (h 1, .inl (cJ, 8, .inr (.inl (fC (va_cpy T2 T 0 0 8))))), (h 2, .inl (cI, 8, .inl (va_cpy P2 P 0 0 8))), (h 3, .inl (cI, 6, .inl (fN (va_cpy hp2 hp 0 0 6)))), (h 4, .inl (cI, 6, .inl (fN (va_cpy hi2 hi 0 0 6)))), (h 5, .inl (cI, 8, .inl (fN (va_cpy ub2 ub 0 0 8)))), (h 6, .inl (cJ, 8, .inr (.inl (fC (va_cpy ut2 ut 0 0 8))))), (h 7, .inl (cI, 8, .inl (va_cpy up2 up 0 0 8))), (g 0, .inr (2, [.ref (g 1), .ref (g 2), .ref (g 3), .ref (g 4), .ref (g 5), .ref (g 6), .ref (g 7), .long (eC row2), .int (nI hc2), .int (nI un2)])), (g 1, .inl (cJ, 8, .inr (.inl (fC T2)))), (g 2, .inl (cI, 8, .inl P2)), (g 3, .inl (cI, 6, .inl (fN hp2))), (g 4, .inl (cI, 6, .inl (fN hi2))), (g 5, .inl (cI, 8, .inl (fN ub2))), (g 6, .inl (cJ, 8, .inr (.inl (fC ut2)))), (g 7, .inl (cI, 8, .inl up2))] := hD
  exact hend () _ _ _ _ rfl trivial dX3_becomeLike_129 hP hD hS

set_option maxHeartbeats 1000000 in
set_option maxRecDepth 100000 in
theorem ct_X7_unlike (l : Launch) (D : va_G) (cI cJ cB cZ cA : ClassId) (t : List Nat) (ht : okT t) : Ct l yX7_unlike wsX7_unlike ({ frames := 2, cells := 0, slots := 0, locals := 45 }) D (tysG cI cJ cB cZ cA) [.long (eC t)] [] (fun (_ : Unit) => True) (fun _ => some (.int (nI (popN (kN t))))) (fun _ => []) := by
  refine Ct.ofI (cc := cX7_unlike) (maxL := 2) (by decide) rfl (Nat.le_of_ble_eq_true rfl) ?_
  intro pG eG sG mG aG bG tG cG AG QG ls xh bh hml hown hts hK hP hD hS hA hend hl
  have hl : lv_has ls 2 [(0, .long (eC t))] := hl
  refine lv_lload_n xh bh dX7_unlike_0 rfl (lv_at hl 0 rfl) ?_
  refine Ct.callS0 (rest := []) xh bh hml hown hts hK hP hS hA (ct_X7_kindsIn l D cI cJ cB cZ cA t (by first | assumption | exact okT_nil)) (va_cwS 1 hts gX7_unlike_X7_kindsIn rfl rfl rfl (by decide +kernel) ⟨Nat.le_of_ble_eq_true rfl, Nat.le_of_ble_eq_true rfl⟩) rfl rfl hl.1 (Nat.le_of_ble_eq_true rfl) dX7_unlike_1 ⟨Nat.le_refl _, Nat.le_refl _⟩ (fun _ H locs _ hP hS => ?_)
  refine W.eq (g2 := F0 mG 4 ls [.int (nI (kN t))]) rfl ?_
  refine Ct.callS0 (rest := []) xh bh hml hown hts hK hP hS hA (ct_J6_bitCount_0f7a4 l D cI cJ cB cZ cA (kN t) (by have := ht.kNB; omega)) (va_cwS 1 hts gX7_unlike_J6_bitCount_0f7a4 rfl rfl rfl (by decide +kernel) ⟨Nat.le_of_ble_eq_true rfl, Nat.le_of_ble_eq_true rfl⟩) rfl rfl hl.1 (Nat.le_of_ble_eq_true rfl) dX7_unlike_4 ⟨Nat.le_refl _, Nat.le_refl _⟩ (fun _ H locs _ hP hS => ?_)
  refine W.eq (g2 := F0 mG 7 ls [.int (nI (popN (kN t)))]) rfl ?_
  exact hend (nI (popN (kN t))) () _ _ _ _ (congrArg (fun z => some (Value.int (nI z))) (by rfl)) trivial rfl dX7_unlike_7 hP hD hS

set_option maxHeartbeats 1000000 in
set_option maxRecDepth 100000 in
theorem ct_X7_standsIn (l : Launch) (D : va_G) (cI cJ cB cZ cA : ClassId) (r : List Nat) (t : List Nat) (p : Nat) (hr : okT r) (ht : okT t) (hp : p + r.length ≤ t.length) : Ct l yX7_standsIn wsX7_standsIn ({ frames := 1, cells := 0, slots := 0, locals := 22 }) D (tysG cI cJ cB cZ cA) [.long (eC r), .long (eC t), .int (nI p)] [] (fun (_ : Unit) => True) (fun _ => some (.int (ib (stB r t p r.length)))) (fun _ => []) := by
  refine Ct.ofI (cc := cX7_standsIn) (maxL := 7) (by decide) rfl (Nat.le_of_ble_eq_true rfl) ?_
  intro pG eG sG mG aG bG tG cG AG QG ls xh bh hml hown hts hK hP hD hS hA hend hl
  have hl : lv_has ls 7 [(0, .long (eC r)), (2, .long (eC t)), (4, .int (nI p))] := hl
  have lt := ht.1
  have lr := hr.1
  refine lv_iconst (v := (nI 0)) xh bh dX7_standsIn_0 (by decide) ?_
  refine lv_istore (lv' := [(5, .int (nI 0)), (0, .long (eC r)), (2, .long (eC t)), (4, .int (nI p))]) xh bh dX7_standsIn_1 hl (by decide) rfl (fun ls hl => ?_)
  have cut_3 : ∀ (n_3 : Nat), ∀ (k : Nat), (k ≤ r.length) → (stB r t p k = true) → (r.length - k) < n_3 → ∀ (H : Heap) (locs : List Loc) (ls : Array Slot), va_P D vwCl [] H → va_D AG [] → va_S AG sG.heap H locs → lv_has ls 7 [(0, .long (eC r)), (2, .long (eC t)), (4, .int (nI p)), (5, .int (nI k))] → W pG l eG ({ frames := 1, cells := 0, slots := 0, locals := 22 }) sG mG aG bG tG cG H locs 0 0 QG (F0 mG 3 ls []) := by
    intro n_3
    induction n_3 with
    | zero =>
      intro k hk hf hmu
      exact absurd hmu (Nat.not_lt_zero _)
    | succ n_3 ih_3 =>
      intro k hk hf hmu H locs ls hP hD hS hl
      refine lv_iload xh bh dX7_standsIn_3 (lv_at hl 3 rfl) ?_
      refine lv_lload_n xh bh dX7_standsIn_5 rfl (lv_at hl 0 rfl) ?_
      refine Ct.callS0 (rest := [.int (nI k)]) xh bh hml hown hts hK hP hS hA (ct_X7_sizeOf l D cI cJ cB cZ cA r (by first | assumption | exact okT_nil)) (va_cwS 1 hts gX7_standsIn_X7_sizeOf rfl rfl rfl (by decide +kernel) ⟨Nat.le_of_ble_eq_true rfl, Nat.le_of_ble_eq_true rfl⟩) rfl rfl hl.1 (Nat.le_of_ble_eq_true rfl) dX7_standsIn_6 ⟨Nat.le_refl _, Nat.le_refl _⟩ (fun _ H locs _ hP hS => ?_)
      refine W.eq (g2 := F0 mG 9 ls [.int (nI r.length), .int (nI k)]) rfl ?_
      refine xn_icmp_ge (tgt := 49) xh bh dX7_standsIn_9 (by decide) (by omega) (by omega) (fun c_9 => ?_) (fun c_9 => ?_)
      · refine lv_iconst (v := (nI 1)) xh bh dX7_standsIn_49 (by decide) ?_
        exact hend (nI 1) () _ _ _ _ (xb_ret1 (by rw [show r.length = k by omega]; exact hf)) trivial (vz_bool (by decide)) dX7_standsIn_50 hP hD hS
      · refine lv_lload_n xh bh dX7_standsIn_12 rfl (lv_at hl 0 rfl) ?_
        refine lv_iload xh bh dX7_standsIn_13 (lv_at hl 3 rfl) ?_
        refine Ct.callS0 (rest := []) xh bh hml hown hts hK hP hS hA (ct_X7_partIn l D cI cJ cB cZ cA r k (by first | assumption | exact okT_nil) (by omega)) (va_cwS 2 hts gX7_standsIn_X7_partIn rfl rfl rfl (by decide +kernel) ⟨Nat.le_of_ble_eq_true rfl, Nat.le_of_ble_eq_true rfl⟩) rfl rfl hl.1 (Nat.le_of_ble_eq_true rfl) dX7_standsIn_15 ⟨Nat.le_refl _, Nat.le_refl _⟩ (fun _ H locs _ hP hS => ?_)
        refine W.eq (g2 := F0 mG 18 ls [.int (nI (r.getD k 0))]) rfl ?_
        refine lv_istore (lv' := [(6, .int (nI (r.getD k 0))), (0, .long (eC r)), (2, .long (eC t)), (4, .int (nI p)), (5, .int (nI k))]) xh bh dX7_standsIn_18 hl (by decide) rfl (fun ls hl => ?_)
        refine lv_iload xh bh dX7_standsIn_20 (lv_at hl 0 rfl) ?_
        refine lv_bipush (v := (nI 8)) xh bh dX7_standsIn_22 (by decide) ?_
        refine xn_icmp_eq (tgt := 43) xh bh dX7_standsIn_24 (by decide) (by have := hr.getD k; omega) (by have := hr.getD k; omega) (fun c_24 => ?_) (fun c_24 => ?_)
        · refine lv_iinc (v := (nI (k + 1))) (lv' := [(5, .int (nI (k + 1))), (6, .int (nI (r.getD k 0))), (0, .long (eC r)), (2, .long (eC t)), (4, .int (nI p))]) xh bh dX7_standsIn_43 hl (k := 4) rfl (by exact xn_inc _ _) (by decide) rfl (fun ls hl => ?_)
          refine lv_goto (tgt := 3) xh bh dX7_standsIn_46 (by decide) ?_
          exact ih_3 (k + 1) (by omega) (by first | exact stB_s hf (Or.inl c_24) | exact stB_s hf (Or.inr c_38)) (by omega) _ _ ls hP hD hS (lv_sub hl [2, 3, 4, 0] rfl)
        · refine lv_iload xh bh dX7_standsIn_27 (lv_at hl 0 rfl) ?_
          refine lv_lload_n xh bh dX7_standsIn_29 rfl (lv_at hl 2 rfl) ?_
          refine lv_iload xh bh dX7_standsIn_30 (lv_at hl 3 rfl) ?_
          refine lv_iload xh bh dX7_standsIn_32 (lv_at hl 4 rfl) ?_
          refine xn_iadd xh bh dX7_standsIn_34 ?_
          refine Ct.callS0 (rest := [.int (nI (r.getD k 0))]) xh bh hml hown hts hK hP hS hA (ct_X7_partIn l D cI cJ cB cZ cA t (p + k) (by first | assumption | exact okT_nil) (by omega)) (va_cwS 2 hts gX7_standsIn_X7_partIn rfl rfl rfl (by decide +kernel) ⟨Nat.le_of_ble_eq_true rfl, Nat.le_of_ble_eq_true rfl⟩) rfl rfl hl.1 (Nat.le_of_ble_eq_true rfl) dX7_standsIn_35 ⟨Nat.le_refl _, Nat.le_refl _⟩ (fun _ H locs _ hP hS => ?_)
          refine W.eq (g2 := F0 mG 38 ls [.int (nI (t.getD (p + k) 0)), .int (nI (r.getD k 0))]) rfl ?_
          refine xn_icmp_eq (tgt := 43) xh bh dX7_standsIn_38 (by decide) (by have := hr.getD k; have := ht.getD (p + k); omega) (by have := hr.getD k; have := ht.getD (p + k); omega) (fun c_38 => ?_) (fun c_38 => ?_)
          · refine lv_iinc (v := (nI (k + 1))) (lv' := [(5, .int (nI (k + 1))), (6, .int (nI (r.getD k 0))), (0, .long (eC r)), (2, .long (eC t)), (4, .int (nI p))]) xh bh dX7_standsIn_43 hl (k := 4) rfl (by exact xn_inc _ _) (by decide) rfl (fun ls hl => ?_)
            refine lv_goto (tgt := 3) xh bh dX7_standsIn_46 (by decide) ?_
            exact ih_3 (k + 1) (by omega) (by first | exact stB_s hf (Or.inl c_24) | exact stB_s hf (Or.inr c_38)) (by omega) _ _ ls hP hD hS (lv_sub hl [2, 3, 4, 0] rfl)
          · refine lv_iconst (v := (nI 0)) xh bh dX7_standsIn_41 (by decide) ?_
            exact hend (nI 0) () _ _ _ _ (xb_ret0 (by exact stB_false (stB_f c_24 c_38) _ (by omega))) trivial (vz_bool (by decide)) dX7_standsIn_42 hP hD hS
  exact cut_3 (r.length - 0 + 1) 0 (by exact Nat.zero_le _) (by rfl) (Nat.lt_succ_self _) _ _ ls hP hD hS (lv_sub hl [1, 2, 3, 0] rfl)

set_option maxHeartbeats 1000000 in
set_option maxRecDepth 100000 in
theorem ct_X7_placesOf (l : Launch) (D : va_G) (cI cJ cB cZ cA : ClassId) (r : List Nat) (t : List Nat) (hr : okT r) (ht : okT t) : Ct l yX7_placesOf wsX7_placesOf ({ frames := 2, cells := 0, slots := 0, locals := 48 }) D (tysG cI cJ cB cZ cA) [.long (eC r), .long (eC t)] [] (fun (_ : Unit) => True) (fun _ => some (.int (nI (plA r t)))) (fun _ => []) := by
  refine Ct.ofI (cc := cX7_placesOf) (maxL := 6) (by decide) rfl (Nat.le_of_ble_eq_true rfl) ?_
  intro pG eG sG mG aG bG tG cG AG QG ls xh bh hml hown hts hK hP hD hS hA hend hl
  have hl : lv_has ls 6 [(0, .long (eC r)), (2, .long (eC t))] := hl
  have lt := ht.1
  have lr := hr.1
  refine lv_iconst (v := (nI 0)) xh bh dX7_placesOf_0 (by decide) ?_
  refine lv_istore (lv' := [(4, .int (nI 0)), (0, .long (eC r)), (2, .long (eC t))]) xh bh dX7_placesOf_1 hl (by decide) rfl (fun ls hl => ?_)
  refine lv_iconst (v := (nI 0)) xh bh dX7_placesOf_3 (by decide) ?_
  refine lv_istore (lv' := [(5, .int (nI 0)), (4, .int (nI 0)), (0, .long (eC r)), (2, .long (eC t))]) xh bh dX7_placesOf_4 hl (by decide) rfl (fun ls hl => ?_)
  have cut_6 : ∀ (n_6 : Nat), ∀ (i : Nat), ∀ (z : Nat), (i ≤ t.length + 1 - r.length) → (z = plN r t i) → (t.length + 1 - r.length - i) < n_6 → ∀ (H : Heap) (locs : List Loc) (ls : Array Slot), va_P D vwCl [] H → va_D AG [] → va_S AG sG.heap H locs → lv_has ls 6 [(0, .long (eC r)), (2, .long (eC t)), (4, .int (nI z)), (5, .int (nI i))] → W pG l eG ({ frames := 2, cells := 0, slots := 0, locals := 48 }) sG mG aG bG tG cG H locs 0 0 QG (F0 mG 6 ls []) := by
    intro n_6
    induction n_6 with
    | zero =>
      intro i z hi hz hmu
      exact absurd hmu (Nat.not_lt_zero _)
    | succ n_6 ih_6 =>
      intro i z hi hz hmu H locs ls hP hD hS hl
      refine lv_iload xh bh dX7_placesOf_6 (lv_at hl 3 rfl) ?_
      refine lv_lload_n xh bh dX7_placesOf_8 rfl (lv_at hl 0 rfl) ?_
      refine Ct.callS0 (rest := [.int (nI i)]) xh bh hml hown hts hK hP hS hA (ct_X7_sizeOf l D cI cJ cB cZ cA r (by first | assumption | exact okT_nil)) (va_cwS 1 hts gX7_placesOf_X7_sizeOf rfl rfl rfl (by decide +kernel) ⟨Nat.le_of_ble_eq_true rfl, Nat.le_of_ble_eq_true rfl⟩) rfl rfl hl.1 (Nat.le_of_ble_eq_true rfl) dX7_placesOf_9 ⟨Nat.le_refl _, Nat.le_refl _⟩ (fun _ H locs _ hP hS => ?_)
      refine W.eq (g2 := F0 mG 12 ls [.int (nI r.length), .int (nI i)]) rfl ?_
      refine xn_iadd xh bh dX7_placesOf_12 ?_
      refine lv_lload_n xh bh dX7_placesOf_13 rfl (lv_at hl 1 rfl) ?_
      refine Ct.callS0 (rest := [.int (nI (i + r.length))]) xh bh hml hown hts hK hP hS hA (ct_X7_sizeOf l D cI cJ cB cZ cA t (by first | assumption | exact okT_nil)) (va_cwS 1 hts gX7_placesOf_X7_sizeOf rfl rfl rfl (by decide +kernel) ⟨Nat.le_of_ble_eq_true rfl, Nat.le_of_ble_eq_true rfl⟩) rfl rfl hl.1 (Nat.le_of_ble_eq_true rfl) dX7_placesOf_14 ⟨Nat.le_refl _, Nat.le_refl _⟩ (fun _ H locs _ hP hS => ?_)
      refine W.eq (g2 := F0 mG 17 ls [.int (nI t.length), .int (nI (i + r.length))]) rfl ?_
      refine xn_icmp_gt (tgt := 45) xh bh dX7_placesOf_17 (by decide) (by omega) (by omega) (fun c_17 => ?_) (fun c_17 => ?_)
      · refine lv_iload xh bh dX7_placesOf_45 (lv_at hl 2 rfl) ?_
        exact hend (nI z) () _ _ _ _ (congrArg (fun z => some (Value.int (nI z))) (by unfold plA; rw [hz, show i = t.length + 1 - r.length by omega])) trivial rfl dX7_placesOf_47 hP hD hS
      · refine lv_lload_n xh bh dX7_placesOf_20 rfl (lv_at hl 0 rfl) ?_
        refine lv_lload_n xh bh dX7_placesOf_21 rfl (lv_at hl 1 rfl) ?_
        refine lv_iload xh bh dX7_placesOf_22 (lv_at hl 3 rfl) ?_
        refine Ct.callS0 (rest := []) xh bh hml hown hts hK hP hS hA (ct_X7_standsIn l D cI cJ cB cZ cA r t i (by first | assumption | exact okT_nil) (by first | assumption | exact okT_nil) (by first | assumption | omega)) (va_cwS 3 hts gX7_placesOf_X7_standsIn rfl rfl rfl (by decide +kernel) ⟨Nat.le_of_ble_eq_true rfl, Nat.le_of_ble_eq_true rfl⟩) rfl rfl hl.1 (Nat.le_of_ble_eq_true rfl) dX7_placesOf_24 ⟨Nat.le_refl _, Nat.le_refl _⟩ (fun _ H locs _ hP hS => ?_)
        refine W.eq (g2 := F0 mG 27 ls [.int (ib (stB r t i r.length))]) rfl ?_
        refine xb_if_eq (tgt := 39) xh bh dX7_placesOf_27 (by decide) (fun c_27 => ?_) (fun c_27 => ?_)
        · refine lv_iinc (v := (nI (i + 1))) (lv' := [(5, .int (nI (i + 1))), (0, .long (eC r)), (2, .long (eC t)), (4, .int (nI z))]) xh bh dX7_placesOf_39 hl (k := 3) rfl (by exact xn_inc _ _) (by decide) rfl (fun ls hl => ?_)
          refine lv_goto (tgt := 6) xh bh dX7_placesOf_42 (by decide) ?_
          exact ih_6 (i + 1) z (by omega) (by rw [hz]; first | exact (plN_y c_27).symm | exact (plN_n c_27).symm) (by omega) _ _ ls hP hD hS (lv_sub hl [1, 2, 3, 0] rfl)
        · refine lv_iload xh bh dX7_placesOf_30 (lv_at hl 2 rfl) ?_
          refine lv_iconst (v := (nI 1)) xh bh dX7_placesOf_32 (by decide) ?_
          refine lv_iload xh bh dX7_placesOf_33 (lv_at hl 3 rfl) ?_
          refine xn_ishl1 xh bh dX7_placesOf_35 (by omega) ?_
          refine xn_ior xh bh dX7_placesOf_36 ?_
          refine lv_istore (lv' := [(4, .int (nI (z ||| (2 ^ i)))), (0, .long (eC r)), (2, .long (eC t)), (5, .int (nI i))]) xh bh dX7_placesOf_37 hl (by decide) rfl (fun ls hl => ?_)
          refine lv_iinc (v := (nI (i + 1))) (lv' := [(5, .int (nI (i + 1))), (4, .int (nI (z ||| (2 ^ i)))), (0, .long (eC r)), (2, .long (eC t))]) xh bh dX7_placesOf_39 hl (k := 3) rfl (by exact xn_inc _ _) (by decide) rfl (fun ls hl => ?_)
          refine lv_goto (tgt := 6) xh bh dX7_placesOf_42 (by decide) ?_
          exact ih_6 (i + 1) (z ||| (2 ^ i)) (by omega) (by rw [hz]; first | exact (plN_y c_27).symm | exact (plN_n c_27).symm) (by omega) _ _ ls hP hD hS (lv_sub hl [2, 3, 1, 0] rfl)
  exact cut_6 (t.length + 1 - r.length - 0 + 1) 0 0 (by exact Nat.zero_le _) (by rfl) (Nat.lt_succ_self _) _ _ ls hP hD hS (lv_sub hl [2, 3, 1, 0] rfl)

set_option maxHeartbeats 1000000 in
set_option maxRecDepth 100000 in
theorem ct_X7_isCovered (l : Launch) (D : va_G) (cI cJ cB cZ cA : ClassId) (t : List Nat) (r : List Nat) (ht : okT t) (hr : okT r) : Ct l yX7_isCovered wsX7_isCovered ({ frames := 3, cells := 0, slots := 0, locals := 73 }) D (tysG cI cJ cB cZ cA) [.long (eC t), .long (eC r)] [] (fun (_ : Unit) => True) (fun _ => some (.int (ib (covC t r)))) (fun _ => []) := by
  refine Ct.ofI (cc := cX7_isCovered) (maxL := 7) (by decide) rfl (Nat.le_of_ble_eq_true rfl) ?_
  intro pG eG sG mG aG bG tG cG AG QG ls xh bh hml hown hts hK hP hD hS hA hend hl
  have hl : lv_has ls 7 [(0, .long (eC t)), (2, .long (eC r))] := hl
  have lt := ht.1
  have lr := hr.1
  have hpl := plA_lt (r := r) lt
  refine lv_lload_n xh bh dX7_isCovered_0 rfl (lv_at hl 1 rfl) ?_
  refine lv_lconst (v := lN 0) xh bh dX7_isCovered_1 (by decide) ?_
  refine W.lcmp xh bh dX7_isCovered_2 ?_
  refine xt_if_neC (tgt := 8) xh bh dX7_isCovered_3 (by decide) (by assumption) (fun c_3 => ?_) (fun c_3 => ?_)
  · refine lv_lload_n xh bh dX7_isCovered_8 rfl (lv_at hl 1 rfl) ?_
    refine lv_lload_n xh bh dX7_isCovered_9 rfl (lv_at hl 0 rfl) ?_
    refine Ct.callS0 (rest := []) xh bh hml hown hts hK hP hS hA (ct_X7_placesOf l D cI cJ cB cZ cA r t (by first | assumption | exact okT_nil) (by first | assumption | exact okT_nil)) (va_cwS 2 hts gX7_isCovered_X7_placesOf rfl rfl rfl (by decide +kernel) ⟨Nat.le_of_ble_eq_true rfl, Nat.le_of_ble_eq_true rfl⟩) rfl rfl hl.1 (Nat.le_of_ble_eq_true rfl) dX7_isCovered_10 ⟨Nat.le_refl _, Nat.le_refl _⟩ (fun _ H locs _ hP hS => ?_)
    refine W.eq (g2 := F0 mG 13 ls [.int (nI (plA r t))]) rfl ?_
    refine lv_istore (lv' := [(4, .int (nI (plA r t))), (0, .long (eC t)), (2, .long (eC r))]) xh bh dX7_isCovered_13 hl (by decide) rfl (fun ls hl => ?_)
    refine lv_iconst (v := (nI 0)) xh bh dX7_isCovered_15 (by decide) ?_
    refine lv_istore (lv' := [(5, .int (nI 0)), (4, .int (nI (plA r t))), (0, .long (eC t)), (2, .long (eC r))]) xh bh dX7_isCovered_16 hl (by decide) rfl (fun ls hl => ?_)
    refine lv_iconst (v := (nI 0)) xh bh dX7_isCovered_18 (by decide) ?_
    refine lv_istore (lv' := [(6, .int (nI 0)), (5, .int (nI 0)), (4, .int (nI (plA r t))), (0, .long (eC t)), (2, .long (eC r))]) xh bh dX7_isCovered_19 hl (by decide) rfl (fun ls hl => ?_)
    have cut_21 : ∀ (n_21 : Nat), ∀ (i : Nat), ∀ (z : Nat), (i ≤ r.length) → (z = unN (plA r t) i) → (r.length - i) < n_21 → ∀ (H : Heap) (locs : List Loc) (ls : Array Slot), va_P D vwCl [] H → va_D AG [] → va_S AG sG.heap H locs → lv_has ls 7 [(0, .long (eC t)), (2, .long (eC r)), (4, .int (nI (plA r t))), (5, .int (nI z)), (6, .int (nI i))] → W pG l eG ({ frames := 3, cells := 0, slots := 0, locals := 73 }) sG mG aG bG tG cG H locs 0 0 QG (F0 mG 21 ls []) := by
      intro n_21
      induction n_21 with
      | zero =>
        intro i z hi hz hmu
        exact absurd hmu (Nat.not_lt_zero _)
      | succ n_21 ih_21 =>
        intro i z hi hz hmu H locs ls hP hD hS hl
        refine lv_iload xh bh dX7_isCovered_21 (lv_at hl 4 rfl) ?_
        refine lv_lload_n xh bh dX7_isCovered_23 rfl (lv_at hl 1 rfl) ?_
        refine Ct.callS0 (rest := [.int (nI i)]) xh bh hml hown hts hK hP hS hA (ct_X7_sizeOf l D cI cJ cB cZ cA r (by first | assumption | exact okT_nil)) (va_cwS 1 hts gX7_isCovered_X7_sizeOf rfl rfl rfl (by decide +kernel) ⟨Nat.le_of_ble_eq_true rfl, Nat.le_of_ble_eq_true rfl⟩) rfl rfl hl.1 (Nat.le_of_ble_eq_true rfl) dX7_isCovered_24 ⟨Nat.le_refl _, Nat.le_refl _⟩ (fun _ H locs _ hP hS => ?_)
        refine W.eq (g2 := F0 mG 27 ls [.int (nI r.length), .int (nI i)]) rfl ?_
        refine xn_icmp_ge (tgt := 46) xh bh dX7_isCovered_27 (by decide) (by omega) (by omega) (fun c_27 => ?_) (fun c_27 => ?_)
        · refine lv_iload xh bh dX7_isCovered_46 (lv_at hl 3 rfl) ?_
          refine lv_iconst (v := (nI 1)) xh bh dX7_isCovered_48 (by decide) ?_
          refine lv_lload_n xh bh dX7_isCovered_49 rfl (lv_at hl 0 rfl) ?_
          refine Ct.callS0 (rest := [.int (nI 1), .int (nI z)]) xh bh hml hown hts hK hP hS hA (ct_X7_sizeOf l D cI cJ cB cZ cA t (by first | assumption | exact okT_nil)) (va_cwS 1 hts gX7_isCovered_X7_sizeOf rfl rfl rfl (by decide +kernel) ⟨Nat.le_of_ble_eq_true rfl, Nat.le_of_ble_eq_true rfl⟩) rfl rfl hl.1 (Nat.le_of_ble_eq_true rfl) dX7_isCovered_50 ⟨Nat.le_refl _, Nat.le_refl _⟩ (fun _ H locs _ hP hS => ?_)
          refine W.eq (g2 := F0 mG 53 ls [.int (nI t.length), .int (nI 1), .int (nI z)]) rfl ?_
          refine xn_ishl1 xh bh dX7_isCovered_53 (by omega) ?_
          refine lv_iconst (v := (nI 1)) xh bh dX7_isCovered_54 (by decide) ?_
          refine xn_isub xh bh dX7_isCovered_55 (by exact Nat.two_pow_pos _) ?_
          refine xn_icmp_ne (tgt := 63) xh bh dX7_isCovered_56 (by decide) (by first | (have h9 := unN_lt (a := plA r t) (b := 11) hpl i; have h8 : 2 ^ (11 + i) ≤ 2 ^ 21 := Nat.pow_le_pow_right (by decide) (by omega); rw [← hz] at h9; omega) | (have h8 : 2 ^ t.length ≤ 2 ^ 10 := Nat.pow_le_pow_right (by decide) lt; omega)) (by first | (have h9 := unN_lt (a := plA r t) (b := 11) hpl i; have h8 : 2 ^ (11 + i) ≤ 2 ^ 21 := Nat.pow_le_pow_right (by decide) (by omega); rw [← hz] at h9; omega) | (have h8 : 2 ^ t.length ≤ 2 ^ 10 := Nat.pow_le_pow_right (by decide) lt; omega)) (fun c_56 => ?_) (fun c_56 => ?_)
          · have d56 : ¬ unN (plA r t) r.length = 2 ^ t.length - 1 := fun q => c_56 (by rw [hz, show i = r.length by omega]; exact q)
            refine lv_iconst (v := (nI 0)) xh bh dX7_isCovered_63 (by decide) ?_
            exact hend (nI 0) () _ _ _ _ (xb_ret0 (by first | exact decide_eq_true (And.intro c_3 d56) | exact decide_eq_false (fun q => d56 q.2))) trivial (vz_bool (by decide)) dX7_isCovered_64 hP hD hS
          · have d56 : unN (plA r t) r.length = 2 ^ t.length - 1 := by rw [show r.length = i by omega, ← hz]; exact c_56
            refine lv_iconst (v := (nI 1)) xh bh dX7_isCovered_59 (by decide) ?_
            refine lv_goto (tgt := 64) xh bh dX7_isCovered_60 (by decide) ?_
            exact hend (nI 1) () _ _ _ _ (xb_ret1 (by first | exact decide_eq_true (And.intro c_3 d56) | exact decide_eq_false (fun q => d56 q.2))) trivial (vz_bool (by decide)) dX7_isCovered_64 hP hD hS
        · refine lv_iload xh bh dX7_isCovered_30 (lv_at hl 3 rfl) ?_
          refine lv_iload xh bh dX7_isCovered_32 (lv_at hl 2 rfl) ?_
          refine lv_iload xh bh dX7_isCovered_34 (lv_at hl 4 rfl) ?_
          refine xn_ishl xh bh dX7_isCovered_36 (by omega) ?_
          refine xn_ior xh bh dX7_isCovered_37 ?_
          refine lv_istore (lv' := [(5, .int (nI (z ||| ((plA r t) * 2 ^ i)))), (0, .long (eC t)), (2, .long (eC r)), (4, .int (nI (plA r t))), (6, .int (nI i))]) xh bh dX7_isCovered_38 hl (by decide) rfl (fun ls hl => ?_)
          refine lv_iinc (v := (nI (i + 1))) (lv' := [(6, .int (nI (i + 1))), (5, .int (nI (z ||| ((plA r t) * 2 ^ i)))), (0, .long (eC t)), (2, .long (eC r)), (4, .int (nI (plA r t)))]) xh bh dX7_isCovered_40 hl (k := 4) rfl (by exact xn_inc _ _) (by decide) rfl (fun ls hl => ?_)
          refine lv_goto (tgt := 21) xh bh dX7_isCovered_43 (by decide) ?_
          exact ih_21 (i + 1) (z ||| ((plA r t) * 2 ^ i)) (by omega) (by rw [hz]; rfl) (by omega) _ _ ls hP hD hS (lv_sub hl [2, 3, 4, 1, 0] rfl)
    exact cut_21 (r.length - 0 + 1) 0 0 (by exact Nat.zero_le _) (by rfl) (Nat.lt_succ_self _) _ _ ls hP hD hS (lv_sub hl [3, 4, 2, 1, 0] rfl)
  · refine lv_iconst (v := (nI 0)) xh bh dX7_isCovered_6 (by decide) ?_
    exact hend (nI 0) () _ _ _ _ (xb_ret0 (by exact decide_eq_false (fun q => q.1 c_3))) trivial (vz_bool (by decide)) dX7_isCovered_7 hP hD hS

set_option maxHeartbeats 1000000 in
set_option maxRecDepth 100000 in
theorem ct_X1_falling (l : Launch) (D : va_G) (cI cJ cB cZ cA : ClassId) (a : Nat) (b : Nat) (ha : a ≤ 10) (hb : b ≤ 10) : Ct l yX1_falling wsX1_falling ({ frames := 0, cells := 0, slots := 0, locals := 0 }) D (tysG cI cJ cB cZ cA) [.int (nI a), .int (nI b)] [] (fun (_ : Unit) => True) (fun _ => some (.long (lN (flN a b)))) (fun _ => []) := by
  refine Ct.ofL (cc := cX1_falling) (maxL := 5) (by decide) rfl (Nat.le_of_ble_eq_true rfl) ?_
  intro pG eG sG mG aG bG tG cG AG QG ls xh bh hml hown hts hK hP hD hS hA hend hl
  have hl : lv_has ls 5 [(0, .int (nI a)), (1, .int (nI b))] := hl
  refine lv_lconst (v := lN 1) xh bh dX1_falling_0 (by decide) ?_
  refine lv_lstore_n (lv' := [(2, .long (lN 1)), (0, .int (nI a)), (1, .int (nI b))]) xh bh dX1_falling_1 rfl hl (by decide) rfl (fun ls hl => ?_)
  refine lv_iconst (v := (nI 0)) xh bh dX1_falling_2 (by decide) ?_
  refine lv_istore (lv' := [(4, .int (nI 0)), (2, .long (lN 1)), (0, .int (nI a)), (1, .int (nI b))]) xh bh dX1_falling_3 hl (by decide) rfl (fun ls hl => ?_)
  have cut_5 : ∀ (n_5 : Nat), ∀ (i : Nat), ∀ (w : Nat), (i ≤ b) → (w = flN a i) → (b - i) < n_5 → ∀ (H : Heap) (locs : List Loc) (ls : Array Slot), va_P D vwCl [] H → va_D AG [] → va_S AG sG.heap H locs → lv_has ls 5 [(0, .int (nI a)), (1, .int (nI b)), (2, .long (lN w)), (4, .int (nI i))] → W pG l eG ({ frames := 0, cells := 0, slots := 0, locals := 0 }) sG mG aG bG tG cG H locs 0 0 QG (F0 mG 5 ls []) := by
    intro n_5
    induction n_5 with
    | zero =>
      intro i w hi hw hmu
      exact absurd hmu (Nat.not_lt_zero _)
    | succ n_5 ih_5 =>
      intro i w hi hw hmu H locs ls hP hD hS hl
      refine lv_iload xh bh dX1_falling_5 (lv_at hl 3 rfl) ?_
      refine lv_iload_n xh bh dX1_falling_7 rfl (lv_at hl 1 rfl) ?_
      refine xn_icmp_ge (tgt := 25) xh bh dX1_falling_8 (by decide) (by omega) (by omega) (fun c_8 => ?_) (fun c_8 => ?_)
      · refine lv_lload_n xh bh dX1_falling_25 rfl (lv_at hl 2 rfl) ?_
        exact hend (lN w) () _ _ _ _ (congrArg (fun z => some (Value.long (lN z))) (by rw [hw, show i = b by omega])) trivial dX1_falling_26 hP hD hS
      · refine lv_lload_n xh bh dX1_falling_11 rfl (lv_at hl 2 rfl) ?_
        refine lv_iload_n xh bh dX1_falling_12 rfl (lv_at hl 0 rfl) ?_
        refine lv_iload xh bh dX1_falling_13 (lv_at hl 3 rfl) ?_
        rcases Nat.lt_or_ge a i with q | q
        · refine lv_isub xh bh dX1_falling_15 ?_
          refine lv_i2l xh bh dX1_falling_16 rfl ?_
          refine lv_lmul xh bh dX1_falling_17 ?_
          refine xw_topl (x := ((lN w) * (((nI a) - (nI i)).toInt64))) (y := (lN 0)) (by rw [hw, flN_0 q]; exact Int64.zero_mul) ?_
          refine lv_lstore_n (lv' := [(2, .long (lN 0)), (0, .int (nI a)), (1, .int (nI b)), (4, .int (nI i))]) xh bh dX1_falling_18 rfl hl (by decide) rfl (fun ls hl => ?_)
          refine lv_iinc (v := (nI (i + 1))) (lv' := [(4, .int (nI (i + 1))), (2, .long (lN 0)), (0, .int (nI a)), (1, .int (nI b))]) xh bh dX1_falling_19 hl (k := 3) rfl (by exact xn_inc _ _) (by decide) rfl (fun ls hl => ?_)
          refine lv_goto (tgt := 5) xh bh dX1_falling_22 (by decide) ?_
          exact ih_5 (i + 1) 0 (by omega) (by first | (rw [hw]; rfl) | exact (flN_0 (by omega)).symm) (by omega) _ _ ls hP hD hS (lv_sub hl [2, 3, 1, 0] rfl)
        · refine xn_isub xh bh dX1_falling_15 (by omega) ?_
          refine xn_i2l xh bh dX1_falling_16 (by omega) ?_
          refine xq_lmul xh bh dX1_falling_17 ?_
          refine lv_lstore_n (lv' := [(2, .long (lN (w * (a - i)))), (0, .int (nI a)), (1, .int (nI b)), (4, .int (nI i))]) xh bh dX1_falling_18 rfl hl (by decide) rfl (fun ls hl => ?_)
          refine lv_iinc (v := (nI (i + 1))) (lv' := [(4, .int (nI (i + 1))), (2, .long (lN (w * (a - i)))), (0, .int (nI a)), (1, .int (nI b))]) xh bh dX1_falling_19 hl (k := 3) rfl (by exact xn_inc _ _) (by decide) rfl (fun ls hl => ?_)
          refine lv_goto (tgt := 5) xh bh dX1_falling_22 (by decide) ?_
          exact ih_5 (i + 1) (w * (a - i)) (by omega) (by first | (rw [hw]; rfl) | exact (flN_0 (by omega)).symm) (by omega) _ _ ls hP hD hS (lv_sub hl [2, 3, 1, 0] rfl)
  exact cut_5 (b - 0 + 1) 0 1 (by exact Nat.zero_le _) (by rfl) (Nat.lt_succ_self _) _ _ ls hP hD hS (lv_sub hl [2, 3, 1, 0] rfl)

set_option maxHeartbeats 1000000 in
set_option maxRecDepth 100000 in
theorem ct_X1_power (l : Launch) (D : va_G) (cI cJ cB cZ cA : ClassId) (a : Nat) (b : Nat) (ha : a < 2147483648) (hb : b < 2147483648) : Ct l yX1_power wsX1_power ({ frames := 0, cells := 0, slots := 0, locals := 0 }) D (tysG cI cJ cB cZ cA) [.int (nI a), .int (nI b)] [] (fun (_ : Unit) => True) (fun _ => some (.long (lN (a ^ b)))) (fun _ => []) := by
  refine Ct.ofL (cc := cX1_power) (maxL := 5) (by decide) rfl (Nat.le_of_ble_eq_true rfl) ?_
  intro pG eG sG mG aG bG tG cG AG QG ls xh bh hml hown hts hK hP hD hS hA hend hl
  have hl : lv_has ls 5 [(0, .int (nI a)), (1, .int (nI b))] := hl
  refine lv_lconst (v := lN 1) xh bh dX1_power_0 (by decide) ?_
  refine lv_lstore_n (lv' := [(2, .long (lN 1)), (0, .int (nI a)), (1, .int (nI b))]) xh bh dX1_power_1 rfl hl (by decide) rfl (fun ls hl => ?_)
  refine lv_iconst (v := (nI 0)) xh bh dX1_power_2 (by decide) ?_
  refine lv_istore (lv' := [(4, .int (nI 0)), (2, .long (lN 1)), (0, .int (nI a)), (1, .int (nI b))]) xh bh dX1_power_3 hl (by decide) rfl (fun ls hl => ?_)
  have cut_5 : ∀ (n_5 : Nat), ∀ (i : Nat), ∀ (w : Nat), (i ≤ b) → (w = a ^ i) → (b - i) < n_5 → ∀ (H : Heap) (locs : List Loc) (ls : Array Slot), va_P D vwCl [] H → va_D AG [] → va_S AG sG.heap H locs → lv_has ls 5 [(0, .int (nI a)), (1, .int (nI b)), (2, .long (lN w)), (4, .int (nI i))] → W pG l eG ({ frames := 0, cells := 0, slots := 0, locals := 0 }) sG mG aG bG tG cG H locs 0 0 QG (F0 mG 5 ls []) := by
    intro n_5
    induction n_5 with
    | zero =>
      intro i w hi hw hmu
      exact absurd hmu (Nat.not_lt_zero _)
    | succ n_5 ih_5 =>
      intro i w hi hw hmu H locs ls hP hD hS hl
      refine lv_iload xh bh dX1_power_5 (lv_at hl 3 rfl) ?_
      refine lv_iload_n xh bh dX1_power_7 rfl (lv_at hl 1 rfl) ?_
      refine xn_icmp_ge (tgt := 22) xh bh dX1_power_8 (by decide) (by omega) (by omega) (fun c_8 => ?_) (fun c_8 => ?_)
      · refine lv_lload_n xh bh dX1_power_22 rfl (lv_at hl 2 rfl) ?_
        exact hend (lN w) () _ _ _ _ (congrArg (fun z => some (Value.long (lN z))) (by rw [hw, show i = b by omega])) trivial dX1_power_23 hP hD hS
      · refine lv_lload_n xh bh dX1_power_11 rfl (lv_at hl 2 rfl) ?_
        refine lv_iload_n xh bh dX1_power_12 rfl (lv_at hl 0 rfl) ?_
        refine xn_i2l xh bh dX1_power_13 (by omega) ?_
        refine xq_lmul xh bh dX1_power_14 ?_
        refine lv_lstore_n (lv' := [(2, .long (lN (w * a))), (0, .int (nI a)), (1, .int (nI b)), (4, .int (nI i))]) xh bh dX1_power_15 rfl hl (by decide) rfl (fun ls hl => ?_)
        refine lv_iinc (v := (nI (i + 1))) (lv' := [(4, .int (nI (i + 1))), (2, .long (lN (w * a))), (0, .int (nI a)), (1, .int (nI b))]) xh bh dX1_power_16 hl (k := 3) rfl (by exact xn_inc _ _) (by decide) rfl (fun ls hl => ?_)
        refine lv_goto (tgt := 5) xh bh dX1_power_19 (by decide) ?_
        exact ih_5 (i + 1) (w * a) (by omega) (by rw [hw]; rfl) (by omega) _ _ ls hP hD hS (lv_sub hl [2, 3, 1, 0] rfl)
  exact cut_5 (b - 0 + 1) 0 1 (by exact Nat.zero_le _) (by rfl) (Nat.lt_succ_self _) _ _ ls hP hD hS (lv_sub hl [2, 3, 1, 0] rfl)

set_option maxHeartbeats 1000000 in
set_option maxRecDepth 100000 in
theorem ct_X1_commonDivisor (l : Launch) (D : va_G) (cI cJ cB cZ cA : ClassId) (p : Nat) (q : Nat) (hp : p < 281474976710656) (hq : q < 281474976710656) : Ct l yX1_commonDivisor wsX1_commonDivisor ({ frames := 0, cells := 0, slots := 0, locals := 0 }) D (tysG cI cJ cB cZ cA) [.long (lN p), .long (lN q)] [] (fun (_ : Unit) => True) (fun _ => some (.long (lN (Nat.gcd p q)))) (fun _ => []) := by
  refine Ct.ofL (cc := cX1_commonDivisor) (maxL := 11) (by decide) rfl (Nat.le_of_ble_eq_true rfl) ?_
  intro pG eG sG mG aG bG tG cG AG QG ls xh bh hml hown hts hK hP hD hS hA hend hl
  have hl : lv_has ls 11 [(0, .long (lN p)), (2, .long (lN q))] := hl
  refine lv_lload_n xh bh dX1_commonDivisor_0 rfl (lv_at hl 0 rfl) ?_
  refine lv_lstore (lv' := [(4, .long (lN p)), (0, .long (lN p)), (2, .long (lN q))]) xh bh dX1_commonDivisor_1 hl (by decide) rfl (fun ls hl => ?_)
  refine lv_lload_n xh bh dX1_commonDivisor_3 rfl (lv_at hl 2 rfl) ?_
  refine lv_lstore (lv' := [(6, .long (lN q)), (4, .long (lN p)), (0, .long (lN p)), (2, .long (lN q))]) xh bh dX1_commonDivisor_4 hl (by decide) rfl (fun ls hl => ?_)
  refine lv_iconst (v := (nI 0)) xh bh dX1_commonDivisor_6 (by decide) ?_
  refine lv_istore (lv' := [(8, .int (nI 0)), (6, .long (lN q)), (4, .long (lN p)), (0, .long (lN p)), (2, .long (lN q))]) xh bh dX1_commonDivisor_7 hl (by decide) rfl (fun ls hl => ?_)
  have cut_9 : ∀ (n_9 : Nat), ∀ (x : Nat), ∀ (y : Nat), ∀ (k : Nat), (k ≤ 100) → (gcI p q k x y) → (100 - k) < n_9 → ∀ (H : Heap) (locs : List Loc) (ls : Array Slot), va_P D vwCl [] H → va_D AG [] → va_S AG sG.heap H locs → lv_has ls 11 [(0, .long (lN p)), (2, .long (lN q)), (4, .long (lN x)), (6, .long (lN y)), (8, .int (nI k))] → W pG l eG ({ frames := 0, cells := 0, slots := 0, locals := 0 }) sG mG aG bG tG cG H locs 0 0 QG (F0 mG 9 ls []) := by
    intro n_9
    induction n_9 with
    | zero =>
      intro x y k hk hg hmu
      exact absurd hmu (Nat.not_lt_zero _)
    | succ n_9 ih_9 =>
      intro x y k hk hg hmu H locs ls hP hD hS hl
      refine lv_iload xh bh dX1_commonDivisor_9 (lv_at hl 4 rfl) ?_
      refine lv_bipush (v := (nI 100)) xh bh dX1_commonDivisor_11 (by decide) ?_
      refine xn_icmp_ge (tgt := 44) xh bh dX1_commonDivisor_13 (by decide) (by omega) (by omega) (fun c_13 => ?_) (fun c_13 => ?_)
      · refine lv_lload xh bh dX1_commonDivisor_44 (lv_at hl 2 rfl) ?_
        exact hend (lN x) () _ _ _ _ (congrArg (fun z => some (Value.long (lN z))) (by first | (rw [c_20] at hg; exact (gcI_x hg).symm) | (rw [gcI_e hg c_13] at hg; exact (gcI_x hg).symm))) trivial dX1_commonDivisor_46 hP hD hS
      · refine lv_lload xh bh dX1_commonDivisor_16 (lv_at hl 3 rfl) ?_
        refine lv_lconst (v := lN 0) xh bh dX1_commonDivisor_18 (by decide) ?_
        refine W.lcmp xh bh dX1_commonDivisor_19 ?_
        refine xq_if_eq (tgt := 44) xh bh dX1_commonDivisor_20 (by decide) (by have := hg.2.2.2; omega) (by have := hg.2.2.2; omega) (fun c_20 => ?_) (fun c_20 => ?_)
        · refine lv_lload xh bh dX1_commonDivisor_44 (lv_at hl 2 rfl) ?_
          exact hend (lN x) () _ _ _ _ (congrArg (fun z => some (Value.long (lN z))) (by first | (rw [c_20] at hg; exact (gcI_x hg).symm) | (rw [gcI_e hg c_13] at hg; exact (gcI_x hg).symm))) trivial dX1_commonDivisor_46 hP hD hS
        · refine lv_lload xh bh dX1_commonDivisor_23 (lv_at hl 2 rfl) ?_
          refine lv_lload xh bh dX1_commonDivisor_25 (lv_at hl 3 rfl) ?_
          refine xq_lrem xh bh dX1_commonDivisor_27 (by have := hg.2.2.1; omega) (by omega) (by have := hg.2.2.2; omega) ?_
          refine lv_lstore (lv' := [(9, .long (lN (x % y))), (0, .long (lN p)), (2, .long (lN q)), (4, .long (lN x)), (6, .long (lN y)), (8, .int (nI k))]) xh bh dX1_commonDivisor_28 hl (by decide) rfl (fun ls hl => ?_)
          refine lv_lload xh bh dX1_commonDivisor_30 (lv_at hl 4 rfl) ?_
          refine lv_lstore (lv' := [(4, .long (lN y)), (9, .long (lN (x % y))), (0, .long (lN p)), (2, .long (lN q)), (6, .long (lN y)), (8, .int (nI k))]) xh bh dX1_commonDivisor_32 hl (by decide) rfl (fun ls hl => ?_)
          refine lv_lload xh bh dX1_commonDivisor_34 (lv_at hl 1 rfl) ?_
          refine lv_lstore (lv' := [(6, .long (lN (x % y))), (4, .long (lN y)), (9, .long (lN (x % y))), (0, .long (lN p)), (2, .long (lN q)), (8, .int (nI k))]) xh bh dX1_commonDivisor_36 hl (by decide) rfl (fun ls hl => ?_)
          refine lv_iinc (v := (nI (k + 1))) (lv' := [(8, .int (nI (k + 1))), (6, .long (lN (x % y))), (4, .long (lN y)), (9, .long (lN (x % y))), (0, .long (lN p)), (2, .long (lN q))]) xh bh dX1_commonDivisor_38 hl (k := 5) rfl (by exact xn_inc _ _) (by decide) rfl (fun ls hl => ?_)
          refine lv_goto (tgt := 9) xh bh dX1_commonDivisor_41 (by decide) ?_
          exact ih_9 y (x % y) (k + 1) (by omega) (by exact gcI_s hg (by omega)) (by omega) _ _ ls hP hD hS (lv_sub hl [4, 5, 2, 1, 0] rfl)
  exact cut_9 (100 - 0 + 1) p q 0 (by exact Nat.zero_le _) (by exact gcI_0 hp hq) (Nat.lt_succ_self _) _ _ ls hP hD hS (lv_sub hl [3, 4, 2, 1, 0] rfl)

set_option maxHeartbeats 1000000 in
set_option maxRecDepth 100000 in
theorem ct_X1_become (l : Launch) (D : va_G) (cI cJ cB cZ cA : ClassId) (f0 : Nat) (fa : Int64) (fb : Int64) (p : Nat) (q : Nat) (hp : p < 281474976710656) (hq : q < 281474976710656) (hq0 : 0 < q) : Ct l yX1_become wsX1_become ({ frames := 1, cells := 0, slots := 0, locals := 30 }) D (tysG cI cJ cB cZ cA) [.ref f0, .long (lN p), .long (lN q)] [(f0, .inr (0, [.long fa, .long fb]))] (fun (_ : Unit) => True) (fun _ => none) (fun _ => [(f0, .inr (0, [.long (lN (p / Nat.gcd p q)), .long (lN (q / Nat.gcd p q))]))]) := by
  refine Ct.ofV (cc := cX1_become) (maxL := 7) (by decide) rfl (Nat.le_of_ble_eq_true rfl) ?_
  intro pG eG sG mG aG bG tG cG AG QG ls xh bh hml hown hts hK hP hD hS hA hend hl
  have hl : lv_has ls 7 [(0, .ref f0), (1, .long (lN p)), (3, .long (lN q))] := hl
  have hg0 : 0 < Nat.gcd p q := Nat.gcd_pos_of_pos_right _ hq0
  have hgl : Nat.gcd p q ≤ q := Nat.gcd_le_right _ hq0
  refine lv_lload_n xh bh dX1_become_0 rfl (lv_at hl 1 rfl) ?_
  refine lv_lload_n xh bh dX1_become_1 rfl (lv_at hl 2 rfl) ?_
  refine Ct.callS0 (rest := []) xh bh hml hown hts hK hP hS hA (ct_X1_commonDivisor l D cI cJ cB cZ cA p q (by first | assumption | omega) (by first | assumption | omega)) (va_cwS 2 hts gX1_become_X1_commonDivisor rfl rfl rfl (by decide +kernel) ⟨Nat.le_of_ble_eq_true rfl, Nat.le_of_ble_eq_true rfl⟩) rfl rfl hl.1 (Nat.le_of_ble_eq_true rfl) dX1_become_2 ⟨Nat.le_refl _, Nat.le_refl _⟩ (fun _ H locs _ hP hS => ?_)
  refine W.eq (g2 := F0 mG 5 ls [.long (lN (Nat.gcd p q))]) rfl ?_
  refine lv_lstore (lv' := [(5, .long (lN (Nat.gcd p q))), (0, .ref f0), (1, .long (lN p)), (3, .long (lN q))]) xh bh dX1_become_5 hl (by decide) rfl (fun ls hl => ?_)
  refine lv_lload xh bh dX1_become_7 (lv_at hl 0 rfl) ?_
  refine lv_lconst (v := lN 0) xh bh dX1_become_9 (by decide) ?_
  refine W.lcmp xh bh dX1_become_10 ?_
  refine xq_if_le (tgt := 30) xh bh dX1_become_11 (by decide) (by omega) (by omega) (fun c_11 => ?_) (fun c_11 => ?_)
  · exact absurd c_11 (by omega)
  · refine lv_aload_n xh bh dX1_become_14 rfl (lv_at hl 1 rfl) ?_
    refine lv_lload_n xh bh dX1_become_15 rfl (lv_at hl 2 rfl) ?_
    refine lv_lload xh bh dX1_become_16 (lv_at hl 0 rfl) ?_
    refine xq_ldiv xh bh dX1_become_18 (by omega) (by omega) (by omega) ?_
    refine va_put (D := D) (ci := 0) (v := .long (lN (p / (Nat.gcd p q)))) (ty := .long) (C := RX1) (T := TX1) (N := 2) xh bh hts (fun _ h => List.mem_cons_of_mem _ (List.mem_append_right _ (h))) tyX1 tyX1_ok nmX1 hown hK.1 hP hD hS 0 rfl rfl 0 (by decide) (hts _ (List.mem_of_getElem? (i := 1) rfl)) (fun _ h9 => h9) rfl (by decide +kernel) (by rfl) (by rfl) (Nat.le_of_ble_eq_true rfl) dX1_become_19 (fun H locs hP hD hS => ?_)
    have hP : va_P D vwCl [(f0, .inr (0, [.long (lN (p / (Nat.gcd p q))), .long fb]))] H := hP
    have hD : va_D AG [(f0, .inr (0, [.long (lN (p / (Nat.gcd p q))), .long fb]))] := hD
    refine lv_aload_n xh bh dX1_become_22 rfl (lv_at hl 1 rfl) ?_
    refine lv_lload_n xh bh dX1_become_23 rfl (lv_at hl 3 rfl) ?_
    refine lv_lload xh bh dX1_become_24 (lv_at hl 0 rfl) ?_
    refine xq_ldiv xh bh dX1_become_26 (by omega) (by omega) (by omega) ?_
    refine va_put (D := D) (ci := 0) (v := .long (lN (q / (Nat.gcd p q)))) (ty := .long) (C := RX1) (T := TX1) (N := 2) xh bh hts (fun _ h => List.mem_cons_of_mem _ (List.mem_append_right _ (h))) tyX1 tyX1_ok nmX1 hown hK.1 hP hD hS 0 rfl rfl 1 (by decide) (hts _ (List.mem_of_getElem? (i := 2) rfl)) (fun _ h9 => h9) rfl (by decide +kernel) (by rfl) (by rfl) (Nat.le_of_ble_eq_true rfl) dX1_become_27 (fun H locs hP hD hS => ?_)
    have hP : va_P D vwCl [(f0, .inr (0, [.long (lN (p / (Nat.gcd p q))), .long (lN (q / (Nat.gcd p q)))]))] H := hP
    have hD : va_D AG [(f0, .inr (0, [.long (lN (p / (Nat.gcd p q))), .long (lN (q / (Nat.gcd p q)))]))] := hD
    exact hend () _ _ _ _ rfl trivial dX1_become_30 hP hD hS

set_option maxHeartbeats 1000000 in
set_option maxRecDepth 100000 in
theorem ct_X1_becomeOdds (l : Launch) (D : va_G) (cI cJ cB cZ cA : ClassId) (f0 : Nat) (fa : Int64) (fb : Int64) (a : Nat) (b : Nat) (n : Nat) (c1 : Nat) (ha : a ≤ 10) (hb : b ≤ a) (hn : n ≤ 4) (hc : c1 ≤ 10) : Ct l yX1_becomeOdds wsX1_becomeOdds ({ frames := 2, cells := 0, slots := 0, locals := 56 }) D (tysG cI cJ cB cZ cA) [.ref f0, .int (nI a), .int (nI b), .int (nI n), .int (nI c1)] [(f0, .inr (0, [.long fa, .long fb]))] (fun (_ : Unit) => True) (fun _ => none) (fun _ => [(f0, .inr (0, [.long (lN (keN a b n c1 (n + 1) / Nat.gcd (keN a b n c1 (n + 1)) (10 ^ n * flN a b))), .long (lN ((10 ^ n * flN a b) / Nat.gcd (keN a b n c1 (n + 1)) (10 ^ n * flN a b)))]))]) := by
  refine Ct.ofV (cc := cX1_becomeOdds) (maxL := 14) (by decide) rfl (Nat.le_of_ble_eq_true rfl) ?_
  intro pG eG sG mG aG bG tG cG AG QG ls xh bh hml hown hts hK hP hD hS hA hend hl
  have hl : lv_has ls 14 [(0, .ref f0), (1, .int (nI a)), (2, .int (nI b)), (3, .int (nI n)), (4, .int (nI c1))] := hl
  have hf := flN_ok a (by omega) b (by omega)
  have hf2 := hf.2 hb
  refine lv_iload_n xh bh dX1_becomeOdds_0 rfl (lv_at hl 1 rfl) ?_
  refine lv_iload_n xh bh dX1_becomeOdds_1 rfl (lv_at hl 2 rfl) ?_
  refine Ct.callS0 (rest := []) xh bh hml hown hts hK hP hS hA (ct_X1_falling l D cI cJ cB cZ cA a b (by first | assumption | omega) (by first | assumption | omega)) (va_cwS 2 hts gX1_becomeOdds_X1_falling rfl rfl rfl (by decide +kernel) ⟨Nat.le_of_ble_eq_true rfl, Nat.le_of_ble_eq_true rfl⟩) rfl rfl hl.1 (Nat.le_of_ble_eq_true rfl) dX1_becomeOdds_2 ⟨Nat.le_refl _, Nat.le_refl _⟩ (fun _ H locs _ hP hS => ?_)
  refine W.eq (g2 := F0 mG 5 ls [.long (lN (flN a b))]) rfl ?_
  refine lv_lstore (lv' := [(5, .long (lN (flN a b))), (0, .ref f0), (1, .int (nI a)), (2, .int (nI b)), (3, .int (nI n)), (4, .int (nI c1))]) xh bh dX1_becomeOdds_5 hl (by decide) rfl (fun ls hl => ?_)
  refine lv_lconst (v := lN 0) xh bh dX1_becomeOdds_7 (by decide) ?_
  refine lv_lstore (lv' := [(7, .long (lN 0)), (5, .long (lN (flN a b))), (0, .ref f0), (1, .int (nI a)), (2, .int (nI b)), (3, .int (nI n)), (4, .int (nI c1))]) xh bh dX1_becomeOdds_8 hl (by decide) rfl (fun ls hl => ?_)
  refine lv_lconst (v := lN 1) xh bh dX1_becomeOdds_10 (by decide) ?_
  refine lv_lstore (lv' := [(9, .long (lN 1)), (7, .long (lN 0)), (5, .long (lN (flN a b))), (0, .ref f0), (1, .int (nI a)), (2, .int (nI b)), (3, .int (nI n)), (4, .int (nI c1))]) xh bh dX1_becomeOdds_11 hl (by decide) rfl (fun ls hl => ?_)
  refine lv_iconst (v := (nI 0)) xh bh dX1_becomeOdds_13 (by decide) ?_
  refine lv_istore (lv' := [(11, .int (nI 0)), (9, .long (lN 1)), (7, .long (lN 0)), (5, .long (lN (flN a b))), (0, .ref f0), (1, .int (nI a)), (2, .int (nI b)), (3, .int (nI n)), (4, .int (nI c1))]) xh bh dX1_becomeOdds_14 hl (by decide) rfl (fun ls hl => ?_)
  have cut_16 : ∀ (n_16 : Nat), ∀ (k : Nat), ∀ (s0 : Nat), ∀ (w : Nat), (k ≤ n + 1) → (s0 = keN a b n c1 k) → (w = chL n k) → (n + 1 - k) < n_16 → ∀ (H : Heap) (locs : List Loc) (ls : Array Slot), va_P D vwCl [(f0, .inr (0, [.long fa, .long fb]))] H → va_D AG [(f0, .inr (0, [.long fa, .long fb]))] → va_S AG sG.heap H locs → lv_has ls 14 [(0, .ref f0), (1, .int (nI a)), (2, .int (nI b)), (3, .int (nI n)), (4, .int (nI c1)), (5, .long (lN (flN a b))), (7, .long (lN s0)), (9, .long (lN w)), (11, .int (nI k))] → W pG l eG ({ frames := 2, cells := 0, slots := 0, locals := 56 }) sG mG aG bG tG cG H locs 0 0 QG (F0 mG 16 ls []) := by
    intro n_16
    induction n_16 with
    | zero =>
      intro k s0 w hk hs hw hmu
      exact absurd hmu (Nat.not_lt_zero _)
    | succ n_16 ih_16 =>
      intro k s0 w hk hs hw hmu H locs ls hP hD hS hl
      refine lv_iload xh bh dX1_becomeOdds_16 (lv_at hl 8 rfl) ?_
      refine lv_iload_n xh bh dX1_becomeOdds_18 rfl (lv_at hl 3 rfl) ?_
      refine xn_icmp_gt (tgt := 90) xh bh dX1_becomeOdds_19 (by decide) (by omega) (by omega) (fun c_19 => ?_) (fun c_19 => ?_)
      · have hs9 := keN_le (size := a) (like := b) ha (by omega) hn hc (n + 1) (Nat.le_refl _)
        have hs8 : s0 = keN a b n c1 (n + 1) := by rw [hs, show k = n + 1 by omega]
        have hp9 : 10 ^ n ≤ 10 ^ 4 := Nat.pow_le_pow_right (by decide) hn
        have hp8 : 0 < 10 ^ n := Nat.pow_pos (by decide)
        have hq9 : 10 ^ n * flN a b ≤ 10000 * 3628800 := Nat.mul_le_mul hp9 hf.1
        have hq8 : 0 < 10 ^ n * flN a b := Nat.mul_pos hp8 hf2
        have hs7 : (n + 1) * 9144576000000 ≤ 5 * 9144576000000 := Nat.mul_le_mul_right _ (by omega)
        refine lv_aload_n xh bh dX1_becomeOdds_90 rfl (lv_at hl 0 rfl) ?_
        refine lv_lload xh bh dX1_becomeOdds_91 (lv_at hl 6 rfl) ?_
        refine lv_bipush (v := (nI 10)) xh bh dX1_becomeOdds_93 (by decide) ?_
        refine lv_iload_n xh bh dX1_becomeOdds_95 rfl (lv_at hl 3 rfl) ?_
        refine Ct.callS0 (rest := [.long (lN s0), .ref f0]) xh bh hml hown hts hK hP hS hA (ct_X1_power l D cI cJ cB cZ cA 10 n (by first | assumption | omega) (by first | assumption | omega)) (va_cwS 2 hts gX1_becomeOdds_X1_power rfl rfl rfl (by decide +kernel) ⟨Nat.le_of_ble_eq_true rfl, Nat.le_of_ble_eq_true rfl⟩) rfl rfl hl.1 (Nat.le_of_ble_eq_true rfl) dX1_becomeOdds_96 ⟨Nat.le_refl _, Nat.le_refl _⟩ (fun _ H locs _ hP hS => ?_)
        refine W.eq (g2 := F0 mG 99 ls [.long (lN (10 ^ n)), .long (lN s0), .ref f0]) rfl ?_
        refine lv_lload xh bh dX1_becomeOdds_99 (lv_at hl 5 rfl) ?_
        refine xq_lmul xh bh dX1_becomeOdds_101 ?_
        refine Ct.callV (As := [.long (lN s0), .long (lN ((10 ^ n) * (flN a b)))]) (rest := []) (wr := []) xh bh hml hown hts hK hP hD hS hA (ct_X1_become l D cI cJ cB cZ cA f0 fa fb s0 ((10 ^ n) * (flN a b)) (by omega) (by omega) (by exact hq8)) (cwV 2 hts gX1_becomeOdds_X1_become rfl rfl rfl (by decide +kernel) ⟨Nat.le_of_ble_eq_true rfl, Nat.le_of_ble_eq_true rfl⟩) rfl rfl hl.1 (Nat.le_of_ble_eq_true rfl) dX1_becomeOdds_102 ⟨Nat.le_refl _, Nat.le_refl _⟩ 0 0 rfl rfl rfl [0] [] rfl (by decide) rfl rfl (by decide) (by decide) (fun _ H locs _ hP hD hS => ?_)
        have hP : va_P D vwCl [(f0, .inr (0, [.long (lN (s0 / Nat.gcd s0 ((10 ^ n) * (flN a b)))), .long (lN (((10 ^ n) * (flN a b)) / Nat.gcd s0 ((10 ^ n) * (flN a b))))]))] H := hP
        have hD : va_D AG [(f0, .inr (0, [.long (lN (s0 / Nat.gcd s0 ((10 ^ n) * (flN a b)))), .long (lN (((10 ^ n) * (flN a b)) / Nat.gcd s0 ((10 ^ n) * (flN a b))))]))] := hD
        refine W.eq (g2 := F0 mG 105 ls []) rfl ?_
        exact hend () _ _ _ _ rfl trivial dX1_becomeOdds_105 (by rw [← hs8]; exact hP) (by rw [← hs8]; exact hD) hS
      · refine lv_lload xh bh dX1_becomeOdds_22 (lv_at hl 7 rfl) ?_
        refine lv_iload xh bh dX1_becomeOdds_24 (lv_at hl 4 rfl) ?_
        refine lv_iload xh bh dX1_becomeOdds_26 (lv_at hl 8 rfl) ?_
        refine Ct.callS0 (rest := [.long (lN w)]) xh bh hml hown hts hK hP hS hA (ct_X1_power l D cI cJ cB cZ cA c1 k (by first | assumption | omega) (by first | assumption | omega)) (va_cwS 2 hts gX1_becomeOdds_X1_power rfl rfl rfl (by decide +kernel) ⟨Nat.le_of_ble_eq_true rfl, Nat.le_of_ble_eq_true rfl⟩) rfl rfl hl.1 (Nat.le_of_ble_eq_true rfl) dX1_becomeOdds_28 ⟨Nat.le_refl _, Nat.le_refl _⟩ (fun _ H locs _ hP hS => ?_)
        refine W.eq (g2 := F0 mG 31 ls [.long (lN (c1 ^ k)), .long (lN w)]) rfl ?_
        refine xq_lmul xh bh dX1_becomeOdds_31 ?_
        refine lv_bipush (v := (nI 10)) xh bh dX1_becomeOdds_32 (by decide) ?_
        refine lv_iload xh bh dX1_becomeOdds_34 (lv_at hl 4 rfl) ?_
        refine xn_isub xh bh dX1_becomeOdds_36 (by omega) ?_
        refine lv_iload_n xh bh dX1_becomeOdds_37 rfl (lv_at hl 3 rfl) ?_
        refine lv_iload xh bh dX1_becomeOdds_38 (lv_at hl 8 rfl) ?_
        refine xn_isub xh bh dX1_becomeOdds_40 (by omega) ?_
        refine Ct.callS0 (rest := [.long (lN (w * (c1 ^ k)))]) xh bh hml hown hts hK hP hS hA (ct_X1_power l D cI cJ cB cZ cA (10 - c1) (n - k) (by first | assumption | omega) (by first | assumption | omega)) (va_cwS 2 hts gX1_becomeOdds_X1_power rfl rfl rfl (by decide +kernel) ⟨Nat.le_of_ble_eq_true rfl, Nat.le_of_ble_eq_true rfl⟩) rfl rfl hl.1 (Nat.le_of_ble_eq_true rfl) dX1_becomeOdds_41 ⟨Nat.le_refl _, Nat.le_refl _⟩ (fun _ H locs _ hP hS => ?_)
        refine W.eq (g2 := F0 mG 44 ls [.long (lN ((10 - c1) ^ (n - k))), .long (lN (w * (c1 ^ k)))]) rfl ?_
        refine xq_lmul xh bh dX1_becomeOdds_44 ?_
        refine lv_lstore (lv' := [(12, .long (lN ((w * (c1 ^ k)) * ((10 - c1) ^ (n - k))))), (0, .ref f0), (1, .int (nI a)), (2, .int (nI b)), (3, .int (nI n)), (4, .int (nI c1)), (5, .long (lN (flN a b))), (7, .long (lN s0)), (9, .long (lN w)), (11, .int (nI k))]) xh bh dX1_becomeOdds_45 hl (by decide) rfl (fun ls hl => ?_)
        refine lv_lload xh bh dX1_becomeOdds_47 (lv_at hl 7 rfl) ?_
        refine lv_lload xh bh dX1_becomeOdds_49 (lv_at hl 0 rfl) ?_
        refine lv_lload xh bh dX1_becomeOdds_51 (lv_at hl 6 rfl) ?_
        refine lv_iload xh bh dX1_becomeOdds_53 (lv_at hl 9 rfl) ?_
        refine lv_iload_n xh bh dX1_becomeOdds_55 rfl (lv_at hl 2 rfl) ?_
        refine va_mmin xh bh (by rw [hml]; exact hl.1.symm) hown (hts _ (List.mem_of_getElem? (i := 1) rfl)) (hts _ (List.mem_of_getElem? (i := 2) rfl)) (hts _ (List.mem_of_getElem? (i := 3) rfl)) (hts _ (List.mem_of_getElem? (i := 4) rfl)) (Nat.le_of_ble_eq_true rfl) (Nat.le_of_ble_eq_true rfl) (Nat.le_refl _) (Nat.le_refl _) dX1_becomeOdds_56 ?_
        refine xn_min (by omega) (by omega) ?_
        refine lv_iload_n xh bh dX1_becomeOdds_59 rfl (lv_at hl 3 rfl) ?_
        refine Ct.callS0 (rest := [.long (lN (flN a b)), .long (lN ((w * (c1 ^ k)) * ((10 - c1) ^ (n - k)))), .long (lN s0)]) xh bh hml hown hts hK hP hS hA (ct_X1_falling l D cI cJ cB cZ cA (min a k) b (by omega) (by omega)) (va_cwS 2 hts gX1_becomeOdds_X1_falling rfl rfl rfl (by decide +kernel) ⟨Nat.le_of_ble_eq_true rfl, Nat.le_of_ble_eq_true rfl⟩) rfl rfl hl.1 (Nat.le_of_ble_eq_true rfl) dX1_becomeOdds_60 ⟨Nat.le_refl _, Nat.le_refl _⟩ (fun _ H locs _ hP hS => ?_)
        refine W.eq (g2 := F0 mG 63 ls [.long (lN (flN (min a k) b)), .long (lN (flN a b)), .long (lN ((w * (c1 ^ k)) * ((10 - c1) ^ (n - k)))), .long (lN s0)]) rfl ?_
        refine xq_lsub xh bh dX1_becomeOdds_63 (by exact flN_mono (Nat.min_le_left _ _) _) ?_
        refine xq_lmul xh bh dX1_becomeOdds_64 ?_
        refine xq_ladd xh bh dX1_becomeOdds_65 ?_
        refine lv_lstore (lv' := [(7, .long (lN (s0 + (((w * (c1 ^ k)) * ((10 - c1) ^ (n - k))) * ((flN a b) - (flN (min a k) b)))))), (12, .long (lN ((w * (c1 ^ k)) * ((10 - c1) ^ (n - k))))), (0, .ref f0), (1, .int (nI a)), (2, .int (nI b)), (3, .int (nI n)), (4, .int (nI c1)), (5, .long (lN (flN a b))), (9, .long (lN w)), (11, .int (nI k))]) xh bh dX1_becomeOdds_66 hl (by decide) rfl (fun ls hl => ?_)
        refine lv_lload xh bh dX1_becomeOdds_68 (lv_at hl 8 rfl) ?_
        refine lv_iload_n xh bh dX1_becomeOdds_70 rfl (lv_at hl 5 rfl) ?_
        refine lv_iload xh bh dX1_becomeOdds_71 (lv_at hl 9 rfl) ?_
        refine xn_isub xh bh dX1_becomeOdds_73 (by omega) ?_
        refine xn_i2l xh bh dX1_becomeOdds_74 (by omega) ?_
        refine xq_lmul xh bh dX1_becomeOdds_75 ?_
        refine lv_iload xh bh dX1_becomeOdds_76 (lv_at hl 9 rfl) ?_
        refine lv_iconst (v := (nI 1)) xh bh dX1_becomeOdds_78 (by decide) ?_
        refine xn_iadd xh bh dX1_becomeOdds_79 ?_
        refine xn_i2l xh bh dX1_becomeOdds_80 (by omega) ?_
        refine xq_ldiv xh bh dX1_becomeOdds_81 (by have h9 := (chL_le n (by omega) k (by omega)).1; rw [← hw] at h9; exact Nat.lt_of_le_of_lt (Nat.mul_le_mul h9 (show n - k ≤ 4 by omega)) (by decide)) (by omega) (by omega) ?_
        refine lv_lstore (lv' := [(9, .long (lN ((w * (n - k)) / (k + 1)))), (7, .long (lN (s0 + (((w * (c1 ^ k)) * ((10 - c1) ^ (n - k))) * ((flN a b) - (flN (min a k) b)))))), (12, .long (lN ((w * (c1 ^ k)) * ((10 - c1) ^ (n - k))))), (0, .ref f0), (1, .int (nI a)), (2, .int (nI b)), (3, .int (nI n)), (4, .int (nI c1)), (5, .long (lN (flN a b))), (11, .int (nI k))]) xh bh dX1_becomeOdds_82 hl (by decide) rfl (fun ls hl => ?_)
        refine lv_iinc (v := (nI (k + 1))) (lv' := [(11, .int (nI (k + 1))), (9, .long (lN ((w * (n - k)) / (k + 1)))), (7, .long (lN (s0 + (((w * (c1 ^ k)) * ((10 - c1) ^ (n - k))) * ((flN a b) - (flN (min a k) b)))))), (12, .long (lN ((w * (c1 ^ k)) * ((10 - c1) ^ (n - k))))), (0, .ref f0), (1, .int (nI a)), (2, .int (nI b)), (3, .int (nI n)), (4, .int (nI c1)), (5, .long (lN (flN a b)))]) xh bh dX1_becomeOdds_84 hl (k := 9) rfl (by exact xn_inc _ _) (by decide) rfl (fun ls hl => ?_)
        refine lv_goto (tgt := 16) xh bh dX1_becomeOdds_87 (by decide) ?_
        exact ih_16 (k + 1) (s0 + (((w * (c1 ^ k)) * ((10 - c1) ^ (n - k))) * ((flN a b) - (flN (min a k) b)))) ((w * (n - k)) / (k + 1)) (by omega) (by rw [hs, hw, Nat.min_comm a k]; rfl) (by rw [hw]; rfl) (by omega) _ _ ls hP hD hS (lv_sub hl [4, 5, 6, 7, 8, 9, 2, 1, 0] rfl)
  exact cut_16 (n + 1 - 0 + 1) 0 0 1 (by exact Nat.zero_le _) (by rfl) (by rfl) (Nat.lt_succ_self _) _ _ ls hP hD hS (lv_sub hl [4, 5, 6, 7, 8, 3, 2, 1, 0] rfl)

set_option maxHeartbeats 1000000 in
set_option maxRecDepth 100000 in
theorem ct_X0_following (l : Launch) (D : va_G) (cI cJ cB cZ cA : ClassId) (x : Nat) (hx : x < 2147483648) : Ct l yX0_following wsX0_following ({ frames := 0, cells := 0, slots := 0, locals := 0 }) D (tysG cI cJ cB cZ cA) [.long (lN x)] [] (fun (_ : Unit) => True) (fun _ => some (.long (lN (lcg x)))) (fun _ => []) := by
  refine Ct.ofL (cc := cX0_following) (maxL := 2) (by decide) rfl (Nat.le_of_ble_eq_true rfl) ?_
  intro pG eG sG mG aG bG tG cG AG QG ls xh bh hml hown hts hK hP hD hS hA hend hl
  have hl : lv_has ls 2 [(0, .long (lN x))] := hl
  refine lv_lload_n xh bh dX0_following_0 rfl (lv_at hl 0 rfl) ?_
  refine lv_ldc2 (v := (lN 1103515245)) xh bh hown (hts _ (List.mem_of_getElem? (i := 1) rfl)) dX0_following_1 ?_
  refine xq_lmul xh bh dX0_following_4 ?_
  refine lv_ldc2 (v := (lN 12345)) xh bh hown (hts _ (List.mem_of_getElem? (i := 2) rfl)) dX0_following_5 ?_
  refine xq_ladd xh bh dX0_following_8 ?_
  refine lv_ldc2 (v := (lN 2147483648)) xh bh hown (hts _ (List.mem_of_getElem? (i := 3) rfl)) dX0_following_9 ?_
  refine xq_lrem xh bh dX0_following_12 (by omega) (by omega) (by omega) ?_
  exact hend (lN (((x * 1103515245) + 12345) % 2147483648)) () _ _ _ _ (congrArg (fun z => some (Value.long (lN z))) (by rfl)) trivial dX0_following_13 hP hD hS

set_option maxHeartbeats 1000000 in
set_option maxRecDepth 100000 in
theorem ct_X0_cut (l : Launch) (D : va_G) (cI cJ cB cZ cA : ClassId) (x : Nat) (n : Nat) (hx : x < 2147483648) (hn : 0 < n ∧ n ≤ 10) : Ct l yX0_cut wsX0_cut ({ frames := 0, cells := 0, slots := 0, locals := 0 }) D (tysG cI cJ cB cZ cA) [.long (lN x), .int (nI n)] [] (fun (_ : Unit) => True) (fun _ => some (.int (nI (x / 65536 % n)))) (fun _ => []) := by
  refine Ct.ofI (cc := cX0_cut) (maxL := 3) (by decide) rfl (Nat.le_of_ble_eq_true rfl) ?_
  intro pG eG sG mG aG bG tG cG AG QG ls xh bh hml hown hts hK hP hD hS hA hend hl
  have hl : lv_has ls 3 [(0, .long (lN x)), (2, .int (nI n))] := hl
  refine lv_iload_n xh bh dX0_cut_0 rfl (lv_at hl 1 rfl) ?_
  refine xn_if_le (tgt := 16) xh bh dX0_cut_1 (by decide) (by omega) (fun c_1 => ?_) (fun c_1 => ?_)
  · exact absurd c_1 (by omega)
  · refine lv_lload_n xh bh dX0_cut_4 rfl (lv_at hl 0 rfl) ?_
    refine lv_ldc2 (v := (lN 65536)) xh bh hown (hts _ (List.mem_of_getElem? (i := 1) rfl)) dX0_cut_5 ?_
    refine xq_ldiv xh bh dX0_cut_8 (by omega) (by omega) (by omega) ?_
    refine lv_iload_n xh bh dX0_cut_9 rfl (lv_at hl 1 rfl) ?_
    refine xn_i2l xh bh dX0_cut_10 (by omega) ?_
    refine xq_lrem xh bh dX0_cut_11 (by have : x / 65536 ≤ x := Nat.div_le_self _ _; omega) (by omega) (by omega) ?_
    refine xq_l2i xh bh dX0_cut_12 ?_
    refine lv_goto (tgt := 17) xh bh dX0_cut_13 (by decide) ?_
    exact hend (nI ((x / 65536) % n)) () _ _ _ _ (congrArg (fun z => some (Value.int (nI z))) (by rfl)) trivial rfl dX0_cut_17 hP hD hS

set_option maxHeartbeats 1000000 in
set_option maxRecDepth 100000 in
theorem ct_X0_centuriesOfDuck (l : Launch) (D : va_G) (cI cJ cB cZ cA : ClassId) (t : List Nat) (s0 : Nat) (n : Nat) (ht : okT t) (hs : s0 ≤ 999999) (hn : n ≤ 60) : Ct l yX0_centuriesOfDuck wsX0_centuriesOfDuck ({ frames := 5, cells := 0, slots := 0, locals := 118 }) D (tysG cI cJ cB cZ cA) [.long (eC t), .int (nI s0), .int (nI n)] [] (fun (_ : Unit) => True) (fun _ => some (.int (ceI t s0 0 (n + 1)))) (fun _ => []) := by
  refine Ct.ofI (cc := cX0_centuriesOfDuck) (maxL := 13) (by decide) rfl (Nat.le_of_ble_eq_true rfl) ?_
  intro pG eG sG mG aG bG tG cG AG QG ls xh bh hml hown hts hK hP hD hS hA hend hl
  have hl : lv_has ls 13 [(0, .long (eC t)), (2, .int (nI s0)), (3, .int (nI n))] := hl
  refine lv_lload_n xh bh dX0_centuriesOfDuck_0 rfl (lv_at hl 0 rfl) ?_
  refine lv_lstore (lv' := [(4, .long (eC t)), (0, .long (eC t)), (2, .int (nI s0)), (3, .int (nI n))]) xh bh dX0_centuriesOfDuck_1 hl (by decide) rfl (fun ls hl => ?_)
  refine lv_iload_n xh bh dX0_centuriesOfDuck_3 rfl (lv_at hl 2 rfl) ?_
  refine xn_i2l xh bh dX0_centuriesOfDuck_4 (by omega) ?_
  refine lv_lstore (lv' := [(6, .long (lN s0)), (4, .long (eC t)), (0, .long (eC t)), (2, .int (nI s0)), (3, .int (nI n))]) xh bh dX0_centuriesOfDuck_5 hl (by decide) rfl (fun ls hl => ?_)
  refine lv_iconst (v := (nI 0)) xh bh dX0_centuriesOfDuck_7 (by decide) ?_
  refine lv_istore (lv' := [(8, .int (nI 0)), (6, .long (lN s0)), (4, .long (eC t)), (0, .long (eC t)), (2, .int (nI s0)), (3, .int (nI n))]) xh bh dX0_centuriesOfDuck_8 hl (by decide) rfl (fun ls hl => ?_)
  have cut_10 : ∀ (n_10 : Nat), ∀ (k : Nat), ∀ (u1 : List Nat), ∀ (y : Nat), (k ≤ n + 1) → (u1 = (ceT t s0 k).1) → (y = (ceT t s0 k).2) → (okT u1) → (y < 2147483648) → (ceI t s0 0 (n + 1) = ceI t s0 k (n + 1 - k)) → (n + 1 - k) < n_10 → ∀ (H : Heap) (locs : List Loc) (ls : Array Slot), va_P D vwCl [] H → va_D AG [] → va_S AG sG.heap H locs → lv_has ls 13 [(0, .long (eC t)), (2, .int (nI s0)), (3, .int (nI n)), (4, .long (eC u1)), (6, .long (lN y)), (8, .int (nI k))] → W pG l eG ({ frames := 5, cells := 0, slots := 0, locals := 118 }) sG mG aG bG tG cG H locs 0 0 QG (F0 mG 10 ls []) := by
    intro n_10
    induction n_10 with
    | zero =>
      intro k u1 y hk2 hu hy hok hyl hr hmu
      exact absurd hmu (Nat.not_lt_zero _)
    | succ n_10 ih_10 =>
      intro k u1 y hk2 hu hy hok hyl hr hmu H locs ls hP hD hS hl
      refine lv_iload xh bh dX0_centuriesOfDuck_10 (lv_at hl 5 rfl) ?_
      refine lv_iload_n xh bh dX0_centuriesOfDuck_12 rfl (lv_at hl 2 rfl) ?_
      refine xn_icmp_gt (tgt := 88) xh bh dX0_centuriesOfDuck_13 (by decide) (by omega) (by omega) (fun c_13 => ?_) (fun c_13 => ?_)
      · refine lv_iconst (v := (-1)) xh bh dX0_centuriesOfDuck_88 (by decide) ?_
        exact hend (-1) () _ _ _ _ (congrArg (fun z => some (Value.int z)) (by rw [hr, show n + 1 - k = 0 by omega]; rfl)) trivial rfl dX0_centuriesOfDuck_89 hP hD hS
      · refine lv_lload xh bh dX0_centuriesOfDuck_16 (lv_at hl 3 rfl) ?_
        refine lv_bipush (v := (nI 7)) xh bh dX0_centuriesOfDuck_18 (by decide) ?_
        refine Ct.callS0 (rest := []) xh bh hml hown hts hK hP hS hA (ct_X7_has l D cI cJ cB cZ cA u1 7 (by first | assumption | exact okT_nil) (by first | assumption | omega)) (va_cwS 2 hts gX0_centuriesOfDuck_X7_has rfl rfl rfl (by decide +kernel) ⟨Nat.le_of_ble_eq_true rfl, Nat.le_of_ble_eq_true rfl⟩) rfl rfl hl.1 (Nat.le_of_ble_eq_true rfl) dX0_centuriesOfDuck_20 ⟨Nat.le_refl _, Nat.le_refl _⟩ (fun _ H locs _ hP hS => ?_)
        refine W.eq (g2 := F0 mG 23 ls [.int (ib (decide (7 ∈ u1)))]) rfl ?_
        refine xb_if_ne (tgt := 29) xh bh dX0_centuriesOfDuck_23 (by decide) (fun c_23 => ?_) (fun c_23 => ?_)
        · refine lv_lload xh bh dX0_centuriesOfDuck_29 (lv_at hl 4 rfl) ?_
          refine Ct.callS0 (rest := []) xh bh hml hown hts hK hP hS hA (ct_X0_following l D cI cJ cB cZ cA y (by first | assumption | omega)) (va_cwS 1 hts gX0_centuriesOfDuck_X0_following rfl rfl rfl (by decide +kernel) ⟨Nat.le_of_ble_eq_true rfl, Nat.le_of_ble_eq_true rfl⟩) rfl rfl hl.1 (Nat.le_of_ble_eq_true rfl) dX0_centuriesOfDuck_31 ⟨Nat.le_refl _, Nat.le_refl _⟩ (fun _ H locs _ hP hS => ?_)
          refine W.eq (g2 := F0 mG 34 ls [.long (lN (lcg y))]) rfl ?_
          refine lv_lstore (lv' := [(6, .long (lN (lcg y))), (0, .long (eC t)), (2, .int (nI s0)), (3, .int (nI n)), (4, .long (eC u1)), (8, .int (nI k))]) xh bh dX0_centuriesOfDuck_34 hl (by decide) rfl (fun ls hl => ?_)
          refine lv_lload xh bh dX0_centuriesOfDuck_36 (lv_at hl 0 rfl) ?_
          refine Ct.callS0 (rest := []) xh bh hml hown hts hK hP hS hA (ct_X0_following l D cI cJ cB cZ cA (lcg y) (by exact lcg_lt _)) (va_cwS 1 hts gX0_centuriesOfDuck_X0_following rfl rfl rfl (by decide +kernel) ⟨Nat.le_of_ble_eq_true rfl, Nat.le_of_ble_eq_true rfl⟩) rfl rfl hl.1 (Nat.le_of_ble_eq_true rfl) dX0_centuriesOfDuck_38 ⟨Nat.le_refl _, Nat.le_refl _⟩ (fun _ H locs _ hP hS => ?_)
          refine W.eq (g2 := F0 mG 41 ls [.long (lN (lcg (lcg y)))]) rfl ?_
          refine lv_lstore (lv' := [(9, .long (lN (lcg (lcg y)))), (6, .long (lN (lcg y))), (0, .long (eC t)), (2, .int (nI s0)), (3, .int (nI n)), (4, .long (eC u1)), (8, .int (nI k))]) xh bh dX0_centuriesOfDuck_41 hl (by decide) rfl (fun ls hl => ?_)
          refine lv_lload xh bh dX0_centuriesOfDuck_43 (lv_at hl 0 rfl) ?_
          refine Ct.callS0 (rest := []) xh bh hml hown hts hK hP hS hA (ct_X0_following l D cI cJ cB cZ cA (lcg (lcg y)) (by exact lcg_lt _)) (va_cwS 1 hts gX0_centuriesOfDuck_X0_following rfl rfl rfl (by decide +kernel) ⟨Nat.le_of_ble_eq_true rfl, Nat.le_of_ble_eq_true rfl⟩) rfl rfl hl.1 (Nat.le_of_ble_eq_true rfl) dX0_centuriesOfDuck_45 ⟨Nat.le_refl _, Nat.le_refl _⟩ (fun _ H locs _ hP hS => ?_)
          refine W.eq (g2 := F0 mG 48 ls [.long (lN (lcg (lcg (lcg y))))]) rfl ?_
          refine lv_lstore (lv' := [(11, .long (lN (lcg (lcg (lcg y))))), (9, .long (lN (lcg (lcg y)))), (6, .long (lN (lcg y))), (0, .long (eC t)), (2, .int (nI s0)), (3, .int (nI n)), (4, .long (eC u1)), (8, .int (nI k))]) xh bh dX0_centuriesOfDuck_48 hl (by decide) rfl (fun ls hl => ?_)
          refine lv_lload xh bh dX0_centuriesOfDuck_50 (lv_at hl 6 rfl) ?_
          refine lv_lload xh bh dX0_centuriesOfDuck_52 (lv_at hl 2 rfl) ?_
          refine lv_bipush (v := (nI 6)) xh bh dX0_centuriesOfDuck_54 (by decide) ?_
          refine Ct.callS0 (rest := [.long (eC u1)]) xh bh hml hown hts hK hP hS hA (ct_X0_cut l D cI cJ cB cZ cA (lcg y) 6 (by exact lcg_lt _) (by first | assumption | omega)) (va_cwS 2 hts gX0_centuriesOfDuck_X0_cut rfl rfl rfl (by decide +kernel) ⟨Nat.le_of_ble_eq_true rfl, Nat.le_of_ble_eq_true rfl⟩) rfl rfl hl.1 (Nat.le_of_ble_eq_true rfl) dX0_centuriesOfDuck_56 ⟨Nat.le_refl _, Nat.le_refl _⟩ (fun _ H locs _ hP hS => ?_)
          refine W.eq (g2 := F0 mG 59 ls [.int (nI ((lcg y) / 65536 % 6)), .long (eC u1)]) rfl ?_
          refine lv_lload xh bh dX0_centuriesOfDuck_59 (lv_at hl 1 rfl) ?_
          refine lv_bipush (v := (nI 10)) xh bh dX0_centuriesOfDuck_61 (by decide) ?_
          refine Ct.callS0 (rest := [.int (nI ((lcg y) / 65536 % 6)), .long (eC u1)]) xh bh hml hown hts hK hP hS hA (ct_X0_cut l D cI cJ cB cZ cA (lcg (lcg y)) 10 (by exact lcg_lt _) (by first | assumption | omega)) (va_cwS 2 hts gX0_centuriesOfDuck_X0_cut rfl rfl rfl (by decide +kernel) ⟨Nat.le_of_ble_eq_true rfl, Nat.le_of_ble_eq_true rfl⟩) rfl rfl hl.1 (Nat.le_of_ble_eq_true rfl) dX0_centuriesOfDuck_63 ⟨Nat.le_refl _, Nat.le_refl _⟩ (fun _ H locs _ hP hS => ?_)
          refine W.eq (g2 := F0 mG 66 ls [.int (nI ((lcg (lcg y)) / 65536 % 10)), .int (nI ((lcg y) / 65536 % 6)), .long (eC u1)]) rfl ?_
          refine lv_lload xh bh dX0_centuriesOfDuck_66 (lv_at hl 0 rfl) ?_
          refine lv_bipush (v := (nI 10)) xh bh dX0_centuriesOfDuck_68 (by decide) ?_
          refine Ct.callS0 (rest := [.int (nI ((lcg (lcg y)) / 65536 % 10)), .int (nI ((lcg y) / 65536 % 6)), .long (eC u1)]) xh bh hml hown hts hK hP hS hA (ct_X0_cut l D cI cJ cB cZ cA (lcg (lcg (lcg y))) 10 (by exact lcg_lt _) (by first | assumption | omega)) (va_cwS 2 hts gX0_centuriesOfDuck_X0_cut rfl rfl rfl (by decide +kernel) ⟨Nat.le_of_ble_eq_true rfl, Nat.le_of_ble_eq_true rfl⟩) rfl rfl hl.1 (Nat.le_of_ble_eq_true rfl) dX0_centuriesOfDuck_70 ⟨Nat.le_refl _, Nat.le_refl _⟩ (fun _ H locs _ hP hS => ?_)
          refine W.eq (g2 := F0 mG 73 ls [.int (nI ((lcg (lcg (lcg y))) / 65536 % 10)), .int (nI ((lcg (lcg y)) / 65536 % 10)), .int (nI ((lcg y) / 65536 % 6)), .long (eC u1)]) rfl ?_
          refine Ct.callS0 (rest := []) xh bh hml hown hts hK hP hS hA (ct_X7_slipped l D cI cJ cB cZ cA u1 ((lcg y) / 65536 % 6) ((lcg (lcg y)) / 65536 % 10) ((lcg (lcg (lcg y))) / 65536 % 10) (by exact hok) (by exact Nat.lt_trans (Nat.mod_lt _ (by decide)) (by decide)) (by exact Nat.mod_lt _ (by decide)) (by exact Nat.mod_lt _ (by decide))) (va_cwS 4 hts gX0_centuriesOfDuck_X7_slipped rfl rfl rfl (by decide +kernel) ⟨Nat.le_of_ble_eq_true rfl, Nat.le_of_ble_eq_true rfl⟩) rfl rfl hl.1 (Nat.le_of_ble_eq_true rfl) dX0_centuriesOfDuck_73 ⟨Nat.le_refl _, Nat.le_refl _⟩ (fun _ H locs _ hP hS => ?_)
          refine W.eq (g2 := F0 mG 76 ls [.long (eC (slipT u1 ((lcg y) / 65536 % 6) ((lcg (lcg y)) / 65536 % 10) ((lcg (lcg (lcg y))) / 65536 % 10)))]) rfl ?_
          refine lv_lstore (lv' := [(4, .long (eC (slipT u1 ((lcg y) / 65536 % 6) ((lcg (lcg y)) / 65536 % 10) ((lcg (lcg (lcg y))) / 65536 % 10)))), (11, .long (lN (lcg (lcg (lcg y))))), (9, .long (lN (lcg (lcg y)))), (6, .long (lN (lcg y))), (0, .long (eC t)), (2, .int (nI s0)), (3, .int (nI n)), (8, .int (nI k))]) xh bh dX0_centuriesOfDuck_76 hl (by decide) rfl (fun ls hl => ?_)
          refine lv_lload xh bh dX0_centuriesOfDuck_78 (lv_at hl 1 rfl) ?_
          refine lv_lstore (lv' := [(6, .long (lN (lcg (lcg (lcg y))))), (4, .long (eC (slipT u1 ((lcg y) / 65536 % 6) ((lcg (lcg y)) / 65536 % 10) ((lcg (lcg (lcg y))) / 65536 % 10)))), (11, .long (lN (lcg (lcg (lcg y))))), (9, .long (lN (lcg (lcg y)))), (0, .long (eC t)), (2, .int (nI s0)), (3, .int (nI n)), (8, .int (nI k))]) xh bh dX0_centuriesOfDuck_80 hl (by decide) rfl (fun ls hl => ?_)
          refine lv_iinc (v := (nI (k + 1))) (lv' := [(8, .int (nI (k + 1))), (6, .long (lN (lcg (lcg (lcg y))))), (4, .long (eC (slipT u1 ((lcg y) / 65536 % 6) ((lcg (lcg y)) / 65536 % 10) ((lcg (lcg (lcg y))) / 65536 % 10)))), (11, .long (lN (lcg (lcg (lcg y))))), (9, .long (lN (lcg (lcg y)))), (0, .long (eC t)), (2, .int (nI s0)), (3, .int (nI n))]) xh bh dX0_centuriesOfDuck_82 hl (k := 7) rfl (by exact xn_inc _ _) (by decide) rfl (fun ls hl => ?_)
          refine lv_goto (tgt := 10) xh bh dX0_centuriesOfDuck_85 (by decide) ?_
          exact ih_10 (k + 1) (slipT u1 ((lcg y) / 65536 % 6) ((lcg (lcg y)) / 65536 % 10) ((lcg (lcg (lcg y))) / 65536 % 10)) (lcg (lcg (lcg y))) (by omega) (by rw [hu, hy]; rfl) (by rw [hy]; rfl) (by exact okT_slip hok _ _ (Nat.mod_lt _ (by decide))) (by exact lcg_lt _) (by rw [hr, show n + 1 - k = (n + 1 - (k + 1)) + 1 by omega]; exact ceI_y (by rw [← hu]; exact of_decide_eq_true c_23)) (by omega) _ _ ls hP hD hS (lv_sub hl [5, 6, 7, 2, 1, 0] rfl)
        · refine lv_iload xh bh dX0_centuriesOfDuck_26 (lv_at hl 5 rfl) ?_
          exact hend (nI k) () _ _ _ _ (congrArg (fun z => some (Value.int z)) (by rw [hr, show n + 1 - k = (n + 1 - (k + 1)) + 1 by omega]; exact ceI_n (by rw [← hu]; exact of_decide_eq_false c_23))) trivial rfl dX0_centuriesOfDuck_28 hP hD hS
  exact cut_10 (n + 1 - 0 + 1) 0 t s0 (by exact Nat.zero_le _) (by rfl) (by rfl) (by exact ht) (by omega) (by rfl) (Nat.lt_succ_self _) _ _ ls hP hD hS (lv_sub hl [3, 4, 5, 2, 1, 0] rfl)

set_option maxHeartbeats 1000000 in
set_option maxRecDepth 100000 in
theorem ct_X4_funniestSlip (l : Launch) (D : va_G) (cI cJ cB cZ cA : ClassId) (t : List Nat) (ht : okT t) : Ct l yX4_funniestSlip wsX4_funniestSlip ({ frames := 5, cells := 0, slots := 0, locals := 118 }) D (tysG cI cJ cB cZ cA) [.long (eC t)] [] (fun (_ : Unit) => True) (fun _ => some (.int (nI ((slP t 500).1)))) (fun _ => []) := by
  refine Ct.ofI (cc := cX4_funniestSlip) (maxL := 9) (by decide) rfl (Nat.le_of_ble_eq_true rfl) ?_
  intro pG eG sG mG aG bG tG cG AG QG ls xh bh hml hown hts hK hP hD hS hA hend hl
  have hl : lv_has ls 9 [(0, .long (eC t))] := hl
  refine lv_iconst (v := (nI 0)) xh bh dX4_funniestSlip_0 (by decide) ?_
  refine lv_istore_n (lv' := [(2, .int (nI 0)), (0, .long (eC t))]) xh bh dX4_funniestSlip_1 rfl hl (by decide) rfl (fun ls hl => ?_)
  refine lv_lload_n xh bh dX4_funniestSlip_2 rfl (lv_at hl 1 rfl) ?_
  refine Ct.callS0 (rest := []) xh bh hml hown hts hK hP hS hA (ct_X4_funOf l D cI cJ cB cZ cA t (by first | assumption | exact okT_nil)) (va_cwS 1 hts gX4_funniestSlip_X4_funOf rfl rfl rfl (by decide +kernel) ⟨Nat.le_of_ble_eq_true rfl, Nat.le_of_ble_eq_true rfl⟩) rfl rfl hl.1 (Nat.le_of_ble_eq_true rfl) dX4_funniestSlip_3 ⟨Nat.le_refl _, Nat.le_refl _⟩ (fun _ H locs _ hP hS => ?_)
  refine W.eq (g2 := F0 mG 6 ls [.int (funT t)]) rfl ?_
  refine lv_istore_n (lv' := [(3, .int (funT t)), (2, .int (nI 0)), (0, .long (eC t))]) xh bh dX4_funniestSlip_6 rfl hl (by decide) rfl (fun ls hl => ?_)
  refine lv_iconst (v := (nI 1)) xh bh dX4_funniestSlip_7 (by decide) ?_
  refine lv_istore (lv' := [(4, .int (nI 1)), (3, .int (funT t)), (2, .int (nI 0)), (0, .long (eC t))]) xh bh dX4_funniestSlip_8 hl (by decide) rfl (fun ls hl => ?_)
  have cut_10 : ∀ (n_10 : Nat), ∀ (k : Nat), ∀ (b : Nat), ∀ (m : Int32), (1 ≤ k ∧ k ≤ 6) → (b = (slP t (100 * k - 100)).1) → (m = (slP t (100 * k - 100)).2) → (6 - k) < n_10 → ∀ (H : Heap) (locs : List Loc) (ls : Array Slot), va_P D vwCl [] H → va_D AG [] → va_S AG sG.heap H locs → lv_has ls 9 [(0, .long (eC t)), (2, .int (nI b)), (3, .int m), (4, .int (nI k))] → W pG l eG ({ frames := 5, cells := 0, slots := 0, locals := 118 }) sG mG aG bG tG cG H locs 0 0 QG (F0 mG 10 ls []) := by
    intro n_10
    induction n_10 with
    | zero =>
      intro k b m hk hb hm hmu
      exact absurd hmu (Nat.not_lt_zero _)
    | succ n_10 ih_10 =>
      intro k b m hk hb hm hmu H locs ls hP hD hS hl
      refine lv_iload xh bh dX4_funniestSlip_10 (lv_at hl 3 rfl) ?_
      refine lv_bipush (v := (nI 6)) xh bh dX4_funniestSlip_12 (by decide) ?_
      refine xn_icmp_ge (tgt := 114) xh bh dX4_funniestSlip_14 (by decide) (by omega) (by omega) (fun c_14 => ?_) (fun c_14 => ?_)
      · refine lv_iload_n xh bh dX4_funniestSlip_114 rfl (lv_at hl 1 rfl) ?_
        exact hend (nI b) () _ _ _ _ (congrArg (fun z => some (Value.int (nI z))) (by rw [hb, show 100 * k - 100 = 500 by omega])) trivial rfl dX4_funniestSlip_115 hP hD hS
      · have cut_35 : ∀ (w : Nat), ((w = 10 ∧ (k = 2 ∨ k = 5)) ∨ (w = 1 ∧ (k = 1 ∨ k = 3 ∨ k = 4))) → ∀ (H : Heap) (locs : List Loc) (ls : Array Slot), va_P D vwCl [] H → va_D AG [] → va_S AG sG.heap H locs → lv_has ls 9 [(0, .long (eC t)), (2, .int (nI b)), (3, .int m), (4, .int (nI k))] → W pG l eG ({ frames := 5, cells := 0, slots := 0, locals := 118 }) sG mG aG bG tG cG H locs 0 0 QG (F0 mG 35 ls [.int (nI w)]) := by
          intro w hw H locs ls hP hD hS hl
          refine lv_istore (lv' := [(5, .int (nI w)), (0, .long (eC t)), (2, .int (nI b)), (3, .int m), (4, .int (nI k))]) xh bh dX4_funniestSlip_35 hl (by decide) rfl (fun ls hl => ?_)
          refine lv_iconst (v := (nI 0)) xh bh dX4_funniestSlip_37 (by decide) ?_
          refine lv_istore (lv' := [(6, .int (nI 0)), (5, .int (nI w)), (0, .long (eC t)), (2, .int (nI b)), (3, .int m), (4, .int (nI k))]) xh bh dX4_funniestSlip_38 hl (by decide) rfl (fun ls hl => ?_)
          have cut_40 : ∀ (n_40 : Nat), ∀ (i : Nat), ∀ (b2 : Nat), ∀ (m2 : Int32), (i ≤ 10) → (b2 = (slP t (100 * k + 10 * i - 100)).1) → (m2 = (slP t (100 * k + 10 * i - 100)).2) → (10 - i) < n_40 → ∀ (H : Heap) (locs : List Loc) (ls : Array Slot), va_P D vwCl [] H → va_D AG [] → va_S AG sG.heap H locs → lv_has ls 9 [(0, .long (eC t)), (2, .int (nI b2)), (3, .int m2), (4, .int (nI k)), (5, .int (nI w)), (6, .int (nI i))] → W pG l eG ({ frames := 5, cells := 0, slots := 0, locals := 118 }) sG mG aG bG tG cG H locs 0 0 QG (F0 mG 40 ls []) := by
            intro n_40
            induction n_40 with
            | zero =>
              intro i b2 m2 hi hb2 hm2 hmu
              exact absurd hmu (Nat.not_lt_zero _)
            | succ n_40 ih_40 =>
              intro i b2 m2 hi hb2 hm2 hmu H locs ls hP hD hS hl
              refine lv_iload xh bh dX4_funniestSlip_40 (lv_at hl 5 rfl) ?_
              refine lv_bipush (v := (nI 10)) xh bh dX4_funniestSlip_42 (by decide) ?_
              refine xn_icmp_ge (tgt := 108) xh bh dX4_funniestSlip_44 (by decide) (by omega) (by omega) (fun c_44 => ?_) (fun c_44 => ?_)
              · refine lv_iinc (v := (nI (k + 1))) (lv' := [(4, .int (nI (k + 1))), (0, .long (eC t)), (2, .int (nI b2)), (3, .int m2), (5, .int (nI w)), (6, .int (nI i))]) xh bh dX4_funniestSlip_108 hl (k := 3) rfl (by exact xn_inc _ _) (by decide) rfl (fun ls hl => ?_)
                refine lv_goto (tgt := 10) xh bh dX4_funniestSlip_111 (by decide) ?_
                exact ih_10 (k + 1) b2 m2 (by omega) (by rw [hb2, show 100 * (k + 1) - 100 = 100 * k + 10 * i - 100 by omega]) (by rw [hm2, show 100 * (k + 1) - 100 = 100 * k + 10 * i - 100 by omega]) (by omega) _ _ ls hP hD hS (lv_sub hl [1, 2, 3, 0] rfl)
              · refine lv_iconst (v := (nI 0)) xh bh dX4_funniestSlip_47 (by decide) ?_
                refine lv_istore (lv' := [(7, .int (nI 0)), (0, .long (eC t)), (2, .int (nI b2)), (3, .int m2), (4, .int (nI k)), (5, .int (nI w)), (6, .int (nI i))]) xh bh dX4_funniestSlip_48 hl (by decide) rfl (fun ls hl => ?_)
                have cut_50 : ∀ (n_50 : Nat), ∀ (x : Nat), ∀ (b3 : Nat), ∀ (m3 : Int32), (x ≤ w) → (b3 = (slP t (100 * k + 10 * i + x - 100)).1) → (m3 = (slP t (100 * k + 10 * i + x - 100)).2) → (w - x) < n_50 → ∀ (H : Heap) (locs : List Loc) (ls : Array Slot), va_P D vwCl [] H → va_D AG [] → va_S AG sG.heap H locs → lv_has ls 9 [(0, .long (eC t)), (2, .int (nI b3)), (3, .int m3), (4, .int (nI k)), (5, .int (nI w)), (6, .int (nI i)), (7, .int (nI x))] → W pG l eG ({ frames := 5, cells := 0, slots := 0, locals := 118 }) sG mG aG bG tG cG H locs 0 0 QG (F0 mG 50 ls []) := by
                  intro n_50
                  induction n_50 with
                  | zero =>
                    intro x b3 m3 hx hb3 hm3 hmu
                    exact absurd hmu (Nat.not_lt_zero _)
                  | succ n_50 ih_50 =>
                    intro x b3 m3 hx hb3 hm3 hmu H locs ls hP hD hS hl
                    refine lv_iload xh bh dX4_funniestSlip_50 (lv_at hl 6 rfl) ?_
                    refine lv_iload xh bh dX4_funniestSlip_52 (lv_at hl 4 rfl) ?_
                    refine xn_icmp_ge (tgt := 102) xh bh dX4_funniestSlip_54 (by decide) (by omega) (by omega) (fun c_54 => ?_) (fun c_54 => ?_)
                    · refine lv_iinc (v := (nI (i + 1))) (lv' := [(6, .int (nI (i + 1))), (0, .long (eC t)), (2, .int (nI b3)), (3, .int m3), (4, .int (nI k)), (5, .int (nI w)), (7, .int (nI x))]) xh bh dX4_funniestSlip_102 hl (k := 5) rfl (by exact xn_inc _ _) (by decide) rfl (fun ls hl => ?_)
                      refine lv_goto (tgt := 40) xh bh dX4_funniestSlip_105 (by decide) ?_
                      exact ih_40 (i + 1) b3 m3 (by omega) (by rw [hb3, slW hw (by omega) (by omega) hk.1]) (by rw [hm3, slW hw (by omega) (by omega) hk.1]) (by omega) _ _ ls hP hD hS (lv_sub hl [1, 2, 3, 4, 5, 0] rfl)
                    · refine lv_lload_n xh bh dX4_funniestSlip_57 rfl (lv_at hl 0 rfl) ?_
                      refine lv_iload xh bh dX4_funniestSlip_58 (lv_at hl 3 rfl) ?_
                      refine lv_iload xh bh dX4_funniestSlip_60 (lv_at hl 5 rfl) ?_
                      refine lv_iload xh bh dX4_funniestSlip_62 (lv_at hl 6 rfl) ?_
                      refine Ct.callS0 (rest := []) xh bh hml hown hts hK hP hS hA (ct_X7_slipped l D cI cJ cB cZ cA t k i x (by first | assumption | exact okT_nil) (by first | assumption | omega) (by first | assumption | omega) (by first | assumption | omega)) (va_cwS 4 hts gX4_funniestSlip_X7_slipped rfl rfl rfl (by decide +kernel) ⟨Nat.le_of_ble_eq_true rfl, Nat.le_of_ble_eq_true rfl⟩) rfl rfl hl.1 (Nat.le_of_ble_eq_true rfl) dX4_funniestSlip_64 ⟨Nat.le_refl _, Nat.le_refl _⟩ (fun _ H locs _ hP hS => ?_)
                      refine W.eq (g2 := F0 mG 67 ls [.long (eC (slipT t k i x))]) rfl ?_
                      refine Ct.callS0 (rest := []) xh bh hml hown hts hK hP hS hA (ct_X4_funOf l D cI cJ cB cZ cA (slipT t k i x) (by exact okT_slip ht _ _ (by omega))) (va_cwS 1 hts gX4_funniestSlip_X4_funOf rfl rfl rfl (by decide +kernel) ⟨Nat.le_of_ble_eq_true rfl, Nat.le_of_ble_eq_true rfl⟩) rfl rfl hl.1 (Nat.le_of_ble_eq_true rfl) dX4_funniestSlip_67 ⟨Nat.le_refl _, Nat.le_refl _⟩ (fun _ H locs _ hP hS => ?_)
                      refine W.eq (g2 := F0 mG 70 ls [.int (funT (slipT t k i x))]) rfl ?_
                      refine lv_istore (lv' := [(8, .int (funT (slipT t k i x))), (0, .long (eC t)), (2, .int (nI b3)), (3, .int m3), (4, .int (nI k)), (5, .int (nI w)), (6, .int (nI i)), (7, .int (nI x))]) xh bh dX4_funniestSlip_70 hl (by decide) rfl (fun ls hl => ?_)
                      refine lv_iload xh bh dX4_funniestSlip_72 (lv_at hl 0 rfl) ?_
                      refine lv_iload_n xh bh dX4_funniestSlip_74 rfl (lv_at hl 3 rfl) ?_
                      refine lv_icmp_le (tgt := 96) xh bh dX4_funniestSlip_75 (by decide) (fun c_75 => ?_) (fun c_75 => ?_)
                      · refine lv_iinc (v := (nI (x + 1))) (lv' := [(7, .int (nI (x + 1))), (8, .int (funT (slipT t k i x))), (0, .long (eC t)), (2, .int (nI b3)), (3, .int m3), (4, .int (nI k)), (5, .int (nI w)), (6, .int (nI i))]) xh bh dX4_funniestSlip_96 hl (k := 7) rfl (by exact xn_inc _ _) (by decide) rfl (fun ls hl => ?_)
                        refine lv_goto (tgt := 50) xh bh dX4_funniestSlip_99 (by decide) ?_
                        exact ih_50 (x + 1) b3 m3 (by omega) (by first | exact (slH_n (by omega) hb3 hm3 (by rw [slK (by omega) (by omega) (by omega)]; exact c_75)).1 | exact (slH_y (by omega) hb3 hm3 (by rw [slK (by omega) (by omega) (by omega)]; exact c_75)).1) (by first | exact (slH_n (by omega) hb3 hm3 (by rw [slK (by omega) (by omega) (by omega)]; exact c_75)).2 | (have h9 := (slH_y (by omega) hb3 hm3 (by rw [slK (by omega) (by omega) (by omega)]; exact c_75)).2; rw [slK (by omega) (by omega) (by omega)] at h9; exact h9)) (by omega) _ _ ls hP hD hS (lv_sub hl [2, 3, 4, 5, 6, 7, 0] rfl)
                      · refine lv_bipush (v := (nI 100)) xh bh dX4_funniestSlip_78 (by decide) ?_
                        refine lv_iload xh bh dX4_funniestSlip_80 (lv_at hl 4 rfl) ?_
                        refine xn_imul xh bh dX4_funniestSlip_82 ?_
                        refine lv_bipush (v := (nI 10)) xh bh dX4_funniestSlip_83 (by decide) ?_
                        refine lv_iload xh bh dX4_funniestSlip_85 (lv_at hl 6 rfl) ?_
                        refine xn_imul xh bh dX4_funniestSlip_87 ?_
                        refine xn_iadd xh bh dX4_funniestSlip_88 ?_
                        refine lv_iload xh bh dX4_funniestSlip_89 (lv_at hl 7 rfl) ?_
                        refine xn_iadd xh bh dX4_funniestSlip_91 ?_
                        refine lv_istore_n (lv' := [(2, .int (nI (((100 * k) + (10 * i)) + x))), (8, .int (funT (slipT t k i x))), (0, .long (eC t)), (3, .int m3), (4, .int (nI k)), (5, .int (nI w)), (6, .int (nI i)), (7, .int (nI x))]) xh bh dX4_funniestSlip_92 rfl hl (by decide) rfl (fun ls hl => ?_)
                        refine lv_iload xh bh dX4_funniestSlip_93 (lv_at hl 1 rfl) ?_
                        refine lv_istore_n (lv' := [(3, .int (funT (slipT t k i x))), (2, .int (nI (((100 * k) + (10 * i)) + x))), (8, .int (funT (slipT t k i x))), (0, .long (eC t)), (4, .int (nI k)), (5, .int (nI w)), (6, .int (nI i)), (7, .int (nI x))]) xh bh dX4_funniestSlip_95 rfl hl (by decide) rfl (fun ls hl => ?_)
                        refine lv_iinc (v := (nI (x + 1))) (lv' := [(7, .int (nI (x + 1))), (3, .int (funT (slipT t k i x))), (2, .int (nI (((100 * k) + (10 * i)) + x))), (8, .int (funT (slipT t k i x))), (0, .long (eC t)), (4, .int (nI k)), (5, .int (nI w)), (6, .int (nI i))]) xh bh dX4_funniestSlip_96 hl (k := 7) rfl (by exact xn_inc _ _) (by decide) rfl (fun ls hl => ?_)
                        refine lv_goto (tgt := 50) xh bh dX4_funniestSlip_99 (by decide) ?_
                        exact ih_50 (x + 1) (((100 * k) + (10 * i)) + x) (funT (slipT t k i x)) (by omega) (by first | exact (slH_n (by omega) hb3 hm3 (by rw [slK (by omega) (by omega) (by omega)]; exact c_75)).1 | exact (slH_y (by omega) hb3 hm3 (by rw [slK (by omega) (by omega) (by omega)]; exact c_75)).1) (by first | exact (slH_n (by omega) hb3 hm3 (by rw [slK (by omega) (by omega) (by omega)]; exact c_75)).2 | (have h9 := (slH_y (by omega) hb3 hm3 (by rw [slK (by omega) (by omega) (by omega)]; exact c_75)).2; rw [slK (by omega) (by omega) (by omega)] at h9; exact h9)) (by omega) _ _ ls hP hD hS (lv_sub hl [4, 2, 1, 5, 6, 7, 0] rfl)
                exact cut_50 (w - 0 + 1) 0 b2 m2 (by exact Nat.zero_le _) (by exact hb2) (by exact hm2) (Nat.lt_succ_self _) _ _ ls hP hD hS (lv_sub hl [1, 2, 3, 4, 5, 6, 0] rfl)
          exact cut_40 (10 - 0 + 1) 0 b m (by exact Nat.zero_le _) (by exact hb) (by exact hm) (Nat.lt_succ_self _) _ _ ls hP hD hS (lv_sub hl [2, 3, 4, 5, 1, 0] rfl)
        refine lv_iload xh bh dX4_funniestSlip_17 (lv_at hl 3 rfl) ?_
        refine lv_iconst (v := (nI 2)) xh bh dX4_funniestSlip_19 (by decide) ?_
        refine xn_icmp_eq (tgt := 29) xh bh dX4_funniestSlip_20 (by decide) (by omega) (by omega) (fun c_20 => ?_) (fun c_20 => ?_)
        · refine lv_bipush (v := (nI 10)) xh bh dX4_funniestSlip_29 (by decide) ?_
          refine lv_goto (tgt := 35) xh bh dX4_funniestSlip_31 (by decide) ?_
          exact cut_35 10 (by omega) _ _ ls hP hD hS (lv_sub hl [0, 1, 2, 3] rfl)
        · refine lv_iload xh bh dX4_funniestSlip_23 (lv_at hl 3 rfl) ?_
          refine lv_iconst (v := (nI 5)) xh bh dX4_funniestSlip_25 (by decide) ?_
          refine xn_icmp_ne (tgt := 34) xh bh dX4_funniestSlip_26 (by decide) (by omega) (by omega) (fun c_26 => ?_) (fun c_26 => ?_)
          · refine lv_iconst (v := (nI 1)) xh bh dX4_funniestSlip_34 (by decide) ?_
            exact cut_35 1 (by omega) _ _ ls hP hD hS (lv_sub hl [0, 1, 2, 3] rfl)
          · refine lv_bipush (v := (nI 10)) xh bh dX4_funniestSlip_29 (by decide) ?_
            refine lv_goto (tgt := 35) xh bh dX4_funniestSlip_31 (by decide) ?_
            exact cut_35 10 (by omega) _ _ ls hP hD hS (lv_sub hl [0, 1, 2, 3] rfl)
  exact cut_10 (6 - 1 + 1) 1 0 (funT t) (by omega) (by rfl) (by rfl) (Nat.lt_succ_self _) _ _ ls hP hD hS (lv_sub hl [3, 2, 1, 0] rfl)
