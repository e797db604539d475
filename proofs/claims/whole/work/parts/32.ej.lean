-- rows laid by wip/whole/gen.py
set_option maxHeartbeats 1000000 in
set_option maxRecDepth 100000 in
theorem ct_X3_letThrough (l : Launch) (D : va_G) (cI cJ cB cZ cA : ClassId) (h : Nat → Nat) (T : Nat → List Nat) (hp : Nat → Nat) (hi : Nat → Nat) (row : List Nat) (hc : Nat) (un : Nat) (hT : ∀ k, okT (T k)) (hhc : hc ≤ 6) (hhp : ∀ k, k < hc → hp k < 10) (hhi : ∀ k, k < hc → hi k < 2) : Ct l yX3_letThrough wsX3_letThrough ({ frames := 4, cells := 0, slots := 0, locals := 90 }) D (tysG cI cJ cB cZ cA) [.ref (h 0)] [(h 0, .inr (2, [.ref (h 1), .ref (h 2), .ref (h 3), .ref (h 4), .ref (h 5), .ref (h 6), .ref (h 7), .long (eC row), .int (nI hc), .int (nI un)])), (h 1, .inl (cJ, 8, .inr (.inl (fC T)))), (h 3, .inl (cI, 6, .inl (fN hp))), (h 4, .inl (cI, 6, .inl (fN hi)))] (fun (_ : Unit) => True) (fun _ => some (.int (nI (ltN T hp hi hc)))) (fun _ => [(h 0, .inr (2, [.ref (h 1), .ref (h 2), .ref (h 3), .ref (h 4), .ref (h 5), .ref (h 6), .ref (h 7), .long (eC row), .int (nI hc), .int (nI un)])), (h 1, .inl (cJ, 8, .inr (.inl (fC T)))), (h 3, .inl (cI, 6, .inl (fN hp))), (h 4, .inl (cI, 6, .inl (fN hi)))]) := by
  refine Ct.ofI (cc := cX3_letThrough) (maxL := 4) (by decide) rfl (Nat.le_of_ble_eq_true rfl) ?_
  intro pG eG sG mG aG bG tG cG AG QG ls xh bh hml hown hts hK hP hD hS hA hend hl
  have hl : lv_has ls 4 [(0, .ref (h 0))] := hl
  refine lv_aload_n xh bh dX3_letThrough_0 rfl (lv_at hl 0 rfl) ?_
  refine lv_iconst (v := (nI 0)) xh bh dX3_letThrough_1 (by decide) ?_
  refine Ct.callV (As := [.int (nI 0)]) (rest := []) (wr := [(h 3, .inl (cI, 6, .inl (fN hp))), (h 4, .inl (cI, 6, .inl (fN hi)))]) xh bh hml hown hts hK hP hD hS hA (ct_X3_branchesWithout l D cI cJ cB cZ cA h T row hc un 0 (by first | assumption)) (cwV 1 hts gX3_letThrough_X3_branchesWithout rfl rfl rfl (by decide +kernel) ⟨Nat.le_of_ble_eq_true rfl, Nat.le_of_ble_eq_true rfl⟩) rfl rfl hl.1 (Nat.le_of_ble_eq_true rfl) dX3_letThrough_2 ⟨Nat.le_refl _, Nat.le_refl _⟩ 0 2 rfl rfl rfl [0, 1] [2, 3] rfl (by decide) rfl rfl (by decide) (by decide) (fun _ H locs _ hP hD hS => ?_)
  have hP : va_P D vwCl [(h 3, .inl (cI, 6, .inl (fN hp))), (h 4, .inl (cI, 6, .inl (fN hi))), (h 0, .inr (2, [.ref (h 1), .ref (h 2), .ref (h 3), .ref (h 4), .ref (h 5), .ref (h 6), .ref (h 7), .long (eC row), .int (nI hc), .int (nI un)])), (h 1, .inl (cJ, 8, .inr (.inl (fC T))))] H := hP
  have hD : va_D AG [(h 3, .inl (cI, 6, .inl (fN hp))), (h 4, .inl (cI, 6, .inl (fN hi))), (h 0, .inr (2, [.ref (h 1), .ref (h 2), .ref (h 3), .ref (h 4), .ref (h 5), .ref (h 6), .ref (h 7), .long (eC row), .int (nI hc), .int (nI un)])), (h 1, .inl (cJ, 8, .inr (.inl (fC T))))] := hD
  refine W.eq (g2 := F0 mG 5 ls [.int (nI (bwoN T 0 8))]) rfl ?_
  refine lv_istore_n (lv' := [(1, .int (nI (bwoN T 0 8))), (0, .ref (h 0))]) xh bh dX3_letThrough_5 rfl hl (by decide) rfl (fun ls hl => ?_)
  refine lv_iconst (v := (nI 0)) xh bh dX3_letThrough_6 (by decide) ?_
  refine lv_istore_n (lv' := [(2, .int (nI 0)), (1, .int (nI (bwoN T 0 8))), (0, .ref (h 0))]) xh bh dX3_letThrough_7 rfl hl (by decide) rfl (fun ls hl => ?_)
  have cut_8 : ∀ (n_8 : Nat), ∀ (i : Nat), ∀ (r : Nat), (i ≤ hc) → (r = ltN T hp hi i) → (hc - i) < n_8 → ∀ (H : Heap) (locs : List Loc) (ls : Array Slot), va_P D vwCl [(h 0, .inr (2, [.ref (h 1), .ref (h 2), .ref (h 3), .ref (h 4), .ref (h 5), .ref (h 6), .ref (h 7), .long (eC row), .int (nI hc), .int (nI un)])), (h 1, .inl (cJ, 8, .inr (.inl (fC T)))), (h 3, .inl (cI, 6, .inl (fN hp))), (h 4, .inl (cI, 6, .inl (fN hi)))] H → va_D AG [(h 0, .inr (2, [.ref (h 1), .ref (h 2), .ref (h 3), .ref (h 4), .ref (h 5), .ref (h 6), .ref (h 7), .long (eC row), .int (nI hc), .int (nI un)])), (h 1, .inl (cJ, 8, .inr (.inl (fC T)))), (h 3, .inl (cI, 6, .inl (fN hp))), (h 4, .inl (cI, 6, .inl (fN hi)))] → va_S AG sG.heap H locs → lv_has ls 4 [(0, .ref (h 0)), (1, .int (nI r)), (2, .int (nI i))] → W pG l eG ({ frames := 4, cells := 0, slots := 0, locals := 90 }) sG mG aG bG tG cG H locs 0 0 QG (F0 mG 8 ls []) := by
    intro n_8
    induction n_8 with
    | zero =>
      intro i r hi9 hr hmu
      exact absurd hmu (Nat.not_lt_zero _)
    | succ n_8 ih_8 =>
      intro i r hi9 hr hmu H locs ls hP hD hS hl
      refine lv_iload_n xh bh dX3_letThrough_8 rfl (lv_at hl 2 rfl) ?_
      refine lv_aload_n xh bh dX3_letThrough_9 rfl (lv_at hl 0 rfl) ?_
      refine va_get (D := D) (ci := 2) (v := .int (nI hc)) (C := RX3) (T := TX3) (N := 10) xh bh hts (fun _ h => List.mem_cons_of_mem _ (List.mem_append_right _ (h))) hown hK.1 hP 0 rfl rfl 8 (by decide) (hts _ (List.mem_of_getElem? (i := 1) rfl)) (fun _ h9 => h9) rfl dX3_letThrough_10 ?_
      refine xn_icmp_ge (tgt := 59) xh bh dX3_letThrough_13 (by decide) (by omega) (by omega) (fun c_13 => ?_) (fun c_13 => ?_)
      · refine lv_iload_n xh bh dX3_letThrough_59 rfl (lv_at hl 1 rfl) ?_
        exact hend (nI r) () _ _ _ _ (congrArg (fun z => some (Value.int (nI z))) (by rw [hr, show i = hc by omega])) trivial rfl dX3_letThrough_60 hP hD hS
      · refine lv_iload_n xh bh dX3_letThrough_16 rfl (lv_at hl 2 rfl) ?_
        refine lv_bipush (v := (nI 6)) xh bh dX3_letThrough_17 (by decide) ?_
        refine xn_icmp_ge (tgt := 59) xh bh dX3_letThrough_19 (by decide) (by omega) (by omega) (fun c_19 => ?_) (fun c_19 => ?_)
        · refine lv_iload_n xh bh dX3_letThrough_59 rfl (lv_at hl 1 rfl) ?_
          exact hend (nI r) () _ _ _ _ (congrArg (fun z => some (Value.int (nI z))) (by rw [hr, show i = hc by omega])) trivial rfl dX3_letThrough_60 hP hD hS
        · refine lv_aload_n xh bh dX3_letThrough_22 rfl (lv_at hl 0 rfl) ?_
          refine lv_aload_n xh bh dX3_letThrough_23 rfl (lv_at hl 0 rfl) ?_
          refine va_get (D := D) (ci := 2) (v := .ref (h 3)) (C := RX3) (T := TX3) (N := 10) xh bh hts (fun _ h => List.mem_cons_of_mem _ (List.mem_append_right _ (h))) hown hK.1 hP 0 rfl rfl 2 (by decide) (hts _ (List.mem_of_getElem? (i := 2) rfl)) (fun _ h9 => h9) rfl dX3_letThrough_24 ?_
          refine lv_iload_n xh bh dX3_letThrough_27 rfl (lv_at hl 2 rfl) ?_
          refine xa_iald xh bh hK.1 hP 2 0 rfl rfl (by omega) (by omega) dX3_letThrough_28 ?_
          refine W.eq (g2 := F0 mG 29 ls [.int (nI (hp i)), .ref (h 0)]) rfl ?_
          refine Ct.callV (As := [.int (nI (hp i))]) (rest := []) (wr := [(h 3, .inl (cI, 6, .inl (fN hp))), (h 4, .inl (cI, 6, .inl (fN hi)))]) xh bh hml hown hts hK hP hD hS hA (ct_X3_branchesWith l D cI cJ cB cZ cA h T row hc un (hp i) (by first | assumption) (by exact hhp i (by omega))) (cwV 1 hts gX3_letThrough_X3_branchesWith rfl rfl rfl (by decide +kernel) ⟨Nat.le_of_ble_eq_true rfl, Nat.le_of_ble_eq_true rfl⟩) rfl rfl hl.1 (Nat.le_of_ble_eq_true rfl) dX3_letThrough_29 ⟨Nat.le_refl _, Nat.le_refl _⟩ 0 2 rfl rfl rfl [0, 1] [2, 3] rfl (by decide) rfl rfl (by decide) (by decide) (fun _ H locs _ hP hD hS => ?_)
          have hP : va_P D vwCl [(h 3, .inl (cI, 6, .inl (fN hp))), (h 4, .inl (cI, 6, .inl (fN hi))), (h 0, .inr (2, [.ref (h 1), .ref (h 2), .ref (h 3), .ref (h 4), .ref (h 5), .ref (h 6), .ref (h 7), .long (eC row), .int (nI hc), .int (nI un)])), (h 1, .inl (cJ, 8, .inr (.inl (fC T))))] H := hP
          have hD : va_D AG [(h 3, .inl (cI, 6, .inl (fN hp))), (h 4, .inl (cI, 6, .inl (fN hi))), (h 0, .inr (2, [.ref (h 1), .ref (h 2), .ref (h 3), .ref (h 4), .ref (h 5), .ref (h 6), .ref (h 7), .long (eC row), .int (nI hc), .int (nI un)])), (h 1, .inl (cJ, 8, .inr (.inl (fC T))))] := hD
          refine W.eq (g2 := F0 mG 32 ls [.int (nI (bwiN T (hp i) 8))]) rfl ?_
          refine lv_istore_n (lv' := [(3, .int (nI (bwiN T (hp i) 8))), (0, .ref (h 0)), (1, .int (nI r)), (2, .int (nI i))]) xh bh dX3_letThrough_32 rfl hl (by decide) rfl (fun ls hl => ?_)
          refine lv_iload_n xh bh dX3_letThrough_33 rfl (lv_at hl 2 rfl) ?_
          refine lv_aload_n xh bh dX3_letThrough_34 rfl (lv_at hl 1 rfl) ?_
          refine va_get (D := D) (ci := 2) (v := .ref (h 4)) (C := RX3) (T := TX3) (N := 10) xh bh hts (fun _ h => List.mem_cons_of_mem _ (List.mem_append_right _ (h))) hown hK.1 hP 2 rfl rfl 3 (by decide) (hts _ (List.mem_of_getElem? (i := 3) rfl)) (fun _ h9 => h9) rfl dX3_letThrough_35 ?_
          refine lv_iload_n xh bh dX3_letThrough_38 rfl (lv_at hl 3 rfl) ?_
          refine xa_iald xh bh hK.1 hP 1 0 rfl rfl (by omega) (by omega) dX3_letThrough_39 ?_
          refine W.eq (g2 := F0 mG 40 ls [.int (nI (hi i)), .int (nI r)]) rfl ?_
          refine lv_iconst (v := (nI 1)) xh bh dX3_letThrough_40 (by decide) ?_
          refine xn_icmp_ne (tgt := 48) xh bh dX3_letThrough_41 (by decide) (by have := hhi i (by omega); omega) (by have := hhi i (by omega); omega) (fun c_41 => ?_) (fun c_41 => ?_)
          · refine lv_iload_n xh bh dX3_letThrough_48 rfl (lv_at hl 0 rfl) ?_
            refine lv_iconst (v := (-1)) xh bh dX3_letThrough_49 (by decide) ?_
            refine lv_ixor xh bh dX3_letThrough_50 ?_
            refine lv_iand xh bh dX3_letThrough_51 ?_
            refine xw_topi (x := ((nI r) &&& ((nI (bwiN T (hp i) 8)) ^^^ (-1)))) (y := (nI (adN r (bwiN T (hp i) 8)))) (by have h9 := ltN_lt T hp hi i; rw [← hr] at h9; exact adN_eq (by omega)) ?_
            refine lv_istore_n (lv' := [(1, .int (nI (adN r (bwiN T (hp i) 8)))), (3, .int (nI (bwiN T (hp i) 8))), (0, .ref (h 0)), (2, .int (nI i))]) xh bh dX3_letThrough_52 rfl hl (by decide) rfl (fun ls hl => ?_)
            refine lv_iinc (v := (nI (i + 1))) (lv' := [(2, .int (nI (i + 1))), (1, .int (nI (adN r (bwiN T (hp i) 8)))), (3, .int (nI (bwiN T (hp i) 8))), (0, .ref (h 0))]) xh bh dX3_letThrough_53 hl (k := 3) rfl (by exact xn_inc _ _) (by decide) rfl (fun ls hl => ?_)
            refine lv_goto (tgt := 8) xh bh dX3_letThrough_56 (by decide) ?_
            exact ih_8 (i + 1) (adN r (bwiN T (hp i) 8)) (by omega) (by rw [hr]; first | exact (if_pos c_41).symm | exact (if_neg c_41).symm) (by omega) _ _ ls (hP.sub [2, 3, 0, 1] rfl) (hD.sub [2, 3, 0, 1] (by decide) rfl) hS (lv_sub hl [3, 1, 0] rfl)
          · refine lv_iload_n xh bh dX3_letThrough_44 rfl (lv_at hl 0 rfl) ?_
            refine lv_goto (tgt := 51) xh bh dX3_letThrough_45 (by decide) ?_
            refine xn_iand xh bh dX3_letThrough_51 ?_
            refine lv_istore_n (lv' := [(1, .int (nI (r &&& (bwiN T (hp i) 8)))), (3, .int (nI (bwiN T (hp i) 8))), (0, .ref (h 0)), (2, .int (nI i))]) xh bh dX3_letThrough_52 rfl hl (by decide) rfl (fun ls hl => ?_)
            refine lv_iinc (v := (nI (i + 1))) (lv' := [(2, .int (nI (i + 1))), (1, .int (nI (r &&& (bwiN T (hp i) 8)))), (3, .int (nI (bwiN T (hp i) 8))), (0, .ref (h 0))]) xh bh dX3_letThrough_53 hl (k := 3) rfl (by exact xn_inc _ _) (by decide) rfl (fun ls hl => ?_)
            refine lv_goto (tgt := 8) xh bh dX3_letThrough_56 (by decide) ?_
            exact ih_8 (i + 1) (r &&& (bwiN T (hp i) 8)) (by omega) (by rw [hr]; first | exact (if_pos c_41).symm | exact (if_neg c_41).symm) (by omega) _ _ ls (hP.sub [2, 3, 0, 1] rfl) (hD.sub [2, 3, 0, 1] (by decide) rfl) hS (lv_sub hl [3, 1, 0] rfl)
  exact cut_8 (hc - 0 + 1) 0 (bwoN T 0 8) (by exact Nat.zero_le _) (by rfl) (Nat.lt_succ_self _) _ _ ls (hP.sub [2, 3, 0, 1] rfl) (hD.sub [2, 3, 0, 1] (by decide) rfl) hS (lv_sub hl [2, 1, 0] rfl)

set_option maxHeartbeats 1000000 in
set_option maxRecDepth 100000 in
theorem ct_X3_fewestWith (l : Launch) (D : va_G) (cI cJ cB cZ cA : ClassId) (h : Nat → Nat) (T : Nat → List Nat) (row : List Nat) (hc : Nat) (un : Nat) (z : Nat) (hT : ∀ k, okT (T k)) (hz : z < 1024) : Ct l yX3_fewestWith wsX3_fewestWith ({ frames := 3, cells := 0, slots := 0, locals := 68 }) D (tysG cI cJ cB cZ cA) [.ref (h 0), .int (nI z)] [(h 0, .inr (2, [.ref (h 1), .ref (h 2), .ref (h 3), .ref (h 4), .ref (h 5), .ref (h 6), .ref (h 7), .long (eC row), .int (nI hc), .int (nI un)])), (h 1, .inl (cJ, 8, .inr (.inl (fC T))))] (fun (_ : Unit) => True) (fun _ => some (.int (optI (foT T z 256)))) (fun _ => [(h 0, .inr (2, [.ref (h 1), .ref (h 2), .ref (h 3), .ref (h 4), .ref (h 5), .ref (h 6), .ref (h 7), .long (eC row), .int (nI hc), .int (nI un)])), (h 1, .inl (cJ, 8, .inr (.inl (fC T))))]) := by
  refine Ct.ofI (cc := cX3_fewestWith) (maxL := 5) (by decide) rfl (Nat.le_of_ble_eq_true rfl) ?_
  intro pG eG sG mG aG bG tG cG AG QG ls xh bh hml hown hts hK hP hD hS hA hend hl
  have hl : lv_has ls 5 [(0, .ref (h 0)), (1, .int (nI z))] := hl
  refine lv_iconst (v := (-1)) xh bh dX3_fewestWith_0 (by decide) ?_
  refine lv_istore_n (lv' := [(2, .int (-1)), (0, .ref (h 0)), (1, .int (nI z))]) xh bh dX3_fewestWith_1 rfl hl (by decide) rfl (fun ls hl => ?_)
  refine lv_iconst (v := (nI 0)) xh bh dX3_fewestWith_2 (by decide) ?_
  refine lv_istore_n (lv' := [(3, .int (nI 0)), (2, .int (-1)), (0, .ref (h 0)), (1, .int (nI z))]) xh bh dX3_fewestWith_3 rfl hl (by decide) rfl (fun ls hl => ?_)
  have cut_4 : ∀ (n_4 : Nat), ∀ (s0 : Nat), ∀ (b : Int32), (s0 ≤ 256) → (b = optI (foT T z s0)) → (256 - s0) < n_4 → ∀ (H : Heap) (locs : List Loc) (ls : Array Slot), va_P D vwCl [(h 0, .inr (2, [.ref (h 1), .ref (h 2), .ref (h 3), .ref (h 4), .ref (h 5), .ref (h 6), .ref (h 7), .long (eC row), .int (nI hc), .int (nI un)])), (h 1, .inl (cJ, 8, .inr (.inl (fC T))))] H → va_D AG [(h 0, .inr (2, [.ref (h 1), .ref (h 2), .ref (h 3), .ref (h 4), .ref (h 5), .ref (h 6), .ref (h 7), .long (eC row), .int (nI hc), .int (nI un)])), (h 1, .inl (cJ, 8, .inr (.inl (fC T))))] → va_S AG sG.heap H locs → lv_has ls 5 [(0, .ref (h 0)), (1, .int (nI z)), (2, .int b), (3, .int (nI s0))] → W pG l eG ({ frames := 3, cells := 0, slots := 0, locals := 68 }) sG mG aG bG tG cG H locs 0 0 QG (F0 mG 4 ls []) := by
    intro n_4
    induction n_4 with
    | zero =>
      intro s0 b hs hb hmu
      exact absurd hmu (Nat.not_lt_zero _)
    | succ n_4 ih_4 =>
      intro s0 b hs hb hmu H locs ls hP hD hS hl
      refine lv_iload_n xh bh dX3_fewestWith_4 rfl (lv_at hl 3 rfl) ?_
      refine lv_sipush (v := (nI 256)) xh bh dX3_fewestWith_5 (by decide) ?_
      refine xn_icmp_ge (tgt := 59) xh bh dX3_fewestWith_8 (by decide) (by omega) (by omega) (fun c_8 => ?_) (fun c_8 => ?_)
      · refine lv_iload_n xh bh dX3_fewestWith_59 rfl (lv_at hl 2 rfl) ?_
        exact hend b () _ _ _ _ (congrArg (fun z => some (Value.int z)) (by rw [hb, show s0 = 256 by omega])) trivial rfl dX3_fewestWith_60 hP hD hS
      · rcases optC (foT T z s0) with ho | ⟨kk, ho⟩
        · have q_2 : (-1) = b := by rw [hb, ho]; rfl
          have hl : lv_has ls 5 [(0, .ref (h 0)), (1, .int (nI z)), (2, .int (-1)), (3, .int (nI s0))] := by rw [q_2]; exact hl
          have hb9 : (-1) = optI (foT T z s0) := by rw [ho]; rfl
          have hfb := fbet_0 (s := s0) ho
          refine lv_iload_n xh bh dX3_fewestWith_11 rfl (lv_at hl 2 rfl) ?_
          refine lv_iconst (v := (-1)) xh bh dX3_fewestWith_12 (by decide) ?_
          refine lv_icmp_eq (tgt := 27) xh bh dX3_fewestWith_13 (by decide) (fun c_13 => ?_) (fun c_13 => ?_)
          · refine lv_iconst (v := (nI 1)) xh bh dX3_fewestWith_27 (by decide) ?_
            refine lv_goto (tgt := 32) xh bh dX3_fewestWith_28 (by decide) ?_
            refine lv_istore (lv' := [(4, .int (nI 1)), (0, .ref (h 0)), (1, .int (nI z)), (2, .int (-1)), (3, .int (nI s0))]) xh bh dX3_fewestWith_32 hl (by decide) rfl (fun ls hl => ?_)
            refine lv_iload xh bh dX3_fewestWith_34 (lv_at hl 0 rfl) ?_
            refine xn_if_eq (tgt := 53) xh bh dX3_fewestWith_36 (by decide) (by omega) (fun c_36 => ?_) (fun c_36 => ?_)
            · exact absurd c_36 (by decide)
            · refine lv_iload_n xh bh dX3_fewestWith_39 rfl (lv_at hl 2 rfl) ?_
              refine lv_aload_n xh bh dX3_fewestWith_40 rfl (lv_at hl 1 rfl) ?_
              refine lv_iload_n xh bh dX3_fewestWith_41 rfl (lv_at hl 4 rfl) ?_
              refine Ct.callV (As := [.int (nI s0)]) (rest := [.int (nI z)]) (wr := []) xh bh hml hown hts hK hP hD hS hA (ct_X3_kindsTogether l D cI cJ cB cZ cA h T row hc un s0 (by first | assumption) (by first | omega | assumption)) (cwV 1 hts gX3_fewestWith_X3_kindsTogether rfl rfl rfl (by decide +kernel) ⟨Nat.le_of_ble_eq_true rfl, Nat.le_of_ble_eq_true rfl⟩) rfl rfl hl.1 (Nat.le_of_ble_eq_true rfl) dX3_fewestWith_42 ⟨Nat.le_refl _, Nat.le_refl _⟩ 0 2 rfl rfl rfl [0, 1] [] rfl (by decide) rfl rfl (by decide) (by decide) (fun _ H locs _ hP hD hS => ?_)
              have hP : va_P D vwCl [(h 0, .inr (2, [.ref (h 1), .ref (h 2), .ref (h 3), .ref (h 4), .ref (h 5), .ref (h 6), .ref (h 7), .long (eC row), .int (nI hc), .int (nI un)])), (h 1, .inl (cJ, 8, .inr (.inl (fC T))))] H := hP
              have hD : va_D AG [(h 0, .inr (2, [.ref (h 1), .ref (h 2), .ref (h 3), .ref (h 4), .ref (h 5), .ref (h 6), .ref (h 7), .long (eC row), .int (nI hc), .int (nI un)])), (h 1, .inl (cJ, 8, .inr (.inl (fC T))))] := hD
              refine W.eq (g2 := F0 mG 45 ls [.int (nI (ktN T s0 8)), .int (nI z)]) rfl ?_
              refine lv_iconst (v := (-1)) xh bh dX3_fewestWith_45 (by decide) ?_
              refine lv_ixor xh bh dX3_fewestWith_46 ?_
              refine lv_iand xh bh dX3_fewestWith_47 ?_
              refine lv_if_ne (tgt := 53) xh bh dX3_fewestWith_48 (by decide) (fun c_48 => ?_) (fun c_48 => ?_)
              · refine lv_iinc (v := (nI (s0 + 1))) (lv' := [(3, .int (nI (s0 + 1))), (4, .int (nI 1)), (0, .ref (h 0)), (1, .int (nI z)), (2, .int (-1))]) xh bh dX3_fewestWith_53 hl (k := 4) rfl (by exact xn_inc _ _) (by decide) rfl (fun ls hl => ?_)
                refine lv_goto (tgt := 4) xh bh dX3_fewestWith_56 (by decide) ?_
                exact ih_4 (s0 + 1) (-1) (by omega) (by first | exact foT_e1 hb9 c_48 | exact foT_e2 ho hfb | exact foT_eY c_48 hfb) (by omega) _ _ ls hP hD hS (lv_sub hl [2, 3, 4, 0] rfl)
              · refine lv_iload_n xh bh dX3_fewestWith_51 rfl (lv_at hl 4 rfl) ?_
                refine lv_istore_n (lv' := [(2, .int (nI s0)), (4, .int (nI 1)), (0, .ref (h 0)), (1, .int (nI z)), (3, .int (nI s0))]) xh bh dX3_fewestWith_52 rfl hl (by decide) rfl (fun ls hl => ?_)
                refine lv_iinc (v := (nI (s0 + 1))) (lv' := [(3, .int (nI (s0 + 1))), (2, .int (nI s0)), (4, .int (nI 1)), (0, .ref (h 0)), (1, .int (nI z))]) xh bh dX3_fewestWith_53 hl (k := 4) rfl (by exact xn_inc _ _) (by decide) rfl (fun ls hl => ?_)
                refine lv_goto (tgt := 4) xh bh dX3_fewestWith_56 (by decide) ?_
                exact ih_4 (s0 + 1) (nI s0) (by omega) (by first | exact foT_e1 hb9 c_48 | exact foT_e2 ho hfb | exact foT_eY c_48 hfb) (by omega) _ _ ls hP hD hS (lv_sub hl [3, 4, 1, 0] rfl)
          · exact absurd rfl c_13
        · have q_2 : (nI kk) = b := by rw [hb, ho]; rfl
          have hl : lv_has ls 5 [(0, .ref (h 0)), (1, .int (nI z)), (2, .int (nI kk)), (3, .int (nI s0))] := by rw [q_2]; exact hl
          have hkk := foT_lt ho
          have hb9 : nI kk = optI (foT T z s0) := by rw [ho]; rfl
          refine lv_iload_n xh bh dX3_fewestWith_11 rfl (lv_at hl 2 rfl) ?_
          refine lv_iconst (v := (-1)) xh bh dX3_fewestWith_12 (by decide) ?_
          refine lv_icmp_eq (tgt := 27) xh bh dX3_fewestWith_13 (by decide) (fun c_13 => ?_) (fun c_13 => ?_)
          · exact absurd c_13 (by exact fun q => absurd (q ▸ nI_pos' (n := kk) (by omega)) (by decide))
          · refine lv_iload_n xh bh dX3_fewestWith_16 rfl (lv_at hl 3 rfl) ?_
            refine Ct.callS0 (rest := []) xh bh hml hown hts hK hP hS hA (ct_J6_bitCount_0f7a4 l D cI cJ cB cZ cA s0 (by first | omega | assumption)) (va_cwS 1 hts gX3_fewestWith_J6_bitCount_0f7a4 rfl rfl rfl (by decide +kernel) ⟨Nat.le_of_ble_eq_true rfl, Nat.le_of_ble_eq_true rfl⟩) rfl rfl hl.1 (Nat.le_of_ble_eq_true rfl) dX3_fewestWith_17 ⟨Nat.le_refl _, Nat.le_refl _⟩ (fun _ H locs _ hP hS => ?_)
            refine W.eq (g2 := F0 mG 20 ls [.int (nI (popN s0))]) rfl ?_
            refine lv_iload_n xh bh dX3_fewestWith_20 rfl (lv_at hl 2 rfl) ?_
            refine Ct.callS0 (rest := [.int (nI (popN s0))]) xh bh hml hown hts hK hP hS hA (ct_J6_bitCount_0f7a4 l D cI cJ cB cZ cA kk (by first | omega | assumption)) (va_cwS 1 hts gX3_fewestWith_J6_bitCount_0f7a4 rfl rfl rfl (by decide +kernel) ⟨Nat.le_of_ble_eq_true rfl, Nat.le_of_ble_eq_true rfl⟩) rfl rfl hl.1 (Nat.le_of_ble_eq_true rfl) dX3_fewestWith_21 ⟨Nat.le_refl _, Nat.le_refl _⟩ (fun _ H locs _ hP hS => ?_)
            refine W.eq (g2 := F0 mG 24 ls [.int (nI (popN kk)), .int (nI (popN s0))]) rfl ?_
            refine xn_icmp_ge (tgt := 31) xh bh dX3_fewestWith_24 (by decide) (by have := popN_le s0; have := popN_le kk; omega) (by have := popN_le s0; have := popN_le kk; omega) (fun c_24 => ?_) (fun c_24 => ?_)
            · have hfb := fbet_n ho (Nat.not_lt.mpr c_24)
              refine lv_iconst (v := (nI 0)) xh bh dX3_fewestWith_31 (by decide) ?_
              refine lv_istore (lv' := [(4, .int (nI 0)), (0, .ref (h 0)), (1, .int (nI z)), (2, .int (nI kk)), (3, .int (nI s0))]) xh bh dX3_fewestWith_32 hl (by decide) rfl (fun ls hl => ?_)
              refine lv_iload xh bh dX3_fewestWith_34 (lv_at hl 0 rfl) ?_
              refine xn_if_eq (tgt := 53) xh bh dX3_fewestWith_36 (by decide) (by omega) (fun c_36 => ?_) (fun c_36 => ?_)
              · refine lv_iinc (v := (nI (s0 + 1))) (lv' := [(3, .int (nI (s0 + 1))), (4, .int (nI 0)), (0, .ref (h 0)), (1, .int (nI z)), (2, .int (nI kk))]) xh bh dX3_fewestWith_53 hl (k := 4) rfl (by exact xn_inc _ _) (by decide) rfl (fun ls hl => ?_)
                refine lv_goto (tgt := 4) xh bh dX3_fewestWith_56 (by decide) ?_
                exact ih_4 (s0 + 1) (nI kk) (by omega) (by first | exact foT_e1 hb9 c_48 | exact foT_e2 ho hfb | exact foT_eY c_48 hfb) (by omega) _ _ ls hP hD hS (lv_sub hl [2, 3, 4, 0] rfl)
              · exact absurd c_36 (by decide)
            · have hfb := fbet_y ho c_24
              refine lv_iconst (v := (nI 1)) xh bh dX3_fewestWith_27 (by decide) ?_
              refine lv_goto (tgt := 32) xh bh dX3_fewestWith_28 (by decide) ?_
              refine lv_istore (lv' := [(4, .int (nI 1)), (0, .ref (h 0)), (1, .int (nI z)), (2, .int (nI kk)), (3, .int (nI s0))]) xh bh dX3_fewestWith_32 hl (by decide) rfl (fun ls hl => ?_)
              refine lv_iload xh bh dX3_fewestWith_34 (lv_at hl 0 rfl) ?_
              refine xn_if_eq (tgt := 53) xh bh dX3_fewestWith_36 (by decide) (by omega) (fun c_36 => ?_) (fun c_36 => ?_)
              · exact absurd c_36 (by decide)
              · refine lv_iload_n xh bh dX3_fewestWith_39 rfl (lv_at hl 2 rfl) ?_
                refine lv_aload_n xh bh dX3_fewestWith_40 rfl (lv_at hl 1 rfl) ?_
                refine lv_iload_n xh bh dX3_fewestWith_41 rfl (lv_at hl 4 rfl) ?_
                refine Ct.callV (As := [.int (nI s0)]) (rest := [.int (nI z)]) (wr := []) xh bh hml hown hts hK hP hD hS hA (ct_X3_kindsTogether l D cI cJ cB cZ cA h T row hc un s0 (by first | assumption) (by first | omega | assumption)) (cwV 1 hts gX3_fewestWith_X3_kindsTogether rfl rfl rfl (by decide +kernel) ⟨Nat.le_of_ble_eq_true rfl, Nat.le_of_ble_eq_true rfl⟩) rfl rfl hl.1 (Nat.le_of_ble_eq_true rfl) dX3_fewestWith_42 ⟨Nat.le_refl _, Nat.le_refl _⟩ 0 2 rfl rfl rfl [0, 1] [] rfl (by decide) rfl rfl (by decide) (by decide) (fun _ H locs _ hP hD hS => ?_)
                have hP : va_P D vwCl [(h 0, .inr (2, [.ref (h 1), .ref (h 2), .ref (h 3), .ref (h 4), .ref (h 5), .ref (h 6), .ref (h 7), .long (eC row), .int (nI hc), .int (nI un)])), (h 1, .inl (cJ, 8, .inr (.inl (fC T))))] H := hP
                have hD : va_D AG [(h 0, .inr (2, [.ref (h 1), .ref (h 2), .ref (h 3), .ref (h 4), .ref (h 5), .ref (h 6), .ref (h 7), .long (eC row), .int (nI hc), .int (nI un)])), (h 1, .inl (cJ, 8, .inr (.inl (fC T))))] := hD
                refine W.eq (g2 := F0 mG 45 ls [.int (nI (ktN T s0 8)), .int (nI z)]) rfl ?_
                refine lv_iconst (v := (-1)) xh bh dX3_fewestWith_45 (by decide) ?_
                refine lv_ixor xh bh dX3_fewestWith_46 ?_
                refine lv_iand xh bh dX3_fewestWith_47 ?_
                refine lv_if_ne (tgt := 53) xh bh dX3_fewestWith_48 (by decide) (fun c_48 => ?_) (fun c_48 => ?_)
                · refine lv_iinc (v := (nI (s0 + 1))) (lv' := [(3, .int (nI (s0 + 1))), (4, .int (nI 1)), (0, .ref (h 0)), (1, .int (nI z)), (2, .int (nI kk))]) xh bh dX3_fewestWith_53 hl (k := 4) rfl (by exact xn_inc _ _) (by decide) rfl (fun ls hl => ?_)
                  refine lv_goto (tgt := 4) xh bh dX3_fewestWith_56 (by decide) ?_
                  exact ih_4 (s0 + 1) (nI kk) (by omega) (by first | exact foT_e1 hb9 c_48 | exact foT_e2 ho hfb | exact foT_eY c_48 hfb) (by omega) _ _ ls hP hD hS (lv_sub hl [2, 3, 4, 0] rfl)
                · refine lv_iload_n xh bh dX3_fewestWith_51 rfl (lv_at hl 4 rfl) ?_
                  refine lv_istore_n (lv' := [(2, .int (nI s0)), (4, .int (nI 1)), (0, .ref (h 0)), (1, .int (nI z)), (3, .int (nI s0))]) xh bh dX3_fewestWith_52 rfl hl (by decide) rfl (fun ls hl => ?_)
                  refine lv_iinc (v := (nI (s0 + 1))) (lv' := [(3, .int (nI (s0 + 1))), (2, .int (nI s0)), (4, .int (nI 1)), (0, .ref (h 0)), (1, .int (nI z))]) xh bh dX3_fewestWith_53 hl (k := 4) rfl (by exact xn_inc _ _) (by decide) rfl (fun ls hl => ?_)
                  refine lv_goto (tgt := 4) xh bh dX3_fewestWith_56 (by decide) ?_
                  exact ih_4 (s0 + 1) (nI s0) (by omega) (by first | exact foT_e1 hb9 c_48 | exact foT_e2 ho hfb | exact foT_eY c_48 hfb) (by omega) _ _ ls hP hD hS (lv_sub hl [3, 4, 1, 0] rfl)
  exact cut_4 (256 - 0 + 1) 0 (-1) (by exact Nat.zero_le _) (by rfl) (Nat.lt_succ_self _) _ _ ls hP hD hS (lv_sub hl [2, 3, 1, 0] rfl)

set_option maxHeartbeats 1000000 in
set_option maxRecDepth 100000 in
theorem ct_X3_digestedOnto (l : Launch) (D : va_G) (cI cJ cB cZ cA : ClassId) (h : Nat → Nat) (T : Nat → List Nat) (P : Nat → Int32) (hp : Nat → Nat) (hi : Nat → Nat) (row : List Nat) (hc : Nat) (un : Nat) (g0 : Int64) (hT : ∀ k, okT (T k)) (hrow : okT row) (hhc : hc ≤ 6) (hhp : ∀ k, k < hc → hp k < 10) (hhi : ∀ k, k < hc → hi k < 2) : Ct l yX3_digestedOnto wsX3_digestedOnto ({ frames := 2, cells := 0, slots := 0, locals := 48 }) D (tysG cI cJ cB cZ cA) [.ref (h 0), .long g0] [(h 0, .inr (2, [.ref (h 1), .ref (h 2), .ref (h 3), .ref (h 4), .ref (h 5), .ref (h 6), .ref (h 7), .long (eC row), .int (nI hc), .int (nI un)])), (h 1, .inl (cJ, 8, .inr (.inl (fC T)))), (h 2, .inl (cI, 8, .inl P)), (h 3, .inl (cI, 6, .inl (fN hp))), (h 4, .inl (cI, 6, .inl (fN hi)))] (fun (_ : Unit) => True) (fun _ => some (.long (deE hp hi (dgT row (dg2 T P g0 8) row.length) hc))) (fun _ => [(h 0, .inr (2, [.ref (h 1), .ref (h 2), .ref (h 3), .ref (h 4), .ref (h 5), .ref (h 6), .ref (h 7), .long (eC row), .int (nI hc), .int (nI un)])), (h 1, .inl (cJ, 8, .inr (.inl (fC T)))), (h 2, .inl (cI, 8, .inl P)), (h 3, .inl (cI, 6, .inl (fN hp))), (h 4, .inl (cI, 6, .inl (fN hi)))]) := by
  refine Ct.ofL (cc := cX3_digestedOnto) (maxL := 6) (by decide) rfl (Nat.le_of_ble_eq_true rfl) ?_
  intro pG eG sG mG aG bG tG cG AG QG ls xh bh hml hown hts hK hP hD hS hA hend hl
  have hl : lv_has ls 6 [(0, .ref (h 0)), (1, .long g0)] := hl
  refine lv_lload_n xh bh dX3_digestedOnto_0 rfl (lv_at hl 1 rfl) ?_
  refine lv_lstore_n (lv' := [(3, .long g0), (0, .ref (h 0)), (1, .long g0)]) xh bh dX3_digestedOnto_1 rfl hl (by decide) rfl (fun ls hl => ?_)
  refine lv_iconst (v := (nI 0)) xh bh dX3_digestedOnto_2 (by decide) ?_
  refine lv_istore (lv' := [(5, .int (nI 0)), (3, .long g0), (0, .ref (h 0)), (1, .long g0)]) xh bh dX3_digestedOnto_3 hl (by decide) rfl (fun ls hl => ?_)
  have cut_5 : ∀ (n_5 : Nat), ∀ (i : Nat), ∀ (h2 : Int64), (i ≤ 8) → (h2 = dg2 T P g0 i) → (8 - i) < n_5 → ∀ (H : Heap) (locs : List Loc) (ls : Array Slot), va_P D vwCl [(h 0, .inr (2, [.ref (h 1), .ref (h 2), .ref (h 3), .ref (h 4), .ref (h 5), .ref (h 6), .ref (h 7), .long (eC row), .int (nI hc), .int (nI un)])), (h 1, .inl (cJ, 8, .inr (.inl (fC T)))), (h 2, .inl (cI, 8, .inl P)), (h 3, .inl (cI, 6, .inl (fN hp))), (h 4, .inl (cI, 6, .inl (fN hi)))] H → va_D AG [(h 0, .inr (2, [.ref (h 1), .ref (h 2), .ref (h 3), .ref (h 4), .ref (h 5), .ref (h 6), .ref (h 7), .long (eC row), .int (nI hc), .int (nI un)])), (h 1, .inl (cJ, 8, .inr (.inl (fC T)))), (h 2, .inl (cI, 8, .inl P)), (h 3, .inl (cI, 6, .inl (fN hp))), (h 4, .inl (cI, 6, .inl (fN hi)))] → va_S AG sG.heap H locs → lv_has ls 6 [(0, .ref (h 0)), (1, .long g0), (3, .long h2), (5, .int (nI i))] → W pG l eG ({ frames := 2, cells := 0, slots := 0, locals := 48 }) sG mG aG bG tG cG H locs 0 0 QG (F0 mG 5 ls []) := by
    intro n_5
    induction n_5 with
    | zero =>
      intro i h2 hi9 hh2 hmu
      exact absurd hmu (Nat.not_lt_zero _)
    | succ n_5 ih_5 =>
      intro i h2 hi9 hh2 hmu H locs ls hP hD hS hl
      refine lv_iload xh bh dX3_digestedOnto_5 (lv_at hl 3 rfl) ?_
      refine lv_bipush (v := (nI 8)) xh bh dX3_digestedOnto_7 (by decide) ?_
      refine xn_icmp_ge (tgt := 61) xh bh dX3_digestedOnto_9 (by decide) (by omega) (by omega) (fun c_9 => ?_) (fun c_9 => ?_)
      · refine lv_lload_n xh bh dX3_digestedOnto_61 rfl (lv_at hl 2 rfl) ?_
        refine lv_aload_n xh bh dX3_digestedOnto_62 rfl (lv_at hl 0 rfl) ?_
        refine va_get (D := D) (ci := 2) (v := .long (eC row)) (C := RX3) (T := TX3) (N := 10) xh bh hts (fun _ h => List.mem_cons_of_mem _ (List.mem_append_right _ (h))) hown hK.1 hP 0 rfl rfl 7 (by decide) (hts _ (List.mem_of_getElem? (i := 4) rfl)) (fun _ h9 => h9) rfl dX3_digestedOnto_63 ?_
        refine Ct.callS0 (rest := []) xh bh hml hown hts hK hP hS hA (ct_X3_partsOnto l D cI cJ cB cZ cA h2 row (by first | assumption | exact okT_nil)) (va_cwS 2 hts gX3_digestedOnto_X3_partsOnto rfl rfl rfl (by decide +kernel) ⟨Nat.le_of_ble_eq_true rfl, Nat.le_of_ble_eq_true rfl⟩) rfl rfl hl.1 (Nat.le_of_ble_eq_true rfl) dX3_digestedOnto_66 ⟨Nat.le_refl _, Nat.le_refl _⟩ (fun _ H locs _ hP hS => ?_)
        refine W.eq (g2 := F0 mG 69 ls [.long (dgT row h2 row.length)]) rfl ?_
        refine lv_lstore_n (lv' := [(3, .long (dgT row h2 row.length)), (0, .ref (h 0)), (1, .long g0), (5, .int (nI i))]) xh bh dX3_digestedOnto_69 rfl hl (by decide) rfl (fun ls hl => ?_)
        refine lv_iconst (v := (nI 0)) xh bh dX3_digestedOnto_70 (by decide) ?_
        refine lv_istore (lv' := [(5, .int (nI 0)), (3, .long (dgT row h2 row.length)), (0, .ref (h 0)), (1, .long g0)]) xh bh dX3_digestedOnto_71 hl (by decide) rfl (fun ls hl => ?_)
        have cut_73 : ∀ (n_73 : Nat), ∀ (k : Nat), ∀ (h3 : Int64), (k ≤ hc) → (h3 = deE hp hi (dgT row (dg2 T P g0 8) row.length) k) → (hc - k) < n_73 → ∀ (H : Heap) (locs : List Loc) (ls : Array Slot), va_P D vwCl [(h 0, .inr (2, [.ref (h 1), .ref (h 2), .ref (h 3), .ref (h 4), .ref (h 5), .ref (h 6), .ref (h 7), .long (eC row), .int (nI hc), .int (nI un)])), (h 1, .inl (cJ, 8, .inr (.inl (fC T)))), (h 2, .inl (cI, 8, .inl P)), (h 3, .inl (cI, 6, .inl (fN hp))), (h 4, .inl (cI, 6, .inl (fN hi)))] H → va_D AG [(h 0, .inr (2, [.ref (h 1), .ref (h 2), .ref (h 3), .ref (h 4), .ref (h 5), .ref (h 6), .ref (h 7), .long (eC row), .int (nI hc), .int (nI un)])), (h 1, .inl (cJ, 8, .inr (.inl (fC T)))), (h 2, .inl (cI, 8, .inl P)), (h 3, .inl (cI, 6, .inl (fN hp))), (h 4, .inl (cI, 6, .inl (fN hi)))] → va_S AG sG.heap H locs → lv_has ls 6 [(0, .ref (h 0)), (1, .long g0), (3, .long h3), (5, .int (nI k))] → W pG l eG ({ frames := 2, cells := 0, slots := 0, locals := 48 }) sG mG aG bG tG cG H locs 0 0 QG (F0 mG 73 ls []) := by
          intro n_73
          induction n_73 with
          | zero =>
            intro k h3 hk hh3 hmu
            exact absurd hmu (Nat.not_lt_zero _)
          | succ n_73 ih_73 =>
            intro k h3 hk hh3 hmu H locs ls hP hD hS hl
            refine lv_iload xh bh dX3_digestedOnto_73 (lv_at hl 3 rfl) ?_
            refine lv_aload_n xh bh dX3_digestedOnto_75 rfl (lv_at hl 0 rfl) ?_
            refine va_get (D := D) (ci := 2) (v := .int (nI hc)) (C := RX3) (T := TX3) (N := 10) xh bh hts (fun _ h => List.mem_cons_of_mem _ (List.mem_append_right _ (h))) hown hK.1 hP 0 rfl rfl 8 (by decide) (hts _ (List.mem_of_getElem? (i := 5) rfl)) (fun _ h9 => h9) rfl dX3_digestedOnto_76 ?_
            refine xn_icmp_ge (tgt := 123) xh bh dX3_digestedOnto_79 (by decide) (by omega) (by omega) (fun c_79 => ?_) (fun c_79 => ?_)
            · refine lv_lload_n xh bh dX3_digestedOnto_123 rfl (lv_at hl 2 rfl) ?_
              exact hend h3 () _ _ _ _ (congrArg (fun z => some (Value.long z)) (by rw [hh3, show k = hc by omega])) trivial dX3_digestedOnto_124 hP hD hS
            · refine lv_iload xh bh dX3_digestedOnto_82 (lv_at hl 3 rfl) ?_
              refine lv_bipush (v := (nI 6)) xh bh dX3_digestedOnto_84 (by decide) ?_
              refine xn_icmp_ge (tgt := 123) xh bh dX3_digestedOnto_86 (by decide) (by omega) (by omega) (fun c_86 => ?_) (fun c_86 => ?_)
              · refine lv_lload_n xh bh dX3_digestedOnto_123 rfl (lv_at hl 2 rfl) ?_
                exact hend h3 () _ _ _ _ (congrArg (fun z => some (Value.long z)) (by rw [hh3, show k = hc by omega])) trivial dX3_digestedOnto_124 hP hD hS
              · refine lv_ldc2 (v := (lN 31)) xh bh hown (hts _ (List.mem_of_getElem? (i := 1) rfl)) dX3_digestedOnto_89 ?_
                refine lv_ldc2 (v := (lN 31)) xh bh hown (hts _ (List.mem_of_getElem? (i := 1) rfl)) dX3_digestedOnto_92 ?_
                refine lv_lload_n xh bh dX3_digestedOnto_95 rfl (lv_at hl 2 rfl) ?_
                refine lv_lmul xh bh dX3_digestedOnto_96 ?_
                refine lv_aload_n xh bh dX3_digestedOnto_97 rfl (lv_at hl 0 rfl) ?_
                refine va_get (D := D) (ci := 2) (v := .ref (h 3)) (C := RX3) (T := TX3) (N := 10) xh bh hts (fun _ h => List.mem_cons_of_mem _ (List.mem_append_right _ (h))) hown hK.1 hP 0 rfl rfl 2 (by decide) (hts _ (List.mem_of_getElem? (i := 6) rfl)) (fun _ h9 => h9) rfl dX3_digestedOnto_98 ?_
                refine lv_iload xh bh dX3_digestedOnto_101 (lv_at hl 3 rfl) ?_
                refine xa_iald xh bh hK.1 hP 3 0 rfl rfl (by omega) (by omega) dX3_digestedOnto_103 ?_
                refine W.eq (g2 := F0 mG 104 ls [.int (nI (hp k)), .long ((lN 31) * h3), .long (lN 31)]) rfl ?_
                refine xn_i2l xh bh dX3_digestedOnto_104 (by have := hhp k (by omega); omega) ?_
                refine lv_ladd xh bh dX3_digestedOnto_105 ?_
                refine lv_lmul xh bh dX3_digestedOnto_106 ?_
                refine lv_aload_n xh bh dX3_digestedOnto_107 rfl (lv_at hl 0 rfl) ?_
                refine va_get (D := D) (ci := 2) (v := .ref (h 4)) (C := RX3) (T := TX3) (N := 10) xh bh hts (fun _ h => List.mem_cons_of_mem _ (List.mem_append_right _ (h))) hown hK.1 hP 0 rfl rfl 3 (by decide) (hts _ (List.mem_of_getElem? (i := 7) rfl)) (fun _ h9 => h9) rfl dX3_digestedOnto_108 ?_
                refine lv_iload xh bh dX3_digestedOnto_111 (lv_at hl 3 rfl) ?_
                refine xa_iald xh bh hK.1 hP 4 0 rfl rfl (by omega) (by omega) dX3_digestedOnto_113 ?_
                refine W.eq (g2 := F0 mG 114 ls [.int (nI (hi k)), .long ((lN 31) * (((lN 31) * h3) + (lN (hp k))))]) rfl ?_
                refine xn_i2l xh bh dX3_digestedOnto_114 (by have := hhi k (by omega); omega) ?_
                refine lv_ladd xh bh dX3_digestedOnto_115 ?_
                refine lv_topl (fun v_116 ev_116 => ?_)
                refine lv_lstore_n (lv' := [(3, .long v_116), (0, .ref (h 0)), (1, .long g0), (5, .int (nI k))]) xh bh dX3_digestedOnto_116 rfl hl (by decide) rfl (fun ls hl => ?_)
                refine lv_iinc (v := (nI (k + 1))) (lv' := [(5, .int (nI (k + 1))), (3, .long v_116), (0, .ref (h 0)), (1, .long g0)]) xh bh dX3_digestedOnto_117 hl (k := 3) rfl (by exact xn_inc _ _) (by decide) rfl (fun ls hl => ?_)
                refine lv_goto (tgt := 73) xh bh dX3_digestedOnto_120 (by decide) ?_
                exact ih_73 (k + 1) v_116 (by omega) (by rw [ev_116, hh3]; rfl) (by omega) _ _ ls hP hD hS (lv_sub hl [2, 3, 1, 0] rfl)
        exact cut_73 (hc - 0 + 1) 0 (dgT row h2 row.length) (by exact Nat.zero_le _) (by first | (rw [hh2, show i = 8 by omega]; rfl) | (rw [ev_69, hh2, show i = 8 by omega]; rfl)) (Nat.lt_succ_self _) _ _ ls hP hD hS (lv_sub hl [2, 3, 1, 0] rfl)
      · refine lv_ldc2 (v := (lN 31)) xh bh hown (hts _ (List.mem_of_getElem? (i := 1) rfl)) dX3_digestedOnto_12 ?_
        refine lv_lload_n xh bh dX3_digestedOnto_15 rfl (lv_at hl 2 rfl) ?_
        refine lv_lmul xh bh dX3_digestedOnto_16 ?_
        refine lv_aload_n xh bh dX3_digestedOnto_17 rfl (lv_at hl 0 rfl) ?_
        refine va_get (D := D) (ci := 2) (v := .ref (h 1)) (C := RX3) (T := TX3) (N := 10) xh bh hts (fun _ h => List.mem_cons_of_mem _ (List.mem_append_right _ (h))) hown hK.1 hP 0 rfl rfl 0 (by decide) (hts _ (List.mem_of_getElem? (i := 2) rfl)) (fun _ h9 => h9) rfl dX3_digestedOnto_18 ?_
        refine lv_iload xh bh dX3_digestedOnto_21 (lv_at hl 3 rfl) ?_
        refine xa_lald xh bh hK.1 hP 1 1 rfl rfl (by omega) (by omega) dX3_digestedOnto_23 ?_
        refine W.eq (g2 := F0 mG 24 ls [.long (eC (T i)), .long ((lN 31) * h2)]) rfl ?_
        refine Ct.callS0 (rest := [.long ((lN 31) * h2)]) xh bh hml hown hts hK hP hS hA (ct_X7_sizeOf l D cI cJ cB cZ cA (T i) (by exact hT _)) (va_cwS 1 hts gX3_digestedOnto_X7_sizeOf rfl rfl rfl (by decide +kernel) ⟨Nat.le_of_ble_eq_true rfl, Nat.le_of_ble_eq_true rfl⟩) rfl rfl hl.1 (Nat.le_of_ble_eq_true rfl) dX3_digestedOnto_24 ⟨Nat.le_refl _, Nat.le_refl _⟩ (fun _ H locs _ hP hS => ?_)
        refine W.eq (g2 := F0 mG 27 ls [.int (nI ((T i).length)), .long ((lN 31) * h2)]) rfl ?_
        refine xn_i2l xh bh dX3_digestedOnto_27 (by have := (hT i).1; omega) ?_
        refine lv_ladd xh bh dX3_digestedOnto_28 ?_
        refine lv_lstore_n (lv' := [(3, .long (((lN 31) * h2) + (lN ((T i).length)))), (0, .ref (h 0)), (1, .long g0), (5, .int (nI i))]) xh bh dX3_digestedOnto_29 rfl hl (by decide) rfl (fun ls hl => ?_)
        refine lv_ldc2 (v := (lN 31)) xh bh hown (hts _ (List.mem_of_getElem? (i := 1) rfl)) dX3_digestedOnto_30 ?_
        refine lv_lload_n xh bh dX3_digestedOnto_33 rfl (lv_at hl 0 rfl) ?_
        refine lv_aload_n xh bh dX3_digestedOnto_34 rfl (lv_at hl 1 rfl) ?_
        refine va_get (D := D) (ci := 2) (v := .ref (h 1)) (C := RX3) (T := TX3) (N := 10) xh bh hts (fun _ h => List.mem_cons_of_mem _ (List.mem_append_right _ (h))) hown hK.1 hP 0 rfl rfl 0 (by decide) (hts _ (List.mem_of_getElem? (i := 2) rfl)) (fun _ h9 => h9) rfl dX3_digestedOnto_35 ?_
        refine lv_iload xh bh dX3_digestedOnto_38 (lv_at hl 3 rfl) ?_
        refine xa_lald xh bh hK.1 hP 1 1 rfl rfl (by omega) (by omega) dX3_digestedOnto_40 ?_
        refine W.eq (g2 := F0 mG 41 ls [.long (eC (T i)), .long (((lN 31) * h2) + (lN ((T i).length))), .long (lN 31)]) rfl ?_
        refine Ct.callS0 (rest := [.long (lN 31)]) xh bh hml hown hts hK hP hS hA (ct_X3_partsOnto l D cI cJ cB cZ cA (((lN 31) * h2) + (lN ((T i).length))) (T i) (by exact hT _)) (va_cwS 2 hts gX3_digestedOnto_X3_partsOnto rfl rfl rfl (by decide +kernel) ⟨Nat.le_of_ble_eq_true rfl, Nat.le_of_ble_eq_true rfl⟩) rfl rfl hl.1 (Nat.le_of_ble_eq_true rfl) dX3_digestedOnto_41 ⟨Nat.le_refl _, Nat.le_refl _⟩ (fun _ H locs _ hP hS => ?_)
        refine W.eq (g2 := F0 mG 44 ls [.long (dgT (T i) (((lN 31) * h2) + (lN ((T i).length))) (T i).length), .long (lN 31)]) rfl ?_
        refine lv_lmul xh bh dX3_digestedOnto_44 ?_
        refine lv_aload_n xh bh dX3_digestedOnto_45 rfl (lv_at hl 1 rfl) ?_
        refine va_get (D := D) (ci := 2) (v := .ref (h 2)) (C := RX3) (T := TX3) (N := 10) xh bh hts (fun _ h => List.mem_cons_of_mem _ (List.mem_append_right _ (h))) hown hK.1 hP 0 rfl rfl 1 (by decide) (hts _ (List.mem_of_getElem? (i := 3) rfl)) (fun _ h9 => h9) rfl dX3_digestedOnto_46 ?_
        refine lv_iload xh bh dX3_digestedOnto_49 (lv_at hl 3 rfl) ?_
        refine xa_iald xh bh hK.1 hP 2 0 rfl rfl (by omega) (by omega) dX3_digestedOnto_51 ?_
        refine lv_i2l xh bh dX3_digestedOnto_52 rfl ?_
        refine lv_ladd xh bh dX3_digestedOnto_53 ?_
        refine lv_topl (fun v_54 ev_54 => ?_)
        refine lv_lstore_n (lv' := [(3, .long v_54), (0, .ref (h 0)), (1, .long g0), (5, .int (nI i))]) xh bh dX3_digestedOnto_54 rfl hl (by decide) rfl (fun ls hl => ?_)
        refine lv_iinc (v := (nI (i + 1))) (lv' := [(5, .int (nI (i + 1))), (3, .long v_54), (0, .ref (h 0)), (1, .long g0)]) xh bh dX3_digestedOnto_55 hl (k := 3) rfl (by exact xn_inc _ _) (by decide) rfl (fun ls hl => ?_)
        refine lv_goto (tgt := 5) xh bh dX3_digestedOnto_58 (by decide) ?_
        exact ih_5 (i + 1) v_54 (by omega) (by rw [ev_54]; refine congrArg (fun z => lN 31 * dgT (T i) (lN 31 * z + lN (T i).length) (T i).length + (P i).toInt64) ?_; exact hh2) (by omega) _ _ ls hP hD hS (lv_sub hl [2, 3, 1, 0] rfl)
  exact cut_5 (8 - 0 + 1) 0 g0 (by exact Nat.zero_le _) (by rfl) (Nat.lt_succ_self _) _ _ ls hP hD hS (lv_sub hl [2, 3, 1, 0] rfl)

set_option maxHeartbeats 1000000 in
set_option maxRecDepth 100000 in
theorem ct_X8_refuse_0 (l : Launch) (D : va_G) (cI cJ cB cZ cA : ClassId) (e0 : Nat) (h : Nat → Nat) (y : Nat → Nat) (z : Nat → Nat) (d : Nat → Nat) (sc : Nat) (ru : Nat) (fu : Nat) (f0 : Nat) (ra : Nat) (k0 : Bool) (k1 : Bool) (rf : Nat → Int32) (r : Int32) : Ct l yX8_refuse_ wsX8_refuse_ ({ frames := 0, cells := 0, slots := 0, locals := 0 }) D (tysG cI cJ cB cZ cA) [.ref e0, .int (-2), .int r] [(e0, .inr (5, [.ref (h 0), .ref (y 0), .ref (z 0), .ref (d 0), .ref sc, .ref ru, .ref fu, .ref f0, .ref ra, .int (ib k0), .int (ib k1)])), (ra, .inl (cI, 3, .inl rf))] (fun (_ : Unit) => True) (fun _ => some (.int r)) (fun _ => [(e0, .inr (5, [.ref (h 0), .ref (y 0), .ref (z 0), .ref (d 0), .ref sc, .ref ru, .ref fu, .ref f0, .ref ra, .int (ib k0), .int (ib k1)])), (ra, .inl (cI, 3, .inl (upd rf 0 ((rf 0) + nI 1))))]) := by
  refine Ct.ofI (cc := cX8_refuse_) (maxL := 4) (by decide) rfl (Nat.le_of_ble_eq_true rfl) ?_
  intro pG eG sG mG aG bG tG cG AG QG ls xh bh hml hown hts hK hP hD hS hA hend hl
  have hl : lv_has ls 4 [(0, .ref e0), (1, .int (-2)), (2, .int r)] := hl
  refine lv_bipush (v := (-2)) xh bh dX8_refuse__0 (by decide) ?_
  refine lv_iload_n xh bh dX8_refuse__2 rfl (lv_at hl 1 rfl) ?_
  refine lv_isub xh bh dX8_refuse__3 ?_
  refine xw_topi (x := ((-2) - (-2))) (y := (nI 0)) (by decide) ?_
  refine lv_istore_n (lv' := [(3, .int (nI 0)), (0, .ref e0), (1, .int (-2)), (2, .int r)]) xh bh dX8_refuse__4 rfl hl (by decide) rfl (fun ls hl => ?_)
  refine lv_iload_n xh bh dX8_refuse__5 rfl (lv_at hl 0 rfl) ?_
  refine xn_if_lt (tgt := 28) xh bh dX8_refuse__6 (by decide) (by omega) (fun c_6 => ?_) (fun c_6 => ?_)
  · exact absurd c_6 (by exact id)
  · refine lv_iload_n xh bh dX8_refuse__9 rfl (lv_at hl 0 rfl) ?_
    refine lv_aload_n xh bh dX8_refuse__10 rfl (lv_at hl 1 rfl) ?_
    refine va_get (D := D) (ci := 5) (v := .ref ra) (C := RX8) (T := TX8) (N := 11) xh bh hts (fun _ h => List.mem_cons_of_mem _ (List.mem_append_right _ (h))) hown hK.1 hP 0 rfl rfl 8 (by decide) (hts _ (List.mem_of_getElem? (i := 1) rfl)) (fun _ h9 => h9) rfl dX8_refuse__11 ?_
    refine va_alen (v := nI 3) xh bh hK.1 hP 1 0 rfl rfl rfl dX8_refuse__14 ?_
    refine xn_icmp_ge (tgt := 28) xh bh dX8_refuse__15 (by decide) (by omega) (by omega) (fun c_15 => ?_) (fun c_15 => ?_)
    · exact absurd c_15 (by omega)
    · refine lv_aload_n xh bh dX8_refuse__18 rfl (lv_at hl 1 rfl) ?_
      refine va_get (D := D) (ci := 5) (v := .ref ra) (C := RX8) (T := TX8) (N := 11) xh bh hts (fun _ h => List.mem_cons_of_mem _ (List.mem_append_right _ (h))) hown hK.1 hP 0 rfl rfl 8 (by decide) (hts _ (List.mem_of_getElem? (i := 1) rfl)) (fun _ h9 => h9) rfl dX8_refuse__19 ?_
      refine lv_iload_n xh bh dX8_refuse__22 rfl (lv_at hl 0 rfl) ?_
      refine lv_dup2_11 xh bh dX8_refuse__23 rfl rfl ?_
      refine xa_iald xh bh hK.1 hP 1 0 rfl rfl (by omega) (by omega) dX8_refuse__24 ?_
      refine lv_iconst (v := (nI 1)) xh bh dX8_refuse__25 (by decide) ?_
      refine lv_iadd xh bh dX8_refuse__26 ?_
      refine xa_iast xh bh hK.1 hP hD hS 1 0 rfl rfl (by omega) (by omega) dX8_refuse__27 (fun H locs hP hD hS => ?_)
      have hP : va_P D vwCl [(e0, .inr (5, [.ref (h 0), .ref (y 0), .ref (z 0), .ref (d 0), .ref sc, .ref ru, .ref fu, .ref f0, .ref ra, .int (ib k0), .int (ib k1)])), (ra, .inl (cI, 3, .inl (upd rf 0 ((rf 0) + (nI 1)))))] H := hP
      have hD : va_D AG [(e0, .inr (5, [.ref (h 0), .ref (y 0), .ref (z 0), .ref (d 0), .ref sc, .ref ru, .ref fu, .ref f0, .ref ra, .int (ib k0), .int (ib k1)])), (ra, .inl (cI, 3, .inl (upd rf 0 ((rf 0) + (nI 1)))))] := hD
      refine lv_iload_n xh bh dX8_refuse__28 rfl (lv_at hl 3 rfl) ?_
      exact hend r () _ _ _ _ (congrArg (fun z => some (Value.int z)) (by rfl)) trivial rfl dX8_refuse__29 hP hD hS

set_option maxHeartbeats 1000000 in
set_option maxRecDepth 100000 in
theorem ct_X8_refuse_1 (l : Launch) (D : va_G) (cI cJ cB cZ cA : ClassId) (e0 : Nat) (h : Nat → Nat) (y : Nat → Nat) (z : Nat → Nat) (d : Nat → Nat) (sc : Nat) (ru : Nat) (fu : Nat) (f0 : Nat) (ra : Nat) (k0 : Bool) (k1 : Bool) (rf : Nat → Int32) (r : Int32) : Ct l yX8_refuse_ wsX8_refuse_ ({ frames := 0, cells := 0, slots := 0, locals := 0 }) D (tysG cI cJ cB cZ cA) [.ref e0, .int (-3), .int r] [(e0, .inr (5, [.ref (h 0), .ref (y 0), .ref (z 0), .ref (d 0), .ref sc, .ref ru, .ref fu, .ref f0, .ref ra, .int (ib k0), .int (ib k1)])), (ra, .inl (cI, 3, .inl rf))] (fun (_ : Unit) => True) (fun _ => some (.int r)) (fun _ => [(e0, .inr (5, [.ref (h 0), .ref (y 0), .ref (z 0), .ref (d 0), .ref sc, .ref ru, .ref fu, .ref f0, .ref ra, .int (ib k0), .int (ib k1)])), (ra, .inl (cI, 3, .inl (upd rf 1 ((rf 1) + nI 1))))]) := by
  refine Ct.ofI (cc := cX8_refuse_) (maxL := 4) (by decide) rfl (Nat.le_of_ble_eq_true rfl) ?_
  intro pG eG sG mG aG bG tG cG AG QG ls xh bh hml hown hts hK hP hD hS hA hend hl
  have hl : lv_has ls 4 [(0, .ref e0), (1, .int (-3)), (2, .int r)] := hl
  refine lv_bipush (v := (-2)) xh bh dX8_refuse__0 (by decide) ?_
  refine lv_iload_n xh bh dX8_refuse__2 rfl (lv_at hl 1 rfl) ?_
  refine lv_isub xh bh dX8_refuse__3 ?_
  refine xw_topi (x := ((-2) - (-3))) (y := (nI 1)) (by decide) ?_
  refine lv_istore_n (lv' := [(3, .int (nI 1)), (0, .ref e0), (1, .int (-3)), (2, .int r)]) xh bh dX8_refuse__4 rfl hl (by decide) rfl (fun ls hl => ?_)
  refine lv_iload_n xh bh dX8_refuse__5 rfl (lv_at hl 0 rfl) ?_
  refine xn_if_lt (tgt := 28) xh bh dX8_refuse__6 (by decide) (by omega) (fun c_6 => ?_) (fun c_6 => ?_)
  · exact absurd c_6 (by exact id)
  · refine lv_iload_n xh bh dX8_refuse__9 rfl (lv_at hl 0 rfl) ?_
    refine lv_aload_n xh bh dX8_refuse__10 rfl (lv_at hl 1 rfl) ?_
    refine va_get (D := D) (ci := 5) (v := .ref ra) (C := RX8) (T := TX8) (N := 11) xh bh hts (fun _ h => List.mem_cons_of_mem _ (List.mem_append_right _ (h))) hown hK.1 hP 0 rfl rfl 8 (by decide) (hts _ (List.mem_of_getElem? (i := 1) rfl)) (fun _ h9 => h9) rfl dX8_refuse__11 ?_
    refine va_alen (v := nI 3) xh bh hK.1 hP 1 0 rfl rfl rfl dX8_refuse__14 ?_
    refine xn_icmp_ge (tgt := 28) xh bh dX8_refuse__15 (by decide) (by omega) (by omega) (fun c_15 => ?_) (fun c_15 => ?_)
    · exact absurd c_15 (by omega)
    · refine lv_aload_n xh bh dX8_refuse__18 rfl (lv_at hl 1 rfl) ?_
      refine va_get (D := D) (ci := 5) (v := .ref ra) (C := RX8) (T := TX8) (N := 11) xh bh hts (fun _ h => List.mem_cons_of_mem _ (List.mem_append_right _ (h))) hown hK.1 hP 0 rfl rfl 8 (by decide) (hts _ (List.mem_of_getElem? (i := 1) rfl)) (fun _ h9 => h9) rfl dX8_refuse__19 ?_
      refine lv_iload_n xh bh dX8_refuse__22 rfl (lv_at hl 0 rfl) ?_
      refine lv_dup2_11 xh bh dX8_refuse__23 rfl rfl ?_
      refine xa_iald xh bh hK.1 hP 1 0 rfl rfl (by omega) (by omega) dX8_refuse__24 ?_
      refine lv_iconst (v := (nI 1)) xh bh dX8_refuse__25 (by decide) ?_
      refine lv_iadd xh bh dX8_refuse__26 ?_
      refine xa_iast xh bh hK.1 hP hD hS 1 0 rfl rfl (by omega) (by omega) dX8_refuse__27 (fun H locs hP hD hS => ?_)
      have hP : va_P D vwCl [(e0, .inr (5, [.ref (h 0), .ref (y 0), .ref (z 0), .ref (d 0), .ref sc, .ref ru, .ref fu, .ref f0, .ref ra, .int (ib k0), .int (ib k1)])), (ra, .inl (cI, 3, .inl (upd rf 1 ((rf 1) + (nI 1)))))] H := hP
      have hD : va_D AG [(e0, .inr (5, [.ref (h 0), .ref (y 0), .ref (z 0), .ref (d 0), .ref sc, .ref ru, .ref fu, .ref f0, .ref ra, .int (ib k0), .int (ib k1)])), (ra, .inl (cI, 3, .inl (upd rf 1 ((rf 1) + (nI 1)))))] := hD
      refine lv_iload_n xh bh dX8_refuse__28 rfl (lv_at hl 3 rfl) ?_
      exact hend r () _ _ _ _ (congrArg (fun z => some (Value.int z)) (by rfl)) trivial rfl dX8_refuse__29 hP hD hS

set_option maxHeartbeats 1000000 in
set_option maxRecDepth 100000 in
theorem ct_X8_refuse_2 (l : Launch) (D : va_G) (cI cJ cB cZ cA : ClassId) (e0 : Nat) (h : Nat → Nat) (y : Nat → Nat) (z : Nat → Nat) (d : Nat → Nat) (sc : Nat) (ru : Nat) (fu : Nat) (f0 : Nat) (ra : Nat) (k0 : Bool) (k1 : Bool) (rf : Nat → Int32) (r : Int32) : Ct l yX8_refuse_ wsX8_refuse_ ({ frames := 0, cells := 0, slots := 0, locals := 0 }) D (tysG cI cJ cB cZ cA) [.ref e0, .int (-4), .int r] [(e0, .inr (5, [.ref (h 0), .ref (y 0), .ref (z 0), .ref (d 0), .ref sc, .ref ru, .ref fu, .ref f0, .ref ra, .int (ib k0), .int (ib k1)])), (ra, .inl (cI, 3, .inl rf))] (fun (_ : Unit) => True) (fun _ => some (.int r)) (fun _ => [(e0, .inr (5, [.ref (h 0), .ref (y 0), .ref (z 0), .ref (d 0), .ref sc, .ref ru, .ref fu, .ref f0, .ref ra, .int (ib k0), .int (ib k1)])), (ra, .inl (cI, 3, .inl (upd rf 2 ((rf 2) + nI 1))))]) := by
  refine Ct.ofI (cc := cX8_refuse_) (maxL := 4) (by decide) rfl (Nat.le_of_ble_eq_true rfl) ?_
  intro pG eG sG mG aG bG tG cG AG QG ls xh bh hml hown hts hK hP hD hS hA hend hl
  have hl : lv_has ls 4 [(0, .ref e0), (1, .int (-4)), (2, .int r)] := hl
  refine lv_bipush (v := (-2)) xh bh dX8_refuse__0 (by decide) ?_
  refine lv_iload_n xh bh dX8_refuse__2 rfl (lv_at hl 1 rfl) ?_
  refine lv_isub xh bh dX8_refuse__3 ?_
  refine xw_topi (x := ((-2) - (-4))) (y := (nI 2)) (by decide) ?_
  refine lv_istore_n (lv' := [(3, .int (nI 2)), (0, .ref e0), (1, .int (-4)), (2, .int r)]) xh bh dX8_refuse__4 rfl hl (by decide) rfl (fun ls hl => ?_)
  refine lv_iload_n xh bh dX8_refuse__5 rfl (lv_at hl 0 rfl) ?_
  refine xn_if_lt (tgt := 28) xh bh dX8_refuse__6 (by decide) (by omega) (fun c_6 => ?_) (fun c_6 => ?_)
  · exact absurd c_6 (by exact id)
  · refine lv_iload_n xh bh dX8_refuse__9 rfl (lv_at hl 0 rfl) ?_
    refine lv_aload_n xh bh dX8_refuse__10 rfl (lv_at hl 1 rfl) ?_
    refine va_get (D := D) (ci := 5) (v := .ref ra) (C := RX8) (T := TX8) (N := 11) xh bh hts (fun _ h => List.mem_cons_of_mem _ (List.mem_append_right _ (h))) hown hK.1 hP 0 rfl rfl 8 (by decide) (hts _ (List.mem_of_getElem? (i := 1) rfl)) (fun _ h9 => h9) rfl dX8_refuse__11 ?_
    refine va_alen (v := nI 3) xh bh hK.1 hP 1 0 rfl rfl rfl dX8_refuse__14 ?_
    refine xn_icmp_ge (tgt := 28) xh bh dX8_refuse__15 (by decide) (by omega) (by omega) (fun c_15 => ?_) (fun c_15 => ?_)
    · exact absurd c_15 (by omega)
    · refine lv_aload_n xh bh dX8_refuse__18 rfl (lv_at hl 1 rfl) ?_
      refine va_get (D := D) (ci := 5) (v := .ref ra) (C := RX8) (T := TX8) (N := 11) xh bh hts (fun _ h => List.mem_cons_of_mem _ (List.mem_append_right _ (h))) hown hK.1 hP 0 rfl rfl 8 (by decide) (hts _ (List.mem_of_getElem? (i := 1) rfl)) (fun _ h9 => h9) rfl dX8_refuse__19 ?_
      refine lv_iload_n xh bh dX8_refuse__22 rfl (lv_at hl 0 rfl) ?_
      refine lv_dup2_11 xh bh dX8_refuse__23 rfl rfl ?_
      refine xa_iald xh bh hK.1 hP 1 0 rfl rfl (by omega) (by omega) dX8_refuse__24 ?_
      refine lv_iconst (v := (nI 1)) xh bh dX8_refuse__25 (by decide) ?_
      refine lv_iadd xh bh dX8_refuse__26 ?_
      refine xa_iast xh bh hK.1 hP hD hS 1 0 rfl rfl (by omega) (by omega) dX8_refuse__27 (fun H locs hP hD hS => ?_)
      have hP : va_P D vwCl [(e0, .inr (5, [.ref (h 0), .ref (y 0), .ref (z 0), .ref (d 0), .ref sc, .ref ru, .ref fu, .ref f0, .ref ra, .int (ib k0), .int (ib k1)])), (ra, .inl (cI, 3, .inl (upd rf 2 ((rf 2) + (nI 1)))))] H := hP
      have hD : va_D AG [(e0, .inr (5, [.ref (h 0), .ref (y 0), .ref (z 0), .ref (d 0), .ref sc, .ref ru, .ref fu, .ref f0, .ref ra, .int (ib k0), .int (ib k1)])), (ra, .inl (cI, 3, .inl (upd rf 2 ((rf 2) + (nI 1)))))] := hD
      refine lv_iload_n xh bh dX8_refuse__28 rfl (lv_at hl 3 rfl) ?_
      exact hend r () _ _ _ _ (congrArg (fun z => some (Value.int z)) (by rfl)) trivial rfl dX8_refuse__29 hP hD hS

set_option maxHeartbeats 1000000 in
set_option maxRecDepth 100000 in
theorem ct_X8_refuse0 (l : Launch) (D : va_G) (cI cJ cB cZ cA : ClassId) (e0 : Nat) (h : Nat → Nat) (y : Nat → Nat) (z : Nat → Nat) (d : Nat → Nat) (sc : Nat) (ru : Nat) (fu : Nat) (f0 : Nat) (ra : Nat) (k0 : Bool) (k1 : Bool) (rf : Nat → Int32) : Ct l yX8_refuse wsX8_refuse ({ frames := 1, cells := 0, slots := 0, locals := 23 }) D (tysG cI cJ cB cZ cA) [.ref e0, .int (-2)] [(e0, .inr (5, [.ref (h 0), .ref (y 0), .ref (z 0), .ref (d 0), .ref sc, .ref ru, .ref fu, .ref f0, .ref ra, .int (ib k0), .int (ib k1)])), (ra, .inl (cI, 3, .inl rf))] (fun (_ : Unit) => True) (fun _ => some (.int (-2))) (fun _ => [(e0, .inr (5, [.ref (h 0), .ref (y 0), .ref (z 0), .ref (d 0), .ref sc, .ref ru, .ref fu, .ref f0, .ref ra, .int (ib k0), .int (ib k1)])), (ra, .inl (cI, 3, .inl (upd rf 0 ((rf 0) + nI 1))))]) := by
  refine Ct.ofI (cc := cX8_refuse) (maxL := 2) (by decide) rfl (Nat.le_of_ble_eq_true rfl) ?_
  intro pG eG sG mG aG bG tG cG AG QG ls xh bh hml hown hts hK hP hD hS hA hend hl
  have hl : lv_has ls 2 [(0, .ref e0), (1, .int (-2))] := hl
  refine lv_aload_n xh bh dX8_refuse_0 rfl (lv_at hl 0 rfl) ?_
  refine lv_iload_n xh bh dX8_refuse_1 rfl (lv_at hl 1 rfl) ?_
  refine lv_iload_n xh bh dX8_refuse_2 rfl (lv_at hl 1 rfl) ?_
  refine Ct.callV (As := [.int (-2), .int (-2)]) (rest := []) (wr := []) xh bh hml hown hts hK hP hD hS hA (ct_X8_refuse_0 l D cI cJ cB cZ cA e0 h y z d sc ru fu f0 ra k0 k1 rf (-2) ) (cwV 2 hts gX8_refuse_X8_refuse_ rfl rfl rfl (by decide +kernel) ⟨Nat.le_of_ble_eq_true rfl, Nat.le_of_ble_eq_true rfl⟩) rfl rfl hl.1 (Nat.le_of_ble_eq_true rfl) dX8_refuse_3 ⟨Nat.le_refl _, Nat.le_refl _⟩ 0 5 rfl rfl rfl [0, 1] [] rfl (by decide) rfl rfl (by decide) (by decide) (fun _ H locs _ hP hD hS => ?_)
  have hP : va_P D vwCl [(e0, .inr (5, [.ref (h 0), .ref (y 0), .ref (z 0), .ref (d 0), .ref sc, .ref ru, .ref fu, .ref f0, .ref ra, .int (ib k0), .int (ib k1)])), (ra, .inl (cI, 3, .inl (upd rf 0 ((rf 0) + nI 1))))] H := hP
  have hD : va_D AG [(e0, .inr (5, [.ref (h 0), .ref (y 0), .ref (z 0), .ref (d 0), .ref sc, .ref ru, .ref fu, .ref f0, .ref ra, .int (ib k0), .int (ib k1)])), (ra, .inl (cI, 3, .inl (upd rf 0 ((rf 0) + nI 1))))] := hD
  refine W.eq (g2 := F0 mG 6 ls [.int (-2)]) rfl ?_
  exact hend (-2) () _ _ _ _ (congrArg (fun z => some (Value.int z)) (by rfl)) trivial rfl dX8_refuse_6 hP hD hS

set_option maxHeartbeats 1000000 in
set_option maxRecDepth 100000 in
theorem ct_X8_refuse1 (l : Launch) (D : va_G) (cI cJ cB cZ cA : ClassId) (e0 : Nat) (h : Nat → Nat) (y : Nat → Nat) (z : Nat → Nat) (d : Nat → Nat) (sc : Nat) (ru : Nat) (fu : Nat) (f0 : Nat) (ra : Nat) (k0 : Bool) (k1 : Bool) (rf : Nat → Int32) : Ct l yX8_refuse wsX8_refuse ({ frames := 1, cells := 0, slots := 0, locals := 23 }) D (tysG cI cJ cB cZ cA) [.ref e0, .int (-3)] [(e0, .inr (5, [.ref (h 0), .ref (y 0), .ref (z 0), .ref (d 0), .ref sc, .ref ru, .ref fu, .ref f0, .ref ra, .int (ib k0), .int (ib k1)])), (ra, .inl (cI, 3, .inl rf))] (fun (_ : Unit) => True) (fun _ => some (.int (-3))) (fun _ => [(e0, .inr (5, [.ref (h 0), .ref (y 0), .ref (z 0), .ref (d 0), .ref sc, .ref ru, .ref fu, .ref f0, .ref ra, .int (ib k0), .int (ib k1)])), (ra, .inl (cI, 3, .inl (upd rf 1 ((rf 1) + nI 1))))]) := by
  refine Ct.ofI (cc := cX8_refuse) (maxL := 2) (by decide) rfl (Nat.le_of_ble_eq_true rfl) ?_
  intro pG eG sG mG aG bG tG cG AG QG ls xh bh hml hown hts hK hP hD hS hA hend hl
  have hl : lv_has ls 2 [(0, .ref e0), (1, .int (-3))] := hl
  refine lv_aload_n xh bh dX8_refuse_0 rfl (lv_at hl 0 rfl) ?_
  refine lv_iload_n xh bh dX8_refuse_1 rfl (lv_at hl 1 rfl) ?_
  refine lv_iload_n xh bh dX8_refuse_2 rfl (lv_at hl 1 rfl) ?_
  refine Ct.callV (As := [.int (-3), .int (-3)]) (rest := []) (wr := []) xh bh hml hown hts hK hP hD hS hA (ct_X8_refuse_1 l D cI cJ cB cZ cA e0 h y z d sc ru fu f0 ra k0 k1 rf (-3) ) (cwV 2 hts gX8_refuse_X8_refuse_ rfl rfl rfl (by decide +kernel) ⟨Nat.le_of_ble_eq_true rfl, Nat.le_of_ble_eq_true rfl⟩) rfl rfl hl.1 (Nat.le_of_ble_eq_true rfl) dX8_refuse_3 ⟨Nat.le_refl _, Nat.le_refl _⟩ 0 5 rfl rfl rfl [0, 1] [] rfl (by decide) rfl rfl (by decide) (by decide) (fun _ H locs _ hP hD hS => ?_)
  have hP : va_P D vwCl [(e0, .inr (5, [.ref (h 0), .ref (y 0), .ref (z 0), .ref (d 0), .ref sc, .ref ru, .ref fu, .ref f0, .ref ra, .int (ib k0), .int (ib k1)])), (ra, .inl (cI, 3, .inl (upd rf 1 ((rf 1) + nI 1))))] H := hP
  have hD : va_D AG [(e0, .inr (5, [.ref (h 0), .ref (y 0), .ref (z 0), .ref (d 0), .ref sc, .ref ru, .ref fu, .ref f0, .ref ra, .int (ib k0), .int (ib k1)])), (ra, .inl (cI, 3, .inl (upd rf 1 ((rf 1) + nI 1))))] := hD
  refine W.eq (g2 := F0 mG 6 ls [.int (-3)]) rfl ?_
  exact hend (-3) () _ _ _ _ (congrArg (fun z => some (Value.int z)) (by rfl)) trivial rfl dX8_refuse_6 hP hD hS

set_option maxHeartbeats 1000000 in
set_option maxRecDepth 100000 in
theorem ct_X8_refuse2 (l : Launch) (D : va_G) (cI cJ cB cZ cA : ClassId) (e0 : Nat) (h : Nat → Nat) (y : Nat → Nat) (z : Nat → Nat) (d : Nat → Nat) (sc : Nat) (ru : Nat) (fu : Nat) (f0 : Nat) (ra : Nat) (k0 : Bool) (k1 : Bool) (rf : Nat → Int32) : Ct l yX8_refuse wsX8_refuse ({ frames := 1, cells := 0, slots := 0, locals := 23 }) D (tysG cI cJ cB cZ cA) [.ref e0, .int (-4)] [(e0, .inr (5, [.ref (h 0), .ref (y 0), .ref (z 0), .ref (d 0), .ref sc, .ref ru, .ref fu, .ref f0, .ref ra, .int (ib k0), .int (ib k1)])), (ra, .inl (cI, 3, .inl rf))] (fun (_ : Unit) => True) (fun _ => some (.int (-4))) (fun _ => [(e0, .inr (5, [.ref (h 0), .ref (y 0), .ref (z 0), .ref (d 0), .ref sc, .ref ru, .ref fu, .ref f0, .ref ra, .int (ib k0), .int (ib k1)])), (ra, .inl (cI, 3, .inl (upd rf 2 ((rf 2) + nI 1))))]) := by
  refine Ct.ofI (cc := cX8_refuse) (maxL := 2) (by decide) rfl (Nat.le_of_ble_eq_true rfl) ?_
  intro pG eG sG mG aG bG tG cG AG QG ls xh bh hml hown hts hK hP hD hS hA hend hl
  have hl : lv_has ls 2 [(0, .ref e0), (1, .int (-4))] := hl
  refine lv_aload_n xh bh dX8_refuse_0 rfl (lv_at hl 0 rfl) ?_
  refine lv_iload_n xh bh dX8_refuse_1 rfl (lv_at hl 1 rfl) ?_
  refine lv_iload_n xh bh dX8_refuse_2 rfl (lv_at hl 1 rfl) ?_
  refine Ct.callV (As := [.int (-4), .int (-4)]) (rest := []) (wr := []) xh bh hml hown hts hK hP hD hS hA (ct_X8_refuse_2 l D cI cJ cB cZ cA e0 h y z d sc ru fu f0 ra k0 k1 rf (-4) ) (cwV 2 hts gX8_refuse_X8_refuse_ rfl rfl rfl (by decide +kernel) ⟨Nat.le_of_ble_eq_true rfl, Nat.le_of_ble_eq_true rfl⟩) rfl rfl hl.1 (Nat.le_of_ble_eq_true rfl) dX8_refuse_3 ⟨Nat.le_refl _, Nat.le_refl _⟩ 0 5 rfl rfl rfl [0, 1] [] rfl (by decide) rfl rfl (by decide) (by decide) (fun _ H locs _ hP hD hS => ?_)
  have hP : va_P D vwCl [(e0, .inr (5, [.ref (h 0), .ref (y 0), .ref (z 0), .ref (d 0), .ref sc, .ref ru, .ref fu, .ref f0, .ref ra, .int (ib k0), .int (ib k1)])), (ra, .inl (cI, 3, .inl (upd rf 2 ((rf 2) + nI 1))))] H := hP
  have hD : va_D AG [(e0, .inr (5, [.ref (h 0), .ref (y 0), .ref (z 0), .ref (d 0), .ref sc, .ref ru, .ref fu, .ref f0, .ref ra, .int (ib k0), .int (ib k1)])), (ra, .inl (cI, 3, .inl (upd rf 2 ((rf 2) + nI 1))))] := hD
  refine W.eq (g2 := F0 mG 6 ls [.int (-4)]) rfl ?_
  exact hend (-4) () _ _ _ _ (congrArg (fun z => some (Value.int z)) (by rfl)) trivial rfl dX8_refuse_6 hP hD hS

set_option maxHeartbeats 1000000 in
set_option maxRecDepth 100000 in
theorem ct_X8_house (l : Launch) (D : va_G) (cI cJ cB cZ cA : ClassId) (e0 : Nat) (h : Nat → Nat) (y : Nat → Nat) (z : Nat → Nat) (d : Nat → Nat) (sc : Nat) (ru : Nat) (fu : Nat) (f0 : Nat) (ra : Nat) (k0 : Bool) (k1 : Bool) (T : Nat → List Nat) (P : Nat → Int32) (row : List Nat) (hc : Nat) (un : Nat) (rf : Nat → Int32) (hT : ∀ k, okT (T k)) : Ct l yX8_house wsX8_house ({ frames := 4, cells := 0, slots := 0, locals := 88 }) D (tysG cI cJ cB cZ cA) [.ref e0] [(e0, .inr (5, [.ref (h 0), .ref (y 0), .ref (z 0), .ref (d 0), .ref sc, .ref ru, .ref fu, .ref f0, .ref ra, .int (ib k0), .int (ib k1)])), (ra, .inl (cI, 3, .inl rf)), (h 0, .inr (2, [.ref (h 1), .ref (h 2), .ref (h 3), .ref (h 4), .ref (h 5), .ref (h 6), .ref (h 7), .long (eC row), .int (nI hc), .int (nI un)])), (h 1, .inl (cJ, 8, .inr (.inl (fC T)))), (h 2, .inl (cI, 8, .inl P))] (fun (_ : Unit) => True) (fun _ => some (.int (nI (popN (bwoN T 0 8))))) (fun _ => [(e0, .inr (5, [.ref (h 0), .ref (y 0), .ref (z 0), .ref (d 0), .ref sc, .ref ru, .ref fu, .ref f0, .ref ra, .int (ib k0), .int (ib k1)])), (ra, .inl (cI, 3, .inl rf)), (h 0, .inr (2, [.ref (h 1), .ref (h 2), .ref (h 3), .ref (h 4), .ref (h 5), .ref (h 6), .ref (h 7), .long (eC ([])), .int (nI 0), .int (nI 0)])), (h 1, .inl (cJ, 8, .inr (.inl (fC (flT T [] 8))))), (h 2, .inl (cI, 8, .inl (flI P (-1) 8)))]) := by
  refine Ct.ofI (cc := cX8_house) (maxL := 2) (by decide) rfl (Nat.le_of_ble_eq_true rfl) ?_
  intro pG eG sG mG aG bG tG cG AG QG ls xh bh hml hown hts hK hP hD hS hA hend hl
  have hl : lv_has ls 2 [(0, .ref e0)] := hl
  refine lv_aload_n xh bh dX8_house_0 rfl (lv_at hl 0 rfl) ?_
  refine va_get (D := D) (ci := 5) (v := .ref (h 0)) (C := RX8) (T := TX8) (N := 11) xh bh hts (fun _ h => List.mem_cons_of_mem _ (List.mem_append_left _ (List.mem_append_right _ (h)))) hown hK.1 hP 0 rfl rfl 0 (by decide) (hts _ (List.mem_of_getElem? (i := 1) rfl)) (fun _ h9 => h9) rfl dX8_house_1 ?_
  refine Ct.callV (As := []) (rest := []) (wr := [(e0, .inr (5, [.ref (h 0), .ref (y 0), .ref (z 0), .ref (d 0), .ref sc, .ref ru, .ref fu, .ref f0, .ref ra, .int (ib k0), .int (ib k1)])), (ra, .inl (cI, 3, .inl rf)), (h 2, .inl (cI, 8, .inl P))]) xh bh hml hown hts hK hP hD hS hA (ct_X3_talesTold l D cI cJ cB cZ cA h T row hc un (by first | assumption)) (cwV 0 hts gX8_house_X3_talesTold rfl rfl rfl (by decide +kernel) ⟨Nat.le_of_ble_eq_true rfl, Nat.le_of_ble_eq_true rfl⟩) rfl rfl hl.1 (Nat.le_of_ble_eq_true rfl) dX8_house_4 ⟨Nat.le_refl _, Nat.le_refl _⟩ 0 2 rfl rfl rfl [2, 3] [0, 1, 4] rfl (by decide) rfl rfl (by decide) (by decide) (fun _ H locs _ hP hD hS => ?_)
  have hP : va_P D vwCl [(e0, .inr (5, [.ref (h 0), .ref (y 0), .ref (z 0), .ref (d 0), .ref sc, .ref ru, .ref fu, .ref f0, .ref ra, .int (ib k0), .int (ib k1)])), (ra, .inl (cI, 3, .inl rf)), (h 2, .inl (cI, 8, .inl P)), (h 0, .inr (2, [.ref (h 1), .ref (h 2), .ref (h 3), .ref (h 4), .ref (h 5), .ref (h 6), .ref (h 7), .long (eC row), .int (nI hc), .int (nI un)])), (h 1, .inl (cJ, 8, .inr (.inl (fC T))))] H := hP
  have hD : va_D AG [(e0, .inr (5, [.ref (h 0), .ref (y 0), .ref (z 0), .ref (d 0), .ref sc, .ref ru, .ref fu, .ref f0, .ref ra, .int (ib k0), .int (ib k1)])), (ra, .inl (cI, 3, .inl rf)), (h 2, .inl (cI, 8, .inl P)), (h 0, .inr (2, [.ref (h 1), .ref (h 2), .ref (h 3), .ref (h 4), .ref (h 5), .ref (h 6), .ref (h 7), .long (eC row), .int (nI hc), .int (nI un)])), (h 1, .inl (cJ, 8, .inr (.inl (fC T))))] := hD
  refine W.eq (g2 := F0 mG 7 ls [.int (nI (popN (bwoN T 0 8)))]) rfl ?_
  refine lv_istore_n (lv' := [(1, .int (nI (popN (bwoN T 0 8)))), (0, .ref e0)]) xh bh dX8_house_7 rfl hl (by decide) rfl (fun ls hl => ?_)
  refine lv_aload_n xh bh dX8_house_8 rfl (lv_at hl 1 rfl) ?_
  refine va_get (D := D) (ci := 5) (v := .ref (h 0)) (C := RX8) (T := TX8) (N := 11) xh bh hts (fun _ h => List.mem_cons_of_mem _ (List.mem_append_left _ (List.mem_append_right _ (h)))) hown hK.1 hP 0 rfl rfl 0 (by decide) (hts _ (List.mem_of_getElem? (i := 1) rfl)) (fun _ h9 => h9) rfl dX8_house_9 ?_
  refine Ct.callV (As := []) (rest := []) (wr := [(e0, .inr (5, [.ref (h 0), .ref (y 0), .ref (z 0), .ref (d 0), .ref sc, .ref ru, .ref fu, .ref f0, .ref ra, .int (ib k0), .int (ib k1)])), (ra, .inl (cI, 3, .inl rf))]) xh bh hml hown hts hK hP hD hS hA (ct_X3_becomeNew l D cI cJ cB cZ cA h T P row hc un ) (cwV 0 hts gX8_house_X3_becomeNew rfl rfl rfl (by decide +kernel) ⟨Nat.le_of_ble_eq_true rfl, Nat.le_of_ble_eq_true rfl⟩) rfl rfl hl.1 (Nat.le_of_ble_eq_true rfl) dX8_house_12 ⟨Nat.le_refl _, Nat.le_refl _⟩ 0 2 rfl rfl rfl [3, 4, 2] [0, 1] rfl (by decide) rfl rfl (by decide) (by decide) (fun _ H locs _ hP hD hS => ?_)
  have hP : va_P D vwCl [(e0, .inr (5, [.ref (h 0), .ref (y 0), .ref (z 0), .ref (d 0), .ref sc, .ref ru, .ref fu, .ref f0, .ref ra, .int (ib k0), .int (ib k1)])), (ra, .inl (cI, 3, .inl rf)), (h 0, .inr (2, [.ref (h 1), .ref (h 2), .ref (h 3), .ref (h 4), .ref (h 5), .ref (h 6), .ref (h 7), .long (eC ([])), .int (nI 0), .int (nI 0)])), (h 1, .inl (cJ, 8, .inr (.inl (fC (flT T [] 8))))), (h 2, .inl (cI, 8, .inl (flI P (-1) 8)))] H := hP
  have hD : va_D AG [(e0, .inr (5, [.ref (h 0), .ref (y 0), .ref (z 0), .ref (d 0), .ref sc, .ref ru, .ref fu, .ref f0, .ref ra, .int (ib k0), .int (ib k1)])), (ra, .inl (cI, 3, .inl rf)), (h 0, .inr (2, [.ref (h 1), .ref (h 2), .ref (h 3), .ref (h 4), .ref (h 5), .ref (h 6), .ref (h 7), .long (eC ([])), .int (nI 0), .int (nI 0)])), (h 1, .inl (cJ, 8, .inr (.inl (fC (flT T [] 8))))), (h 2, .inl (cI, 8, .inl (flI P (-1) 8)))] := hD
  refine W.eq (g2 := F0 mG 15 ls []) rfl ?_
  refine lv_iload_n xh bh dX8_house_15 rfl (lv_at hl 0 rfl) ?_
  exact hend (nI (popN (bwoN T 0 8))) () _ _ _ _ (congrArg (fun z => some (Value.int (nI z))) (by rfl)) trivial rfl dX8_house_16 hP hD hS

set_option maxHeartbeats 1000000 in
set_option maxRecDepth 100000 in
theorem ct_X8_say (l : Launch) (D : va_G) (cI cJ cB cZ cA : ClassId) (e0 : Nat) (h : Nat → Nat) (y : Nat → Nat) (z : Nat → Nat) (d : Nat → Nat) (sc : Nat) (ru : Nat) (fu : Nat) (f0 : Nat) (ra : Nat) (k0 : Bool) (k1 : Bool) (row : List Nat) (hc : Nat) (un : Nat) (rf : Nat → Int32) (x : Int32) (hrow : okT row) : Ct l yX8_say wsX8_say ({ frames := 2, cells := 0, slots := 0, locals := 45 }) D (tysG cI cJ cB cZ cA) [.ref e0, .int x] [(e0, .inr (5, [.ref (h 0), .ref (y 0), .ref (z 0), .ref (d 0), .ref sc, .ref ru, .ref fu, .ref f0, .ref ra, .int (ib k0), .int (ib k1)])), (ra, .inl (cI, 3, .inl rf)), (h 0, .inr (2, [.ref (h 1), .ref (h 2), .ref (h 3), .ref (h 4), .ref (h 5), .ref (h 6), .ref (h 7), .long (eC row), .int (nI hc), .int (nI un)]))] (fun (_ : Unit) => True) (fun _ => some (.int (eSay (kSay x row) row))) (fun _ => [(e0, .inr (5, [.ref (h 0), .ref (y 0), .ref (z 0), .ref (d 0), .ref sc, .ref ru, .ref fu, .ref f0, .ref ra, .int (ib k0), .int (ib k1)])), (ra, .inl (cI, 3, .inl (rfU (kSay x row) rf))), (h 0, .inr (2, [.ref (h 1), .ref (h 2), .ref (h 3), .ref (h 4), .ref (h 5), .ref (h 6), .ref (h 7), .long (eC (rSay (kSay x row) (xN x) row)), .int (nI hc), .int (nI un)]))]) := by
  refine Ct.ofI (cc := cX8_say) (maxL := 2) (by decide) rfl (Nat.le_of_ble_eq_true rfl) ?_
  intro pG eG sG mG aG bG tG cG AG QG ls xh bh hml hown hts hK hP hD hS hA hend hl
  have hl : lv_has ls 2 [(0, .ref e0), (1, .int x)] := hl
  have lr := hrow.1
  refine lv_iload_n xh bh dX8_say_0 rfl (lv_at hl 1 rfl) ?_
  refine Ct.callS0 (rest := []) xh bh hml hown hts hK hP hS hA (ct_X8_isPart l D cI cJ cB cZ cA x ) (va_cwS 1 hts gX8_say_X8_isPart rfl rfl rfl (by decide +kernel) ⟨Nat.le_of_ble_eq_true rfl, Nat.le_of_ble_eq_true rfl⟩) rfl rfl hl.1 (Nat.le_of_ble_eq_true rfl) dX8_say_1 ⟨Nat.le_refl _, Nat.le_refl _⟩ (fun _ H locs _ hP hS => ?_)
  refine W.eq (g2 := F0 mG 4 ls [.int (ib (upB x 9))]) rfl ?_
  refine xb_if_ne (tgt := 14) xh bh dX8_say_4 (by decide) (fun c_4 => ?_) (fun c_4 => ?_)
  · refine lv_aload_n xh bh dX8_say_14 rfl (lv_at hl 0 rfl) ?_
    refine va_get (D := D) (ci := 5) (v := .ref (h 0)) (C := RX8) (T := TX8) (N := 11) xh bh hts (fun _ h => List.mem_cons_of_mem _ (List.mem_append_left _ (List.mem_append_right _ (h)))) hown hK.1 hP 0 rfl rfl 0 (by decide) (hts _ (List.mem_of_getElem? (i := 1) rfl)) (fun _ h9 => h9) rfl dX8_say_15 ?_
    refine va_get (D := D) (ci := 2) (v := .long (eC row)) (C := RX3) (T := TX3) (N := 10) xh bh hts (fun _ h => List.mem_cons_of_mem _ (List.mem_append_right _ (h))) hown hK.1 hP 2 rfl rfl 7 (by decide) (hts _ (List.mem_of_getElem? (i := 2) rfl)) (fun _ h9 => h9) rfl dX8_say_18 ?_
    refine Ct.callS0 (rest := []) xh bh hml hown hts hK hP hS hA (ct_X7_sizeOf l D cI cJ cB cZ cA row (by first | assumption | exact okT_nil)) (va_cwS 1 hts gX8_say_X7_sizeOf rfl rfl rfl (by decide +kernel) ⟨Nat.le_of_ble_eq_true rfl, Nat.le_of_ble_eq_true rfl⟩) rfl rfl hl.1 (Nat.le_of_ble_eq_true rfl) dX8_say_21 ⟨Nat.le_refl _, Nat.le_refl _⟩ (fun _ H locs _ hP hS => ?_)
    refine W.eq (g2 := F0 mG 24 ls [.int (nI row.length)]) rfl ?_
    refine lv_bipush (v := (nI 10)) xh bh dX8_say_24 (by decide) ?_
    refine xn_icmp_lt (tgt := 36) xh bh dX8_say_26 (by decide) (by omega) (by omega) (fun c_26 => ?_) (fun c_26 => ?_)
    · have hk : kSay x row = 3 := by unfold kSay; rw [if_pos c_4, if_neg (by omega)]
      obtain ⟨k, hk9, rfl⟩ := upB_of (by decide) c_4
      refine lv_aload_n xh bh dX8_say_36 rfl (lv_at hl 0 rfl) ?_
      refine va_get (D := D) (ci := 5) (v := .ref (h 0)) (C := RX8) (T := TX8) (N := 11) xh bh hts (fun _ h => List.mem_cons_of_mem _ (List.mem_append_left _ (List.mem_append_right _ (h)))) hown hK.1 hP 0 rfl rfl 0 (by decide) (hts _ (List.mem_of_getElem? (i := 1) rfl)) (fun _ h9 => h9) rfl dX8_say_37 ?_
      refine lv_aload_n xh bh dX8_say_40 rfl (lv_at hl 0 rfl) ?_
      refine va_get (D := D) (ci := 5) (v := .ref (h 0)) (C := RX8) (T := TX8) (N := 11) xh bh hts (fun _ h => List.mem_cons_of_mem _ (List.mem_append_left _ (List.mem_append_right _ (h)))) hown hK.1 hP 0 rfl rfl 0 (by decide) (hts _ (List.mem_of_getElem? (i := 1) rfl)) (fun _ h9 => h9) rfl dX8_say_41 ?_
      refine va_get (D := D) (ci := 2) (v := .long (eC row)) (C := RX3) (T := TX3) (N := 10) xh bh hts (fun _ h => List.mem_cons_of_mem _ (List.mem_append_right _ (h))) hown hK.1 hP 2 rfl rfl 7 (by decide) (hts _ (List.mem_of_getElem? (i := 2) rfl)) (fun _ h9 => h9) rfl dX8_say_44 ?_
      refine lv_iload_n xh bh dX8_say_47 rfl (lv_at hl 1 rfl) ?_
      refine Ct.callS0 (rest := [.ref (h 0)]) xh bh hml hown hts hK hP hS hA (ct_X7_added l D cI cJ cB cZ cA row k (by first | assumption | exact okT_nil) (by first | omega | assumption)) (va_cwS 2 hts gX8_say_X7_added rfl rfl rfl (by decide +kernel) ⟨Nat.le_of_ble_eq_true rfl, Nat.le_of_ble_eq_true rfl⟩) rfl rfl hl.1 (Nat.le_of_ble_eq_true rfl) dX8_say_48 ⟨Nat.le_refl _, Nat.le_refl _⟩ (fun _ H locs _ hP hS => ?_)
      refine W.eq (g2 := F0 mG 51 ls [.long (eC (addT row k)), .ref (h 0)]) rfl ?_
      refine xw_topl (x := (eC (addT row k))) (y := (eC (row ++ [k]))) (by rw [addT_lt c_26]) ?_
      refine va_put (D := D) (ci := 2) (v := .long (eC (row ++ [k]))) (ty := .long) (C := RX3) (T := TX3) (N := 10) xh bh hts (fun _ h => List.mem_cons_of_mem _ (List.mem_append_right _ (h))) tyX3 tyX3_ok nmX3 hown hK.1 hP hD hS 2 rfl rfl 7 (by decide) (hts _ (List.mem_of_getElem? (i := 2) rfl)) (fun _ h9 => h9) rfl (by decide +kernel) (by rfl) (by rfl) (Nat.le_of_ble_eq_true rfl) dX8_say_51 (fun H locs hP hD hS => ?_)
      have hP : va_P D vwCl [(e0, .inr (5, [.ref (h 0), .ref (y 0), .ref (z 0), .ref (d 0), .ref sc, .ref ru, .ref fu, .ref f0, .ref ra, .int (ib k0), .int (ib k1)])), (ra, .inl (cI, 3, .inl rf)), (h 0, .inr (2, [.ref (h 1), .ref (h 2), .ref (h 3), .ref (h 4), .ref (h 5), .ref (h 6), .ref (h 7), .long (eC (row ++ [k])), .int (nI hc), .int (nI un)]))] H := hP
      have hD : va_D AG [(e0, .inr (5, [.ref (h 0), .ref (y 0), .ref (z 0), .ref (d 0), .ref sc, .ref ru, .ref fu, .ref f0, .ref ra, .int (ib k0), .int (ib k1)])), (ra, .inl (cI, 3, .inl rf)), (h 0, .inr (2, [.ref (h 1), .ref (h 2), .ref (h 3), .ref (h 4), .ref (h 5), .ref (h 6), .ref (h 7), .long (eC (row ++ [k])), .int (nI hc), .int (nI un)]))] := hD
      refine lv_aload_n xh bh dX8_say_54 rfl (lv_at hl 0 rfl) ?_
      refine va_get (D := D) (ci := 5) (v := .ref (h 0)) (C := RX8) (T := TX8) (N := 11) xh bh hts (fun _ h => List.mem_cons_of_mem _ (List.mem_append_left _ (List.mem_append_right _ (h)))) hown hK.1 hP 0 rfl rfl 0 (by decide) (hts _ (List.mem_of_getElem? (i := 1) rfl)) (fun _ h9 => h9) rfl dX8_say_55 ?_
      refine va_get (D := D) (ci := 2) (v := .long (eC (row ++ [k]))) (C := RX3) (T := TX3) (N := 10) xh bh hts (fun _ h => List.mem_cons_of_mem _ (List.mem_append_right _ (h))) hown hK.1 hP 2 rfl rfl 7 (by decide) (hts _ (List.mem_of_getElem? (i := 2) rfl)) (fun _ h9 => h9) rfl dX8_say_58 ?_
      refine Ct.callS0 (rest := []) xh bh hml hown hts hK hP hS hA (ct_X7_sizeOf l D cI cJ cB cZ cA (row ++ [k]) (by exact hrow.app (by omega) c_26)) (va_cwS 1 hts gX8_say_X7_sizeOf rfl rfl rfl (by decide +kernel) ⟨Nat.le_of_ble_eq_true rfl, Nat.le_of_ble_eq_true rfl⟩) rfl rfl hl.1 (Nat.le_of_ble_eq_true rfl) dX8_say_61 ⟨Nat.le_refl _, Nat.le_refl _⟩ (fun _ H locs _ hP hS => ?_)
      refine W.eq (g2 := F0 mG 64 ls [.int (nI ((row ++ [k]).length))]) rfl ?_
      exact hend (nI ((row ++ [k]).length)) () _ _ _ _ (congrArg (fun z => some (Value.int z)) (by rw [hk, List.length_append]; rfl)) trivial rfl dX8_say_64 (by rw [hk, xN_nI (by omega)]; exact hP) (by rw [hk, xN_nI (by omega)]; exact hD) hS
    · have hk : kSay x row = 2 := by unfold kSay; rw [if_pos c_4, if_pos (by omega)]
      refine lv_aload_n xh bh dX8_say_29 rfl (lv_at hl 0 rfl) ?_
      refine lv_bipush (v := (-4)) xh bh dX8_say_30 (by decide) ?_
      refine Ct.callV (As := [.int (-4)]) (rest := []) (wr := [(h 0, .inr (2, [.ref (h 1), .ref (h 2), .ref (h 3), .ref (h 4), .ref (h 5), .ref (h 6), .ref (h 7), .long (eC row), .int (nI hc), .int (nI un)]))]) xh bh hml hown hts hK hP hD hS hA (ct_X8_refuse2 l D cI cJ cB cZ cA e0 h y z d sc ru fu f0 ra k0 k1 rf ) (cwV 1 hts gX8_say_X8_refuse rfl rfl rfl (by decide +kernel) ⟨Nat.le_of_ble_eq_true rfl, Nat.le_of_ble_eq_true rfl⟩) rfl rfl hl.1 (Nat.le_of_ble_eq_true rfl) dX8_say_32 ⟨Nat.le_refl _, Nat.le_refl _⟩ 0 5 rfl rfl rfl [0, 1] [2] rfl (by decide) rfl rfl (by decide) (by decide) (fun _ H locs _ hP hD hS => ?_)
      have hP : va_P D vwCl [(h 0, .inr (2, [.ref (h 1), .ref (h 2), .ref (h 3), .ref (h 4), .ref (h 5), .ref (h 6), .ref (h 7), .long (eC row), .int (nI hc), .int (nI un)])), (e0, .inr (5, [.ref (h 0), .ref (y 0), .ref (z 0), .ref (d 0), .ref sc, .ref ru, .ref fu, .ref f0, .ref ra, .int (ib k0), .int (ib k1)])), (ra, .inl (cI, 3, .inl (upd rf 2 ((rf 2) + nI 1))))] H := hP
      have hD : va_D AG [(h 0, .inr (2, [.ref (h 1), .ref (h 2), .ref (h 3), .ref (h 4), .ref (h 5), .ref (h 6), .ref (h 7), .long (eC row), .int (nI hc), .int (nI un)])), (e0, .inr (5, [.ref (h 0), .ref (y 0), .ref (z 0), .ref (d 0), .ref sc, .ref ru, .ref fu, .ref f0, .ref ra, .int (ib k0), .int (ib k1)])), (ra, .inl (cI, 3, .inl (upd rf 2 ((rf 2) + nI 1))))] := hD
      refine W.eq (g2 := F0 mG 35 ls [.int (-4)]) rfl ?_
      exact hend (-4) () _ _ _ _ (congrArg (fun z => some (Value.int z)) (by rw [hk]; rfl)) trivial rfl dX8_say_35 (by rw [hk]; exact (hP.sub [1, 2, 0] rfl)) (by rw [hk]; exact (hD.sub [1, 2, 0] (by decide) rfl)) hS
  · have hk : kSay x row = 0 := if_neg (by rw [c_4]; decide)
    refine lv_aload_n xh bh dX8_say_7 rfl (lv_at hl 0 rfl) ?_
    refine lv_bipush (v := (-2)) xh bh dX8_say_8 (by decide) ?_
    refine Ct.callV (As := [.int (-2)]) (rest := []) (wr := [(h 0, .inr (2, [.ref (h 1), .ref (h 2), .ref (h 3), .ref (h 4), .ref (h 5), .ref (h 6), .ref (h 7), .long (eC row), .int (nI hc), .int (nI un)]))]) xh bh hml hown hts hK hP hD hS hA (ct_X8_refuse0 l D cI cJ cB cZ cA e0 h y z d sc ru fu f0 ra k0 k1 rf ) (cwV 1 hts gX8_say_X8_refuse rfl rfl rfl (by decide +kernel) ⟨Nat.le_of_ble_eq_true rfl, Nat.le_of_ble_eq_true rfl⟩) rfl rfl hl.1 (Nat.le_of_ble_eq_true rfl) dX8_say_10 ⟨Nat.le_refl _, Nat.le_refl _⟩ 0 5 rfl rfl rfl [0, 1] [2] rfl (by decide) rfl rfl (by decide) (by decide) (fun _ H locs _ hP hD hS => ?_)
    have hP : va_P D vwCl [(h 0, .inr (2, [.ref (h 1), .ref (h 2), .ref (h 3), .ref (h 4), .ref (h 5), .ref (h 6), .ref (h 7), .long (eC row), .int (nI hc), .int (nI un)])), (e0, .inr (5, [.ref (h 0), .ref (y 0), .ref (z 0), .ref (d 0), .ref sc, .ref ru, .ref fu, .ref f0, .ref ra, .int (ib k0), .int (ib k1)])), (ra, .inl (cI, 3, .inl (upd rf 0 ((rf 0) + nI 1))))] H := hP
    have hD : va_D AG [(h 0, .inr (2, [.ref (h 1), .ref (h 2), .ref (h 3), .ref (h 4), .ref (h 5), .ref (h 6), .ref (h 7), .long (eC row), .int (nI hc), .int (nI un)])), (e0, .inr (5, [.ref (h 0), .ref (y 0), .ref (z 0), .ref (d 0), .ref sc, .ref ru, .ref fu, .ref f0, .ref ra, .int (ib k0), .int (ib k1)])), (ra, .inl (cI, 3, .inl (upd rf 0 ((rf 0) + nI 1))))] := hD
    refine W.eq (g2 := F0 mG 13 ls [.int (-2)]) rfl ?_
    exact hend (-2) () _ _ _ _ (congrArg (fun z => some (Value.int z)) (by rw [hk]; rfl)) trivial rfl dX8_say_13 (by rw [hk]; exact (hP.sub [1, 2, 0] rfl)) (by rw [hk]; exact (hD.sub [1, 2, 0] (by decide) rfl)) hS

set_option maxHeartbeats 1000000 in
set_option maxRecDepth 100000 in
theorem ct_X8_hush (l : Launch) (D : va_G) (cI cJ cB cZ cA : ClassId) (e0 : Nat) (h : Nat → Nat) (y : Nat → Nat) (z : Nat → Nat) (d : Nat → Nat) (sc : Nat) (ru : Nat) (fu : Nat) (f0 : Nat) (ra : Nat) (k0 : Bool) (k1 : Bool) (row : List Nat) (hc : Nat) (un : Nat) (rf : Nat → Int32) (hrow : okT row) : Ct l yX8_hush wsX8_hush ({ frames := 1, cells := 0, slots := 0, locals := 22 }) D (tysG cI cJ cB cZ cA) [.ref e0] [(e0, .inr (5, [.ref (h 0), .ref (y 0), .ref (z 0), .ref (d 0), .ref sc, .ref ru, .ref fu, .ref f0, .ref ra, .int (ib k0), .int (ib k1)])), (ra, .inl (cI, 3, .inl rf)), (h 0, .inr (2, [.ref (h 1), .ref (h 2), .ref (h 3), .ref (h 4), .ref (h 5), .ref (h 6), .ref (h 7), .long (eC row), .int (nI hc), .int (nI un)]))] (fun (_ : Unit) => True) (fun _ => some (.int (nI row.length))) (fun _ => [(e0, .inr (5, [.ref (h 0), .ref (y 0), .ref (z 0), .ref (d 0), .ref sc, .ref ru, .ref fu, .ref f0, .ref ra, .int (ib k0), .int (ib k1)])), (ra, .inl (cI, 3, .inl rf)), (h 0, .inr (2, [.ref (h 1), .ref (h 2), .ref (h 3), .ref (h 4), .ref (h 5), .ref (h 6), .ref (h 7), .long (eC ([])), .int (nI hc), .int (nI un)]))]) := by
  refine Ct.ofI (cc := cX8_hush) (maxL := 2) (by decide) rfl (Nat.le_of_ble_eq_true rfl) ?_
  intro pG eG sG mG aG bG tG cG AG QG ls xh bh hml hown hts hK hP hD hS hA hend hl
  have hl : lv_has ls 2 [(0, .ref e0)] := hl
  refine lv_aload_n xh bh dX8_hush_0 rfl (lv_at hl 0 rfl) ?_
  refine va_get (D := D) (ci := 5) (v := .ref (h 0)) (C := RX8) (T := TX8) (N := 11) xh bh hts (fun _ h => List.mem_cons_of_mem _ (List.mem_append_left _ (List.mem_append_right _ (h)))) hown hK.1 hP 0 rfl rfl 0 (by decide) (hts _ (List.mem_of_getElem? (i := 1) rfl)) (fun _ h9 => h9) rfl dX8_hush_1 ?_
  refine va_get (D := D) (ci := 2) (v := .long (eC row)) (C := RX3) (T := TX3) (N := 10) xh bh hts (fun _ h => List.mem_cons_of_mem _ (List.mem_append_right _ (h))) hown hK.1 hP 2 rfl rfl 7 (by decide) (hts _ (List.mem_of_getElem? (i := 2) rfl)) (fun _ h9 => h9) rfl dX8_hush_4 ?_
  refine Ct.callS0 (rest := []) xh bh hml hown hts hK hP hS hA (ct_X7_sizeOf l D cI cJ cB cZ cA row (by first | assumption | exact okT_nil)) (va_cwS 1 hts gX8_hush_X7_sizeOf rfl rfl rfl (by decide +kernel) ⟨Nat.le_of_ble_eq_true rfl, Nat.le_of_ble_eq_true rfl⟩) rfl rfl hl.1 (Nat.le_of_ble_eq_true rfl) dX8_hush_7 ⟨Nat.le_refl _, Nat.le_refl _⟩ (fun _ H locs _ hP hS => ?_)
  refine W.eq (g2 := F0 mG 10 ls [.int (nI row.length)]) rfl ?_
  refine lv_istore_n (lv' := [(1, .int (nI row.length)), (0, .ref e0)]) xh bh dX8_hush_10 rfl hl (by decide) rfl (fun ls hl => ?_)
  refine lv_aload_n xh bh dX8_hush_11 rfl (lv_at hl 1 rfl) ?_
  refine va_get (D := D) (ci := 5) (v := .ref (h 0)) (C := RX8) (T := TX8) (N := 11) xh bh hts (fun _ h => List.mem_cons_of_mem _ (List.mem_append_left _ (List.mem_append_right _ (h)))) hown hK.1 hP 0 rfl rfl 0 (by decide) (hts _ (List.mem_of_getElem? (i := 1) rfl)) (fun _ h9 => h9) rfl dX8_hush_12 ?_
  refine lv_lconst (v := lN 0) xh bh dX8_hush_15 (by decide) ?_
  refine va_put (D := D) (ci := 2) (v := .long (lN 0)) (ty := .long) (C := RX3) (T := TX3) (N := 10) xh bh hts (fun _ h => List.mem_cons_of_mem _ (List.mem_append_right _ (h))) tyX3 tyX3_ok nmX3 hown hK.1 hP hD hS 2 rfl rfl 7 (by decide) (hts _ (List.mem_of_getElem? (i := 2) rfl)) (fun _ h9 => h9) rfl (by decide +kernel) (by rfl) (by rfl) (Nat.le_of_ble_eq_true rfl) dX8_hush_16 (fun H locs hP hD hS => ?_)
  have hP : va_P D vwCl [(e0, .inr (5, [.ref (h 0), .ref (y 0), .ref (z 0), .ref (d 0), .ref sc, .ref ru, .ref fu, .ref f0, .ref ra, .int (ib k0), .int (ib k1)])), (ra, .inl (cI, 3, .inl rf)), (h 0, .inr (2, [.ref (h 1), .ref (h 2), .ref (h 3), .ref (h 4), .ref (h 5), .ref (h 6), .ref (h 7), .long (lN 0), .int (nI hc), .int (nI un)]))] H := hP
  have hD : va_D AG [(e0, .inr (5, [.ref (h 0), .ref (y 0), .ref (z 0), .ref (d 0), .ref sc, .ref ru, .ref fu, .ref f0, .ref ra, .int (ib k0), .int (ib k1)])), (ra, .inl (cI, 3, .inl rf)), (h 0, .inr (2, [.ref (h 1), .ref (h 2), .ref (h 3), .ref (h 4), .ref (h 5), .ref (h 6), .ref (h 7), .long (lN 0), .int (nI hc), .int (nI un)]))] := hD
  refine lv_iload_n xh bh dX8_hush_19 rfl (lv_at hl 0 rfl) ?_
  exact hend (nI row.length) () _ _ _ _ (congrArg (fun z => some (Value.int (nI z))) (by rfl)) trivial rfl dX8_hush_20 hP hD hS

set_option maxHeartbeats 1000000 in
set_option maxRecDepth 100000 in
theorem ct_X8_tale (l : Launch) (D : va_G) (cI cJ cB cZ cA : ClassId) (e0 : Nat) (h : Nat → Nat) (y : Nat → Nat) (z : Nat → Nat) (d : Nat → Nat) (sc : Nat) (ru : Nat) (fu : Nat) (f0 : Nat) (ra : Nat) (k0 : Bool) (k1 : Bool) (T : Nat → List Nat) (P : Nat → Int32) (ub : Nat → Nat) (ut : Nat → List Nat) (up : Nat → Int32) (row : List Nat) (hc : Nat) (un : Nat) (rf : Nat → Int32) (b : Int32) (hrow : okT row) (hun : un ≤ 8) : Ct l yX8_tale wsX8_tale ({ frames := 4, cells := 0, slots := 0, locals := 104 }) D (tysG cI cJ cB cZ cA) [.ref e0, .int b] [(e0, .inr (5, [.ref (h 0), .ref (y 0), .ref (z 0), .ref (d 0), .ref sc, .ref ru, .ref fu, .ref f0, .ref ra, .int (ib k0), .int (ib k1)])), (ra, .inl (cI, 3, .inl rf)), (h 0, .inr (2, [.ref (h 1), .ref (h 2), .ref (h 3), .ref (h 4), .ref (h 5), .ref (h 6), .ref (h 7), .long (eC row), .int (nI hc), .int (nI un)])), (h 1, .inl (cJ, 8, .inr (.inl (fC T)))), (h 2, .inl (cI, 8, .inl P)), (h 5, .inl (cI, 8, .inl (fN ub))), (h 6, .inl (cJ, 8, .inr (.inl (fC ut)))), (h 7, .inl (cI, 8, .inl up))] (fun (_ : Unit) => True) (fun _ => some (.int (eTale (kBr b) row))) (fun _ => [(e0, .inr (5, [.ref (h 0), .ref (y 0), .ref (z 0), .ref (d 0), .ref sc, .ref ru, .ref fu, .ref f0, .ref ra, .int (ib k0), .int (ib k1)])), (ra, .inl (cI, 3, .inl (rfU (kBr b) rf))), (h 0, .inr (2, [.ref (h 1), .ref (h 2), .ref (h 3), .ref (h 4), .ref (h 5), .ref (h 6), .ref (h 7), .long (eC row), .int (nI hc), .int (nI (unK (kBr b) un))])), (h 1, .inl (cJ, 8, .inr (.inl (fC (upK (kBr b) T (xN b) row))))), (h 2, .inl (cI, 8, .inl (upK (kBr b) P (xN b) (-1)))), (h 5, .inl (cI, 8, .inl (fN (k3 (kBr b) ub (va_up (shA ub un) (min un 7) (xN b)))))), (h 6, .inl (cJ, 8, .inr (.inl (fC (k3 (kBr b) ut (va_up (shA ut un) (min un 7) (T (xN b)))))))), (h 7, .inl (cI, 8, .inl (k3 (kBr b) up (upd (shA up un) (min un 7) (P (xN b))))))]) := by
  refine Ct.ofI (cc := cX8_tale) (maxL := 2) (by decide) rfl (Nat.le_of_ble_eq_true rfl) ?_
  intro pG eG sG mG aG bG tG cG AG QG ls xh bh hml hown hts hK hP hD hS hA hend hl
  have hl : lv_has ls 2 [(0, .ref e0), (1, .int b)] := hl
  refine lv_iload_n xh bh dX8_tale_0 rfl (lv_at hl 1 rfl) ?_
  refine Ct.callS0 (rest := []) xh bh hml hown hts hK hP hS hA (ct_X8_isBranch l D cI cJ cB cZ cA b ) (va_cwS 1 hts gX8_tale_X8_isBranch rfl rfl rfl (by decide +kernel) ⟨Nat.le_of_ble_eq_true rfl, Nat.le_of_ble_eq_true rfl⟩) rfl rfl hl.1 (Nat.le_of_ble_eq_true rfl) dX8_tale_1 ⟨Nat.le_refl _, Nat.le_refl _⟩ (fun _ H locs _ hP hS => ?_)
  refine W.eq (g2 := F0 mG 4 ls [.int (ib (upB b 7))]) rfl ?_
  refine xb_if_ne (tgt := 14) xh bh dX8_tale_4 (by decide) (fun c_4 => ?_) (fun c_4 => ?_)
  · have hk : kBr b = 3 := if_pos c_4
    obtain ⟨k, hk9, rfl⟩ := upB_of (by decide) c_4
    refine lv_aload_n xh bh dX8_tale_14 rfl (lv_at hl 0 rfl) ?_
    refine va_get (D := D) (ci := 5) (v := .ref (h 0)) (C := RX8) (T := TX8) (N := 11) xh bh hts (fun _ h => List.mem_cons_of_mem _ (List.mem_append_left _ (List.mem_append_right _ (h)))) hown hK.1 hP 0 rfl rfl 0 (by decide) (hts _ (List.mem_of_getElem? (i := 1) rfl)) (fun _ h9 => h9) rfl dX8_tale_15 ?_
    refine lv_iload_n xh bh dX8_tale_18 rfl (lv_at hl 1 rfl) ?_
    refine lv_aload_n xh bh dX8_tale_19 rfl (lv_at hl 0 rfl) ?_
    refine va_get (D := D) (ci := 5) (v := .ref (h 0)) (C := RX8) (T := TX8) (N := 11) xh bh hts (fun _ h => List.mem_cons_of_mem _ (List.mem_append_left _ (List.mem_append_right _ (h)))) hown hK.1 hP 0 rfl rfl 0 (by decide) (hts _ (List.mem_of_getElem? (i := 1) rfl)) (fun _ h9 => h9) rfl dX8_tale_20 ?_
    refine va_get (D := D) (ci := 2) (v := .long (eC row)) (C := RX3) (T := TX3) (N := 10) xh bh hts (fun _ h => List.mem_cons_of_mem _ (List.mem_append_right _ (h))) hown hK.1 hP 2 rfl rfl 7 (by decide) (hts _ (List.mem_of_getElem? (i := 2) rfl)) (fun _ h9 => h9) rfl dX8_tale_23 ?_
    refine lv_iconst (v := (-1)) xh bh dX8_tale_26 (by decide) ?_
    refine Ct.callV (As := [.int (nI k), .long (eC row), .int (-1)]) (rest := []) (wr := [(e0, .inr (5, [.ref (h 0), .ref (y 0), .ref (z 0), .ref (d 0), .ref sc, .ref ru, .ref fu, .ref f0, .ref ra, .int (ib k0), .int (ib k1)])), (ra, .inl (cI, 3, .inl rf))]) xh bh hml hown hts hK hP hD hS hA (ct_X3_replace l D cI cJ cB cZ cA h T P ub ut up row hc un k row (-1) (by first | omega | assumption) (by first | omega | assumption)) (cwV 3 hts gX8_tale_X3_replace rfl rfl rfl (by decide +kernel) ⟨Nat.le_of_ble_eq_true rfl, Nat.le_of_ble_eq_true rfl⟩) rfl rfl hl.1 (Nat.le_of_ble_eq_true rfl) dX8_tale_27 ⟨Nat.le_refl _, Nat.le_refl _⟩ 0 2 rfl rfl rfl [2, 3, 4, 5, 6, 7] [0, 1] rfl (by decide) rfl rfl (by decide) (by decide) (fun _ H locs _ hP hD hS => ?_)
    have hP : va_P D vwCl [(e0, .inr (5, [.ref (h 0), .ref (y 0), .ref (z 0), .ref (d 0), .ref sc, .ref ru, .ref fu, .ref f0, .ref ra, .int (ib k0), .int (ib k1)])), (ra, .inl (cI, 3, .inl rf)), (h 0, .inr (2, [.ref (h 1), .ref (h 2), .ref (h 3), .ref (h 4), .ref (h 5), .ref (h 6), .ref (h 7), .long (eC row), .int (nI hc), .int (nI (min un 7 + 1))])), (h 1, .inl (cJ, 8, .inr (.inl (fC (va_up T k row))))), (h 2, .inl (cI, 8, .inl (upd P k (-1)))), (h 5, .inl (cI, 8, .inl (fN (va_up (shA ub un) (min un 7) k)))), (h 6, .inl (cJ, 8, .inr (.inl (fC (va_up (shA ut un) (min un 7) (T k)))))), (h 7, .inl (cI, 8, .inl (upd (shA up un) (min un 7) (P k))))] H := hP
    have hD : va_D AG [(e0, .inr (5, [.ref (h 0), .ref (y 0), .ref (z 0), .ref (d 0), .ref sc, .ref ru, .ref fu, .ref f0, .ref ra, .int (ib k0), .int (ib k1)])), (ra, .inl (cI, 3, .inl rf)), (h 0, .inr (2, [.ref (h 1), .ref (h 2), .ref (h 3), .ref (h 4), .ref (h 5), .ref (h 6), .ref (h 7), .long (eC row), .int (nI hc), .int (nI (min un 7 + 1))])), (h 1, .inl (cJ, 8, .inr (.inl (fC (va_up T k row))))), (h 2, .inl (cI, 8, .inl (upd P k (-1)))), (h 5, .inl (cI, 8, .inl (fN (va_up (shA ub un) (min un 7) k)))), (h 6, .inl (cJ, 8, .inr (.inl (fC (va_up (shA ut un) (min un 7) (T k)))))), (h 7, .inl (cI, 8, .inl (upd (shA up un) (min un 7) (P k))))] := hD
    refine W.eq (g2 := F0 mG 30 ls []) rfl ?_
    refine lv_aload_n xh bh dX8_tale_30 rfl (lv_at hl 0 rfl) ?_
    refine va_get (D := D) (ci := 5) (v := .ref (h 0)) (C := RX8) (T := TX8) (N := 11) xh bh hts (fun _ h => List.mem_cons_of_mem _ (List.mem_append_left _ (List.mem_append_right _ (h)))) hown hK.1 hP 0 rfl rfl 0 (by decide) (hts _ (List.mem_of_getElem? (i := 1) rfl)) (fun _ h9 => h9) rfl dX8_tale_31 ?_
    refine va_get (D := D) (ci := 2) (v := .long (eC row)) (C := RX3) (T := TX3) (N := 10) xh bh hts (fun _ h => List.mem_cons_of_mem _ (List.mem_append_right _ (h))) hown hK.1 hP 2 rfl rfl 7 (by decide) (hts _ (List.mem_of_getElem? (i := 2) rfl)) (fun _ h9 => h9) rfl dX8_tale_34 ?_
    refine Ct.callS0 (rest := []) xh bh hml hown hts hK hP hS hA (ct_X7_sizeOf l D cI cJ cB cZ cA row (by first | assumption | exact okT_nil)) (va_cwS 1 hts gX8_tale_X7_sizeOf rfl rfl rfl (by decide +kernel) ⟨Nat.le_of_ble_eq_true rfl, Nat.le_of_ble_eq_true rfl⟩) rfl rfl hl.1 (Nat.le_of_ble_eq_true rfl) dX8_tale_37 ⟨Nat.le_refl _, Nat.le_refl _⟩ (fun _ H locs _ hP hS => ?_)
    refine W.eq (g2 := F0 mG 40 ls [.int (nI row.length)]) rfl ?_
    exact hend (nI row.length) () _ _ _ _ (congrArg (fun z => some (Value.int z)) (by rw [hk]; rfl)) trivial rfl dX8_tale_40 (by rw [hk, xN_nI (by omega)]; exact hP) (by rw [hk, xN_nI (by omega)]; exact hD) hS
  · have hk : kBr b = 0 := if_neg (by rw [c_4]; decide)
    refine lv_aload_n xh bh dX8_tale_7 rfl (lv_at hl 0 rfl) ?_
    refine lv_bipush (v := (-2)) xh bh dX8_tale_8 (by decide) ?_
    refine Ct.callV (As := [.int (-2)]) (rest := []) (wr := [(h 0, .inr (2, [.ref (h 1), .ref (h 2), .ref (h 3), .ref (h 4), .ref (h 5), .ref (h 6), .ref (h 7), .long (eC row), .int (nI hc), .int (nI un)])), (h 1, .inl (cJ, 8, .inr (.inl (fC T)))), (h 2, .inl (cI, 8, .inl P)), (h 5, .inl (cI, 8, .inl (fN ub))), (h 6, .inl (cJ, 8, .inr (.inl (fC ut)))), (h 7, .inl (cI, 8, .inl up))]) xh bh hml hown hts hK hP hD hS hA (ct_X8_refuse0 l D cI cJ cB cZ cA e0 h y z d sc ru fu f0 ra k0 k1 rf ) (cwV 1 hts gX8_tale_X8_refuse rfl rfl rfl (by decide +kernel) ⟨Nat.le_of_ble_eq_true rfl, Nat.le_of_ble_eq_true rfl⟩) rfl rfl hl.1 (Nat.le_of_ble_eq_true rfl) dX8_tale_10 ⟨Nat.le_refl _, Nat.le_refl _⟩ 0 5 rfl rfl rfl [0, 1] [2, 3, 4, 5, 6, 7] rfl (by decide) rfl rfl (by decide) (by decide) (fun _ H locs _ hP hD hS => ?_)
    have hP : va_P D vwCl [(h 0, .inr (2, [.ref (h 1), .ref (h 2), .ref (h 3), .ref (h 4), .ref (h 5), .ref (h 6), .ref (h 7), .long (eC row), .int (nI hc), .int (nI un)])), (h 1, .inl (cJ, 8, .inr (.inl (fC T)))), (h 2, .inl (cI, 8, .inl P)), (h 5, .inl (cI, 8, .inl (fN ub))), (h 6, .inl (cJ, 8, .inr (.inl (fC ut)))), (h 7, .inl (cI, 8, .inl up)), (e0, .inr (5, [.ref (h 0), .ref (y 0), .ref (z 0), .ref (d 0), .ref sc, .ref ru, .ref fu, .ref f0, .ref ra, .int (ib k0), .int (ib k1)])), (ra, .inl (cI, 3, .inl (upd rf 0 ((rf 0) + nI 1))))] H := hP
    have hD : va_D AG [(h 0, .inr (2, [.ref (h 1), .ref (h 2), .ref (h 3), .ref (h 4), .ref (h 5), .ref (h 6), .ref (h 7), .long (eC row), .int (nI hc), .int (nI un)])), (h 1, .inl (cJ, 8, .inr (.inl (fC T)))), (h 2, .inl (cI, 8, .inl P)), (h 5, .inl (cI, 8, .inl (fN ub))), (h 6, .inl (cJ, 8, .inr (.inl (fC ut)))), (h 7, .inl (cI, 8, .inl up)), (e0, .inr (5, [.ref (h 0), .ref (y 0), .ref (z 0), .ref (d 0), .ref sc, .ref ru, .ref fu, .ref f0, .ref ra, .int (ib k0), .int (ib k1)])), (ra, .inl (cI, 3, .inl (upd rf 0 ((rf 0) + nI 1))))] := hD
    refine W.eq (g2 := F0 mG 13 ls [.int (-2)]) rfl ?_
    exact hend (-2) () _ _ _ _ (congrArg (fun z => some (Value.int z)) (by rw [hk]; rfl)) trivial rfl dX8_tale_13 (by rw [hk]; exact (hP.sub [6, 7, 0, 1, 2, 3, 4, 5] rfl)) (by rw [hk]; exact (hD.sub [6, 7, 0, 1, 2, 3, 4, 5] (by decide) rfl)) hS

set_option maxHeartbeats 1000000 in
set_option maxRecDepth 100000 in
theorem ct_X8_hand (l : Launch) (D : va_G) (cI cJ cB cZ cA : ClassId) (e0 : Nat) (h : Nat → Nat) (y : Nat → Nat) (z : Nat → Nat) (d : Nat → Nat) (sc : Nat) (ru : Nat) (fu : Nat) (f0 : Nat) (ra : Nat) (k0 : Bool) (k1 : Bool) (T : Nat → List Nat) (P : Nat → Int32) (ub : Nat → Nat) (ut : Nat → List Nat) (up : Nat → Int32) (row : List Nat) (hc : Nat) (un : Nat) (rf : Nat → Int32) (b : Int32) (b2 : Int32) (k : Int32) (i : Int32) (x : Int32) (hT : ∀ k, okT (T k)) (hun : un ≤ 8) : Ct l yX8_hand wsX8_hand ({ frames := 5, cells := 0, slots := 0, locals := 118 }) D (tysG cI cJ cB cZ cA) [.ref e0, .int b, .int b2, .int k, .int i, .int x] [(e0, .inr (5, [.ref (h 0), .ref (y 0), .ref (z 0), .ref (d 0), .ref sc, .ref ru, .ref fu, .ref f0, .ref ra, .int (ib k0), .int (ib k1)])), (ra, .inl (cI, 3, .inl rf)), (h 0, .inr (2, [.ref (h 1), .ref (h 2), .ref (h 3), .ref (h 4), .ref (h 5), .ref (h 6), .ref (h 7), .long (eC row), .int (nI hc), .int (nI un)])), (h 1, .inl (cJ, 8, .inr (.inl (fC T)))), (h 2, .inl (cI, 8, .inl P)), (h 5, .inl (cI, 8, .inl (fN ub))), (h 6, .inl (cJ, 8, .inr (.inl (fC ut)))), (h 7, .inl (cI, 8, .inl up))] (fun (_ : Unit) => True) (fun _ => some (.int (eHand (kHand b b2 k i x T) (slipT (T (xN b)) (xN k) (xN i) (xN x))))) (fun _ => [(e0, .inr (5, [.ref (h 0), .ref (y 0), .ref (z 0), .ref (d 0), .ref sc, .ref ru, .ref fu, .ref f0, .ref ra, .int (ib k0), .int (ib k1)])), (ra, .inl (cI, 3, .inl (rfU (kHand b b2 k i x T) rf))), (h 0, .inr (2, [.ref (h 1), .ref (h 2), .ref (h 3), .ref (h 4), .ref (h 5), .ref (h 6), .ref (h 7), .long (eC row), .int (nI hc), .int (nI (unK (kHand b b2 k i x T) un))])), (h 1, .inl (cJ, 8, .inr (.inl (fC (upK (kHand b b2 k i x T) T (xN b2) (slipT (T (xN b)) (xN k) (xN i) (xN x))))))), (h 2, .inl (cI, 8, .inl (upK (kHand b b2 k i x T) P (xN b2) b))), (h 5, .inl (cI, 8, .inl (fN (k3 (kHand b b2 k i x T) ub (va_up (shA ub un) (min un 7) (xN b2)))))), (h 6, .inl (cJ, 8, .inr (.inl (fC (k3 (kHand b b2 k i x T) ut (va_up (shA ut un) (min un 7) (T (xN b2)))))))), (h 7, .inl (cI, 8, .inl (k3 (kHand b b2 k i x T) up (upd (shA up un) (min un 7) (P (xN b2))))))]) := by
  refine Ct.ofI (cc := cX8_hand) (maxL := 10) (by decide) rfl (Nat.le_of_ble_eq_true rfl) ?_
  intro pG eG sG mG aG bG tG cG AG QG ls xh bh hml hown hts hK hP hD hS hA hend hl
  have hl : lv_has ls 10 [(0, .ref e0), (1, .int b), (2, .int b2), (3, .int k), (4, .int i), (5, .int x)] := hl
  refine lv_iload_n xh bh dX8_hand_0 rfl (lv_at hl 1 rfl) ?_
  refine Ct.callS0 (rest := []) xh bh hml hown hts hK hP hS hA (ct_X8_isBranch l D cI cJ cB cZ cA b ) (va_cwS 1 hts gX8_hand_X8_isBranch rfl rfl rfl (by decide +kernel) ⟨Nat.le_of_ble_eq_true rfl, Nat.le_of_ble_eq_true rfl⟩) rfl rfl hl.1 (Nat.le_of_ble_eq_true rfl) dX8_hand_1 ⟨Nat.le_refl _, Nat.le_refl _⟩ (fun _ H locs _ hP hS => ?_)
  refine W.eq (g2 := F0 mG 4 ls [.int (ib (upB b 7))]) rfl ?_
  refine xb_if_eq (tgt := 19) xh bh dX8_hand_4 (by decide) (fun c_4 => ?_) (fun c_4 => ?_)
  · have hk : kHand b b2 k i x T = 0 := if_neg (fun q => by rw [c_4] at q; exact absurd q.1 (by decide))
    refine lv_aload_n xh bh dX8_hand_19 rfl (lv_at hl 0 rfl) ?_
    refine lv_bipush (v := (-2)) xh bh dX8_hand_20 (by decide) ?_
    refine Ct.callV (As := [.int (-2)]) (rest := []) (wr := [(h 0, .inr (2, [.ref (h 1), .ref (h 2), .ref (h 3), .ref (h 4), .ref (h 5), .ref (h 6), .ref (h 7), .long (eC row), .int (nI hc), .int (nI un)])), (h 1, .inl (cJ, 8, .inr (.inl (fC T)))), (h 2, .inl (cI, 8, .inl P)), (h 5, .inl (cI, 8, .inl (fN ub))), (h 6, .inl (cJ, 8, .inr (.inl (fC ut)))), (h 7, .inl (cI, 8, .inl up))]) xh bh hml hown hts hK hP hD hS hA (ct_X8_refuse0 l D cI cJ cB cZ cA e0 h y z d sc ru fu f0 ra k0 k1 rf ) (cwV 1 hts gX8_hand_X8_refuse rfl rfl rfl (by decide +kernel) ⟨Nat.le_of_ble_eq_true rfl, Nat.le_of_ble_eq_true rfl⟩) rfl rfl hl.1 (Nat.le_of_ble_eq_true rfl) dX8_hand_22 ⟨Nat.le_refl _, Nat.le_refl _⟩ 0 5 rfl rfl rfl [0, 1] [2, 3, 4, 5, 6, 7] rfl (by decide) rfl rfl (by decide) (by decide) (fun _ H locs _ hP hD hS => ?_)
    have hP : va_P D vwCl [(h 0, .inr (2, [.ref (h 1), .ref (h 2), .ref (h 3), .ref (h 4), .ref (h 5), .ref (h 6), .ref (h 7), .long (eC row), .int (nI hc), .int (nI un)])), (h 1, .inl (cJ, 8, .inr (.inl (fC T)))), (h 2, .inl (cI, 8, .inl P)), (h 5, .inl (cI, 8, .inl (fN ub))), (h 6, .inl (cJ, 8, .inr (.inl (fC ut)))), (h 7, .inl (cI, 8, .inl up)), (e0, .inr (5, [.ref (h 0), .ref (y 0), .ref (z 0), .ref (d 0), .ref sc, .ref ru, .ref fu, .ref f0, .ref ra, .int (ib k0), .int (ib k1)])), (ra, .inl (cI, 3, .inl (upd rf 0 ((rf 0) + nI 1))))] H := hP
    have hD : va_D AG [(h 0, .inr (2, [.ref (h 1), .ref (h 2), .ref (h 3), .ref (h 4), .ref (h 5), .ref (h 6), .ref (h 7), .long (eC row), .int (nI hc), .int (nI un)])), (h 1, .inl (cJ, 8, .inr (.inl (fC T)))), (h 2, .inl (cI, 8, .inl P)), (h 5, .inl (cI, 8, .inl (fN ub))), (h 6, .inl (cJ, 8, .inr (.inl (fC ut)))), (h 7, .inl (cI, 8, .inl up)), (e0, .inr (5, [.ref (h 0), .ref (y 0), .ref (z 0), .ref (d 0), .ref sc, .ref ru, .ref fu, .ref f0, .ref ra, .int (ib k0), .int (ib k1)])), (ra, .inl (cI, 3, .inl (upd rf 0 ((rf 0) + nI 1))))] := hD
    refine W.eq (g2 := F0 mG 25 ls [.int (-2)]) rfl ?_
    exact hend (-2) () _ _ _ _ (congrArg (fun z => some (Value.int z)) (by rw [hk]; rfl)) trivial rfl dX8_hand_25 (by rw [hk]; exact (hP.sub [6, 7, 0, 1, 2, 3, 4, 5] rfl)) (by rw [hk]; exact (hD.sub [6, 7, 0, 1, 2, 3, 4, 5] (by decide) rfl)) hS
  · refine lv_iload_n xh bh dX8_hand_7 rfl (lv_at hl 2 rfl) ?_
    refine Ct.callS0 (rest := []) xh bh hml hown hts hK hP hS hA (ct_X8_isBranch l D cI cJ cB cZ cA b2 ) (va_cwS 1 hts gX8_hand_X8_isBranch rfl rfl rfl (by decide +kernel) ⟨Nat.le_of_ble_eq_true rfl, Nat.le_of_ble_eq_true rfl⟩) rfl rfl hl.1 (Nat.le_of_ble_eq_true rfl) dX8_hand_8 ⟨Nat.le_refl _, Nat.le_refl _⟩ (fun _ H locs _ hP hS => ?_)
    refine W.eq (g2 := F0 mG 11 ls [.int (ib (upB b2 7))]) rfl ?_
    refine xb_if_eq (tgt := 19) xh bh dX8_hand_11 (by decide) (fun c_11 => ?_) (fun c_11 => ?_)
    · have hk : kHand b b2 k i x T = 0 := if_neg (fun q => by rw [c_11] at q; exact absurd q.2.1 (by decide))
      refine lv_aload_n xh bh dX8_hand_19 rfl (lv_at hl 0 rfl) ?_
      refine lv_bipush (v := (-2)) xh bh dX8_hand_20 (by decide) ?_
      refine Ct.callV (As := [.int (-2)]) (rest := []) (wr := [(h 0, .inr (2, [.ref (h 1), .ref (h 2), .ref (h 3), .ref (h 4), .ref (h 5), .ref (h 6), .ref (h 7), .long (eC row), .int (nI hc), .int (nI un)])), (h 1, .inl (cJ, 8, .inr (.inl (fC T)))), (h 2, .inl (cI, 8, .inl P)), (h 5, .inl (cI, 8, .inl (fN ub))), (h 6, .inl (cJ, 8, .inr (.inl (fC ut)))), (h 7, .inl (cI, 8, .inl up))]) xh bh hml hown hts hK hP hD hS hA (ct_X8_refuse0 l D cI cJ cB cZ cA e0 h y z d sc ru fu f0 ra k0 k1 rf ) (cwV 1 hts gX8_hand_X8_refuse rfl rfl rfl (by decide +kernel) ⟨Nat.le_of_ble_eq_true rfl, Nat.le_of_ble_eq_true rfl⟩) rfl rfl hl.1 (Nat.le_of_ble_eq_true rfl) dX8_hand_22 ⟨Nat.le_refl _, Nat.le_refl _⟩ 0 5 rfl rfl rfl [0, 1] [2, 3, 4, 5, 6, 7] rfl (by decide) rfl rfl (by decide) (by decide) (fun _ H locs _ hP hD hS => ?_)
      have hP : va_P D vwCl [(h 0, .inr (2, [.ref (h 1), .ref (h 2), .ref (h 3), .ref (h 4), .ref (h 5), .ref (h 6), .ref (h 7), .long (eC row), .int (nI hc), .int (nI un)])), (h 1, .inl (cJ, 8, .inr (.inl (fC T)))), (h 2, .inl (cI, 8, .inl P)), (h 5, .inl (cI, 8, .inl (fN ub))), (h 6, .inl (cJ, 8, .inr (.inl (fC ut)))), (h 7, .inl (cI, 8, .inl up)), (e0, .inr (5, [.ref (h 0), .ref (y 0), .ref (z 0), .ref (d 0), .ref sc, .ref ru, .ref fu, .ref f0, .ref ra, .int (ib k0), .int (ib k1)])), (ra, .inl (cI, 3, .inl (upd rf 0 ((rf 0) + nI 1))))] H := hP
      have hD : va_D AG [(h 0, .inr (2, [.ref (h 1), .ref (h 2), .ref (h 3), .ref (h 4), .ref (h 5), .ref (h 6), .ref (h 7), .long (eC row), .int (nI hc), .int (nI un)])), (h 1, .inl (cJ, 8, .inr (.inl (fC T)))), (h 2, .inl (cI, 8, .inl P)), (h 5, .inl (cI, 8, .inl (fN ub))), (h 6, .inl (cJ, 8, .inr (.inl (fC ut)))), (h 7, .inl (cI, 8, .inl up)), (e0, .inr (5, [.ref (h 0), .ref (y 0), .ref (z 0), .ref (d 0), .ref sc, .ref ru, .ref fu, .ref f0, .ref ra, .int (ib k0), .int (ib k1)])), (ra, .inl (cI, 3, .inl (upd rf 0 ((rf 0) + nI 1))))] := hD
      refine W.eq (g2 := F0 mG 25 ls [.int (-2)]) rfl ?_
      exact hend (-2) () _ _ _ _ (congrArg (fun z => some (Value.int z)) (by rw [hk]; rfl)) trivial rfl dX8_hand_25 (by rw [hk]; exact (hP.sub [6, 7, 0, 1, 2, 3, 4, 5] rfl)) (by rw [hk]; exact (hD.sub [6, 7, 0, 1, 2, 3, 4, 5] (by decide) rfl)) hS
    · refine lv_iload_n xh bh dX8_hand_14 rfl (lv_at hl 2 rfl) ?_
      refine lv_iload_n xh bh dX8_hand_15 rfl (lv_at hl 1 rfl) ?_
      refine lv_icmp_gt (tgt := 26) xh bh dX8_hand_16 (by decide) (fun c_16 => ?_) (fun c_16 => ?_)
      · refine lv_iload_n xh bh dX8_hand_26 rfl (lv_at hl 3 rfl) ?_
        refine lv_iconst (v := (nI 5)) xh bh dX8_hand_27 (by decide) ?_
        refine Ct.callS0 (rest := []) xh bh hml hown hts hK hP hS hA (ct_X8_isUpTo l D cI cJ cB cZ cA k 5 (by first | omega | assumption)) (va_cwS 2 hts gX8_hand_X8_isUpTo rfl rfl rfl (by decide +kernel) ⟨Nat.le_of_ble_eq_true rfl, Nat.le_of_ble_eq_true rfl⟩) rfl rfl hl.1 (Nat.le_of_ble_eq_true rfl) dX8_hand_28 ⟨Nat.le_refl _, Nat.le_refl _⟩ (fun _ H locs _ hP hS => ?_)
        refine W.eq (g2 := F0 mG 31 ls [.int (ib (upB k 5))]) rfl ?_
        refine xb_if_eq (tgt := 52) xh bh dX8_hand_31 (by decide) (fun c_31 => ?_) (fun c_31 => ?_)
        · have hk : kHand b b2 k i x T = 0 := if_neg (fun q => by rw [c_31] at q; exact absurd q.2.2.2.1 (by decide))
          refine lv_aload_n xh bh dX8_hand_52 rfl (lv_at hl 0 rfl) ?_
          refine lv_bipush (v := (-2)) xh bh dX8_hand_53 (by decide) ?_
          refine Ct.callV (As := [.int (-2)]) (rest := []) (wr := [(h 0, .inr (2, [.ref (h 1), .ref (h 2), .ref (h 3), .ref (h 4), .ref (h 5), .ref (h 6), .ref (h 7), .long (eC row), .int (nI hc), .int (nI un)])), (h 1, .inl (cJ, 8, .inr (.inl (fC T)))), (h 2, .inl (cI, 8, .inl P)), (h 5, .inl (cI, 8, .inl (fN ub))), (h 6, .inl (cJ, 8, .inr (.inl (fC ut)))), (h 7, .inl (cI, 8, .inl up))]) xh bh hml hown hts hK hP hD hS hA (ct_X8_refuse0 l D cI cJ cB cZ cA e0 h y z d sc ru fu f0 ra k0 k1 rf ) (cwV 1 hts gX8_hand_X8_refuse rfl rfl rfl (by decide +kernel) ⟨Nat.le_of_ble_eq_true rfl, Nat.le_of_ble_eq_true rfl⟩) rfl rfl hl.1 (Nat.le_of_ble_eq_true rfl) dX8_hand_55 ⟨Nat.le_refl _, Nat.le_refl _⟩ 0 5 rfl rfl rfl [0, 1] [2, 3, 4, 5, 6, 7] rfl (by decide) rfl rfl (by decide) (by decide) (fun _ H locs _ hP hD hS => ?_)
          have hP : va_P D vwCl [(h 0, .inr (2, [.ref (h 1), .ref (h 2), .ref (h 3), .ref (h 4), .ref (h 5), .ref (h 6), .ref (h 7), .long (eC row), .int (nI hc), .int (nI un)])), (h 1, .inl (cJ, 8, .inr (.inl (fC T)))), (h 2, .inl (cI, 8, .inl P)), (h 5, .inl (cI, 8, .inl (fN ub))), (h 6, .inl (cJ, 8, .inr (.inl (fC ut)))), (h 7, .inl (cI, 8, .inl up)), (e0, .inr (5, [.ref (h 0), .ref (y 0), .ref (z 0), .ref (d 0), .ref sc, .ref ru, .ref fu, .ref f0, .ref ra, .int (ib k0), .int (ib k1)])), (ra, .inl (cI, 3, .inl (upd rf 0 ((rf 0) + nI 1))))] H := hP
          have hD : va_D AG [(h 0, .inr (2, [.ref (h 1), .ref (h 2), .ref (h 3), .ref (h 4), .ref (h 5), .ref (h 6), .ref (h 7), .long (eC row), .int (nI hc), .int (nI un)])), (h 1, .inl (cJ, 8, .inr (.inl (fC T)))), (h 2, .inl (cI, 8, .inl P)), (h 5, .inl (cI, 8, .inl (fN ub))), (h 6, .inl (cJ, 8, .inr (.inl (fC ut)))), (h 7, .inl (cI, 8, .inl up)), (e0, .inr (5, [.ref (h 0), .ref (y 0), .ref (z 0), .ref (d 0), .ref sc, .ref ru, .ref fu, .ref f0, .ref ra, .int (ib k0), .int (ib k1)])), (ra, .inl (cI, 3, .inl (upd rf 0 ((rf 0) + nI 1))))] := hD
          refine W.eq (g2 := F0 mG 58 ls [.int (-2)]) rfl ?_
          exact hend (-2) () _ _ _ _ (congrArg (fun z => some (Value.int z)) (by rw [hk]; rfl)) trivial rfl dX8_hand_58 (by rw [hk]; exact (hP.sub [6, 7, 0, 1, 2, 3, 4, 5] rfl)) (by rw [hk]; exact (hD.sub [6, 7, 0, 1, 2, 3, 4, 5] (by decide) rfl)) hS
        · refine lv_iload xh bh dX8_hand_34 (lv_at hl 4 rfl) ?_
          refine lv_bipush (v := (nI 9)) xh bh dX8_hand_36 (by decide) ?_
          refine Ct.callS0 (rest := []) xh bh hml hown hts hK hP hS hA (ct_X8_isUpTo l D cI cJ cB cZ cA i 9 (by first | omega | assumption)) (va_cwS 2 hts gX8_hand_X8_isUpTo rfl rfl rfl (by decide +kernel) ⟨Nat.le_of_ble_eq_true rfl, Nat.le_of_ble_eq_true rfl⟩) rfl rfl hl.1 (Nat.le_of_ble_eq_true rfl) dX8_hand_38 ⟨Nat.le_refl _, Nat.le_refl _⟩ (fun _ H locs _ hP hS => ?_)
          refine W.eq (g2 := F0 mG 41 ls [.int (ib (upB i 9))]) rfl ?_
          refine xb_if_eq (tgt := 52) xh bh dX8_hand_41 (by decide) (fun c_41 => ?_) (fun c_41 => ?_)
          · have hk : kHand b b2 k i x T = 0 := if_neg (fun q => by rw [c_41] at q; exact absurd q.2.2.2.2.1 (by decide))
            refine lv_aload_n xh bh dX8_hand_52 rfl (lv_at hl 0 rfl) ?_
            refine lv_bipush (v := (-2)) xh bh dX8_hand_53 (by decide) ?_
            refine Ct.callV (As := [.int (-2)]) (rest := []) (wr := [(h 0, .inr (2, [.ref (h 1), .ref (h 2), .ref (h 3), .ref (h 4), .ref (h 5), .ref (h 6), .ref (h 7), .long (eC row), .int (nI hc), .int (nI un)])), (h 1, .inl (cJ, 8, .inr (.inl (fC T)))), (h 2, .inl (cI, 8, .inl P)), (h 5, .inl (cI, 8, .inl (fN ub))), (h 6, .inl (cJ, 8, .inr (.inl (fC ut)))), (h 7, .inl (cI, 8, .inl up))]) xh bh hml hown hts hK hP hD hS hA (ct_X8_refuse0 l D cI cJ cB cZ cA e0 h y z d sc ru fu f0 ra k0 k1 rf ) (cwV 1 hts gX8_hand_X8_refuse rfl rfl rfl (by decide +kernel) ⟨Nat.le_of_ble_eq_true rfl, Nat.le_of_ble_eq_true rfl⟩) rfl rfl hl.1 (Nat.le_of_ble_eq_true rfl) dX8_hand_55 ⟨Nat.le_refl _, Nat.le_refl _⟩ 0 5 rfl rfl rfl [0, 1] [2, 3, 4, 5, 6, 7] rfl (by decide) rfl rfl (by decide) (by decide) (fun _ H locs _ hP hD hS => ?_)
            have hP : va_P D vwCl [(h 0, .inr (2, [.ref (h 1), .ref (h 2), .ref (h 3), .ref (h 4), .ref (h 5), .ref (h 6), .ref (h 7), .long (eC row), .int (nI hc), .int (nI un)])), (h 1, .inl (cJ, 8, .inr (.inl (fC T)))), (h 2, .inl (cI, 8, .inl P)), (h 5, .inl (cI, 8, .inl (fN ub))), (h 6, .inl (cJ, 8, .inr (.inl (fC ut)))), (h 7, .inl (cI, 8, .inl up)), (e0, .inr (5, [.ref (h 0), .ref (y 0), .ref (z 0), .ref (d 0), .ref sc, .ref ru, .ref fu, .ref f0, .ref ra, .int (ib k0), .int (ib k1)])), (ra, .inl (cI, 3, .inl (upd rf 0 ((rf 0) + nI 1))))] H := hP
            have hD : va_D AG [(h 0, .inr (2, [.ref (h 1), .ref (h 2), .ref (h 3), .ref (h 4), .ref (h 5), .ref (h 6), .ref (h 7), .long (eC row), .int (nI hc), .int (nI un)])), (h 1, .inl (cJ, 8, .inr (.inl (fC T)))), (h 2, .inl (cI, 8, .inl P)), (h 5, .inl (cI, 8, .inl (fN ub))), (h 6, .inl (cJ, 8, .inr (.inl (fC ut)))), (h 7, .inl (cI, 8, .inl up)), (e0, .inr (5, [.ref (h 0), .ref (y 0), .ref (z 0), .ref (d 0), .ref sc, .ref ru, .ref fu, .ref f0, .ref ra, .int (ib k0), .int (ib k1)])), (ra, .inl (cI, 3, .inl (upd rf 0 ((rf 0) + nI 1))))] := hD
            refine W.eq (g2 := F0 mG 58 ls [.int (-2)]) rfl ?_
            exact hend (-2) () _ _ _ _ (congrArg (fun z => some (Value.int z)) (by rw [hk]; rfl)) trivial rfl dX8_hand_58 (by rw [hk]; exact (hP.sub [6, 7, 0, 1, 2, 3, 4, 5] rfl)) (by rw [hk]; exact (hD.sub [6, 7, 0, 1, 2, 3, 4, 5] (by decide) rfl)) hS
          · refine lv_iload xh bh dX8_hand_44 (lv_at hl 5 rfl) ?_
            refine Ct.callS0 (rest := []) xh bh hml hown hts hK hP hS hA (ct_X8_isPart l D cI cJ cB cZ cA x ) (va_cwS 1 hts gX8_hand_X8_isPart rfl rfl rfl (by decide +kernel) ⟨Nat.le_of_ble_eq_true rfl, Nat.le_of_ble_eq_true rfl⟩) rfl rfl hl.1 (Nat.le_of_ble_eq_true rfl) dX8_hand_46 ⟨Nat.le_refl _, Nat.le_refl _⟩ (fun _ H locs _ hP hS => ?_)
            refine W.eq (g2 := F0 mG 49 ls [.int (ib (upB x 9))]) rfl ?_
            refine xb_if_ne (tgt := 59) xh bh dX8_hand_49 (by decide) (fun c_49 => ?_) (fun c_49 => ?_)
            · have hk0 : kHand b b2 k i x T = (if T (xN b) = [] then 1 else 3) := if_pos ⟨c_4, c_11, Int32.not_le.mpr c_16, c_31, c_41, c_49⟩
              obtain ⟨n1, hn1, rfl⟩ := upB_of (by decide) c_4
              obtain ⟨n2, hn2, rfl⟩ := upB_of (by decide) c_11
              obtain ⟨n3, hn3, rfl⟩ := upB_of (by decide) c_31
              obtain ⟨n4, hn4, rfl⟩ := upB_of (by decide) c_41
              obtain ⟨n5, hn5, rfl⟩ := upB_of (by decide) c_49
              rw [xN_nI (by omega)] at hk0
              refine lv_aload_n xh bh dX8_hand_59 rfl (lv_at hl 0 rfl) ?_
              refine va_get (D := D) (ci := 5) (v := .ref (h 0)) (C := RX8) (T := TX8) (N := 11) xh bh hts (fun _ h => List.mem_cons_of_mem _ (List.mem_append_left _ (List.mem_append_right _ (h)))) hown hK.1 hP 0 rfl rfl 0 (by decide) (hts _ (List.mem_of_getElem? (i := 1) rfl)) (fun _ h9 => h9) rfl dX8_hand_60 ?_
              refine lv_iload_n xh bh dX8_hand_63 rfl (lv_at hl 1 rfl) ?_
              refine Ct.callV (As := [.int (nI n1)]) (rest := []) (wr := [(e0, .inr (5, [.ref (h 0), .ref (y 0), .ref (z 0), .ref (d 0), .ref sc, .ref ru, .ref fu, .ref f0, .ref ra, .int (ib k0), .int (ib k1)])), (ra, .inl (cI, 3, .inl rf)), (h 2, .inl (cI, 8, .inl P)), (h 5, .inl (cI, 8, .inl (fN ub))), (h 6, .inl (cJ, 8, .inr (.inl (fC ut)))), (h 7, .inl (cI, 8, .inl up))]) xh bh hml hown hts hK hP hD hS hA (ct_X3_taleOf l D cI cJ cB cZ cA h T row hc un n1 (by first | omega | assumption)) (cwV 1 hts gX8_hand_X3_taleOf rfl rfl rfl (by decide +kernel) ⟨Nat.le_of_ble_eq_true rfl, Nat.le_of_ble_eq_true rfl⟩) rfl rfl hl.1 (Nat.le_of_ble_eq_true rfl) dX8_hand_64 ⟨Nat.le_refl _, Nat.le_refl _⟩ 0 2 rfl rfl rfl [2, 3] [0, 1, 4, 5, 6, 7] rfl (by decide) rfl rfl (by decide) (by decide) (fun _ H locs _ hP hD hS => ?_)
              have hP : va_P D vwCl [(e0, .inr (5, [.ref (h 0), .ref (y 0), .ref (z 0), .ref (d 0), .ref sc, .ref ru, .ref fu, .ref f0, .ref ra, .int (ib k0), .int (ib k1)])), (ra, .inl (cI, 3, .inl rf)), (h 2, .inl (cI, 8, .inl P)), (h 5, .inl (cI, 8, .inl (fN ub))), (h 6, .inl (cJ, 8, .inr (.inl (fC ut)))), (h 7, .inl (cI, 8, .inl up)), (h 0, .inr (2, [.ref (h 1), .ref (h 2), .ref (h 3), .ref (h 4), .ref (h 5), .ref (h 6), .ref (h 7), .long (eC row), .int (nI hc), .int (nI un)])), (h 1, .inl (cJ, 8, .inr (.inl (fC T))))] H := hP
              have hD : va_D AG [(e0, .inr (5, [.ref (h 0), .ref (y 0), .ref (z 0), .ref (d 0), .ref sc, .ref ru, .ref fu, .ref f0, .ref ra, .int (ib k0), .int (ib k1)])), (ra, .inl (cI, 3, .inl rf)), (h 2, .inl (cI, 8, .inl P)), (h 5, .inl (cI, 8, .inl (fN ub))), (h 6, .inl (cJ, 8, .inr (.inl (fC ut)))), (h 7, .inl (cI, 8, .inl up)), (h 0, .inr (2, [.ref (h 1), .ref (h 2), .ref (h 3), .ref (h 4), .ref (h 5), .ref (h 6), .ref (h 7), .long (eC row), .int (nI hc), .int (nI un)])), (h 1, .inl (cJ, 8, .inr (.inl (fC T))))] := hD
              refine W.eq (g2 := F0 mG 67 ls [.long (eC (T n1))]) rfl ?_
              refine lv_lstore (lv' := [(6, .long (eC (T n1))), (0, .ref e0), (1, .int (nI n1)), (2, .int (nI n2)), (3, .int (nI n3)), (4, .int (nI n4)), (5, .int (nI n5))]) xh bh dX8_hand_67 hl (by decide) rfl (fun ls hl => ?_)
              refine lv_lload xh bh dX8_hand_69 (lv_at hl 0 rfl) ?_
              refine lv_lconst (v := lN 0) xh bh dX8_hand_71 (by decide) ?_
              refine W.lcmp xh bh dX8_hand_72 ?_
              refine xt_if_neC (tgt := 83) xh bh dX8_hand_73 (by decide) (by exact hT _) (fun c_73 => ?_) (fun c_73 => ?_)
              · have hk := hk0.trans (if_neg c_73)
                refine lv_lload xh bh dX8_hand_83 (lv_at hl 0 rfl) ?_
                refine lv_iload_n xh bh dX8_hand_85 rfl (lv_at hl 4 rfl) ?_
                refine lv_iload xh bh dX8_hand_86 (lv_at hl 5 rfl) ?_
                refine lv_iload xh bh dX8_hand_88 (lv_at hl 6 rfl) ?_
                refine Ct.callS0 (rest := []) xh bh hml hown hts hK hP hS hA (ct_X7_slipped l D cI cJ cB cZ cA (T n1) n3 n4 n5 (by exact hT _) (by first | omega | assumption) (by first | omega | assumption) (by first | omega | assumption)) (va_cwS 4 hts gX8_hand_X7_slipped rfl rfl rfl (by decide +kernel) ⟨Nat.le_of_ble_eq_true rfl, Nat.le_of_ble_eq_true rfl⟩) rfl rfl hl.1 (Nat.le_of_ble_eq_true rfl) dX8_hand_90 ⟨Nat.le_refl _, Nat.le_refl _⟩ (fun _ H locs _ hP hS => ?_)
                refine W.eq (g2 := F0 mG 93 ls [.long (eC (slipT (T n1) n3 n4 n5))]) rfl ?_
                refine lv_lstore (lv' := [(8, .long (eC (slipT (T n1) n3 n4 n5))), (6, .long (eC (T n1))), (0, .ref e0), (1, .int (nI n1)), (2, .int (nI n2)), (3, .int (nI n3)), (4, .int (nI n4)), (5, .int (nI n5))]) xh bh dX8_hand_93 hl (by decide) rfl (fun ls hl => ?_)
                refine lv_aload_n xh bh dX8_hand_95 rfl (lv_at hl 2 rfl) ?_
                refine va_get (D := D) (ci := 5) (v := .ref (h 0)) (C := RX8) (T := TX8) (N := 11) xh bh hts (fun _ h => List.mem_cons_of_mem _ (List.mem_append_left _ (List.mem_append_right _ (h)))) hown hK.1 hP 0 rfl rfl 0 (by decide) (hts _ (List.mem_of_getElem? (i := 1) rfl)) (fun _ h9 => h9) rfl dX8_hand_96 ?_
                refine lv_iload_n xh bh dX8_hand_99 rfl (lv_at hl 4 rfl) ?_
                refine lv_lload xh bh dX8_hand_100 (lv_at hl 0 rfl) ?_
                refine lv_iload_n xh bh dX8_hand_102 rfl (lv_at hl 3 rfl) ?_
                refine Ct.callV (As := [.int (nI n2), .long (eC (slipT (T n1) n3 n4 n5)), .int (nI n1)]) (rest := []) (wr := [(e0, .inr (5, [.ref (h 0), .ref (y 0), .ref (z 0), .ref (d 0), .ref sc, .ref ru, .ref fu, .ref f0, .ref ra, .int (ib k0), .int (ib k1)])), (ra, .inl (cI, 3, .inl rf))]) xh bh hml hown hts hK hP hD hS hA (ct_X3_replace l D cI cJ cB cZ cA h T P ub ut up row hc un n2 (slipT (T n1) n3 n4 n5) (nI n1) (by first | omega | assumption) (by first | omega | assumption)) (cwV 3 hts gX8_hand_X3_replace rfl rfl rfl (by decide +kernel) ⟨Nat.le_of_ble_eq_true rfl, Nat.le_of_ble_eq_true rfl⟩) rfl rfl hl.1 (Nat.le_of_ble_eq_true rfl) dX8_hand_103 ⟨Nat.le_refl _, Nat.le_refl _⟩ 0 2 rfl rfl rfl [6, 7, 2, 3, 4, 5] [0, 1] rfl (by decide) rfl rfl (by decide) (by decide) (fun _ H locs _ hP hD hS => ?_)
                have hP : va_P D vwCl [(e0, .inr (5, [.ref (h 0), .ref (y 0), .ref (z 0), .ref (d 0), .ref sc, .ref ru, .ref fu, .ref f0, .ref ra, .int (ib k0), .int (ib k1)])), (ra, .inl (cI, 3, .inl rf)), (h 0, .inr (2, [.ref (h 1), .ref (h 2), .ref (h 3), .ref (h 4), .ref (h 5), .ref (h 6), .ref (h 7), .long (eC row), .int (nI hc), .int (nI (min un 7 + 1))])), (h 1, .inl (cJ, 8, .inr (.inl (fC (va_up T n2 (slipT (T n1) n3 n4 n5)))))), (h 2, .inl (cI, 8, .inl (upd P n2 (nI n1)))), (h 5, .inl (cI, 8, .inl (fN (va_up (shA ub un) (min un 7) n2)))), (h 6, .inl (cJ, 8, .inr (.inl (fC (va_up (shA ut un) (min un 7) (T n2)))))), (h 7, .inl (cI, 8, .inl (upd (shA up un) (min un 7) (P n2))))] H := hP
                have hD : va_D AG [(e0, .inr (5, [.ref (h 0), .ref (y 0), .ref (z 0), .ref (d 0), .ref sc, .ref ru, .ref fu, .ref f0, .ref ra, .int (ib k0), .int (ib k1)])), (ra, .inl (cI, 3, .inl rf)), (h 0, .inr (2, [.ref (h 1), .ref (h 2), .ref (h 3), .ref (h 4), .ref (h 5), .ref (h 6), .ref (h 7), .long (eC row), .int (nI hc), .int (nI (min un 7 + 1))])), (h 1, .inl (cJ, 8, .inr (.inl (fC (va_up T n2 (slipT (T n1) n3 n4 n5)))))), (h 2, .inl (cI, 8, .inl (upd P n2 (nI n1)))), (h 5, .inl (cI, 8, .inl (fN (va_up (shA ub un) (min un 7) n2)))), (h 6, .inl (cJ, 8, .inr (.inl (fC (va_up (shA ut un) (min un 7) (T n2)))))), (h 7, .inl (cI, 8, .inl (upd (shA up un) (min un 7) (P n2))))] := hD
                refine W.eq (g2 := F0 mG 106 ls []) rfl ?_
                refine lv_lload xh bh dX8_hand_106 (lv_at hl 0 rfl) ?_
                refine Ct.callS0 (rest := []) xh bh hml hown hts hK hP hS hA (ct_X7_sizeOf l D cI cJ cB cZ cA (slipT (T n1) n3 n4 n5) (by exact okT_slip (hT _) _ _ (by omega))) (va_cwS 1 hts gX8_hand_X7_sizeOf rfl rfl rfl (by decide +kernel) ⟨Nat.le_of_ble_eq_true rfl, Nat.le_of_ble_eq_true rfl⟩) rfl rfl hl.1 (Nat.le_of_ble_eq_true rfl) dX8_hand_108 ⟨Nat.le_refl _, Nat.le_refl _⟩ (fun _ H locs _ hP hS => ?_)
                refine W.eq (g2 := F0 mG 111 ls [.int (nI ((slipT (T n1) n3 n4 n5).length))]) rfl ?_
                exact hend (nI ((slipT (T n1) n3 n4 n5).length)) () _ _ _ _ (congrArg (fun z => some (Value.int z)) (by rw [hk, xN_nI (by omega), xN_nI (by omega), xN_nI (by omega), xN_nI (by omega)]; rfl)) trivial rfl dX8_hand_111 (by rw [hk, xN_nI (by omega), xN_nI (by omega), xN_nI (by omega), xN_nI (by omega), xN_nI (by omega)]; exact hP) (by rw [hk, xN_nI (by omega), xN_nI (by omega), xN_nI (by omega), xN_nI (by omega), xN_nI (by omega)]; exact hD) hS
              · have hk := hk0.trans (if_pos c_73)
                refine lv_aload_n xh bh dX8_hand_76 rfl (lv_at hl 1 rfl) ?_
                refine lv_bipush (v := (-3)) xh bh dX8_hand_77 (by decide) ?_
                refine Ct.callV (As := [.int (-3)]) (rest := []) (wr := [(h 2, .inl (cI, 8, .inl P)), (h 5, .inl (cI, 8, .inl (fN ub))), (h 6, .inl (cJ, 8, .inr (.inl (fC ut)))), (h 7, .inl (cI, 8, .inl up)), (h 0, .inr (2, [.ref (h 1), .ref (h 2), .ref (h 3), .ref (h 4), .ref (h 5), .ref (h 6), .ref (h 7), .long (eC row), .int (nI hc), .int (nI un)])), (h 1, .inl (cJ, 8, .inr (.inl (fC T))))]) xh bh hml hown hts hK hP hD hS hA (ct_X8_refuse1 l D cI cJ cB cZ cA e0 h y z d sc ru fu f0 ra k0 k1 rf ) (cwV 1 hts gX8_hand_X8_refuse rfl rfl rfl (by decide +kernel) ⟨Nat.le_of_ble_eq_true rfl, Nat.le_of_ble_eq_true rfl⟩) rfl rfl hl.1 (Nat.le_of_ble_eq_true rfl) dX8_hand_79 ⟨Nat.le_refl _, Nat.le_refl _⟩ 0 5 rfl rfl rfl [0, 1] [2, 3, 4, 5, 6, 7] rfl (by decide) rfl rfl (by decide) (by decide) (fun _ H locs _ hP hD hS => ?_)
                have hP : va_P D vwCl [(h 2, .inl (cI, 8, .inl P)), (h 5, .inl (cI, 8, .inl (fN ub))), (h 6, .inl (cJ, 8, .inr (.inl (fC ut)))), (h 7, .inl (cI, 8, .inl up)), (h 0, .inr (2, [.ref (h 1), .ref (h 2), .ref (h 3), .ref (h 4), .ref (h 5), .ref (h 6), .ref (h 7), .long (eC row), .int (nI hc), .int (nI un)])), (h 1, .inl (cJ, 8, .inr (.inl (fC T)))), (e0, .inr (5, [.ref (h 0), .ref (y 0), .ref (z 0), .ref (d 0), .ref sc, .ref ru, .ref fu, .ref f0, .ref ra, .int (ib k0), .int (ib k1)])), (ra, .inl (cI, 3, .inl (upd rf 1 ((rf 1) + nI 1))))] H := hP
                have hD : va_D AG [(h 2, .inl (cI, 8, .inl P)), (h 5, .inl (cI, 8, .inl (fN ub))), (h 6, .inl (cJ, 8, .inr (.inl (fC ut)))), (h 7, .inl (cI, 8, .inl up)), (h 0, .inr (2, [.ref (h 1), .ref (h 2), .ref (h 3), .ref (h 4), .ref (h 5), .ref (h 6), .ref (h 7), .long (eC row), .int (nI hc), .int (nI un)])), (h 1, .inl (cJ, 8, .inr (.inl (fC T)))), (e0, .inr (5, [.ref (h 0), .ref (y 0), .ref (z 0), .ref (d 0), .ref sc, .ref ru, .ref fu, .ref f0, .ref ra, .int (ib k0), .int (ib k1)])), (ra, .inl (cI, 3, .inl (upd rf 1 ((rf 1) + nI 1))))] := hD
                refine W.eq (g2 := F0 mG 82 ls [.int (-3)]) rfl ?_
                exact hend (-3) () _ _ _ _ (congrArg (fun z => some (Value.int z)) (by rw [hk]; rfl)) trivial rfl dX8_hand_82 (by rw [hk]; exact (hP.sub [6, 7, 4, 5, 0, 1, 2, 3] rfl)) (by rw [hk]; exact (hD.sub [6, 7, 4, 5, 0, 1, 2, 3] (by decide) rfl)) hS
            · have hk : kHand b b2 k i x T = 0 := if_neg (fun q => by rw [c_49] at q; exact absurd q.2.2.2.2.2 (by decide))
              refine lv_aload_n xh bh dX8_hand_52 rfl (lv_at hl 0 rfl) ?_
              refine lv_bipush (v := (-2)) xh bh dX8_hand_53 (by decide) ?_
              refine Ct.callV (As := [.int (-2)]) (rest := []) (wr := [(h 0, .inr (2, [.ref (h 1), .ref (h 2), .ref (h 3), .ref (h 4), .ref (h 5), .ref (h 6), .ref (h 7), .long (eC row), .int (nI hc), .int (nI un)])), (h 1, .inl (cJ, 8, .inr (.inl (fC T)))), (h 2, .inl (cI, 8, .inl P)), (h 5, .inl (cI, 8, .inl (fN ub))), (h 6, .inl (cJ, 8, .inr (.inl (fC ut)))), (h 7, .inl (cI, 8, .inl up))]) xh bh hml hown hts hK hP hD hS hA (ct_X8_refuse0 l D cI cJ cB cZ cA e0 h y z d sc ru fu f0 ra k0 k1 rf ) (cwV 1 hts gX8_hand_X8_refuse rfl rfl rfl (by decide +kernel) ⟨Nat.le_of_ble_eq_true rfl, Nat.le_of_ble_eq_true rfl⟩) rfl rfl hl.1 (Nat.le_of_ble_eq_true rfl) dX8_hand_55 ⟨Nat.le_refl _, Nat.le_refl _⟩ 0 5 rfl rfl rfl [0, 1] [2, 3, 4, 5, 6, 7] rfl (by decide) rfl rfl (by decide) (by decide) (fun _ H locs _ hP hD hS => ?_)
              have hP : va_P D vwCl [(h 0, .inr (2, [.ref (h 1), .ref (h 2), .ref (h 3), .ref (h 4), .ref (h 5), .ref (h 6), .ref (h 7), .long (eC row), .int (nI hc), .int (nI un)])), (h 1, .inl (cJ, 8, .inr (.inl (fC T)))), (h 2, .inl (cI, 8, .inl P)), (h 5, .inl (cI, 8, .inl (fN ub))), (h 6, .inl (cJ, 8, .inr (.inl (fC ut)))), (h 7, .inl (cI, 8, .inl up)), (e0, .inr (5, [.ref (h 0), .ref (y 0), .ref (z 0), .ref (d 0), .ref sc, .ref ru, .ref fu, .ref f0, .ref ra, .int (ib k0), .int (ib k1)])), (ra, .inl (cI, 3, .inl (upd rf 0 ((rf 0) + nI 1))))] H := hP
              have hD : va_D AG [(h 0, .inr (2, [.ref (h 1), .ref (h 2), .ref (h 3), .ref (h 4), .ref (h 5), .ref (h 6), .ref (h 7), .long (eC row), .int (nI hc), .int (nI un)])), (h 1, .inl (cJ, 8, .inr (.inl (fC T)))), (h 2, .inl (cI, 8, .inl P)), (h 5, .inl (cI, 8, .inl (fN ub))), (h 6, .inl (cJ, 8, .inr (.inl (fC ut)))), (h 7, .inl (cI, 8, .inl up)), (e0, .inr (5, [.ref (h 0), .ref (y 0), .ref (z 0), .ref (d 0), .ref sc, .ref ru, .ref fu, .ref f0, .ref ra, .int (ib k0), .int (ib k1)])), (ra, .inl (cI, 3, .inl (upd rf 0 ((rf 0) + nI 1))))] := hD
              refine W.eq (g2 := F0 mG 58 ls [.int (-2)]) rfl ?_
              exact hend (-2) () _ _ _ _ (congrArg (fun z => some (Value.int z)) (by rw [hk]; rfl)) trivial rfl dX8_hand_58 (by rw [hk]; exact (hP.sub [6, 7, 0, 1, 2, 3, 4, 5] rfl)) (by rw [hk]; exact (hD.sub [6, 7, 0, 1, 2, 3, 4, 5] (by decide) rfl)) hS
      · have hk : kHand b b2 k i x T = 0 := if_neg (fun q => q.2.2.1 (Int32.not_lt.mp c_16))
        refine lv_aload_n xh bh dX8_hand_19 rfl (lv_at hl 0 rfl) ?_
        refine lv_bipush (v := (-2)) xh bh dX8_hand_20 (by decide) ?_
        refine Ct.callV (As := [.int (-2)]) (rest := []) (wr := [(h 0, .inr (2, [.ref (h 1), .ref (h 2), .ref (h 3), .ref (h 4), .ref (h 5), .ref (h 6), .ref (h 7), .long (eC row), .int (nI hc), .int (nI un)])), (h 1, .inl (cJ, 8, .inr (.inl (fC T)))), (h 2, .inl (cI, 8, .inl P)), (h 5, .inl (cI, 8, .inl (fN ub))), (h 6, .inl (cJ, 8, .inr (.inl (fC ut)))), (h 7, .inl (cI, 8, .inl up))]) xh bh hml hown hts hK hP hD hS hA (ct_X8_refuse0 l D cI cJ cB cZ cA e0 h y z d sc ru fu f0 ra k0 k1 rf ) (cwV 1 hts gX8_hand_X8_refuse rfl rfl rfl (by decide +kernel) ⟨Nat.le_of_ble_eq_true rfl, Nat.le_of_ble_eq_true rfl⟩) rfl rfl hl.1 (Nat.le_of_ble_eq_true rfl) dX8_hand_22 ⟨Nat.le_refl _, Nat.le_refl _⟩ 0 5 rfl rfl rfl [0, 1] [2, 3, 4, 5, 6, 7] rfl (by decide) rfl rfl (by decide) (by decide) (fun _ H locs _ hP hD hS => ?_)
        have hP : va_P D vwCl [(h 0, .inr (2, [.ref (h 1), .ref (h 2), .ref (h 3), .ref (h 4), .ref (h 5), .ref (h 6), .ref (h 7), .long (eC row), .int (nI hc), .int (nI un)])), (h 1, .inl (cJ, 8, .inr (.inl (fC T)))), (h 2, .inl (cI, 8, .inl P)), (h 5, .inl (cI, 8, .inl (fN ub))), (h 6, .inl (cJ, 8, .inr (.inl (fC ut)))), (h 7, .inl (cI, 8, .inl up)), (e0, .inr (5, [.ref (h 0), .ref (y 0), .ref (z 0), .ref (d 0), .ref sc, .ref ru, .ref fu, .ref f0, .ref ra, .int (ib k0), .int (ib k1)])), (ra, .inl (cI, 3, .inl (upd rf 0 ((rf 0) + nI 1))))] H := hP
        have hD : va_D AG [(h 0, .inr (2, [.ref (h 1), .ref (h 2), .ref (h 3), .ref (h 4), .ref (h 5), .ref (h 6), .ref (h 7), .long (eC row), .int (nI hc), .int (nI un)])), (h 1, .inl (cJ, 8, .inr (.inl (fC T)))), (h 2, .inl (cI, 8, .inl P)), (h 5, .inl (cI, 8, .inl (fN ub))), (h 6, .inl (cJ, 8, .inr (.inl (fC ut)))), (h 7, .inl (cI, 8, .inl up)), (e0, .inr (5, [.ref (h 0), .ref (y 0), .ref (z 0), .ref (d 0), .ref sc, .ref ru, .ref fu, .ref f0, .ref ra, .int (ib k0), .int (ib k1)])), (ra, .inl (cI, 3, .inl (upd rf 0 ((rf 0) + nI 1))))] := hD
        refine W.eq (g2 := F0 mG 25 ls [.int (-2)]) rfl ?_
        exact hend (-2) () _ _ _ _ (congrArg (fun z => some (Value.int z)) (by rw [hk]; rfl)) trivial rfl dX8_hand_25 (by rw [hk]; exact (hP.sub [6, 7, 0, 1, 2, 3, 4, 5] rfl)) (by rw [hk]; exact (hD.sub [6, 7, 0, 1, 2, 3, 4, 5] (by decide) rfl)) hS

set_option maxHeartbeats 1000000 in
set_option maxRecDepth 100000 in
theorem ct_X8_undo (l : Launch) (D : va_G) (cI cJ cB cZ cA : ClassId) (e0 : Nat) (h : Nat → Nat) (y : Nat → Nat) (z : Nat → Nat) (d : Nat → Nat) (sc : Nat) (ru : Nat) (fu : Nat) (f0 : Nat) (ra : Nat) (k0 : Bool) (k1 : Bool) (T : Nat → List Nat) (P : Nat → Int32) (ub : Nat → Nat) (ut : Nat → List Nat) (up : Nat → Int32) (row : List Nat) (hc : Nat) (un : Nat) (rf : Nat → Int32) (hT : ∀ k, okT (T k)) (hut : ∀ k, okT (ut k)) (hun : un ≤ 8) (hub : ∀ k, ub k < 8) : Ct l yX8_undo wsX8_undo ({ frames := 4, cells := 0, slots := 0, locals := 88 }) D (tysG cI cJ cB cZ cA) [.ref e0] [(e0, .inr (5, [.ref (h 0), .ref (y 0), .ref (z 0), .ref (d 0), .ref sc, .ref ru, .ref fu, .ref f0, .ref ra, .int (ib k0), .int (ib k1)])), (ra, .inl (cI, 3, .inl rf)), (h 0, .inr (2, [.ref (h 1), .ref (h 2), .ref (h 3), .ref (h 4), .ref (h 5), .ref (h 6), .ref (h 7), .long (eC row), .int (nI hc), .int (nI un)])), (h 1, .inl (cJ, 8, .inr (.inl (fC T)))), (h 2, .inl (cI, 8, .inl P)), (h 5, .inl (cI, 8, .inl (fN ub))), (h 6, .inl (cJ, 8, .inr (.inl (fC ut)))), (h 7, .inl (cI, 8, .inl up))] (fun (_ : Unit) => True) (fun _ => some (.int (eUndo (kUndo un) (popN (bwoN (k3 (kUndo un) T (va_up T (ub (un - 1)) (ut (un - 1)))) 0 8))))) (fun _ => [(e0, .inr (5, [.ref (h 0), .ref (y 0), .ref (z 0), .ref (d 0), .ref sc, .ref ru, .ref fu, .ref f0, .ref ra, .int (ib k0), .int (ib k1)])), (ra, .inl (cI, 3, .inl (rfU (kUndo un) rf))), (h 0, .inr (2, [.ref (h 1), .ref (h 2), .ref (h 3), .ref (h 4), .ref (h 5), .ref (h 6), .ref (h 7), .long (eC row), .int (nI hc), .int (nI (un - 1))])), (h 1, .inl (cJ, 8, .inr (.inl (fC (k3 (kUndo un) T (va_up T (ub (un - 1)) (ut (un - 1)))))))), (h 2, .inl (cI, 8, .inl (k3 (kUndo un) P (upd P (ub (un - 1)) (up (un - 1)))))), (h 5, .inl (cI, 8, .inl (fN ub))), (h 6, .inl (cJ, 8, .inr (.inl (fC ut)))), (h 7, .inl (cI, 8, .inl up))]) := by
  refine Ct.ofI (cc := cX8_undo) (maxL := 1) (by decide) rfl (Nat.le_of_ble_eq_true rfl) ?_
  intro pG eG sG mG aG bG tG cG AG QG ls xh bh hml hown hts hK hP hD hS hA hend hl
  have hl : lv_has ls 1 [(0, .ref e0)] := hl
  refine lv_aload_n xh bh dX8_undo_0 rfl (lv_at hl 0 rfl) ?_
  refine va_get (D := D) (ci := 5) (v := .ref (h 0)) (C := RX8) (T := TX8) (N := 11) xh bh hts (fun _ h => List.mem_cons_of_mem _ (List.mem_append_left _ (List.mem_append_right _ (h)))) hown hK.1 hP 0 rfl rfl 0 (by decide) (hts _ (List.mem_of_getElem? (i := 1) rfl)) (fun _ h9 => h9) rfl dX8_undo_1 ?_
  refine va_get (D := D) (ci := 2) (v := .int (nI un)) (C := RX3) (T := TX3) (N := 10) xh bh hts (fun _ h => List.mem_cons_of_mem _ (List.mem_append_right _ (h))) hown hK.1 hP 2 rfl rfl 9 (by decide) (hts _ (List.mem_of_getElem? (i := 2) rfl)) (fun _ h9 => h9) rfl dX8_undo_4 ?_
  refine xn_if_ne (tgt := 17) xh bh dX8_undo_7 (by decide) (by omega) (fun c_7 => ?_) (fun c_7 => ?_)
  · have hk : kUndo un = 3 := if_neg c_7
    refine lv_aload_n xh bh dX8_undo_17 rfl (lv_at hl 0 rfl) ?_
    refine va_get (D := D) (ci := 5) (v := .ref (h 0)) (C := RX8) (T := TX8) (N := 11) xh bh hts (fun _ h => List.mem_cons_of_mem _ (List.mem_append_left _ (List.mem_append_right _ (h)))) hown hK.1 hP 0 rfl rfl 0 (by decide) (hts _ (List.mem_of_getElem? (i := 1) rfl)) (fun _ h9 => h9) rfl dX8_undo_18 ?_
    refine Ct.callV (As := []) (rest := []) (wr := [(e0, .inr (5, [.ref (h 0), .ref (y 0), .ref (z 0), .ref (d 0), .ref sc, .ref ru, .ref fu, .ref f0, .ref ra, .int (ib k0), .int (ib k1)])), (ra, .inl (cI, 3, .inl rf))]) xh bh hml hown hts hK hP hD hS hA (ct_X3_takeBack l D cI cJ cB cZ cA h T P ub ut up row hc un (by first | omega | assumption) (by first | omega | assumption) (by first | assumption)) (cwV 0 hts gX8_undo_X3_takeBack rfl rfl rfl (by decide +kernel) ⟨Nat.le_of_ble_eq_true rfl, Nat.le_of_ble_eq_true rfl⟩) rfl rfl hl.1 (Nat.le_of_ble_eq_true rfl) dX8_undo_21 ⟨Nat.le_refl _, Nat.le_refl _⟩ 0 2 rfl rfl rfl [2, 3, 4, 5, 6, 7] [0, 1] rfl (by decide) rfl rfl (by decide) (by decide) (fun _ H locs _ hP hD hS => ?_)
    have hP : va_P D vwCl [(e0, .inr (5, [.ref (h 0), .ref (y 0), .ref (z 0), .ref (d 0), .ref sc, .ref ru, .ref fu, .ref f0, .ref ra, .int (ib k0), .int (ib k1)])), (ra, .inl (cI, 3, .inl rf)), (h 0, .inr (2, [.ref (h 1), .ref (h 2), .ref (h 3), .ref (h 4), .ref (h 5), .ref (h 6), .ref (h 7), .long (eC row), .int (nI hc), .int (nI (un - 1))])), (h 1, .inl (cJ, 8, .inr (.inl (fC (va_up T (ub (un - 1)) (ut (un - 1))))))), (h 2, .inl (cI, 8, .inl (upd P (ub (un - 1)) (up (un - 1))))), (h 5, .inl (cI, 8, .inl (fN ub))), (h 6, .inl (cJ, 8, .inr (.inl (fC ut)))), (h 7, .inl (cI, 8, .inl up))] H := hP
    have hD : va_D AG [(e0, .inr (5, [.ref (h 0), .ref (y 0), .ref (z 0), .ref (d 0), .ref sc, .ref ru, .ref fu, .ref f0, .ref ra, .int (ib k0), .int (ib k1)])), (ra, .inl (cI, 3, .inl rf)), (h 0, .inr (2, [.ref (h 1), .ref (h 2), .ref (h 3), .ref (h 4), .ref (h 5), .ref (h 6), .ref (h 7), .long (eC row), .int (nI hc), .int (nI (un - 1))])), (h 1, .inl (cJ, 8, .inr (.inl (fC (va_up T (ub (un - 1)) (ut (un - 1))))))), (h 2, .inl (cI, 8, .inl (upd P (ub (un - 1)) (up (un - 1))))), (h 5, .inl (cI, 8, .inl (fN ub))), (h 6, .inl (cJ, 8, .inr (.inl (fC ut)))), (h 7, .inl (cI, 8, .inl up))] := hD
    refine W.eq (g2 := F0 mG 24 ls []) rfl ?_
    refine lv_aload_n xh bh dX8_undo_24 rfl (lv_at hl 0 rfl) ?_
    refine va_get (D := D) (ci := 5) (v := .ref (h 0)) (C := RX8) (T := TX8) (N := 11) xh bh hts (fun _ h => List.mem_cons_of_mem _ (List.mem_append_left _ (List.mem_append_right _ (h)))) hown hK.1 hP 0 rfl rfl 0 (by decide) (hts _ (List.mem_of_getElem? (i := 1) rfl)) (fun _ h9 => h9) rfl dX8_undo_25 ?_
    refine Ct.callV (As := []) (rest := []) (wr := [(e0, .inr (5, [.ref (h 0), .ref (y 0), .ref (z 0), .ref (d 0), .ref sc, .ref ru, .ref fu, .ref f0, .ref ra, .int (ib k0), .int (ib k1)])), (ra, .inl (cI, 3, .inl rf)), (h 2, .inl (cI, 8, .inl (upd P (ub (un - 1)) (up (un - 1))))), (h 5, .inl (cI, 8, .inl (fN ub))), (h 6, .inl (cJ, 8, .inr (.inl (fC ut)))), (h 7, .inl (cI, 8, .inl up))]) xh bh hml hown hts hK hP hD hS hA (ct_X3_talesTold l D cI cJ cB cZ cA h (va_up T (ub (un - 1)) (ut (un - 1))) row hc (un - 1) (by intro j; unfold va_up; by_cases q : j = ub (un - 1); rw [if_pos q]; exact hut _; rw [if_neg q]; exact hT j)) (cwV 0 hts gX8_undo_X3_talesTold rfl rfl rfl (by decide +kernel) ⟨Nat.le_of_ble_eq_true rfl, Nat.le_of_ble_eq_true rfl⟩) rfl rfl hl.1 (Nat.le_of_ble_eq_true rfl) dX8_undo_28 ⟨Nat.le_refl _, Nat.le_refl _⟩ 0 2 rfl rfl rfl [2, 3] [0, 1, 4, 5, 6, 7] rfl (by decide) rfl rfl (by decide) (by decide) (fun _ H locs _ hP hD hS => ?_)
    have hP : va_P D vwCl [(e0, .inr (5, [.ref (h 0), .ref (y 0), .ref (z 0), .ref (d 0), .ref sc, .ref ru, .ref fu, .ref f0, .ref ra, .int (ib k0), .int (ib k1)])), (ra, .inl (cI, 3, .inl rf)), (h 2, .inl (cI, 8, .inl (upd P (ub (un - 1)) (up (un - 1))))), (h 5, .inl (cI, 8, .inl (fN ub))), (h 6, .inl (cJ, 8, .inr (.inl (fC ut)))), (h 7, .inl (cI, 8, .inl up)), (h 0, .inr (2, [.ref (h 1), .ref (h 2), .ref (h 3), .ref (h 4), .ref (h 5), .ref (h 6), .ref (h 7), .long (eC row), .int (nI hc), .int (nI (un - 1))])), (h 1, .inl (cJ, 8, .inr (.inl (fC (va_up T (ub (un - 1)) (ut (un - 1)))))))] H := hP
    have hD : va_D AG [(e0, .inr (5, [.ref (h 0), .ref (y 0), .ref (z 0), .ref (d 0), .ref sc, .ref ru, .ref fu, .ref f0, .ref ra, .int (ib k0), .int (ib k1)])), (ra, .inl (cI, 3, .inl rf)), (h 2, .inl (cI, 8, .inl (upd P (ub (un - 1)) (up (un - 1))))), (h 5, .inl (cI, 8, .inl (fN ub))), (h 6, .inl (cJ, 8, .inr (.inl (fC ut)))), (h 7, .inl (cI, 8, .inl up)), (h 0, .inr (2, [.ref (h 1), .ref (h 2), .ref (h 3), .ref (h 4), .ref (h 5), .ref (h 6), .ref (h 7), .long (eC row), .int (nI hc), .int (nI (un - 1))])), (h 1, .inl (cJ, 8, .inr (.inl (fC (va_up T (ub (un - 1)) (ut (un - 1)))))))] := hD
    refine W.eq (g2 := F0 mG 31 ls [.int (nI (popN (bwoN (va_up T (ub (un - 1)) (ut (un - 1))) 0 8)))]) rfl ?_
    exact hend (nI (popN (bwoN (va_up T (ub (un - 1)) (ut (un - 1))) 0 8))) () _ _ _ _ (congrArg (fun z => some (Value.int z)) (by rw [hk]; rfl)) trivial rfl dX8_undo_31 (by rw [hk]; exact (hP.sub [0, 1, 6, 7, 2, 3, 4, 5] rfl)) (by rw [hk]; exact (hD.sub [0, 1, 6, 7, 2, 3, 4, 5] (by decide) rfl)) hS
  · have hk : kUndo un = 1 := if_pos c_7
    refine lv_aload_n xh bh dX8_undo_10 rfl (lv_at hl 0 rfl) ?_
    refine lv_bipush (v := (-3)) xh bh dX8_undo_11 (by decide) ?_
    refine Ct.callV (As := [.int (-3)]) (rest := []) (wr := [(h 0, .inr (2, [.ref (h 1), .ref (h 2), .ref (h 3), .ref (h 4), .ref (h 5), .ref (h 6), .ref (h 7), .long (eC row), .int (nI hc), .int (nI un)])), (h 1, .inl (cJ, 8, .inr (.inl (fC T)))), (h 2, .inl (cI, 8, .inl P)), (h 5, .inl (cI, 8, .inl (fN ub))), (h 6, .inl (cJ, 8, .inr (.inl (fC ut)))), (h 7, .inl (cI, 8, .inl up))]) xh bh hml hown hts hK hP hD hS hA (ct_X8_refuse1 l D cI cJ cB cZ cA e0 h y z d sc ru fu f0 ra k0 k1 rf ) (cwV 1 hts gX8_undo_X8_refuse rfl rfl rfl (by decide +kernel) ⟨Nat.le_of_ble_eq_true rfl, Nat.le_of_ble_eq_true rfl⟩) rfl rfl hl.1 (Nat.le_of_ble_eq_true rfl) dX8_undo_13 ⟨Nat.le_refl _, Nat.le_refl _⟩ 0 5 rfl rfl rfl [0, 1] [2, 3, 4, 5, 6, 7] rfl (by decide) rfl rfl (by decide) (by decide) (fun _ H locs _ hP hD hS => ?_)
    have hP : va_P D vwCl [(h 0, .inr (2, [.ref (h 1), .ref (h 2), .ref (h 3), .ref (h 4), .ref (h 5), .ref (h 6), .ref (h 7), .long (eC row), .int (nI hc), .int (nI un)])), (h 1, .inl (cJ, 8, .inr (.inl (fC T)))), (h 2, .inl (cI, 8, .inl P)), (h 5, .inl (cI, 8, .inl (fN ub))), (h 6, .inl (cJ, 8, .inr (.inl (fC ut)))), (h 7, .inl (cI, 8, .inl up)), (e0, .inr (5, [.ref (h 0), .ref (y 0), .ref (z 0), .ref (d 0), .ref sc, .ref ru, .ref fu, .ref f0, .ref ra, .int (ib k0), .int (ib k1)])), (ra, .inl (cI, 3, .inl (upd rf 1 ((rf 1) + nI 1))))] H := hP
    have hD : va_D AG [(h 0, .inr (2, [.ref (h 1), .ref (h 2), .ref (h 3), .ref (h 4), .ref (h 5), .ref (h 6), .ref (h 7), .long (eC row), .int (nI hc), .int (nI un)])), (h 1, .inl (cJ, 8, .inr (.inl (fC T)))), (h 2, .inl (cI, 8, .inl P)), (h 5, .inl (cI, 8, .inl (fN ub))), (h 6, .inl (cJ, 8, .inr (.inl (fC ut)))), (h 7, .inl (cI, 8, .inl up)), (e0, .inr (5, [.ref (h 0), .ref (y 0), .ref (z 0), .ref (d 0), .ref sc, .ref ru, .ref fu, .ref f0, .ref ra, .int (ib k0), .int (ib k1)])), (ra, .inl (cI, 3, .inl (upd rf 1 ((rf 1) + nI 1))))] := hD
    refine W.eq (g2 := F0 mG 16 ls [.int (-3)]) rfl ?_
    exact hend (-3) () _ _ _ _ (congrArg (fun z => some (Value.int z)) (by rw [hk]; rfl)) trivial rfl dX8_undo_16 (by rw [hk, show un - 1 = un by omega]; exact (hP.sub [6, 7, 0, 1, 2, 3, 4, 5] rfl)) (by rw [hk, show un - 1 = un by omega]; exact (hD.sub [6, 7, 0, 1, 2, 3, 4, 5] (by decide) rfl)) hS

set_option maxHeartbeats 1000000 in
set_option maxRecDepth 100000 in
theorem ct_X8_at (l : Launch) (D : va_G) (cI cJ cB cZ cA : ClassId) (e0 : Nat) (h : Nat → Nat) (y : Nat → Nat) (z : Nat → Nat) (d : Nat → Nat) (sc : Nat) (ru : Nat) (fu : Nat) (f0 : Nat) (ra : Nat) (k0 : Bool) (k1 : Bool) (T : Nat → List Nat) (row : List Nat) (hc : Nat) (un : Nat) (rf : Nat → Int32) (b : Int32) (i : Int32) (hT : ∀ k, okT (T k)) : Ct l yX8_at wsX8_at ({ frames := 3, cells := 0, slots := 0, locals := 62 }) D (tysG cI cJ cB cZ cA) [.ref e0, .int b, .int i] [(e0, .inr (5, [.ref (h 0), .ref (y 0), .ref (z 0), .ref (d 0), .ref sc, .ref ru, .ref fu, .ref f0, .ref ra, .int (ib k0), .int (ib k1)])), (ra, .inl (cI, 3, .inl rf)), (h 0, .inr (2, [.ref (h 1), .ref (h 2), .ref (h 3), .ref (h 4), .ref (h 5), .ref (h 6), .ref (h 7), .long (eC row), .int (nI hc), .int (nI un)])), (h 1, .inl (cJ, 8, .inr (.inl (fC T))))] (fun (_ : Unit) => True) (fun _ => some (.int (eAt (kAt b i) (T (xN b)) i))) (fun _ => [(e0, .inr (5, [.ref (h 0), .ref (y 0), .ref (z 0), .ref (d 0), .ref sc, .ref ru, .ref fu, .ref f0, .ref ra, .int (ib k0), .int (ib k1)])), (ra, .inl (cI, 3, .inl (rfU (kAt b i) rf))), (h 0, .inr (2, [.ref (h 1), .ref (h 2), .ref (h 3), .ref (h 4), .ref (h 5), .ref (h 6), .ref (h 7), .long (eC row), .int (nI hc), .int (nI un)])), (h 1, .inl (cJ, 8, .inr (.inl (fC T))))]) := by
  refine Ct.ofI (cc := cX8_at) (maxL := 5) (by decide) rfl (Nat.le_of_ble_eq_true rfl) ?_
  intro pG eG sG mG aG bG tG cG AG QG ls xh bh hml hown hts hK hP hD hS hA hend hl
  have hl : lv_has ls 5 [(0, .ref e0), (1, .int b), (2, .int i)] := hl
  refine lv_iload_n xh bh dX8_at_0 rfl (lv_at hl 1 rfl) ?_
  refine Ct.callS0 (rest := []) xh bh hml hown hts hK hP hS hA (ct_X8_isBranch l D cI cJ cB cZ cA b ) (va_cwS 1 hts gX8_at_X8_isBranch rfl rfl rfl (by decide +kernel) ⟨Nat.le_of_ble_eq_true rfl, Nat.le_of_ble_eq_true rfl⟩) rfl rfl hl.1 (Nat.le_of_ble_eq_true rfl) dX8_at_1 ⟨Nat.le_refl _, Nat.le_refl _⟩ (fun _ H locs _ hP hS => ?_)
  refine W.eq (g2 := F0 mG 4 ls [.int (ib (upB b 7))]) rfl ?_
  refine xb_if_eq (tgt := 12) xh bh dX8_at_4 (by decide) (fun c_4 => ?_) (fun c_4 => ?_)
  · have hk : kAt b i = 0 := if_neg (fun q => by rw [c_4] at q; exact absurd q.1 (by decide))
    refine lv_aload_n xh bh dX8_at_12 rfl (lv_at hl 0 rfl) ?_
    refine lv_bipush (v := (-2)) xh bh dX8_at_13 (by decide) ?_
    refine lv_bipush (v := (-10)) xh bh dX8_at_15 (by decide) ?_
    refine Ct.callV (As := [.int (-2), .int (-10)]) (rest := []) (wr := [(h 0, .inr (2, [.ref (h 1), .ref (h 2), .ref (h 3), .ref (h 4), .ref (h 5), .ref (h 6), .ref (h 7), .long (eC row), .int (nI hc), .int (nI un)])), (h 1, .inl (cJ, 8, .inr (.inl (fC T))))]) xh bh hml hown hts hK hP hD hS hA (ct_X8_refuse_0 l D cI cJ cB cZ cA e0 h y z d sc ru fu f0 ra k0 k1 rf (-10) ) (cwV 2 hts gX8_at_X8_refuse_ rfl rfl rfl (by decide +kernel) ⟨Nat.le_of_ble_eq_true rfl, Nat.le_of_ble_eq_true rfl⟩) rfl rfl hl.1 (Nat.le_of_ble_eq_true rfl) dX8_at_17 ⟨Nat.le_refl _, Nat.le_refl _⟩ 0 5 rfl rfl rfl [0, 1] [2, 3] rfl (by decide) rfl rfl (by decide) (by decide) (fun _ H locs _ hP hD hS => ?_)
    have hP : va_P D vwCl [(h 0, .inr (2, [.ref (h 1), .ref (h 2), .ref (h 3), .ref (h 4), .ref (h 5), .ref (h 6), .ref (h 7), .long (eC row), .int (nI hc), .int (nI un)])), (h 1, .inl (cJ, 8, .inr (.inl (fC T)))), (e0, .inr (5, [.ref (h 0), .ref (y 0), .ref (z 0), .ref (d 0), .ref sc, .ref ru, .ref fu, .ref f0, .ref ra, .int (ib k0), .int (ib k1)])), (ra, .inl (cI, 3, .inl (upd rf 0 ((rf 0) + nI 1))))] H := hP
    have hD : va_D AG [(h 0, .inr (2, [.ref (h 1), .ref (h 2), .ref (h 3), .ref (h 4), .ref (h 5), .ref (h 6), .ref (h 7), .long (eC row), .int (nI hc), .int (nI un)])), (h 1, .inl (cJ, 8, .inr (.inl (fC T)))), (e0, .inr (5, [.ref (h 0), .ref (y 0), .ref (z 0), .ref (d 0), .ref sc, .ref ru, .ref fu, .ref f0, .ref ra, .int (ib k0), .int (ib k1)])), (ra, .inl (cI, 3, .inl (upd rf 0 ((rf 0) + nI 1))))] := hD
    refine W.eq (g2 := F0 mG 20 ls [.int (-10)]) rfl ?_
    exact hend (-10) () _ _ _ _ (congrArg (fun z => some (Value.int z)) (by rw [hk]; rfl)) trivial rfl dX8_at_20 (by rw [hk]; exact (hP.sub [2, 3, 0, 1] rfl)) (by rw [hk]; exact (hD.sub [2, 3, 0, 1] (by decide) rfl)) hS
  · refine lv_iload_n xh bh dX8_at_7 rfl (lv_at hl 2 rfl) ?_
    refine lv_iconst (v := (-1)) xh bh dX8_at_8 (by decide) ?_
    refine lv_icmp_ge (tgt := 21) xh bh dX8_at_9 (by decide) (fun c_9 => ?_) (fun c_9 => ?_)
    · have hk : kAt b i = 3 := if_pos ⟨c_4, c_9⟩
      obtain ⟨k, hk9, rfl⟩ := upB_of (by decide) c_4
      refine lv_aload_n xh bh dX8_at_21 rfl (lv_at hl 0 rfl) ?_
      refine va_get (D := D) (ci := 5) (v := .ref (h 0)) (C := RX8) (T := TX8) (N := 11) xh bh hts (fun _ h => List.mem_cons_of_mem _ (List.mem_append_left _ (List.mem_append_right _ (h)))) hown hK.1 hP 0 rfl rfl 0 (by decide) (hts _ (List.mem_of_getElem? (i := 1) rfl)) (fun _ h9 => h9) rfl dX8_at_22 ?_
      refine lv_iload_n xh bh dX8_at_25 rfl (lv_at hl 1 rfl) ?_
      refine Ct.callV (As := [.int (nI k)]) (rest := []) (wr := [(e0, .inr (5, [.ref (h 0), .ref (y 0), .ref (z 0), .ref (d 0), .ref sc, .ref ru, .ref fu, .ref f0, .ref ra, .int (ib k0), .int (ib k1)])), (ra, .inl (cI, 3, .inl rf))]) xh bh hml hown hts hK hP hD hS hA (ct_X3_taleOf l D cI cJ cB cZ cA h T row hc un k (by first | omega | assumption)) (cwV 1 hts gX8_at_X3_taleOf rfl rfl rfl (by decide +kernel) ⟨Nat.le_of_ble_eq_true rfl, Nat.le_of_ble_eq_true rfl⟩) rfl rfl hl.1 (Nat.le_of_ble_eq_true rfl) dX8_at_26 ⟨Nat.le_refl _, Nat.le_refl _⟩ 0 2 rfl rfl rfl [2, 3] [0, 1] rfl (by decide) rfl rfl (by decide) (by decide) (fun _ H locs _ hP hD hS => ?_)
      have hP : va_P D vwCl [(e0, .inr (5, [.ref (h 0), .ref (y 0), .ref (z 0), .ref (d 0), .ref sc, .ref ru, .ref fu, .ref f0, .ref ra, .int (ib k0), .int (ib k1)])), (ra, .inl (cI, 3, .inl rf)), (h 0, .inr (2, [.ref (h 1), .ref (h 2), .ref (h 3), .ref (h 4), .ref (h 5), .ref (h 6), .ref (h 7), .long (eC row), .int (nI hc), .int (nI un)])), (h 1, .inl (cJ, 8, .inr (.inl (fC T))))] H := hP
      have hD : va_D AG [(e0, .inr (5, [.ref (h 0), .ref (y 0), .ref (z 0), .ref (d 0), .ref sc, .ref ru, .ref fu, .ref f0, .ref ra, .int (ib k0), .int (ib k1)])), (ra, .inl (cI, 3, .inl rf)), (h 0, .inr (2, [.ref (h 1), .ref (h 2), .ref (h 3), .ref (h 4), .ref (h 5), .ref (h 6), .ref (h 7), .long (eC row), .int (nI hc), .int (nI un)])), (h 1, .inl (cJ, 8, .inr (.inl (fC T))))] := hD
      refine W.eq (g2 := F0 mG 29 ls [.long (eC (T k))]) rfl ?_
      refine lv_lstore_n (lv' := [(3, .long (eC (T k))), (0, .ref e0), (1, .int (nI k)), (2, .int i)]) xh bh dX8_at_29 rfl hl (by decide) rfl (fun ls hl => ?_)
      refine lv_iload_n xh bh dX8_at_30 rfl (lv_at hl 3 rfl) ?_
      refine lv_iconst (v := (-1)) xh bh dX8_at_31 (by decide) ?_
      refine lv_icmp_ne (tgt := 40) xh bh dX8_at_32 (by decide) (fun c_32 => ?_) (fun c_32 => ?_)
      · obtain ⟨j, hj, rfl⟩ := nn_of c_9 c_32
        refine lv_iload_n xh bh dX8_at_40 rfl (lv_at hl 3 rfl) ?_
        refine lv_lload_n xh bh dX8_at_41 rfl (lv_at hl 0 rfl) ?_
        refine Ct.callS0 (rest := [.int (nI j)]) xh bh hml hown hts hK hP hS hA (ct_X7_sizeOf l D cI cJ cB cZ cA (T k) (by exact hT _)) (va_cwS 1 hts gX8_at_X7_sizeOf rfl rfl rfl (by decide +kernel) ⟨Nat.le_of_ble_eq_true rfl, Nat.le_of_ble_eq_true rfl⟩) rfl rfl hl.1 (Nat.le_of_ble_eq_true rfl) dX8_at_42 ⟨Nat.le_refl _, Nat.le_refl _⟩ (fun _ H locs _ hP hS => ?_)
        refine W.eq (g2 := F0 mG 45 ls [.int (nI ((T k).length)), .int (nI j)]) rfl ?_
        refine xn_icmp_ge (tgt := 56) xh bh dX8_at_45 (by decide) (by have := (hT k).1; omega) (by have := (hT k).1; omega) (fun c_45 => ?_) (fun c_45 => ?_)
        · refine lv_bipush (v := (-5)) xh bh dX8_at_56 (by decide) ?_
          exact hend (-5) () _ _ _ _ (congrArg (fun z => some (Value.int z)) (by rw [hk]; show (if _ then _ else _) = _; rw [xN_nI (k := k) (by omega), if_neg c_32]; first | (rw [if_pos ((nI_ltI (by omega) (by have := (hT k).1; omega)).mpr c_45), xN_nI (by omega)]) | exact if_neg (fun q => absurd ((nI_ltI (by omega) (by have := (hT k).1; omega)).mp q) (by omega)))) trivial rfl dX8_at_58 (by rw [hk]; exact hP) (by rw [hk]; exact hD) hS
        · refine lv_lload_n xh bh dX8_at_48 rfl (lv_at hl 0 rfl) ?_
          refine lv_iload_n xh bh dX8_at_49 rfl (lv_at hl 3 rfl) ?_
          refine Ct.callS0 (rest := []) xh bh hml hown hts hK hP hS hA (ct_X7_partIn l D cI cJ cB cZ cA (T k) j (by exact hT _) (by have := (hT k).1; omega)) (va_cwS 2 hts gX8_at_X7_partIn rfl rfl rfl (by decide +kernel) ⟨Nat.le_of_ble_eq_true rfl, Nat.le_of_ble_eq_true rfl⟩) rfl rfl hl.1 (Nat.le_of_ble_eq_true rfl) dX8_at_50 ⟨Nat.le_refl _, Nat.le_refl _⟩ (fun _ H locs _ hP hS => ?_)
          refine W.eq (g2 := F0 mG 53 ls [.int (nI ((T k).getD j 0))]) rfl ?_
          refine lv_goto (tgt := 58) xh bh dX8_at_53 (by decide) ?_
          exact hend (nI ((T k).getD j 0)) () _ _ _ _ (congrArg (fun z => some (Value.int z)) (by rw [hk]; show (if _ then _ else _) = _; rw [xN_nI (k := k) (by omega), if_neg c_32]; first | (rw [if_pos ((nI_ltI (by omega) (by have := (hT k).1; omega)).mpr c_45), xN_nI (by omega)]) | exact if_neg (fun q => absurd ((nI_ltI (by omega) (by have := (hT k).1; omega)).mp q) (by omega)))) trivial rfl dX8_at_58 (by rw [hk]; exact hP) (by rw [hk]; exact hD) hS
      · refine lv_lload_n xh bh dX8_at_35 rfl (lv_at hl 0 rfl) ?_
        refine Ct.callS0 (rest := []) xh bh hml hown hts hK hP hS hA (ct_X7_sizeOf l D cI cJ cB cZ cA (T k) (by exact hT _)) (va_cwS 1 hts gX8_at_X7_sizeOf rfl rfl rfl (by decide +kernel) ⟨Nat.le_of_ble_eq_true rfl, Nat.le_of_ble_eq_true rfl⟩) rfl rfl hl.1 (Nat.le_of_ble_eq_true rfl) dX8_at_36 ⟨Nat.le_refl _, Nat.le_refl _⟩ (fun _ H locs _ hP hS => ?_)
        refine W.eq (g2 := F0 mG 39 ls [.int (nI ((T k).length))]) rfl ?_
        exact hend (nI ((T k).length)) () _ _ _ _ (congrArg (fun z => some (Value.int z)) (by rw [hk]; show (if _ then _ else _) = _; rw [xN_nI (k := k) (by omega)]; exact if_pos c_32)) trivial rfl dX8_at_39 (by rw [hk]; exact hP) (by rw [hk]; exact hD) hS
    · have hk : kAt b i = 0 := if_neg (fun q => c_9 q.2)
      refine lv_aload_n xh bh dX8_at_12 rfl (lv_at hl 0 rfl) ?_
      refine lv_bipush (v := (-2)) xh bh dX8_at_13 (by decide) ?_
      refine lv_bipush (v := (-10)) xh bh dX8_at_15 (by decide) ?_
      refine Ct.callV (As := [.int (-2), .int (-10)]) (rest := []) (wr := [(h 0, .inr (2, [.ref (h 1), .ref (h 2), .ref (h 3), .ref (h 4), .ref (h 5), .ref (h 6), .ref (h 7), .long (eC row), .int (nI hc), .int (nI un)])), (h 1, .inl (cJ, 8, .inr (.inl (fC T))))]) xh bh hml hown hts hK hP hD hS hA (ct_X8_refuse_0 l D cI cJ cB cZ cA e0 h y z d sc ru fu f0 ra k0 k1 rf (-10) ) (cwV 2 hts gX8_at_X8_refuse_ rfl rfl rfl (by decide +kernel) ⟨Nat.le_of_ble_eq_true rfl, Nat.le_of_ble_eq_true rfl⟩) rfl rfl hl.1 (Nat.le_of_ble_eq_true rfl) dX8_at_17 ⟨Nat.le_refl _, Nat.le_refl _⟩ 0 5 rfl rfl rfl [0, 1] [2, 3] rfl (by decide) rfl rfl (by decide) (by decide) (fun _ H locs _ hP hD hS => ?_)
      have hP : va_P D vwCl [(h 0, .inr (2, [.ref (h 1), .ref (h 2), .ref (h 3), .ref (h 4), .ref (h 5), .ref (h 6), .ref (h 7), .long (eC row), .int (nI hc), .int (nI un)])), (h 1, .inl (cJ, 8, .inr (.inl (fC T)))), (e0, .inr (5, [.ref (h 0), .ref (y 0), .ref (z 0), .ref (d 0), .ref sc, .ref ru, .ref fu, .ref f0, .ref ra, .int (ib k0), .int (ib k1)])), (ra, .inl (cI, 3, .inl (upd rf 0 ((rf 0) + nI 1))))] H := hP
      have hD : va_D AG [(h 0, .inr (2, [.ref (h 1), .ref (h 2), .ref (h 3), .ref (h 4), .ref (h 5), .ref (h 6), .ref (h 7), .long (eC row), .int (nI hc), .int (nI un)])), (h 1, .inl (cJ, 8, .inr (.inl (fC T)))), (e0, .inr (5, [.ref (h 0), .ref (y 0), .ref (z 0), .ref (d 0), .ref sc, .ref ru, .ref fu, .ref f0, .ref ra, .int (ib k0), .int (ib k1)])), (ra, .inl (cI, 3, .inl (upd rf 0 ((rf 0) + nI 1))))] := hD
      refine W.eq (g2 := F0 mG 20 ls [.int (-10)]) rfl ?_
      exact hend (-10) () _ _ _ _ (congrArg (fun z => some (Value.int z)) (by rw [hk]; rfl)) trivial rfl dX8_at_20 (by rw [hk]; exact (hP.sub [2, 3, 0, 1] rfl)) (by rw [hk]; exact (hD.sub [2, 3, 0, 1] (by decide) rfl)) hS

set_option maxHeartbeats 1000000 in
set_option maxRecDepth 100000 in
theorem ct_X8_parent (l : Launch) (D : va_G) (cI cJ cB cZ cA : ClassId) (e0 : Nat) (h : Nat → Nat) (y : Nat → Nat) (z : Nat → Nat) (d : Nat → Nat) (sc : Nat) (ru : Nat) (fu : Nat) (f0 : Nat) (ra : Nat) (k0 : Bool) (k1 : Bool) (P : Nat → Int32) (row : List Nat) (hc : Nat) (un : Nat) (rf : Nat → Int32) (b : Int32) : Ct l yX8_parent wsX8_parent ({ frames := 3, cells := 0, slots := 0, locals := 62 }) D (tysG cI cJ cB cZ cA) [.ref e0, .int b] [(e0, .inr (5, [.ref (h 0), .ref (y 0), .ref (z 0), .ref (d 0), .ref sc, .ref ru, .ref fu, .ref f0, .ref ra, .int (ib k0), .int (ib k1)])), (ra, .inl (cI, 3, .inl rf)), (h 0, .inr (2, [.ref (h 1), .ref (h 2), .ref (h 3), .ref (h 4), .ref (h 5), .ref (h 6), .ref (h 7), .long (eC row), .int (nI hc), .int (nI un)])), (h 2, .inl (cI, 8, .inl P))] (fun (_ : Unit) => True) (fun _ => some (.int (eParent (kBr b) (P (xN b))))) (fun _ => [(e0, .inr (5, [.ref (h 0), .ref (y 0), .ref (z 0), .ref (d 0), .ref sc, .ref ru, .ref fu, .ref f0, .ref ra, .int (ib k0), .int (ib k1)])), (ra, .inl (cI, 3, .inl (rfU (kBr b) rf))), (h 0, .inr (2, [.ref (h 1), .ref (h 2), .ref (h 3), .ref (h 4), .ref (h 5), .ref (h 6), .ref (h 7), .long (eC row), .int (nI hc), .int (nI un)])), (h 2, .inl (cI, 8, .inl P))]) := by
  refine Ct.ofI (cc := cX8_parent) (maxL := 2) (by decide) rfl (Nat.le_of_ble_eq_true rfl) ?_
  intro pG eG sG mG aG bG tG cG AG QG ls xh bh hml hown hts hK hP hD hS hA hend hl
  have hl : lv_has ls 2 [(0, .ref e0), (1, .int b)] := hl
  refine lv_iload_n xh bh dX8_parent_0 rfl (lv_at hl 1 rfl) ?_
  refine Ct.callS0 (rest := []) xh bh hml hown hts hK hP hS hA (ct_X8_isBranch l D cI cJ cB cZ cA b ) (va_cwS 1 hts gX8_parent_X8_isBranch rfl rfl rfl (by decide +kernel) ⟨Nat.le_of_ble_eq_true rfl, Nat.le_of_ble_eq_true rfl⟩) rfl rfl hl.1 (Nat.le_of_ble_eq_true rfl) dX8_parent_1 ⟨Nat.le_refl _, Nat.le_refl _⟩ (fun _ H locs _ hP hS => ?_)
  refine W.eq (g2 := F0 mG 4 ls [.int (ib (upB b 7))]) rfl ?_
  refine xb_if_eq (tgt := 18) xh bh dX8_parent_4 (by decide) (fun c_4 => ?_) (fun c_4 => ?_)
  · have hk : kBr b = 0 := if_neg (by rw [c_4]; decide)
    refine lv_aload_n xh bh dX8_parent_18 rfl (lv_at hl 0 rfl) ?_
    refine lv_bipush (v := (-2)) xh bh dX8_parent_19 (by decide) ?_
    refine Ct.callV (As := [.int (-2)]) (rest := []) (wr := [(h 0, .inr (2, [.ref (h 1), .ref (h 2), .ref (h 3), .ref (h 4), .ref (h 5), .ref (h 6), .ref (h 7), .long (eC row), .int (nI hc), .int (nI un)])), (h 2, .inl (cI, 8, .inl P))]) xh bh hml hown hts hK hP hD hS hA (ct_X8_refuse0 l D cI cJ cB cZ cA e0 h y z d sc ru fu f0 ra k0 k1 rf ) (cwV 1 hts gX8_parent_X8_refuse rfl rfl rfl (by decide +kernel) ⟨Nat.le_of_ble_eq_true rfl, Nat.le_of_ble_eq_true rfl⟩) rfl rfl hl.1 (Nat.le_of_ble_eq_true rfl) dX8_parent_21 ⟨Nat.le_refl _, Nat.le_refl _⟩ 0 5 rfl rfl rfl [0, 1] [2, 3] rfl (by decide) rfl rfl (by decide) (by decide) (fun _ H locs _ hP hD hS => ?_)
    have hP : va_P D vwCl [(h 0, .inr (2, [.ref (h 1), .ref (h 2), .ref (h 3), .ref (h 4), .ref (h 5), .ref (h 6), .ref (h 7), .long (eC row), .int (nI hc), .int (nI un)])), (h 2, .inl (cI, 8, .inl P)), (e0, .inr (5, [.ref (h 0), .ref (y 0), .ref (z 0), .ref (d 0), .ref sc, .ref ru, .ref fu, .ref f0, .ref ra, .int (ib k0), .int (ib k1)])), (ra, .inl (cI, 3, .inl (upd rf 0 ((rf 0) + nI 1))))] H := hP
    have hD : va_D AG [(h 0, .inr (2, [.ref (h 1), .ref (h 2), .ref (h 3), .ref (h 4), .ref (h 5), .ref (h 6), .ref (h 7), .long (eC row), .int (nI hc), .int (nI un)])), (h 2, .inl (cI, 8, .inl P)), (e0, .inr (5, [.ref (h 0), .ref (y 0), .ref (z 0), .ref (d 0), .ref sc, .ref ru, .ref fu, .ref f0, .ref ra, .int (ib k0), .int (ib k1)])), (ra, .inl (cI, 3, .inl (upd rf 0 ((rf 0) + nI 1))))] := hD
    refine W.eq (g2 := F0 mG 24 ls [.int (-2)]) rfl ?_
    exact hend (-2) () _ _ _ _ (congrArg (fun z => some (Value.int z)) (by rw [hk]; first | rfl | (rw [xN_nI (by omega)]; rfl))) trivial rfl dX8_parent_24 (by rw [hk]; exact (hP.sub [2, 3, 0, 1] rfl)) (by rw [hk]; exact (hD.sub [2, 3, 0, 1] (by decide) rfl)) hS
  · have hk : kBr b = 3 := if_pos c_4
    obtain ⟨k, hk9, rfl⟩ := upB_of (by decide) c_4
    refine lv_aload_n xh bh dX8_parent_7 rfl (lv_at hl 0 rfl) ?_
    refine va_get (D := D) (ci := 5) (v := .ref (h 0)) (C := RX8) (T := TX8) (N := 11) xh bh hts (fun _ h => List.mem_cons_of_mem _ (List.mem_append_left _ (List.mem_append_right _ (h)))) hown hK.1 hP 0 rfl rfl 0 (by decide) (hts _ (List.mem_of_getElem? (i := 1) rfl)) (fun _ h9 => h9) rfl dX8_parent_8 ?_
    refine lv_iload_n xh bh dX8_parent_11 rfl (lv_at hl 1 rfl) ?_
    refine Ct.callV (As := [.int (nI k)]) (rest := []) (wr := [(e0, .inr (5, [.ref (h 0), .ref (y 0), .ref (z 0), .ref (d 0), .ref sc, .ref ru, .ref fu, .ref f0, .ref ra, .int (ib k0), .int (ib k1)])), (ra, .inl (cI, 3, .inl rf))]) xh bh hml hown hts hK hP hD hS hA (ct_X3_parentOf l D cI cJ cB cZ cA h P row hc un k (by first | omega | assumption)) (cwV 1 hts gX8_parent_X3_parentOf rfl rfl rfl (by decide +kernel) ⟨Nat.le_of_ble_eq_true rfl, Nat.le_of_ble_eq_true rfl⟩) rfl rfl hl.1 (Nat.le_of_ble_eq_true rfl) dX8_parent_12 ⟨Nat.le_refl _, Nat.le_refl _⟩ 0 2 rfl rfl rfl [2, 3] [0, 1] rfl (by decide) rfl rfl (by decide) (by decide) (fun _ H locs _ hP hD hS => ?_)
    have hP : va_P D vwCl [(e0, .inr (5, [.ref (h 0), .ref (y 0), .ref (z 0), .ref (d 0), .ref sc, .ref ru, .ref fu, .ref f0, .ref ra, .int (ib k0), .int (ib k1)])), (ra, .inl (cI, 3, .inl rf)), (h 0, .inr (2, [.ref (h 1), .ref (h 2), .ref (h 3), .ref (h 4), .ref (h 5), .ref (h 6), .ref (h 7), .long (eC row), .int (nI hc), .int (nI un)])), (h 2, .inl (cI, 8, .inl P))] H := hP
    have hD : va_D AG [(e0, .inr (5, [.ref (h 0), .ref (y 0), .ref (z 0), .ref (d 0), .ref sc, .ref ru, .ref fu, .ref f0, .ref ra, .int (ib k0), .int (ib k1)])), (ra, .inl (cI, 3, .inl rf)), (h 0, .inr (2, [.ref (h 1), .ref (h 2), .ref (h 3), .ref (h 4), .ref (h 5), .ref (h 6), .ref (h 7), .long (eC row), .int (nI hc), .int (nI un)])), (h 2, .inl (cI, 8, .inl P))] := hD
    refine W.eq (g2 := F0 mG 15 ls [.int (P k)]) rfl ?_
    refine lv_goto (tgt := 24) xh bh dX8_parent_15 (by decide) ?_
    exact hend (P k) () _ _ _ _ (congrArg (fun z => some (Value.int z)) (by rw [hk]; first | rfl | (rw [xN_nI (by omega)]; rfl))) trivial rfl dX8_parent_24 (by rw [hk]; exact hP) (by rw [hk]; exact hD) hS

set_option maxHeartbeats 1000000 in
set_option maxRecDepth 100000 in
theorem ct_X8_pointless (l : Launch) (D : va_G) (cI cJ cB cZ cA : ClassId) (e0 : Nat) (h : Nat → Nat) (y : Nat → Nat) (z : Nat → Nat) (d : Nat → Nat) (sc : Nat) (ru : Nat) (fu : Nat) (f0 : Nat) (ra : Nat) (k0 : Bool) (k1 : Bool) (T : Nat → List Nat) (row : List Nat) (hc : Nat) (un : Nat) (rf : Nat → Int32) (hT : ∀ k, okT (T k)) : Ct l yX8_pointless wsX8_pointless ({ frames := 3, cells := 0, slots := 0, locals := 67 }) D (tysG cI cJ cB cZ cA) [.ref e0] [(e0, .inr (5, [.ref (h 0), .ref (y 0), .ref (z 0), .ref (d 0), .ref sc, .ref ru, .ref fu, .ref f0, .ref ra, .int (ib k0), .int (ib k1)])), (ra, .inl (cI, 3, .inl rf)), (h 0, .inr (2, [.ref (h 1), .ref (h 2), .ref (h 3), .ref (h 4), .ref (h 5), .ref (h 6), .ref (h 7), .long (eC row), .int (nI hc), .int (nI un)])), (h 1, .inl (cJ, 8, .inr (.inl (fC T))))] (fun (_ : Unit) => True) (fun _ => some (.int (plI T 0 8))) (fun _ => [(e0, .inr (5, [.ref (h 0), .ref (y 0), .ref (z 0), .ref (d 0), .ref sc, .ref ru, .ref fu, .ref f0, .ref ra, .int (ib k0), .int (ib k1)])), (ra, .inl (cI, 3, .inl rf)), (h 0, .inr (2, [.ref (h 1), .ref (h 2), .ref (h 3), .ref (h 4), .ref (h 5), .ref (h 6), .ref (h 7), .long (eC row), .int (nI hc), .int (nI un)])), (h 1, .inl (cJ, 8, .inr (.inl (fC T))))]) := by
  refine Ct.ofI (cc := cX8_pointless) (maxL := 4) (by decide) rfl (Nat.le_of_ble_eq_true rfl) ?_
  intro pG eG sG mG aG bG tG cG AG QG ls xh bh hml hown hts hK hP hD hS hA hend hl
  have hl : lv_has ls 4 [(0, .ref e0)] := hl
  refine lv_iconst (v := (nI 0)) xh bh dX8_pointless_0 (by decide) ?_
  refine lv_istore_n (lv' := [(1, .int (nI 0)), (0, .ref e0)]) xh bh dX8_pointless_1 rfl hl (by decide) rfl (fun ls hl => ?_)
  have cut_2 : ∀ (n_2 : Nat), ∀ (b : Nat), (b ≤ 8) → (plI T 0 8 = plI T b (8 - b)) → (8 - b) < n_2 → ∀ (H : Heap) (locs : List Loc) (ls : Array Slot), va_P D vwCl [(e0, .inr (5, [.ref (h 0), .ref (y 0), .ref (z 0), .ref (d 0), .ref sc, .ref ru, .ref fu, .ref f0, .ref ra, .int (ib k0), .int (ib k1)])), (ra, .inl (cI, 3, .inl rf)), (h 0, .inr (2, [.ref (h 1), .ref (h 2), .ref (h 3), .ref (h 4), .ref (h 5), .ref (h 6), .ref (h 7), .long (eC row), .int (nI hc), .int (nI un)])), (h 1, .inl (cJ, 8, .inr (.inl (fC T))))] H → va_D AG [(e0, .inr (5, [.ref (h 0), .ref (y 0), .ref (z 0), .ref (d 0), .ref sc, .ref ru, .ref fu, .ref f0, .ref ra, .int (ib k0), .int (ib k1)])), (ra, .inl (cI, 3, .inl rf)), (h 0, .inr (2, [.ref (h 1), .ref (h 2), .ref (h 3), .ref (h 4), .ref (h 5), .ref (h 6), .ref (h 7), .long (eC row), .int (nI hc), .int (nI un)])), (h 1, .inl (cJ, 8, .inr (.inl (fC T))))] → va_S AG sG.heap H locs → lv_has ls 4 [(0, .ref e0), (1, .int (nI b))] → W pG l eG ({ frames := 3, cells := 0, slots := 0, locals := 67 }) sG mG aG bG tG cG H locs 0 0 QG (F0 mG 2 ls []) := by
    intro n_2
    induction n_2 with
    | zero =>
      intro b hb hr hmu
      exact absurd hmu (Nat.not_lt_zero _)
    | succ n_2 ih_2 =>
      intro b hb hr hmu H locs ls hP hD hS hl
      refine lv_iload_n xh bh dX8_pointless_2 rfl (lv_at hl 1 rfl) ?_
      refine lv_bipush (v := (nI 8)) xh bh dX8_pointless_3 (by decide) ?_
      refine xn_icmp_ge (tgt := 40) xh bh dX8_pointless_5 (by decide) (by omega) (by omega) (fun c_5 => ?_) (fun c_5 => ?_)
      · refine lv_iconst (v := (-1)) xh bh dX8_pointless_40 (by decide) ?_
        exact hend (-1) () _ _ _ _ (congrArg (fun z => some (Value.int z)) (by rw [hr, show 8 - b = 0 by omega]; rfl)) trivial rfl dX8_pointless_41 hP hD hS
      · refine lv_aload_n xh bh dX8_pointless_8 rfl (lv_at hl 0 rfl) ?_
        refine va_get (D := D) (ci := 5) (v := .ref (h 0)) (C := RX8) (T := TX8) (N := 11) xh bh hts (fun _ h => List.mem_cons_of_mem _ (List.mem_append_left _ (List.mem_append_right _ (h)))) hown hK.1 hP 0 rfl rfl 0 (by decide) (hts _ (List.mem_of_getElem? (i := 1) rfl)) (fun _ h9 => h9) rfl dX8_pointless_9 ?_
        refine lv_iload_n xh bh dX8_pointless_12 rfl (lv_at hl 1 rfl) ?_
        refine Ct.callV (As := [.int (nI b)]) (rest := []) (wr := [(e0, .inr (5, [.ref (h 0), .ref (y 0), .ref (z 0), .ref (d 0), .ref sc, .ref ru, .ref fu, .ref f0, .ref ra, .int (ib k0), .int (ib k1)])), (ra, .inl (cI, 3, .inl rf))]) xh bh hml hown hts hK hP hD hS hA (ct_X3_taleOf l D cI cJ cB cZ cA h T row hc un b (by first | omega | assumption)) (cwV 1 hts gX8_pointless_X3_taleOf rfl rfl rfl (by decide +kernel) ⟨Nat.le_of_ble_eq_true rfl, Nat.le_of_ble_eq_true rfl⟩) rfl rfl hl.1 (Nat.le_of_ble_eq_true rfl) dX8_pointless_13 ⟨Nat.le_refl _, Nat.le_refl _⟩ 0 2 rfl rfl rfl [2, 3] [0, 1] rfl (by decide) rfl rfl (by decide) (by decide) (fun _ H locs _ hP hD hS => ?_)
        have hP : va_P D vwCl [(e0, .inr (5, [.ref (h 0), .ref (y 0), .ref (z 0), .ref (d 0), .ref sc, .ref ru, .ref fu, .ref f0, .ref ra, .int (ib k0), .int (ib k1)])), (ra, .inl (cI, 3, .inl rf)), (h 0, .inr (2, [.ref (h 1), .ref (h 2), .ref (h 3), .ref (h 4), .ref (h 5), .ref (h 6), .ref (h 7), .long (eC row), .int (nI hc), .int (nI un)])), (h 1, .inl (cJ, 8, .inr (.inl (fC T))))] H := hP
        have hD : va_D AG [(e0, .inr (5, [.ref (h 0), .ref (y 0), .ref (z 0), .ref (d 0), .ref sc, .ref ru, .ref fu, .ref f0, .ref ra, .int (ib k0), .int (ib k1)])), (ra, .inl (cI, 3, .inl rf)), (h 0, .inr (2, [.ref (h 1), .ref (h 2), .ref (h 3), .ref (h 4), .ref (h 5), .ref (h 6), .ref (h 7), .long (eC row), .int (nI hc), .int (nI un)])), (h 1, .inl (cJ, 8, .inr (.inl (fC T))))] := hD
        refine W.eq (g2 := F0 mG 16 ls [.long (eC (T b))]) rfl ?_
        refine lv_lstore_n (lv' := [(2, .long (eC (T b))), (0, .ref e0), (1, .int (nI b))]) xh bh dX8_pointless_16 rfl hl (by decide) rfl (fun ls hl => ?_)
        refine lv_lload_n xh bh dX8_pointless_17 rfl (lv_at hl 0 rfl) ?_
        refine lv_lconst (v := lN 0) xh bh dX8_pointless_18 (by decide) ?_
        refine W.lcmp xh bh dX8_pointless_19 ?_
        refine xt_if_eqC (tgt := 34) xh bh dX8_pointless_20 (by decide) (by exact hT _) (fun c_20 => ?_) (fun c_20 => ?_)
        · refine lv_iinc (v := (nI (b + 1))) (lv' := [(1, .int (nI (b + 1))), (2, .long (eC (T b))), (0, .ref e0)]) xh bh dX8_pointless_34 hl (k := 2) rfl (by exact xn_inc _ _) (by decide) rfl (fun ls hl => ?_)
          refine lv_goto (tgt := 2) xh bh dX8_pointless_37 (by decide) ?_
          exact ih_2 (b + 1) (by omega) (by rw [hr, show 8 - b = (8 - (b + 1)) + 1 by omega]; first | exact plI_n (fun q => q.1 c_20) | exact plI_n (fun q => q.2 (of_decide_eq_true c_29))) (by omega) _ _ ls hP hD hS (lv_sub hl [2, 0] rfl)
        · refine lv_lload_n xh bh dX8_pointless_23 rfl (lv_at hl 0 rfl) ?_
          refine lv_bipush (v := (nI 9)) xh bh dX8_pointless_24 (by decide) ?_
          refine Ct.callS0 (rest := []) xh bh hml hown hts hK hP hS hA (ct_X7_has l D cI cJ cB cZ cA (T b) 9 (by exact hT _) (by first | omega | assumption)) (va_cwS 2 hts gX8_pointless_X7_has rfl rfl rfl (by decide +kernel) ⟨Nat.le_of_ble_eq_true rfl, Nat.le_of_ble_eq_true rfl⟩) rfl rfl hl.1 (Nat.le_of_ble_eq_true rfl) dX8_pointless_26 ⟨Nat.le_refl _, Nat.le_refl _⟩ (fun _ H locs _ hP hS => ?_)
          refine W.eq (g2 := F0 mG 29 ls [.int (ib (decide (9 ∈ (T b))))]) rfl ?_
          refine xb_if_ne (tgt := 34) xh bh dX8_pointless_29 (by decide) (fun c_29 => ?_) (fun c_29 => ?_)
          · refine lv_iinc (v := (nI (b + 1))) (lv' := [(1, .int (nI (b + 1))), (2, .long (eC (T b))), (0, .ref e0)]) xh bh dX8_pointless_34 hl (k := 2) rfl (by exact xn_inc _ _) (by decide) rfl (fun ls hl => ?_)
            refine lv_goto (tgt := 2) xh bh dX8_pointless_37 (by decide) ?_
            exact ih_2 (b + 1) (by omega) (by rw [hr, show 8 - b = (8 - (b + 1)) + 1 by omega]; first | exact plI_n (fun q => q.1 c_20) | exact plI_n (fun q => q.2 (of_decide_eq_true c_29))) (by omega) _ _ ls hP hD hS (lv_sub hl [2, 0] rfl)
          · refine lv_iload_n xh bh dX8_pointless_32 rfl (lv_at hl 2 rfl) ?_
            exact hend (nI b) () _ _ _ _ (congrArg (fun z => some (Value.int z)) (by rw [hr, show 8 - b = (8 - (b + 1)) + 1 by omega]; exact plI_y c_20 (of_decide_eq_false c_29))) trivial rfl dX8_pointless_33 hP hD hS
  exact cut_2 (8 - 0 + 1) 0 (by exact Nat.zero_le _) (by rfl) (Nat.lt_succ_self _) _ _ ls hP hD hS (lv_sub hl [1, 0] rfl)

set_option maxHeartbeats 1000000 in
set_option maxRecDepth 100000 in
theorem ct_X8_older (l : Launch) (D : va_G) (cI cJ cB cZ cA : ClassId) (e0 : Nat) (h : Nat → Nat) (y : Nat → Nat) (z : Nat → Nat) (d : Nat → Nat) (sc : Nat) (ru : Nat) (fu : Nat) (f0 : Nat) (ra : Nat) (k0 : Bool) (k1 : Bool) (T : Nat → List Nat) (row : List Nat) (hc : Nat) (un : Nat) (rf : Nat → Int32) (x : Int32) (w : Int32) (hT : ∀ k, okT (T k)) : Ct l yX8_older wsX8_older ({ frames := 3, cells := 0, slots := 0, locals := 66 }) D (tysG cI cJ cB cZ cA) [.ref e0, .int x, .int w] [(e0, .inr (5, [.ref (h 0), .ref (y 0), .ref (z 0), .ref (d 0), .ref sc, .ref ru, .ref fu, .ref f0, .ref ra, .int (ib k0), .int (ib k1)])), (ra, .inl (cI, 3, .inl rf)), (h 0, .inr (2, [.ref (h 1), .ref (h 2), .ref (h 3), .ref (h 4), .ref (h 5), .ref (h 6), .ref (h 7), .long (eC row), .int (nI hc), .int (nI un)])), (h 1, .inl (cJ, 8, .inr (.inl (fC T))))] (fun (_ : Unit) => True) (fun _ => some (.int (eOld (kTwo x w) (oldN (unT' (T (xN x))) (unT' (T (xN w))) (T (xN x)).length (T (xN w)).length)))) (fun _ => [(e0, .inr (5, [.ref (h 0), .ref (y 0), .ref (z 0), .ref (d 0), .ref sc, .ref ru, .ref fu, .ref f0, .ref ra, .int (ib k0), .int (ib k1)])), (ra, .inl (cI, 3, .inl (rfU (kTwo x w) rf))), (h 0, .inr (2, [.ref (h 1), .ref (h 2), .ref (h 3), .ref (h 4), .ref (h 5), .ref (h 6), .ref (h 7), .long (eC row), .int (nI hc), .int (nI un)])), (h 1, .inl (cJ, 8, .inr (.inl (fC T))))]) := by
  refine Ct.ofI (cc := cX8_older) (maxL := 8) (by decide) rfl (Nat.le_of_ble_eq_true rfl) ?_
  intro pG eG sG mG aG bG tG cG AG QG ls xh bh hml hown hts hK hP hD hS hA hend hl
  have hl : lv_has ls 8 [(0, .ref e0), (1, .int x), (2, .int w)] := hl
  refine lv_iload_n xh bh dX8_older_0 rfl (lv_at hl 1 rfl) ?_
  refine Ct.callS0 (rest := []) xh bh hml hown hts hK hP hS hA (ct_X8_isBranch l D cI cJ cB cZ cA x ) (va_cwS 1 hts gX8_older_X8_isBranch rfl rfl rfl (by decide +kernel) ⟨Nat.le_of_ble_eq_true rfl, Nat.le_of_ble_eq_true rfl⟩) rfl rfl hl.1 (Nat.le_of_ble_eq_true rfl) dX8_older_1 ⟨Nat.le_refl _, Nat.le_refl _⟩ (fun _ H locs _ hP hS => ?_)
  refine W.eq (g2 := F0 mG 4 ls [.int (ib (upB x 7))]) rfl ?_
  refine xb_if_eq (tgt := 14) xh bh dX8_older_4 (by decide) (fun c_4 => ?_) (fun c_4 => ?_)
  · have hk : kTwo x w = 0 := if_neg (fun q => by rw [c_4] at q; exact absurd q.1 (by decide))
    refine lv_aload_n xh bh dX8_older_14 rfl (lv_at hl 0 rfl) ?_
    refine lv_bipush (v := (-2)) xh bh dX8_older_15 (by decide) ?_
    refine Ct.callV (As := [.int (-2)]) (rest := []) (wr := [(h 0, .inr (2, [.ref (h 1), .ref (h 2), .ref (h 3), .ref (h 4), .ref (h 5), .ref (h 6), .ref (h 7), .long (eC row), .int (nI hc), .int (nI un)])), (h 1, .inl (cJ, 8, .inr (.inl (fC T))))]) xh bh hml hown hts hK hP hD hS hA (ct_X8_refuse0 l D cI cJ cB cZ cA e0 h y z d sc ru fu f0 ra k0 k1 rf ) (cwV 1 hts gX8_older_X8_refuse rfl rfl rfl (by decide +kernel) ⟨Nat.le_of_ble_eq_true rfl, Nat.le_of_ble_eq_true rfl⟩) rfl rfl hl.1 (Nat.le_of_ble_eq_true rfl) dX8_older_17 ⟨Nat.le_refl _, Nat.le_refl _⟩ 0 5 rfl rfl rfl [0, 1] [2, 3] rfl (by decide) rfl rfl (by decide) (by decide) (fun _ H locs _ hP hD hS => ?_)
    have hP : va_P D vwCl [(h 0, .inr (2, [.ref (h 1), .ref (h 2), .ref (h 3), .ref (h 4), .ref (h 5), .ref (h 6), .ref (h 7), .long (eC row), .int (nI hc), .int (nI un)])), (h 1, .inl (cJ, 8, .inr (.inl (fC T)))), (e0, .inr (5, [.ref (h 0), .ref (y 0), .ref (z 0), .ref (d 0), .ref sc, .ref ru, .ref fu, .ref f0, .ref ra, .int (ib k0), .int (ib k1)])), (ra, .inl (cI, 3, .inl (upd rf 0 ((rf 0) + nI 1))))] H := hP
    have hD : va_D AG [(h 0, .inr (2, [.ref (h 1), .ref (h 2), .ref (h 3), .ref (h 4), .ref (h 5), .ref (h 6), .ref (h 7), .long (eC row), .int (nI hc), .int (nI un)])), (h 1, .inl (cJ, 8, .inr (.inl (fC T)))), (e0, .inr (5, [.ref (h 0), .ref (y 0), .ref (z 0), .ref (d 0), .ref sc, .ref ru, .ref fu, .ref f0, .ref ra, .int (ib k0), .int (ib k1)])), (ra, .inl (cI, 3, .inl (upd rf 0 ((rf 0) + nI 1))))] := hD
    refine W.eq (g2 := F0 mG 20 ls [.int (-2)]) rfl ?_
    exact hend (-2) () _ _ _ _ (congrArg (fun z => some (Value.int z)) (by rw [hk]; rfl)) trivial rfl dX8_older_20 (by rw [hk]; exact (hP.sub [2, 3, 0, 1] rfl)) (by rw [hk]; exact (hD.sub [2, 3, 0, 1] (by decide) rfl)) hS
  · refine lv_iload_n xh bh dX8_older_7 rfl (lv_at hl 2 rfl) ?_
    refine Ct.callS0 (rest := []) xh bh hml hown hts hK hP hS hA (ct_X8_isBranch l D cI cJ cB cZ cA w ) (va_cwS 1 hts gX8_older_X8_isBranch rfl rfl rfl (by decide +kernel) ⟨Nat.le_of_ble_eq_true rfl, Nat.le_of_ble_eq_true rfl⟩) rfl rfl hl.1 (Nat.le_of_ble_eq_true rfl) dX8_older_8 ⟨Nat.le_refl _, Nat.le_refl _⟩ (fun _ H locs _ hP hS => ?_)
    refine W.eq (g2 := F0 mG 11 ls [.int (ib (upB w 7))]) rfl ?_
    refine xb_if_ne (tgt := 21) xh bh dX8_older_11 (by decide) (fun c_11 => ?_) (fun c_11 => ?_)
    · have hk : kTwo x w = 3 := if_pos ⟨c_4, c_11⟩
      obtain ⟨k, hk9, rfl⟩ := upB_of (by decide) c_4
      obtain ⟨k2, hk8, rfl⟩ := upB_of (by decide) c_11
      have b1 := (hT k).1
      have b2 := (hT k2).1
      have b3 := popN_le (kN (T k))
      have b4 := popN_le (kN (T k2))
      refine lv_aload_n xh bh dX8_older_21 rfl (lv_at hl 0 rfl) ?_
      refine va_get (D := D) (ci := 5) (v := .ref (h 0)) (C := RX8) (T := TX8) (N := 11) xh bh hts (fun _ h => List.mem_cons_of_mem _ (List.mem_append_left _ (List.mem_append_right _ (h)))) hown hK.1 hP 0 rfl rfl 0 (by decide) (hts _ (List.mem_of_getElem? (i := 1) rfl)) (fun _ h9 => h9) rfl dX8_older_22 ?_
      refine lv_iload_n xh bh dX8_older_25 rfl (lv_at hl 1 rfl) ?_
      refine Ct.callV (As := [.int (nI k)]) (rest := []) (wr := [(e0, .inr (5, [.ref (h 0), .ref (y 0), .ref (z 0), .ref (d 0), .ref sc, .ref ru, .ref fu, .ref f0, .ref ra, .int (ib k0), .int (ib k1)])), (ra, .inl (cI, 3, .inl rf))]) xh bh hml hown hts hK hP hD hS hA (ct_X3_taleOf l D cI cJ cB cZ cA h T row hc un k (by first | omega | assumption)) (cwV 1 hts gX8_older_X3_taleOf rfl rfl rfl (by decide +kernel) ⟨Nat.le_of_ble_eq_true rfl, Nat.le_of_ble_eq_true rfl⟩) rfl rfl hl.1 (Nat.le_of_ble_eq_true rfl) dX8_older_26 ⟨Nat.le_refl _, Nat.le_refl _⟩ 0 2 rfl rfl rfl [2, 3] [0, 1] rfl (by decide) rfl rfl (by decide) (by decide) (fun _ H locs _ hP hD hS => ?_)
      have hP : va_P D vwCl [(e0, .inr (5, [.ref (h 0), .ref (y 0), .ref (z 0), .ref (d 0), .ref sc, .ref ru, .ref fu, .ref f0, .ref ra, .int (ib k0), .int (ib k1)])), (ra, .inl (cI, 3, .inl rf)), (h 0, .inr (2, [.ref (h 1), .ref (h 2), .ref (h 3), .ref (h 4), .ref (h 5), .ref (h 6), .ref (h 7), .long (eC row), .int (nI hc), .int (nI un)])), (h 1, .inl (cJ, 8, .inr (.inl (fC T))))] H := hP
      have hD : va_D AG [(e0, .inr (5, [.ref (h 0), .ref (y 0), .ref (z 0), .ref (d 0), .ref sc, .ref ru, .ref fu, .ref f0, .ref ra, .int (ib k0), .int (ib k1)])), (ra, .inl (cI, 3, .inl rf)), (h 0, .inr (2, [.ref (h 1), .ref (h 2), .ref (h 3), .ref (h 4), .ref (h 5), .ref (h 6), .ref (h 7), .long (eC row), .int (nI hc), .int (nI un)])), (h 1, .inl (cJ, 8, .inr (.inl (fC T))))] := hD
      refine W.eq (g2 := F0 mG 29 ls [.long (eC (T k))]) rfl ?_
      refine lv_lstore_n (lv' := [(3, .long (eC (T k))), (0, .ref e0), (1, .int (nI k)), (2, .int (nI k2))]) xh bh dX8_older_29 rfl hl (by decide) rfl (fun ls hl => ?_)
      refine lv_aload_n xh bh dX8_older_30 rfl (lv_at hl 1 rfl) ?_
      refine va_get (D := D) (ci := 5) (v := .ref (h 0)) (C := RX8) (T := TX8) (N := 11) xh bh hts (fun _ h => List.mem_cons_of_mem _ (List.mem_append_left _ (List.mem_append_right _ (h)))) hown hK.1 hP 0 rfl rfl 0 (by decide) (hts _ (List.mem_of_getElem? (i := 1) rfl)) (fun _ h9 => h9) rfl dX8_older_31 ?_
      refine lv_iload_n xh bh dX8_older_34 rfl (lv_at hl 3 rfl) ?_
      refine Ct.callV (As := [.int (nI k2)]) (rest := []) (wr := [(e0, .inr (5, [.ref (h 0), .ref (y 0), .ref (z 0), .ref (d 0), .ref sc, .ref ru, .ref fu, .ref f0, .ref ra, .int (ib k0), .int (ib k1)])), (ra, .inl (cI, 3, .inl rf))]) xh bh hml hown hts hK hP hD hS hA (ct_X3_taleOf l D cI cJ cB cZ cA h T row hc un k2 (by first | omega | assumption)) (cwV 1 hts gX8_older_X3_taleOf rfl rfl rfl (by decide +kernel) ⟨Nat.le_of_ble_eq_true rfl, Nat.le_of_ble_eq_true rfl⟩) rfl rfl hl.1 (Nat.le_of_ble_eq_true rfl) dX8_older_35 ⟨Nat.le_refl _, Nat.le_refl _⟩ 0 2 rfl rfl rfl [2, 3] [0, 1] rfl (by decide) rfl rfl (by decide) (by decide) (fun _ H locs _ hP hD hS => ?_)
      have hP : va_P D vwCl [(e0, .inr (5, [.ref (h 0), .ref (y 0), .ref (z 0), .ref (d 0), .ref sc, .ref ru, .ref fu, .ref f0, .ref ra, .int (ib k0), .int (ib k1)])), (ra, .inl (cI, 3, .inl rf)), (h 0, .inr (2, [.ref (h 1), .ref (h 2), .ref (h 3), .ref (h 4), .ref (h 5), .ref (h 6), .ref (h 7), .long (eC row), .int (nI hc), .int (nI un)])), (h 1, .inl (cJ, 8, .inr (.inl (fC T))))] H := hP
      have hD : va_D AG [(e0, .inr (5, [.ref (h 0), .ref (y 0), .ref (z 0), .ref (d 0), .ref sc, .ref ru, .ref fu, .ref f0, .ref ra, .int (ib k0), .int (ib k1)])), (ra, .inl (cI, 3, .inl rf)), (h 0, .inr (2, [.ref (h 1), .ref (h 2), .ref (h 3), .ref (h 4), .ref (h 5), .ref (h 6), .ref (h 7), .long (eC row), .int (nI hc), .int (nI un)])), (h 1, .inl (cJ, 8, .inr (.inl (fC T))))] := hD
      refine W.eq (g2 := F0 mG 38 ls [.long (eC (T k2))]) rfl ?_
      refine lv_lstore (lv' := [(5, .long (eC (T k2))), (3, .long (eC (T k))), (0, .ref e0), (1, .int (nI k)), (2, .int (nI k2))]) xh bh dX8_older_38 hl (by decide) rfl (fun ls hl => ?_)
      refine lv_lload_n xh bh dX8_older_40 rfl (lv_at hl 1 rfl) ?_
      refine Ct.callS0 (rest := []) xh bh hml hown hts hK hP hS hA (ct_X7_unlike l D cI cJ cB cZ cA (T k) (by exact hT _)) (va_cwS 1 hts gX8_older_X7_unlike rfl rfl rfl (by decide +kernel) ⟨Nat.le_of_ble_eq_true rfl, Nat.le_of_ble_eq_true rfl⟩) rfl rfl hl.1 (Nat.le_of_ble_eq_true rfl) dX8_older_41 ⟨Nat.le_refl _, Nat.le_refl _⟩ (fun _ H locs _ hP hS => ?_)
      refine W.eq (g2 := F0 mG 44 ls [.int (nI (popN (kN (T k))))]) rfl ?_
      refine lv_lload xh bh dX8_older_44 (lv_at hl 0 rfl) ?_
      refine Ct.callS0 (rest := [.int (nI (popN (kN (T k))))]) xh bh hml hown hts hK hP hS hA (ct_X7_unlike l D cI cJ cB cZ cA (T k2) (by exact hT _)) (va_cwS 1 hts gX8_older_X7_unlike rfl rfl rfl (by decide +kernel) ⟨Nat.le_of_ble_eq_true rfl, Nat.le_of_ble_eq_true rfl⟩) rfl rfl hl.1 (Nat.le_of_ble_eq_true rfl) dX8_older_46 ⟨Nat.le_refl _, Nat.le_refl _⟩ (fun _ H locs _ hP hS => ?_)
      refine W.eq (g2 := F0 mG 49 ls [.int (nI (popN (kN (T k2)))), .int (nI (popN (kN (T k))))]) rfl ?_
      refine Ct.callS0 (rest := []) xh bh hml hown hts hK hP hS hA (ct_J6_compare_7cf53 l D cI cJ cB cZ cA (popN (kN (T k))) (popN (kN (T k2))) (by omega) (by omega)) (va_cwS 2 hts gX8_older_J6_compare_7cf53 rfl rfl rfl (by decide +kernel) ⟨Nat.le_of_ble_eq_true rfl, Nat.le_of_ble_eq_true rfl⟩) rfl rfl hl.1 (Nat.le_of_ble_eq_true rfl) dX8_older_49 ⟨Nat.le_refl _, Nat.le_refl _⟩ (fun _ H locs _ hP hS => ?_)
      refine W.eq (g2 := F0 mG 52 ls [.int (if (popN (kN (T k))) < (popN (kN (T k2))) then (-1) else if (popN (kN (T k))) = (popN (kN (T k2))) then nI 0 else nI 1)]) rfl ?_
      refine lv_topi (fun v_52 ev_52 => ?_)
      refine lv_istore (lv' := [(7, .int v_52), (5, .long (eC (T k2))), (3, .long (eC (T k))), (0, .ref e0), (1, .int (nI k)), (2, .int (nI k2))]) xh bh dX8_older_52 hl (by decide) rfl (fun ls hl => ?_)
      refine lv_iload xh bh dX8_older_54 (lv_at hl 0 rfl) ?_
      refine lv_if_ne (tgt := 73) xh bh dX8_older_56 (by decide) (fun c_56 => ?_) (fun c_56 => ?_)
      · rw [cmpE ev_52] at c_56
        refine lv_iload xh bh dX8_older_73 (lv_at hl 0 rfl) ?_
        refine lv_if_ne (tgt := 80) xh bh dX8_older_75 (by decide) (fun c_75 => ?_) (fun c_75 => ?_)
        · rw [cmpE ev_52] at c_75
          refine lv_iload xh bh dX8_older_80 (lv_at hl 0 rfl) ?_
          refine lv_if_le (tgt := 89) xh bh dX8_older_82 (by decide) (fun c_82 => ?_) (fun c_82 => ?_)
          · rw [cmpL ev_52] at c_82
            refine lv_iconst (v := (nI 1)) xh bh dX8_older_89 (by decide) ?_
            exact hend (nI 1) () _ _ _ _ (congrArg (fun z => some (Value.int z)) (by rw [hk, xN_nI (by omega), xN_nI (by omega)]; refine congrArg nI ?_; unfold oldN unT'; split <;> (try split) <;> (try split) <;> omega)) trivial rfl dX8_older_90 (by rw [hk]; exact hP) (by rw [hk]; exact hD) hS
          · rw [cmpL ev_52] at c_82
            refine lv_iconst (v := (nI 0)) xh bh dX8_older_85 (by decide) ?_
            refine lv_goto (tgt := 90) xh bh dX8_older_86 (by decide) ?_
            exact hend (nI 0) () _ _ _ _ (congrArg (fun z => some (Value.int z)) (by rw [hk, xN_nI (by omega), xN_nI (by omega)]; refine congrArg nI ?_; unfold oldN unT'; split <;> (try split) <;> (try split) <;> omega)) trivial rfl dX8_older_90 (by rw [hk]; exact hP) (by rw [hk]; exact hD) hS
        · rw [cmpE ev_52] at c_75
          refine lv_iconst (v := (nI 2)) xh bh dX8_older_78 (by decide) ?_
          exact hend (nI 2) () _ _ _ _ (congrArg (fun z => some (Value.int z)) (by rw [hk, xN_nI (by omega), xN_nI (by omega)]; refine congrArg nI ?_; unfold oldN unT'; split <;> (try split) <;> (try split) <;> omega)) trivial rfl dX8_older_79 (by rw [hk]; exact hP) (by rw [hk]; exact hD) hS
      · rw [cmpE ev_52] at c_56
        refine lv_lload_n xh bh dX8_older_59 rfl (lv_at hl 2 rfl) ?_
        refine Ct.callS0 (rest := []) xh bh hml hown hts hK hP hS hA (ct_X7_sizeOf l D cI cJ cB cZ cA (T k) (by exact hT _)) (va_cwS 1 hts gX8_older_X7_sizeOf rfl rfl rfl (by decide +kernel) ⟨Nat.le_of_ble_eq_true rfl, Nat.le_of_ble_eq_true rfl⟩) rfl rfl hl.1 (Nat.le_of_ble_eq_true rfl) dX8_older_60 ⟨Nat.le_refl _, Nat.le_refl _⟩ (fun _ H locs _ hP hS => ?_)
        refine W.eq (g2 := F0 mG 63 ls [.int (nI ((T k).length))]) rfl ?_
        refine lv_lload xh bh dX8_older_63 (lv_at hl 1 rfl) ?_
        refine Ct.callS0 (rest := [.int (nI ((T k).length))]) xh bh hml hown hts hK hP hS hA (ct_X7_sizeOf l D cI cJ cB cZ cA (T k2) (by exact hT _)) (va_cwS 1 hts gX8_older_X7_sizeOf rfl rfl rfl (by decide +kernel) ⟨Nat.le_of_ble_eq_true rfl, Nat.le_of_ble_eq_true rfl⟩) rfl rfl hl.1 (Nat.le_of_ble_eq_true rfl) dX8_older_65 ⟨Nat.le_refl _, Nat.le_refl _⟩ (fun _ H locs _ hP hS => ?_)
        refine W.eq (g2 := F0 mG 68 ls [.int (nI ((T k2).length)), .int (nI ((T k).length))]) rfl ?_
        refine Ct.callS0 (rest := []) xh bh hml hown hts hK hP hS hA (ct_J6_compare_7cf53 l D cI cJ cB cZ cA ((T k).length) ((T k2).length) (by omega) (by omega)) (va_cwS 2 hts gX8_older_J6_compare_7cf53 rfl rfl rfl (by decide +kernel) ⟨Nat.le_of_ble_eq_true rfl, Nat.le_of_ble_eq_true rfl⟩) rfl rfl hl.1 (Nat.le_of_ble_eq_true rfl) dX8_older_68 ⟨Nat.le_refl _, Nat.le_refl _⟩ (fun _ H locs _ hP hS => ?_)
        refine W.eq (g2 := F0 mG 71 ls [.int (if ((T k).length) < ((T k2).length) then (-1) else if ((T k).length) = ((T k2).length) then nI 0 else nI 1)]) rfl ?_
        refine lv_topi (fun v_71 ev_71 => ?_)
        refine lv_istore (lv' := [(7, .int v_71), (5, .long (eC (T k2))), (3, .long (eC (T k))), (0, .ref e0), (1, .int (nI k)), (2, .int (nI k2))]) xh bh dX8_older_71 hl (by decide) rfl (fun ls hl => ?_)
        refine lv_iload xh bh dX8_older_73 (lv_at hl 0 rfl) ?_
        refine lv_if_ne (tgt := 80) xh bh dX8_older_75 (by decide) (fun c_75 => ?_) (fun c_75 => ?_)
        · rw [cmpE ev_71] at c_75
          refine lv_iload xh bh dX8_older_80 (lv_at hl 0 rfl) ?_
          refine lv_if_le (tgt := 89) xh bh dX8_older_82 (by decide) (fun c_82 => ?_) (fun c_82 => ?_)
          · rw [cmpL ev_71] at c_82
            refine lv_iconst (v := (nI 1)) xh bh dX8_older_89 (by decide) ?_
            exact hend (nI 1) () _ _ _ _ (congrArg (fun z => some (Value.int z)) (by rw [hk, xN_nI (by omega), xN_nI (by omega)]; refine congrArg nI ?_; unfold oldN unT'; split <;> (try split) <;> (try split) <;> omega)) trivial rfl dX8_older_90 (by rw [hk]; exact hP) (by rw [hk]; exact hD) hS
          · rw [cmpL ev_71] at c_82
            refine lv_iconst (v := (nI 0)) xh bh dX8_older_85 (by decide) ?_
            refine lv_goto (tgt := 90) xh bh dX8_older_86 (by decide) ?_
            exact hend (nI 0) () _ _ _ _ (congrArg (fun z => some (Value.int z)) (by rw [hk, xN_nI (by omega), xN_nI (by omega)]; refine congrArg nI ?_; unfold oldN unT'; split <;> (try split) <;> (try split) <;> omega)) trivial rfl dX8_older_90 (by rw [hk]; exact hP) (by rw [hk]; exact hD) hS
        · rw [cmpE ev_71] at c_75
          refine lv_iconst (v := (nI 2)) xh bh dX8_older_78 (by decide) ?_
          exact hend (nI 2) () _ _ _ _ (congrArg (fun z => some (Value.int z)) (by rw [hk, xN_nI (by omega), xN_nI (by omega)]; refine congrArg nI ?_; unfold oldN unT'; split <;> (try split) <;> (try split) <;> omega)) trivial rfl dX8_older_79 (by rw [hk]; exact hP) (by rw [hk]; exact hD) hS
    · have hk : kTwo x w = 0 := if_neg (fun q => by rw [c_11] at q; exact absurd q.2 (by decide))
      refine lv_aload_n xh bh dX8_older_14 rfl (lv_at hl 0 rfl) ?_
      refine lv_bipush (v := (-2)) xh bh dX8_older_15 (by decide) ?_
      refine Ct.callV (As := [.int (-2)]) (rest := []) (wr := [(h 0, .inr (2, [.ref (h 1), .ref (h 2), .ref (h 3), .ref (h 4), .ref (h 5), .ref (h 6), .ref (h 7), .long (eC row), .int (nI hc), .int (nI un)])), (h 1, .inl (cJ, 8, .inr (.inl (fC T))))]) xh bh hml hown hts hK hP hD hS hA (ct_X8_refuse0 l D cI cJ cB cZ cA e0 h y z d sc ru fu f0 ra k0 k1 rf ) (cwV 1 hts gX8_older_X8_refuse rfl rfl rfl (by decide +kernel) ⟨Nat.le_of_ble_eq_true rfl, Nat.le_of_ble_eq_true rfl⟩) rfl rfl hl.1 (Nat.le_of_ble_eq_true rfl) dX8_older_17 ⟨Nat.le_refl _, Nat.le_refl _⟩ 0 5 rfl rfl rfl [0, 1] [2, 3] rfl (by decide) rfl rfl (by decide) (by decide) (fun _ H locs _ hP hD hS => ?_)
      have hP : va_P D vwCl [(h 0, .inr (2, [.ref (h 1), .ref (h 2), .ref (h 3), .ref (h 4), .ref (h 5), .ref (h 6), .ref (h 7), .long (eC row), .int (nI hc), .int (nI un)])), (h 1, .inl (cJ, 8, .inr (.inl (fC T)))), (e0, .inr (5, [.ref (h 0), .ref (y 0), .ref (z 0), .ref (d 0), .ref sc, .ref ru, .ref fu, .ref f0, .ref ra, .int (ib k0), .int (ib k1)])), (ra, .inl (cI, 3, .inl (upd rf 0 ((rf 0) + nI 1))))] H := hP
      have hD : va_D AG [(h 0, .inr (2, [.ref (h 1), .ref (h 2), .ref (h 3), .ref (h 4), .ref (h 5), .ref (h 6), .ref (h 7), .long (eC row), .int (nI hc), .int (nI un)])), (h 1, .inl (cJ, 8, .inr (.inl (fC T)))), (e0, .inr (5, [.ref (h 0), .ref (y 0), .ref (z 0), .ref (d 0), .ref sc, .ref ru, .ref fu, .ref f0, .ref ra, .int (ib k0), .int (ib k1)])), (ra, .inl (cI, 3, .inl (upd rf 0 ((rf 0) + nI 1))))] := hD
      refine W.eq (g2 := F0 mG 20 ls [.int (-2)]) rfl ?_
      exact hend (-2) () _ _ _ _ (congrArg (fun z => some (Value.int z)) (by rw [hk]; rfl)) trivial rfl dX8_older_20 (by rw [hk]; exact (hP.sub [2, 3, 0, 1] rfl)) (by rw [hk]; exact (hD.sub [2, 3, 0, 1] (by decide) rfl)) hS

set_option maxHeartbeats 1000000 in
set_option maxRecDepth 100000 in
theorem ct_X8_fits (l : Launch) (D : va_G) (cI cJ cB cZ cA : ClassId) (e0 : Nat) (h : Nat → Nat) (y : Nat → Nat) (z : Nat → Nat) (d : Nat → Nat) (sc : Nat) (ru : Nat) (fu : Nat) (f0 : Nat) (ra : Nat) (k0 : Bool) (k1 : Bool) (T : Nat → List Nat) (row : List Nat) (hc : Nat) (un : Nat) (rf : Nat → Int32) (x : Int32) (w : Int32) (hT : ∀ k, okT (T k)) (hrow : okT row) : Ct l yX8_fits wsX8_fits ({ frames := 3, cells := 0, slots := 0, locals := 73 }) D (tysG cI cJ cB cZ cA) [.ref e0, .int x, .int w] [(e0, .inr (5, [.ref (h 0), .ref (y 0), .ref (z 0), .ref (d 0), .ref sc, .ref ru, .ref fu, .ref f0, .ref ra, .int (ib k0), .int (ib k1)])), (ra, .inl (cI, 3, .inl rf)), (h 0, .inr (2, [.ref (h 1), .ref (h 2), .ref (h 3), .ref (h 4), .ref (h 5), .ref (h 6), .ref (h 7), .long (eC row), .int (nI hc), .int (nI un)])), (h 1, .inl (cJ, 8, .inr (.inl (fC T))))] (fun (_ : Unit) => True) (fun _ => some (.int (eFit (kFit x w) (xN w) (popN (plA row (T (xN x)))) (lowI (plA row (T (xN x))))))) (fun _ => [(e0, .inr (5, [.ref (h 0), .ref (y 0), .ref (z 0), .ref (d 0), .ref sc, .ref ru, .ref fu, .ref f0, .ref ra, .int (ib k0), .int (ib k1)])), (ra, .inl (cI, 3, .inl (rfU (kFit x w) rf))), (h 0, .inr (2, [.ref (h 1), .ref (h 2), .ref (h 3), .ref (h 4), .ref (h 5), .ref (h 6), .ref (h 7), .long (eC row), .int (nI hc), .int (nI un)])), (h 1, .inl (cJ, 8, .inr (.inl (fC T))))]) := by
  refine Ct.ofI (cc := cX8_fits) (maxL := 4) (by decide) rfl (Nat.le_of_ble_eq_true rfl) ?_
  intro pG eG sG mG aG bG tG cG AG QG ls xh bh hml hown hts hK hP hD hS hA hend hl
  have hl : lv_has ls 4 [(0, .ref e0), (1, .int x), (2, .int w)] := hl
  refine lv_iload_n xh bh dX8_fits_0 rfl (lv_at hl 1 rfl) ?_
  refine Ct.callS0 (rest := []) xh bh hml hown hts hK hP hS hA (ct_X8_isBranch l D cI cJ cB cZ cA x ) (va_cwS 1 hts gX8_fits_X8_isBranch rfl rfl rfl (by decide +kernel) ⟨Nat.le_of_ble_eq_true rfl, Nat.le_of_ble_eq_true rfl⟩) rfl rfl hl.1 (Nat.le_of_ble_eq_true rfl) dX8_fits_1 ⟨Nat.le_refl _, Nat.le_refl _⟩ (fun _ H locs _ hP hS => ?_)
  refine W.eq (g2 := F0 mG 4 ls [.int (ib (upB x 7))]) rfl ?_
  refine xb_if_eq (tgt := 15) xh bh dX8_fits_4 (by decide) (fun c_4 => ?_) (fun c_4 => ?_)
  · have hk : kFit x w = 0 := if_neg (fun q => by rw [c_4] at q; exact absurd q.1 (by decide))
    refine lv_aload_n xh bh dX8_fits_15 rfl (lv_at hl 0 rfl) ?_
    refine lv_bipush (v := (-2)) xh bh dX8_fits_16 (by decide) ?_
    refine lv_bipush (v := (-10)) xh bh dX8_fits_18 (by decide) ?_
    refine Ct.callV (As := [.int (-2), .int (-10)]) (rest := []) (wr := [(h 0, .inr (2, [.ref (h 1), .ref (h 2), .ref (h 3), .ref (h 4), .ref (h 5), .ref (h 6), .ref (h 7), .long (eC row), .int (nI hc), .int (nI un)])), (h 1, .inl (cJ, 8, .inr (.inl (fC T))))]) xh bh hml hown hts hK hP hD hS hA (ct_X8_refuse_0 l D cI cJ cB cZ cA e0 h y z d sc ru fu f0 ra k0 k1 rf (-10) ) (cwV 2 hts gX8_fits_X8_refuse_ rfl rfl rfl (by decide +kernel) ⟨Nat.le_of_ble_eq_true rfl, Nat.le_of_ble_eq_true rfl⟩) rfl rfl hl.1 (Nat.le_of_ble_eq_true rfl) dX8_fits_20 ⟨Nat.le_refl _, Nat.le_refl _⟩ 0 5 rfl rfl rfl [0, 1] [2, 3] rfl (by decide) rfl rfl (by decide) (by decide) (fun _ H locs _ hP hD hS => ?_)
    have hP : va_P D vwCl [(h 0, .inr (2, [.ref (h 1), .ref (h 2), .ref (h 3), .ref (h 4), .ref (h 5), .ref (h 6), .ref (h 7), .long (eC row), .int (nI hc), .int (nI un)])), (h 1, .inl (cJ, 8, .inr (.inl (fC T)))), (e0, .inr (5, [.ref (h 0), .ref (y 0), .ref (z 0), .ref (d 0), .ref sc, .ref ru, .ref fu, .ref f0, .ref ra, .int (ib k0), .int (ib k1)])), (ra, .inl (cI, 3, .inl (upd rf 0 ((rf 0) + nI 1))))] H := hP
    have hD : va_D AG [(h 0, .inr (2, [.ref (h 1), .ref (h 2), .ref (h 3), .ref (h 4), .ref (h 5), .ref (h 6), .ref (h 7), .long (eC row), .int (nI hc), .int (nI un)])), (h 1, .inl (cJ, 8, .inr (.inl (fC T)))), (e0, .inr (5, [.ref (h 0), .ref (y 0), .ref (z 0), .ref (d 0), .ref sc, .ref ru, .ref fu, .ref f0, .ref ra, .int (ib k0), .int (ib k1)])), (ra, .inl (cI, 3, .inl (upd rf 0 ((rf 0) + nI 1))))] := hD
    refine W.eq (g2 := F0 mG 23 ls [.int (-10)]) rfl ?_
    exact hend (-10) () _ _ _ _ (congrArg (fun z => some (Value.int z)) (by rw [hk]; rfl)) trivial rfl dX8_fits_23 (by rw [hk]; exact (hP.sub [2, 3, 0, 1] rfl)) (by rw [hk]; exact (hD.sub [2, 3, 0, 1] (by decide) rfl)) hS
  · refine lv_iload_n xh bh dX8_fits_7 rfl (lv_at hl 2 rfl) ?_
    refine lv_iconst (v := (nI 1)) xh bh dX8_fits_8 (by decide) ?_
    refine Ct.callS0 (rest := []) xh bh hml hown hts hK hP hS hA (ct_X8_isUpTo l D cI cJ cB cZ cA w 1 (by first | omega | assumption)) (va_cwS 2 hts gX8_fits_X8_isUpTo rfl rfl rfl (by decide +kernel) ⟨Nat.le_of_ble_eq_true rfl, Nat.le_of_ble_eq_true rfl⟩) rfl rfl hl.1 (Nat.le_of_ble_eq_true rfl) dX8_fits_9 ⟨Nat.le_refl _, Nat.le_refl _⟩ (fun _ H locs _ hP hS => ?_)
    refine W.eq (g2 := F0 mG 12 ls [.int (ib (upB w 1))]) rfl ?_
    refine xb_if_ne (tgt := 24) xh bh dX8_fits_12 (by decide) (fun c_12 => ?_) (fun c_12 => ?_)
    · have hk : kFit x w = 3 := if_pos ⟨c_4, c_12⟩
      obtain ⟨k, hk9, rfl⟩ := upB_of (by decide) c_4
      obtain ⟨k2, hk8, rfl⟩ := upB_of (by decide) c_12
      have hpl := plA_lt (r := row) (hT k).1
      refine lv_aload_n xh bh dX8_fits_24 rfl (lv_at hl 0 rfl) ?_
      refine va_get (D := D) (ci := 5) (v := .ref (h 0)) (C := RX8) (T := TX8) (N := 11) xh bh hts (fun _ h => List.mem_cons_of_mem _ (List.mem_append_left _ (List.mem_append_right _ (h)))) hown hK.1 hP 0 rfl rfl 0 (by decide) (hts _ (List.mem_of_getElem? (i := 1) rfl)) (fun _ h9 => h9) rfl dX8_fits_25 ?_
      refine va_get (D := D) (ci := 2) (v := .long (eC row)) (C := RX3) (T := TX3) (N := 10) xh bh hts (fun _ h => List.mem_cons_of_mem _ (List.mem_append_right _ (h))) hown hK.1 hP 2 rfl rfl 7 (by decide) (hts _ (List.mem_of_getElem? (i := 2) rfl)) (fun _ h9 => h9) rfl dX8_fits_28 ?_
      refine lv_aload_n xh bh dX8_fits_31 rfl (lv_at hl 0 rfl) ?_
      refine va_get (D := D) (ci := 5) (v := .ref (h 0)) (C := RX8) (T := TX8) (N := 11) xh bh hts (fun _ h => List.mem_cons_of_mem _ (List.mem_append_left _ (List.mem_append_right _ (h)))) hown hK.1 hP 0 rfl rfl 0 (by decide) (hts _ (List.mem_of_getElem? (i := 1) rfl)) (fun _ h9 => h9) rfl dX8_fits_32 ?_
      refine lv_iload_n xh bh dX8_fits_35 rfl (lv_at hl 1 rfl) ?_
      refine Ct.callV (As := [.int (nI k)]) (rest := [.long (eC row)]) (wr := [(e0, .inr (5, [.ref (h 0), .ref (y 0), .ref (z 0), .ref (d 0), .ref sc, .ref ru, .ref fu, .ref f0, .ref ra, .int (ib k0), .int (ib k1)])), (ra, .inl (cI, 3, .inl rf))]) xh bh hml hown hts hK hP hD hS hA (ct_X3_taleOf l D cI cJ cB cZ cA h T row hc un k (by first | omega | assumption)) (cwV 1 hts gX8_fits_X3_taleOf rfl rfl rfl (by decide +kernel) ⟨Nat.le_of_ble_eq_true rfl, Nat.le_of_ble_eq_true rfl⟩) rfl rfl hl.1 (Nat.le_of_ble_eq_true rfl) dX8_fits_36 ⟨Nat.le_refl _, Nat.le_refl _⟩ 0 2 rfl rfl rfl [2, 3] [0, 1] rfl (by decide) rfl rfl (by decide) (by decide) (fun _ H locs _ hP hD hS => ?_)
      have hP : va_P D vwCl [(e0, .inr (5, [.ref (h 0), .ref (y 0), .ref (z 0), .ref (d 0), .ref sc, .ref ru, .ref fu, .ref f0, .ref ra, .int (ib k0), .int (ib k1)])), (ra, .inl (cI, 3, .inl rf)), (h 0, .inr (2, [.ref (h 1), .ref (h 2), .ref (h 3), .ref (h 4), .ref (h 5), .ref (h 6), .ref (h 7), .long (eC row), .int (nI hc), .int (nI un)])), (h 1, .inl (cJ, 8, .inr (.inl (fC T))))] H := hP
      have hD : va_D AG [(e0, .inr (5, [.ref (h 0), .ref (y 0), .ref (z 0), .ref (d 0), .ref sc, .ref ru, .ref fu, .ref f0, .ref ra, .int (ib k0), .int (ib k1)])), (ra, .inl (cI, 3, .inl rf)), (h 0, .inr (2, [.ref (h 1), .ref (h 2), .ref (h 3), .ref (h 4), .ref (h 5), .ref (h 6), .ref (h 7), .long (eC row), .int (nI hc), .int (nI un)])), (h 1, .inl (cJ, 8, .inr (.inl (fC T))))] := hD
      refine W.eq (g2 := F0 mG 39 ls [.long (eC (T k)), .long (eC row)]) rfl ?_
      refine Ct.callS0 (rest := []) xh bh hml hown hts hK hP hS hA (ct_X7_placesOf l D cI cJ cB cZ cA row (T k) (by exact hrow) (by exact hT _)) (va_cwS 2 hts gX8_fits_X7_placesOf rfl rfl rfl (by decide +kernel) ⟨Nat.le_of_ble_eq_true rfl, Nat.le_of_ble_eq_true rfl⟩) rfl rfl hl.1 (Nat.le_of_ble_eq_true rfl) dX8_fits_39 ⟨Nat.le_refl _, Nat.le_refl _⟩ (fun _ H locs _ hP hS => ?_)
      refine W.eq (g2 := F0 mG 42 ls [.int (nI (plA row (T k)))]) rfl ?_
      refine lv_istore_n (lv' := [(3, .int (nI (plA row (T k)))), (0, .ref e0), (1, .int (nI k)), (2, .int (nI k2))]) xh bh dX8_fits_42 rfl hl (by decide) rfl (fun ls hl => ?_)
      refine lv_iload_n xh bh dX8_fits_43 rfl (lv_at hl 3 rfl) ?_
      refine xn_if_ne (tgt := 52) xh bh dX8_fits_44 (by decide) (by omega) (fun c_44 => ?_) (fun c_44 => ?_)
      · refine lv_iload_n xh bh dX8_fits_52 rfl (lv_at hl 0 rfl) ?_
        refine Ct.callS0 (rest := []) xh bh hml hown hts hK hP hS hA (ct_X8_lowestOf l D cI cJ cB cZ cA (plA row (T k)) (by first | omega | assumption)) (va_cwS 1 hts gX8_fits_X8_lowestOf rfl rfl rfl (by decide +kernel) ⟨Nat.le_of_ble_eq_true rfl, Nat.le_of_ble_eq_true rfl⟩) rfl rfl hl.1 (Nat.le_of_ble_eq_true rfl) dX8_fits_53 ⟨Nat.le_refl _, Nat.le_refl _⟩ (fun _ H locs _ hP hS => ?_)
        refine W.eq (g2 := F0 mG 56 ls [.int (lowI (plA row (T k)))]) rfl ?_
        exact hend (lowI (plA row (T k))) () _ _ _ _ (congrArg (fun z => some (Value.int z)) (by rw [hk, xN_nI (by omega), xN_nI (by omega)]; first | (rw [c_44]; rfl) | (rw [show k2 = 1 by omega]; rfl))) trivial rfl dX8_fits_56 (by rw [hk]; exact hP) (by rw [hk]; exact hD) hS
      · refine lv_iload_n xh bh dX8_fits_47 rfl (lv_at hl 0 rfl) ?_
        refine Ct.callS0 (rest := []) xh bh hml hown hts hK hP hS hA (ct_J6_bitCount_0f7a4 l D cI cJ cB cZ cA (plA row (T k)) (by first | omega | assumption)) (va_cwS 1 hts gX8_fits_J6_bitCount_0f7a4 rfl rfl rfl (by decide +kernel) ⟨Nat.le_of_ble_eq_true rfl, Nat.le_of_ble_eq_true rfl⟩) rfl rfl hl.1 (Nat.le_of_ble_eq_true rfl) dX8_fits_48 ⟨Nat.le_refl _, Nat.le_refl _⟩ (fun _ H locs _ hP hS => ?_)
        refine W.eq (g2 := F0 mG 51 ls [.int (nI (popN (plA row (T k))))]) rfl ?_
        exact hend (nI (popN (plA row (T k)))) () _ _ _ _ (congrArg (fun z => some (Value.int z)) (by rw [hk, xN_nI (by omega), xN_nI (by omega)]; first | (rw [c_44]; rfl) | (rw [show k2 = 1 by omega]; rfl))) trivial rfl dX8_fits_51 (by rw [hk]; exact hP) (by rw [hk]; exact hD) hS
    · have hk : kFit x w = 0 := if_neg (fun q => by rw [c_12] at q; exact absurd q.2 (by decide))
      refine lv_aload_n xh bh dX8_fits_15 rfl (lv_at hl 0 rfl) ?_
      refine lv_bipush (v := (-2)) xh bh dX8_fits_16 (by decide) ?_
      refine lv_bipush (v := (-10)) xh bh dX8_fits_18 (by decide) ?_
      refine Ct.callV (As := [.int (-2), .int (-10)]) (rest := []) (wr := [(h 0, .inr (2, [.ref (h 1), .ref (h 2), .ref (h 3), .ref (h 4), .ref (h 5), .ref (h 6), .ref (h 7), .long (eC row), .int (nI hc), .int (nI un)])), (h 1, .inl (cJ, 8, .inr (.inl (fC T))))]) xh bh hml hown hts hK hP hD hS hA (ct_X8_refuse_0 l D cI cJ cB cZ cA e0 h y z d sc ru fu f0 ra k0 k1 rf (-10) ) (cwV 2 hts gX8_fits_X8_refuse_ rfl rfl rfl (by decide +kernel) ⟨Nat.le_of_ble_eq_true rfl, Nat.le_of_ble_eq_true rfl⟩) rfl rfl hl.1 (Nat.le_of_ble_eq_true rfl) dX8_fits_20 ⟨Nat.le_refl _, Nat.le_refl _⟩ 0 5 rfl rfl rfl [0, 1] [2, 3] rfl (by decide) rfl rfl (by decide) (by decide) (fun _ H locs _ hP hD hS => ?_)
      have hP : va_P D vwCl [(h 0, .inr (2, [.ref (h 1), .ref (h 2), .ref (h 3), .ref (h 4), .ref (h 5), .ref (h 6), .ref (h 7), .long (eC row), .int (nI hc), .int (nI un)])), (h 1, .inl (cJ, 8, .inr (.inl (fC T)))), (e0, .inr (5, [.ref (h 0), .ref (y 0), .ref (z 0), .ref (d 0), .ref sc, .ref ru, .ref fu, .ref f0, .ref ra, .int (ib k0), .int (ib k1)])), (ra, .inl (cI, 3, .inl (upd rf 0 ((rf 0) + nI 1))))] H := hP
      have hD : va_D AG [(h 0, .inr (2, [.ref (h 1), .ref (h 2), .ref (h 3), .ref (h 4), .ref (h 5), .ref (h 6), .ref (h 7), .long (eC row), .int (nI hc), .int (nI un)])), (h 1, .inl (cJ, 8, .inr (.inl (fC T)))), (e0, .inr (5, [.ref (h 0), .ref (y 0), .ref (z 0), .ref (d 0), .ref sc, .ref ru, .ref fu, .ref f0, .ref ra, .int (ib k0), .int (ib k1)])), (ra, .inl (cI, 3, .inl (upd rf 0 ((rf 0) + nI 1))))] := hD
      refine W.eq (g2 := F0 mG 23 ls [.int (-10)]) rfl ?_
      exact hend (-10) () _ _ _ _ (congrArg (fun z => some (Value.int z)) (by rw [hk]; rfl)) trivial rfl dX8_fits_23 (by rw [hk]; exact (hP.sub [2, 3, 0, 1] rfl)) (by rw [hk]; exact (hD.sub [2, 3, 0, 1] (by decide) rfl)) hS

set_option maxHeartbeats 1000000 in
set_option maxRecDepth 100000 in
theorem ct_X8_covers (l : Launch) (D : va_G) (cI cJ cB cZ cA : ClassId) (e0 : Nat) (h : Nat → Nat) (y : Nat → Nat) (z : Nat → Nat) (d : Nat → Nat) (sc : Nat) (ru : Nat) (fu : Nat) (f0 : Nat) (ra : Nat) (k0 : Bool) (k1 : Bool) (T : Nat → List Nat) (row : List Nat) (hc : Nat) (un : Nat) (rf : Nat → Int32) (b : Int32) (hT : ∀ k, okT (T k)) (hrow : okT row) : Ct l yX8_covers wsX8_covers ({ frames := 4, cells := 0, slots := 0, locals := 99 }) D (tysG cI cJ cB cZ cA) [.ref e0, .int b] [(e0, .inr (5, [.ref (h 0), .ref (y 0), .ref (z 0), .ref (d 0), .ref sc, .ref ru, .ref fu, .ref f0, .ref ra, .int (ib k0), .int (ib k1)])), (ra, .inl (cI, 3, .inl rf)), (h 0, .inr (2, [.ref (h 1), .ref (h 2), .ref (h 3), .ref (h 4), .ref (h 5), .ref (h 6), .ref (h 7), .long (eC row), .int (nI hc), .int (nI un)])), (h 1, .inl (cJ, 8, .inr (.inl (fC T))))] (fun (_ : Unit) => True) (fun _ => some (.int (eTwo (kBr b) (if covC (T (xN b)) row = true then 1 else 0)))) (fun _ => [(e0, .inr (5, [.ref (h 0), .ref (y 0), .ref (z 0), .ref (d 0), .ref sc, .ref ru, .ref fu, .ref f0, .ref ra, .int (ib k0), .int (ib k1)])), (ra, .inl (cI, 3, .inl (rfU (kBr b) rf))), (h 0, .inr (2, [.ref (h 1), .ref (h 2), .ref (h 3), .ref (h 4), .ref (h 5), .ref (h 6), .ref (h 7), .long (eC row), .int (nI hc), .int (nI un)])), (h 1, .inl (cJ, 8, .inr (.inl (fC T))))]) := by
  refine Ct.ofI (cc := cX8_covers) (maxL := 2) (by decide) rfl (Nat.le_of_ble_eq_true rfl) ?_
  intro pG eG sG mG aG bG tG cG AG QG ls xh bh hml hown hts hK hP hD hS hA hend hl
  have hl : lv_has ls 2 [(0, .ref e0), (1, .int b)] := hl
  refine lv_iload_n xh bh dX8_covers_0 rfl (lv_at hl 1 rfl) ?_
  refine Ct.callS0 (rest := []) xh bh hml hown hts hK hP hS hA (ct_X8_isBranch l D cI cJ cB cZ cA b ) (va_cwS 1 hts gX8_covers_X8_isBranch rfl rfl rfl (by decide +kernel) ⟨Nat.le_of_ble_eq_true rfl, Nat.le_of_ble_eq_true rfl⟩) rfl rfl hl.1 (Nat.le_of_ble_eq_true rfl) dX8_covers_1 ⟨Nat.le_refl _, Nat.le_refl _⟩ (fun _ H locs _ hP hS => ?_)
  refine W.eq (g2 := F0 mG 4 ls [.int (ib (upB b 7))]) rfl ?_
  refine xb_if_ne (tgt := 14) xh bh dX8_covers_4 (by decide) (fun c_4 => ?_) (fun c_4 => ?_)
  · have hk : kBr b = 3 := if_pos c_4
    obtain ⟨k, hk9, rfl⟩ := upB_of (by decide) c_4
    refine lv_aload_n xh bh dX8_covers_14 rfl (lv_at hl 0 rfl) ?_
    refine va_get (D := D) (ci := 5) (v := .ref (h 0)) (C := RX8) (T := TX8) (N := 11) xh bh hts (fun _ h => List.mem_cons_of_mem _ (List.mem_append_left _ (List.mem_append_right _ (h)))) hown hK.1 hP 0 rfl rfl 0 (by decide) (hts _ (List.mem_of_getElem? (i := 1) rfl)) (fun _ h9 => h9) rfl dX8_covers_15 ?_
    refine lv_iload_n xh bh dX8_covers_18 rfl (lv_at hl 1 rfl) ?_
    refine Ct.callV (As := [.int (nI k)]) (rest := []) (wr := [(e0, .inr (5, [.ref (h 0), .ref (y 0), .ref (z 0), .ref (d 0), .ref sc, .ref ru, .ref fu, .ref f0, .ref ra, .int (ib k0), .int (ib k1)])), (ra, .inl (cI, 3, .inl rf))]) xh bh hml hown hts hK hP hD hS hA (ct_X3_taleOf l D cI cJ cB cZ cA h T row hc un k (by first | omega | assumption)) (cwV 1 hts gX8_covers_X3_taleOf rfl rfl rfl (by decide +kernel) ⟨Nat.le_of_ble_eq_true rfl, Nat.le_of_ble_eq_true rfl⟩) rfl rfl hl.1 (Nat.le_of_ble_eq_true rfl) dX8_covers_19 ⟨Nat.le_refl _, Nat.le_refl _⟩ 0 2 rfl rfl rfl [2, 3] [0, 1] rfl (by decide) rfl rfl (by decide) (by decide) (fun _ H locs _ hP hD hS => ?_)
    have hP : va_P D vwCl [(e0, .inr (5, [.ref (h 0), .ref (y 0), .ref (z 0), .ref (d 0), .ref sc, .ref ru, .ref fu, .ref f0, .ref ra, .int (ib k0), .int (ib k1)])), (ra, .inl (cI, 3, .inl rf)), (h 0, .inr (2, [.ref (h 1), .ref (h 2), .ref (h 3), .ref (h 4), .ref (h 5), .ref (h 6), .ref (h 7), .long (eC row), .int (nI hc), .int (nI un)])), (h 1, .inl (cJ, 8, .inr (.inl (fC T))))] H := hP
    have hD : va_D AG [(e0, .inr (5, [.ref (h 0), .ref (y 0), .ref (z 0), .ref (d 0), .ref sc, .ref ru, .ref fu, .ref f0, .ref ra, .int (ib k0), .int (ib k1)])), (ra, .inl (cI, 3, .inl rf)), (h 0, .inr (2, [.ref (h 1), .ref (h 2), .ref (h 3), .ref (h 4), .ref (h 5), .ref (h 6), .ref (h 7), .long (eC row), .int (nI hc), .int (nI un)])), (h 1, .inl (cJ, 8, .inr (.inl (fC T))))] := hD
    refine W.eq (g2 := F0 mG 22 ls [.long (eC (T k))]) rfl ?_
    refine lv_aload_n xh bh dX8_covers_22 rfl (lv_at hl 0 rfl) ?_
    refine va_get (D := D) (ci := 5) (v := .ref (h 0)) (C := RX8) (T := TX8) (N := 11) xh bh hts (fun _ h => List.mem_cons_of_mem _ (List.mem_append_left _ (List.mem_append_right _ (h)))) hown hK.1 hP 0 rfl rfl 0 (by decide) (hts _ (List.mem_of_getElem? (i := 1) rfl)) (fun _ h9 => h9) rfl dX8_covers_23 ?_
    refine va_get (D := D) (ci := 2) (v := .long (eC row)) (C := RX3) (T := TX3) (N := 10) xh bh hts (fun _ h => List.mem_cons_of_mem _ (List.mem_append_right _ (h))) hown hK.1 hP 2 rfl rfl 7 (by decide) (hts _ (List.mem_of_getElem? (i := 2) rfl)) (fun _ h9 => h9) rfl dX8_covers_26 ?_
    refine Ct.callS0 (rest := []) xh bh hml hown hts hK hP hS hA (ct_X7_isCovered l D cI cJ cB cZ cA (T k) row (by exact hT _) (by exact hrow)) (va_cwS 2 hts gX8_covers_X7_isCovered rfl rfl rfl (by decide +kernel) ⟨Nat.le_of_ble_eq_true rfl, Nat.le_of_ble_eq_true rfl⟩) rfl rfl hl.1 (Nat.le_of_ble_eq_true rfl) dX8_covers_29 ⟨Nat.le_refl _, Nat.le_refl _⟩ (fun _ H locs _ hP hS => ?_)
    refine W.eq (g2 := F0 mG 32 ls [.int (ib (covC (T k) row))]) rfl ?_
    refine xb_if_eq (tgt := 39) xh bh dX8_covers_32 (by decide) (fun c_32 => ?_) (fun c_32 => ?_)
    · refine lv_iconst (v := (nI 0)) xh bh dX8_covers_39 (by decide) ?_
      exact hend (nI 0) () _ _ _ _ (congrArg (fun z => some (Value.int z)) (by rw [hk, xN_nI (by omega), c_32]; rfl)) trivial rfl dX8_covers_40 (by rw [hk]; exact hP) (by rw [hk]; exact hD) hS
    · refine lv_iconst (v := (nI 1)) xh bh dX8_covers_35 (by decide) ?_
      refine lv_goto (tgt := 40) xh bh dX8_covers_36 (by decide) ?_
      exact hend (nI 1) () _ _ _ _ (congrArg (fun z => some (Value.int z)) (by rw [hk, xN_nI (by omega), c_32]; rfl)) trivial rfl dX8_covers_40 (by rw [hk]; exact hP) (by rw [hk]; exact hD) hS
  · have hk : kBr b = 0 := if_neg (by rw [c_4]; decide)
    refine lv_aload_n xh bh dX8_covers_7 rfl (lv_at hl 0 rfl) ?_
    refine lv_bipush (v := (-2)) xh bh dX8_covers_8 (by decide) ?_
    refine Ct.callV (As := [.int (-2)]) (rest := []) (wr := [(h 0, .inr (2, [.ref (h 1), .ref (h 2), .ref (h 3), .ref (h 4), .ref (h 5), .ref (h 6), .ref (h 7), .long (eC row), .int (nI hc), .int (nI un)])), (h 1, .inl (cJ, 8, .inr (.inl (fC T))))]) xh bh hml hown hts hK hP hD hS hA (ct_X8_refuse0 l D cI cJ cB cZ cA e0 h y z d sc ru fu f0 ra k0 k1 rf ) (cwV 1 hts gX8_covers_X8_refuse rfl rfl rfl (by decide +kernel) ⟨Nat.le_of_ble_eq_true rfl, Nat.le_of_ble_eq_true rfl⟩) rfl rfl hl.1 (Nat.le_of_ble_eq_true rfl) dX8_covers_10 ⟨Nat.le_refl _, Nat.le_refl _⟩ 0 5 rfl rfl rfl [0, 1] [2, 3] rfl (by decide) rfl rfl (by decide) (by decide) (fun _ H locs _ hP hD hS => ?_)
    have hP : va_P D vwCl [(h 0, .inr (2, [.ref (h 1), .ref (h 2), .ref (h 3), .ref (h 4), .ref (h 5), .ref (h 6), .ref (h 7), .long (eC row), .int (nI hc), .int (nI un)])), (h 1, .inl (cJ, 8, .inr (.inl (fC T)))), (e0, .inr (5, [.ref (h 0), .ref (y 0), .ref (z 0), .ref (d 0), .ref sc, .ref ru, .ref fu, .ref f0, .ref ra, .int (ib k0), .int (ib k1)])), (ra, .inl (cI, 3, .inl (upd rf 0 ((rf 0) + nI 1))))] H := hP
    have hD : va_D AG [(h 0, .inr (2, [.ref (h 1), .ref (h 2), .ref (h 3), .ref (h 4), .ref (h 5), .ref (h 6), .ref (h 7), .long (eC row), .int (nI hc), .int (nI un)])), (h 1, .inl (cJ, 8, .inr (.inl (fC T)))), (e0, .inr (5, [.ref (h 0), .ref (y 0), .ref (z 0), .ref (d 0), .ref sc, .ref ru, .ref fu, .ref f0, .ref ra, .int (ib k0), .int (ib k1)])), (ra, .inl (cI, 3, .inl (upd rf 0 ((rf 0) + nI 1))))] := hD
    refine W.eq (g2 := F0 mG 13 ls [.int (-2)]) rfl ?_
    exact hend (-2) () _ _ _ _ (congrArg (fun z => some (Value.int z)) (by rw [hk]; rfl)) trivial rfl dX8_covers_13 (by rw [hk]; exact (hP.sub [2, 3, 0, 1] rfl)) (by rw [hk]; exact (hD.sub [2, 3, 0, 1] (by decide) rfl)) hS

set_option maxHeartbeats 1000000 in
set_option maxRecDepth 100000 in
theorem ct_X8_heard (l : Launch) (D : va_G) (cI cJ cB cZ cA : ClassId) (e0 : Nat) (h : Nat → Nat) (y : Nat → Nat) (z : Nat → Nat) (d : Nat → Nat) (sc : Nat) (ru : Nat) (fu : Nat) (f0 : Nat) (ra : Nat) (k0 : Bool) (k1 : Bool) (hp : Nat → Nat) (hi : Nat → Nat) (row : List Nat) (hc : Nat) (un : Nat) (rf : Nat → Int32) (x : Int32) (w : Int32) (hhc : hc ≤ 6) : Ct l yX8_heard wsX8_heard ({ frames := 2, cells := 0, slots := 0, locals := 44 }) D (tysG cI cJ cB cZ cA) [.ref e0, .int x, .int w] [(e0, .inr (5, [.ref (h 0), .ref (y 0), .ref (z 0), .ref (d 0), .ref sc, .ref ru, .ref fu, .ref f0, .ref ra, .int (ib k0), .int (ib k1)])), (ra, .inl (cI, 3, .inl rf)), (h 0, .inr (2, [.ref (h 1), .ref (h 2), .ref (h 3), .ref (h 4), .ref (h 5), .ref (h 6), .ref (h 7), .long (eC row), .int (nI hc), .int (nI un)])), (h 3, .inl (cI, 6, .inl (fN hp))), (h 4, .inl (cI, 6, .inl (fN hi)))] (fun (_ : Unit) => True) (fun _ => some (.int (eHd (kHd x w hc) hc))) (fun _ => [(e0, .inr (5, [.ref (h 0), .ref (y 0), .ref (z 0), .ref (d 0), .ref sc, .ref ru, .ref fu, .ref f0, .ref ra, .int (ib k0), .int (ib k1)])), (ra, .inl (cI, 3, .inl (rfU (kHd x w hc) rf))), (h 0, .inr (2, [.ref (h 1), .ref (h 2), .ref (h 3), .ref (h 4), .ref (h 5), .ref (h 6), .ref (h 7), .long (eC row), .int (nI (s3N (kHd x w hc) hc (hc + 1))), .int (nI un)])), (h 3, .inl (cI, 6, .inl (fN (upK (kHd x w hc) hp hc (xN x))))), (h 4, .inl (cI, 6, .inl (fN (upK (kHd x w hc) hi hc (xN w)))))]) := by
  refine Ct.ofI (cc := cX8_heard) (maxL := 3) (by decide) rfl (Nat.le_of_ble_eq_true rfl) ?_
  intro pG eG sG mG aG bG tG cG AG QG ls xh bh hml hown hts hK hP hD hS hA hend hl
  have hl : lv_has ls 3 [(0, .ref e0), (1, .int x), (2, .int w)] := hl
  refine lv_iload_n xh bh dX8_heard_0 rfl (lv_at hl 1 rfl) ?_
  refine Ct.callS0 (rest := []) xh bh hml hown hts hK hP hS hA (ct_X8_isPart l D cI cJ cB cZ cA x ) (va_cwS 1 hts gX8_heard_X8_isPart rfl rfl rfl (by decide +kernel) ⟨Nat.le_of_ble_eq_true rfl, Nat.le_of_ble_eq_true rfl⟩) rfl rfl hl.1 (Nat.le_of_ble_eq_true rfl) dX8_heard_1 ⟨Nat.le_refl _, Nat.le_refl _⟩ (fun _ H locs _ hP hS => ?_)
  refine W.eq (g2 := F0 mG 4 ls [.int (ib (upB x 9))]) rfl ?_
  refine xb_if_eq (tgt := 15) xh bh dX8_heard_4 (by decide) (fun c_4 => ?_) (fun c_4 => ?_)
  · have hk : kHd x w hc = 0 := if_neg (fun q => by rw [c_4] at q; exact absurd q.1 (by decide))
    refine lv_aload_n xh bh dX8_heard_15 rfl (lv_at hl 0 rfl) ?_
    refine lv_bipush (v := (-2)) xh bh dX8_heard_16 (by decide) ?_
    refine Ct.callV (As := [.int (-2)]) (rest := []) (wr := [(h 0, .inr (2, [.ref (h 1), .ref (h 2), .ref (h 3), .ref (h 4), .ref (h 5), .ref (h 6), .ref (h 7), .long (eC row), .int (nI hc), .int (nI un)])), (h 3, .inl (cI, 6, .inl (fN hp))), (h 4, .inl (cI, 6, .inl (fN hi)))]) xh bh hml hown hts hK hP hD hS hA (ct_X8_refuse0 l D cI cJ cB cZ cA e0 h y z d sc ru fu f0 ra k0 k1 rf ) (cwV 1 hts gX8_heard_X8_refuse rfl rfl rfl (by decide +kernel) ⟨Nat.le_of_ble_eq_true rfl, Nat.le_of_ble_eq_true rfl⟩) rfl rfl hl.1 (Nat.le_of_ble_eq_true rfl) dX8_heard_18 ⟨Nat.le_refl _, Nat.le_refl _⟩ 0 5 rfl rfl rfl [0, 1] [2, 3, 4] rfl (by decide) rfl rfl (by decide) (by decide) (fun _ H locs _ hP hD hS => ?_)
    have hP : va_P D vwCl [(h 0, .inr (2, [.ref (h 1), .ref (h 2), .ref (h 3), .ref (h 4), .ref (h 5), .ref (h 6), .ref (h 7), .long (eC row), .int (nI hc), .int (nI un)])), (h 3, .inl (cI, 6, .inl (fN hp))), (h 4, .inl (cI, 6, .inl (fN hi))), (e0, .inr (5, [.ref (h 0), .ref (y 0), .ref (z 0), .ref (d 0), .ref sc, .ref ru, .ref fu, .ref f0, .ref ra, .int (ib k0), .int (ib k1)])), (ra, .inl (cI, 3, .inl (upd rf 0 ((rf 0) + nI 1))))] H := hP
    have hD : va_D AG [(h 0, .inr (2, [.ref (h 1), .ref (h 2), .ref (h 3), .ref (h 4), .ref (h 5), .ref (h 6), .ref (h 7), .long (eC row), .int (nI hc), .int (nI un)])), (h 3, .inl (cI, 6, .inl (fN hp))), (h 4, .inl (cI, 6, .inl (fN hi))), (e0, .inr (5, [.ref (h 0), .ref (y 0), .ref (z 0), .ref (d 0), .ref sc, .ref ru, .ref fu, .ref f0, .ref ra, .int (ib k0), .int (ib k1)])), (ra, .inl (cI, 3, .inl (upd rf 0 ((rf 0) + nI 1))))] := hD
    refine W.eq (g2 := F0 mG 21 ls [.int (-2)]) rfl ?_
    exact hend (-2) () _ _ _ _ (congrArg (fun z => some (Value.int z)) (by rw [hk]; rfl)) trivial rfl dX8_heard_21 (by rw [hk]; exact (hP.sub [3, 4, 0, 1, 2] rfl)) (by rw [hk]; exact (hD.sub [3, 4, 0, 1, 2] (by decide) rfl)) hS
  · refine lv_iload_n xh bh dX8_heard_7 rfl (lv_at hl 2 rfl) ?_
    refine lv_iconst (v := (nI 1)) xh bh dX8_heard_8 (by decide) ?_
    refine Ct.callS0 (rest := []) xh bh hml hown hts hK hP hS hA (ct_X8_isUpTo l D cI cJ cB cZ cA w 1 (by first | omega | assumption)) (va_cwS 2 hts gX8_heard_X8_isUpTo rfl rfl rfl (by decide +kernel) ⟨Nat.le_of_ble_eq_true rfl, Nat.le_of_ble_eq_true rfl⟩) rfl rfl hl.1 (Nat.le_of_ble_eq_true rfl) dX8_heard_9 ⟨Nat.le_refl _, Nat.le_refl _⟩ (fun _ H locs _ hP hS => ?_)
    refine W.eq (g2 := F0 mG 12 ls [.int (ib (upB w 1))]) rfl ?_
    refine xb_if_ne (tgt := 22) xh bh dX8_heard_12 (by decide) (fun c_12 => ?_) (fun c_12 => ?_)
    · refine lv_aload_n xh bh dX8_heard_22 rfl (lv_at hl 0 rfl) ?_
      refine va_get (D := D) (ci := 5) (v := .ref (h 0)) (C := RX8) (T := TX8) (N := 11) xh bh hts (fun _ h => List.mem_cons_of_mem _ (List.mem_append_left _ (List.mem_append_right _ (h)))) hown hK.1 hP 0 rfl rfl 0 (by decide) (hts _ (List.mem_of_getElem? (i := 1) rfl)) (fun _ h9 => h9) rfl dX8_heard_23 ?_
      refine va_get (D := D) (ci := 2) (v := .int (nI hc)) (C := RX3) (T := TX3) (N := 10) xh bh hts (fun _ h => List.mem_cons_of_mem _ (List.mem_append_right _ (h))) hown hK.1 hP 2 rfl rfl 8 (by decide) (hts _ (List.mem_of_getElem? (i := 2) rfl)) (fun _ h9 => h9) rfl dX8_heard_26 ?_
      refine lv_bipush (v := (nI 6)) xh bh dX8_heard_29 (by decide) ?_
      refine xn_icmp_lt (tgt := 41) xh bh dX8_heard_31 (by decide) (by omega) (by omega) (fun c_31 => ?_) (fun c_31 => ?_)
      · have hk : kHd x w hc = 3 := (if_pos (And.intro c_4 c_12)).trans (if_neg (by omega))
        obtain ⟨k, hk9, rfl⟩ := upB_of (by decide) c_4
        obtain ⟨k2, hk8, rfl⟩ := upB_of (by decide) c_12
        refine lv_aload_n xh bh dX8_heard_41 rfl (lv_at hl 0 rfl) ?_
        refine va_get (D := D) (ci := 5) (v := .ref (h 0)) (C := RX8) (T := TX8) (N := 11) xh bh hts (fun _ h => List.mem_cons_of_mem _ (List.mem_append_left _ (List.mem_append_right _ (h)))) hown hK.1 hP 0 rfl rfl 0 (by decide) (hts _ (List.mem_of_getElem? (i := 1) rfl)) (fun _ h9 => h9) rfl dX8_heard_42 ?_
        refine lv_iload_n xh bh dX8_heard_45 rfl (lv_at hl 1 rfl) ?_
        refine lv_iload_n xh bh dX8_heard_46 rfl (lv_at hl 2 rfl) ?_
        refine Ct.callV (As := [.int (nI k), .int (nI k2)]) (rest := []) (wr := [(e0, .inr (5, [.ref (h 0), .ref (y 0), .ref (z 0), .ref (d 0), .ref sc, .ref ru, .ref fu, .ref f0, .ref ra, .int (ib k0), .int (ib k1)])), (ra, .inl (cI, 3, .inl rf))]) xh bh hml hown hts hK hP hD hS hA (ct_X3_hear l D cI cJ cB cZ cA h hp hi row hc un k k2 (by first | omega | assumption)) (cwV 2 hts gX8_heard_X3_hear rfl rfl rfl (by decide +kernel) ⟨Nat.le_of_ble_eq_true rfl, Nat.le_of_ble_eq_true rfl⟩) rfl rfl hl.1 (Nat.le_of_ble_eq_true rfl) dX8_heard_47 ⟨Nat.le_refl _, Nat.le_refl _⟩ 0 2 rfl rfl rfl [2, 3, 4] [0, 1] rfl (by decide) rfl rfl (by decide) (by decide) (fun _ H locs _ hP hD hS => ?_)
        have hP : va_P D vwCl [(e0, .inr (5, [.ref (h 0), .ref (y 0), .ref (z 0), .ref (d 0), .ref sc, .ref ru, .ref fu, .ref f0, .ref ra, .int (ib k0), .int (ib k1)])), (ra, .inl (cI, 3, .inl rf)), (h 0, .inr (2, [.ref (h 1), .ref (h 2), .ref (h 3), .ref (h 4), .ref (h 5), .ref (h 6), .ref (h 7), .long (eC row), .int (nI (hc + 1)), .int (nI un)])), (h 3, .inl (cI, 6, .inl (fN (va_up hp hc k)))), (h 4, .inl (cI, 6, .inl (fN (va_up hi hc k2))))] H := hP
        have hD : va_D AG [(e0, .inr (5, [.ref (h 0), .ref (y 0), .ref (z 0), .ref (d 0), .ref sc, .ref ru, .ref fu, .ref f0, .ref ra, .int (ib k0), .int (ib k1)])), (ra, .inl (cI, 3, .inl rf)), (h 0, .inr (2, [.ref (h 1), .ref (h 2), .ref (h 3), .ref (h 4), .ref (h 5), .ref (h 6), .ref (h 7), .long (eC row), .int (nI (hc + 1)), .int (nI un)])), (h 3, .inl (cI, 6, .inl (fN (va_up hp hc k)))), (h 4, .inl (cI, 6, .inl (fN (va_up hi hc k2))))] := hD
        refine W.eq (g2 := F0 mG 50 ls []) rfl ?_
        refine lv_aload_n xh bh dX8_heard_50 rfl (lv_at hl 0 rfl) ?_
        refine va_get (D := D) (ci := 5) (v := .ref (h 0)) (C := RX8) (T := TX8) (N := 11) xh bh hts (fun _ h => List.mem_cons_of_mem _ (List.mem_append_left _ (List.mem_append_right _ (h)))) hown hK.1 hP 0 rfl rfl 0 (by decide) (hts _ (List.mem_of_getElem? (i := 1) rfl)) (fun _ h9 => h9) rfl dX8_heard_51 ?_
        refine va_get (D := D) (ci := 2) (v := .int (nI (hc + 1))) (C := RX3) (T := TX3) (N := 10) xh bh hts (fun _ h => List.mem_cons_of_mem _ (List.mem_append_right _ (h))) hown hK.1 hP 2 rfl rfl 8 (by decide) (hts _ (List.mem_of_getElem? (i := 2) rfl)) (fun _ h9 => h9) rfl dX8_heard_54 ?_
        exact hend (nI (hc + 1)) () _ _ _ _ (congrArg (fun z => some (Value.int z)) (by rw [hk]; rfl)) trivial rfl dX8_heard_57 (by rw [hk, xN_nI (by omega), xN_nI (by omega)]; exact hP) (by rw [hk, xN_nI (by omega), xN_nI (by omega)]; exact hD) hS
      · have hk : kHd x w hc = 2 := (if_pos (And.intro c_4 c_12)).trans (if_pos (by omega))
        refine lv_aload_n xh bh dX8_heard_34 rfl (lv_at hl 0 rfl) ?_
        refine lv_bipush (v := (-4)) xh bh dX8_heard_35 (by decide) ?_
        refine Ct.callV (As := [.int (-4)]) (rest := []) (wr := [(h 0, .inr (2, [.ref (h 1), .ref (h 2), .ref (h 3), .ref (h 4), .ref (h 5), .ref (h 6), .ref (h 7), .long (eC row), .int (nI hc), .int (nI un)])), (h 3, .inl (cI, 6, .inl (fN hp))), (h 4, .inl (cI, 6, .inl (fN hi)))]) xh bh hml hown hts hK hP hD hS hA (ct_X8_refuse2 l D cI cJ cB cZ cA e0 h y z d sc ru fu f0 ra k0 k1 rf ) (cwV 1 hts gX8_heard_X8_refuse rfl rfl rfl (by decide +kernel) ⟨Nat.le_of_ble_eq_true rfl, Nat.le_of_ble_eq_true rfl⟩) rfl rfl hl.1 (Nat.le_of_ble_eq_true rfl) dX8_heard_37 ⟨Nat.le_refl _, Nat.le_refl _⟩ 0 5 rfl rfl rfl [0, 1] [2, 3, 4] rfl (by decide) rfl rfl (by decide) (by decide) (fun _ H locs _ hP hD hS => ?_)
        have hP : va_P D vwCl [(h 0, .inr (2, [.ref (h 1), .ref (h 2), .ref (h 3), .ref (h 4), .ref (h 5), .ref (h 6), .ref (h 7), .long (eC row), .int (nI hc), .int (nI un)])), (h 3, .inl (cI, 6, .inl (fN hp))), (h 4, .inl (cI, 6, .inl (fN hi))), (e0, .inr (5, [.ref (h 0), .ref (y 0), .ref (z 0), .ref (d 0), .ref sc, .ref ru, .ref fu, .ref f0, .ref ra, .int (ib k0), .int (ib k1)])), (ra, .inl (cI, 3, .inl (upd rf 2 ((rf 2) + nI 1))))] H := hP
        have hD : va_D AG [(h 0, .inr (2, [.ref (h 1), .ref (h 2), .ref (h 3), .ref (h 4), .ref (h 5), .ref (h 6), .ref (h 7), .long (eC row), .int (nI hc), .int (nI un)])), (h 3, .inl (cI, 6, .inl (fN hp))), (h 4, .inl (cI, 6, .inl (fN hi))), (e0, .inr (5, [.ref (h 0), .ref (y 0), .ref (z 0), .ref (d 0), .ref sc, .ref ru, .ref fu, .ref f0, .ref ra, .int (ib k0), .int (ib k1)])), (ra, .inl (cI, 3, .inl (upd rf 2 ((rf 2) + nI 1))))] := hD
        refine W.eq (g2 := F0 mG 40 ls [.int (-4)]) rfl ?_
        exact hend (-4) () _ _ _ _ (congrArg (fun z => some (Value.int z)) (by rw [hk]; rfl)) trivial rfl dX8_heard_40 (by rw [hk]; exact (hP.sub [3, 4, 0, 1, 2] rfl)) (by rw [hk]; exact (hD.sub [3, 4, 0, 1, 2] (by decide) rfl)) hS
    · have hk : kHd x w hc = 0 := if_neg (fun q => by rw [c_12] at q; exact absurd q.2 (by decide))
      refine lv_aload_n xh bh dX8_heard_15 rfl (lv_at hl 0 rfl) ?_
      refine lv_bipush (v := (-2)) xh bh dX8_heard_16 (by decide) ?_
      refine Ct.callV (As := [.int (-2)]) (rest := []) (wr := [(h 0, .inr (2, [.ref (h 1), .ref (h 2), .ref (h 3), .ref (h 4), .ref (h 5), .ref (h 6), .ref (h 7), .long (eC row), .int (nI hc), .int (nI un)])), (h 3, .inl (cI, 6, .inl (fN hp))), (h 4, .inl (cI, 6, .inl (fN hi)))]) xh bh hml hown hts hK hP hD hS hA (ct_X8_refuse0 l D cI cJ cB cZ cA e0 h y z d sc ru fu f0 ra k0 k1 rf ) (cwV 1 hts gX8_heard_X8_refuse rfl rfl rfl (by decide +kernel) ⟨Nat.le_of_ble_eq_true rfl, Nat.le_of_ble_eq_true rfl⟩) rfl rfl hl.1 (Nat.le_of_ble_eq_true rfl) dX8_heard_18 ⟨Nat.le_refl _, Nat.le_refl _⟩ 0 5 rfl rfl rfl [0, 1] [2, 3, 4] rfl (by decide) rfl rfl (by decide) (by decide) (fun _ H locs _ hP hD hS => ?_)
      have hP : va_P D vwCl [(h 0, .inr (2, [.ref (h 1), .ref (h 2), .ref (h 3), .ref (h 4), .ref (h 5), .ref (h 6), .ref (h 7), .long (eC row), .int (nI hc), .int (nI un)])), (h 3, .inl (cI, 6, .inl (fN hp))), (h 4, .inl (cI, 6, .inl (fN hi))), (e0, .inr (5, [.ref (h 0), .ref (y 0), .ref (z 0), .ref (d 0), .ref sc, .ref ru, .ref fu, .ref f0, .ref ra, .int (ib k0), .int (ib k1)])), (ra, .inl (cI, 3, .inl (upd rf 0 ((rf 0) + nI 1))))] H := hP
      have hD : va_D AG [(h 0, .inr (2, [.ref (h 1), .ref (h 2), .ref (h 3), .ref (h 4), .ref (h 5), .ref (h 6), .ref (h 7), .long (eC row), .int (nI hc), .int (nI un)])), (h 3, .inl (cI, 6, .inl (fN hp))), (h 4, .inl (cI, 6, .inl (fN hi))), (e0, .inr (5, [.ref (h 0), .ref (y 0), .ref (z 0), .ref (d 0), .ref sc, .ref ru, .ref fu, .ref f0, .ref ra, .int (ib k0), .int (ib k1)])), (ra, .inl (cI, 3, .inl (upd rf 0 ((rf 0) + nI 1))))] := hD
      refine W.eq (g2 := F0 mG 21 ls [.int (-2)]) rfl ?_
      exact hend (-2) () _ _ _ _ (congrArg (fun z => some (Value.int z)) (by rw [hk]; rfl)) trivial rfl dX8_heard_21 (by rw [hk]; exact (hP.sub [3, 4, 0, 1, 2] rfl)) (by rw [hk]; exact (hD.sub [3, 4, 0, 1, 2] (by decide) rfl)) hS

set_option maxHeartbeats 1000000 in
set_option maxRecDepth 100000 in
theorem ct_X8_forget (l : Launch) (D : va_G) (cI cJ cB cZ cA : ClassId) (e0 : Nat) (h : Nat → Nat) (y : Nat → Nat) (z : Nat → Nat) (d : Nat → Nat) (sc : Nat) (ru : Nat) (fu : Nat) (f0 : Nat) (ra : Nat) (k0 : Bool) (k1 : Bool) (row : List Nat) (hc : Nat) (un : Nat) (rf : Nat → Int32) : Ct l yX8_forget wsX8_forget ({ frames := 0, cells := 0, slots := 0, locals := 0 }) D (tysG cI cJ cB cZ cA) [.ref e0] [(e0, .inr (5, [.ref (h 0), .ref (y 0), .ref (z 0), .ref (d 0), .ref sc, .ref ru, .ref fu, .ref f0, .ref ra, .int (ib k0), .int (ib k1)])), (ra, .inl (cI, 3, .inl rf)), (h 0, .inr (2, [.ref (h 1), .ref (h 2), .ref (h 3), .ref (h 4), .ref (h 5), .ref (h 6), .ref (h 7), .long (eC row), .int (nI hc), .int (nI un)]))] (fun (_ : Unit) => True) (fun _ => some (.int (nI hc))) (fun _ => [(e0, .inr (5, [.ref (h 0), .ref (y 0), .ref (z 0), .ref (d 0), .ref sc, .ref ru, .ref fu, .ref f0, .ref ra, .int (ib k0), .int (ib k1)])), (ra, .inl (cI, 3, .inl rf)), (h 0, .inr (2, [.ref (h 1), .ref (h 2), .ref (h 3), .ref (h 4), .ref (h 5), .ref (h 6), .ref (h 7), .long (eC row), .int (nI 0), .int (nI un)]))]) := by
  refine Ct.ofI (cc := cX8_forget) (maxL := 2) (by decide) rfl (Nat.le_of_ble_eq_true rfl) ?_
  intro pG eG sG mG aG bG tG cG AG QG ls xh bh hml hown hts hK hP hD hS hA hend hl
  have hl : lv_has ls 2 [(0, .ref e0)] := hl
  refine lv_aload_n xh bh dX8_forget_0 rfl (lv_at hl 0 rfl) ?_
  refine va_get (D := D) (ci := 5) (v := .ref (h 0)) (C := RX8) (T := TX8) (N := 11) xh bh hts (fun _ h => List.mem_cons_of_mem _ (List.mem_append_left _ (List.mem_append_right _ (h)))) hown hK.1 hP 0 rfl rfl 0 (by decide) (hts _ (List.mem_of_getElem? (i := 1) rfl)) (fun _ h9 => h9) rfl dX8_forget_1 ?_
  refine va_get (D := D) (ci := 2) (v := .int (nI hc)) (C := RX3) (T := TX3) (N := 10) xh bh hts (fun _ h => List.mem_cons_of_mem _ (List.mem_append_right _ (h))) hown hK.1 hP 2 rfl rfl 8 (by decide) (hts _ (List.mem_of_getElem? (i := 2) rfl)) (fun _ h9 => h9) rfl dX8_forget_4 ?_
  refine lv_istore_n (lv' := [(1, .int (nI hc)), (0, .ref e0)]) xh bh dX8_forget_7 rfl hl (by decide) rfl (fun ls hl => ?_)
  refine lv_aload_n xh bh dX8_forget_8 rfl (lv_at hl 1 rfl) ?_
  refine va_get (D := D) (ci := 5) (v := .ref (h 0)) (C := RX8) (T := TX8) (N := 11) xh bh hts (fun _ h => List.mem_cons_of_mem _ (List.mem_append_left _ (List.mem_append_right _ (h)))) hown hK.1 hP 0 rfl rfl 0 (by decide) (hts _ (List.mem_of_getElem? (i := 1) rfl)) (fun _ h9 => h9) rfl dX8_forget_9 ?_
  refine lv_iconst (v := (nI 0)) xh bh dX8_forget_12 (by decide) ?_
  refine va_put (D := D) (ci := 2) (v := .int (nI 0)) (ty := .int) (C := RX3) (T := TX3) (N := 10) xh bh hts (fun _ h => List.mem_cons_of_mem _ (List.mem_append_right _ (h))) tyX3 tyX3_ok nmX3 hown hK.1 hP hD hS 2 rfl rfl 8 (by decide) (hts _ (List.mem_of_getElem? (i := 2) rfl)) (fun _ h9 => h9) rfl (by decide +kernel) (by rfl) (by rfl) (Nat.le_of_ble_eq_true rfl) dX8_forget_13 (fun H locs hP hD hS => ?_)
  have hP : va_P D vwCl [(e0, .inr (5, [.ref (h 0), .ref (y 0), .ref (z 0), .ref (d 0), .ref sc, .ref ru, .ref fu, .ref f0, .ref ra, .int (ib k0), .int (ib k1)])), (ra, .inl (cI, 3, .inl rf)), (h 0, .inr (2, [.ref (h 1), .ref (h 2), .ref (h 3), .ref (h 4), .ref (h 5), .ref (h 6), .ref (h 7), .long (eC row), .int (nI 0), .int (nI un)]))] H := hP
  have hD : va_D AG [(e0, .inr (5, [.ref (h 0), .ref (y 0), .ref (z 0), .ref (d 0), .ref sc, .ref ru, .ref fu, .ref f0, .ref ra, .int (ib k0), .int (ib k1)])), (ra, .inl (cI, 3, .inl rf)), (h 0, .inr (2, [.ref (h 1), .ref (h 2), .ref (h 3), .ref (h 4), .ref (h 5), .ref (h 6), .ref (h 7), .long (eC row), .int (nI 0), .int (nI un)]))] := hD
  refine lv_iload_n xh bh dX8_forget_16 rfl (lv_at hl 0 rfl) ?_
  exact hend (nI hc) () _ _ _ _ (congrArg (fun z => some (Value.int (nI z))) (by rfl)) trivial rfl dX8_forget_17 hP hD hS

set_option maxHeartbeats 1000000 in
set_option maxRecDepth 100000 in
theorem ct_X8_door (l : Launch) (D : va_G) (cI cJ cB cZ cA : ClassId) (e0 : Nat) (h : Nat → Nat) (y : Nat → Nat) (z : Nat → Nat) (d : Nat → Nat) (sc : Nat) (ru : Nat) (fu : Nat) (f0 : Nat) (ra : Nat) (k0 : Bool) (k1 : Bool) (T : Nat → List Nat) (hp : Nat → Nat) (hi : Nat → Nat) (row : List Nat) (hc : Nat) (un : Nat) (rf : Nat → Int32) (hT : ∀ k, okT (T k)) (hhc : hc ≤ 6) (hhp : ∀ k, k < hc → hp k < 10) (hhi : ∀ k, k < hc → hi k < 2) : Ct l yX8_door wsX8_door ({ frames := 5, cells := 0, slots := 0, locals := 113 }) D (tysG cI cJ cB cZ cA) [.ref e0] [(e0, .inr (5, [.ref (h 0), .ref (y 0), .ref (z 0), .ref (d 0), .ref sc, .ref ru, .ref fu, .ref f0, .ref ra, .int (ib k0), .int (ib k1)])), (ra, .inl (cI, 3, .inl rf)), (h 0, .inr (2, [.ref (h 1), .ref (h 2), .ref (h 3), .ref (h 4), .ref (h 5), .ref (h 6), .ref (h 7), .long (eC row), .int (nI hc), .int (nI un)])), (h 1, .inl (cJ, 8, .inr (.inl (fC T)))), (h 3, .inl (cI, 6, .inl (fN hp))), (h 4, .inl (cI, 6, .inl (fN hi)))] (fun (_ : Unit) => True) (fun _ => some (.int (nI (ltN T hp hi hc)))) (fun _ => [(e0, .inr (5, [.ref (h 0), .ref (y 0), .ref (z 0), .ref (d 0), .ref sc, .ref ru, .ref fu, .ref f0, .ref ra, .int (ib k0), .int (ib k1)])), (ra, .inl (cI, 3, .inl rf)), (h 0, .inr (2, [.ref (h 1), .ref (h 2), .ref (h 3), .ref (h 4), .ref (h 5), .ref (h 6), .ref (h 7), .long (eC row), .int (nI hc), .int (nI un)])), (h 1, .inl (cJ, 8, .inr (.inl (fC T)))), (h 3, .inl (cI, 6, .inl (fN hp))), (h 4, .inl (cI, 6, .inl (fN hi)))]) := by
  refine Ct.ofI (cc := cX8_door) (maxL := 1) (by decide) rfl (Nat.le_of_ble_eq_true rfl) ?_
  intro pG eG sG mG aG bG tG cG AG QG ls xh bh hml hown hts hK hP hD hS hA hend hl
  have hl : lv_has ls 1 [(0, .ref e0)] := hl
  refine lv_aload_n xh bh dX8_door_0 rfl (lv_at hl 0 rfl) ?_
  refine va_get (D := D) (ci := 5) (v := .ref (h 0)) (C := RX8) (T := TX8) (N := 11) xh bh hts (fun _ h => List.mem_cons_of_mem _ (List.mem_append_left _ (List.mem_append_right _ (h)))) hown hK.1 hP 0 rfl rfl 0 (by decide) (hts _ (List.mem_of_getElem? (i := 1) rfl)) (fun _ h9 => h9) rfl dX8_door_1 ?_
  refine Ct.callV (As := []) (rest := []) (wr := [(e0, .inr (5, [.ref (h 0), .ref (y 0), .ref (z 0), .ref (d 0), .ref sc, .ref ru, .ref fu, .ref f0, .ref ra, .int (ib k0), .int (ib k1)])), (ra, .inl (cI, 3, .inl rf))]) xh bh hml hown hts hK hP hD hS hA (ct_X3_letThrough l D cI cJ cB cZ cA h T hp hi row hc un (by first | assumption) (by first | omega | assumption) (by first | assumption) (by first | assumption)) (cwV 0 hts gX8_door_X3_letThrough rfl rfl rfl (by decide +kernel) ⟨Nat.le_of_ble_eq_true rfl, Nat.le_of_ble_eq_true rfl⟩) rfl rfl hl.1 (Nat.le_of_ble_eq_true rfl) dX8_door_4 ⟨Nat.le_refl _, Nat.le_refl _⟩ 0 2 rfl rfl rfl [2, 3, 4, 5] [0, 1] rfl (by decide) rfl rfl (by decide) (by decide) (fun _ H locs _ hP hD hS => ?_)
  have hP : va_P D vwCl [(e0, .inr (5, [.ref (h 0), .ref (y 0), .ref (z 0), .ref (d 0), .ref sc, .ref ru, .ref fu, .ref f0, .ref ra, .int (ib k0), .int (ib k1)])), (ra, .inl (cI, 3, .inl rf)), (h 0, .inr (2, [.ref (h 1), .ref (h 2), .ref (h 3), .ref (h 4), .ref (h 5), .ref (h 6), .ref (h 7), .long (eC row), .int (nI hc), .int (nI un)])), (h 1, .inl (cJ, 8, .inr (.inl (fC T)))), (h 3, .inl (cI, 6, .inl (fN hp))), (h 4, .inl (cI, 6, .inl (fN hi)))] H := hP
  have hD : va_D AG [(e0, .inr (5, [.ref (h 0), .ref (y 0), .ref (z 0), .ref (d 0), .ref sc, .ref ru, .ref fu, .ref f0, .ref ra, .int (ib k0), .int (ib k1)])), (ra, .inl (cI, 3, .inl rf)), (h 0, .inr (2, [.ref (h 1), .ref (h 2), .ref (h 3), .ref (h 4), .ref (h 5), .ref (h 6), .ref (h 7), .long (eC row), .int (nI hc), .int (nI un)])), (h 1, .inl (cJ, 8, .inr (.inl (fC T)))), (h 3, .inl (cI, 6, .inl (fN hp))), (h 4, .inl (cI, 6, .inl (fN hi)))] := hD
  refine W.eq (g2 := F0 mG 7 ls [.int (nI (ltN T hp hi hc))]) rfl ?_
  exact hend (nI (ltN T hp hi hc)) () _ _ _ _ (congrArg (fun z => some (Value.int (nI z))) (by rfl)) trivial rfl dX8_door_7 hP hD hS

set_option maxHeartbeats 1000000 in
set_option maxRecDepth 100000 in
theorem ct_X8_fun (l : Launch) (D : va_G) (cI cJ cB cZ cA : ClassId) (e0 : Nat) (h : Nat → Nat) (y : Nat → Nat) (z : Nat → Nat) (d : Nat → Nat) (sc : Nat) (ru : Nat) (fu : Nat) (f0 : Nat) (ra : Nat) (k0 : Bool) (k1 : Bool) (T : Nat → List Nat) (row : List Nat) (hc : Nat) (un : Nat) (rf : Nat → Int32) (b : Int32) (hT : ∀ k, okT (T k)) : Ct l yX8_fun wsX8_fun ({ frames := 3, cells := 0, slots := 0, locals := 62 }) D (tysG cI cJ cB cZ cA) [.ref e0, .int b] [(e0, .inr (5, [.ref (h 0), .ref (y 0), .ref (z 0), .ref (d 0), .ref sc, .ref ru, .ref fu, .ref f0, .ref ra, .int (ib k0), .int (ib k1)])), (ra, .inl (cI, 3, .inl rf)), (h 0, .inr (2, [.ref (h 1), .ref (h 2), .ref (h 3), .ref (h 4), .ref (h 5), .ref (h 6), .ref (h 7), .long (eC row), .int (nI hc), .int (nI un)])), (h 1, .inl (cJ, 8, .inr (.inl (fC T))))] (fun (_ : Unit) => True) (fun _ => some (.int (eFun (kBr b) (funT (T (xN b)))))) (fun _ => [(e0, .inr (5, [.ref (h 0), .ref (y 0), .ref (z 0), .ref (d 0), .ref sc, .ref ru, .ref fu, .ref f0, .ref ra, .int (ib k0), .int (ib k1)])), (ra, .inl (cI, 3, .inl (rfU (kBr b) rf))), (h 0, .inr (2, [.ref (h 1), .ref (h 2), .ref (h 3), .ref (h 4), .ref (h 5), .ref (h 6), .ref (h 7), .long (eC row), .int (nI hc), .int (nI un)])), (h 1, .inl (cJ, 8, .inr (.inl (fC T))))]) := by
  refine Ct.ofI (cc := cX8_fun) (maxL := 2) (by decide) rfl (Nat.le_of_ble_eq_true rfl) ?_
  intro pG eG sG mG aG bG tG cG AG QG ls xh bh hml hown hts hK hP hD hS hA hend hl
  have hl : lv_has ls 2 [(0, .ref e0), (1, .int b)] := hl
  refine lv_iload_n xh bh dX8_fun_0 rfl (lv_at hl 1 rfl) ?_
  refine Ct.callS0 (rest := []) xh bh hml hown hts hK hP hS hA (ct_X8_isBranch l D cI cJ cB cZ cA b ) (va_cwS 1 hts gX8_fun_X8_isBranch rfl rfl rfl (by decide +kernel) ⟨Nat.le_of_ble_eq_true rfl, Nat.le_of_ble_eq_true rfl⟩) rfl rfl hl.1 (Nat.le_of_ble_eq_true rfl) dX8_fun_1 ⟨Nat.le_refl _, Nat.le_refl _⟩ (fun _ H locs _ hP hS => ?_)
  refine W.eq (g2 := F0 mG 4 ls [.int (ib (upB b 7))]) rfl ?_
  refine xb_if_eq (tgt := 21) xh bh dX8_fun_4 (by decide) (fun c_4 => ?_) (fun c_4 => ?_)
  · have hk : kBr b = 0 := if_neg (by rw [c_4]; decide)
    refine lv_aload_n xh bh dX8_fun_21 rfl (lv_at hl 0 rfl) ?_
    refine lv_bipush (v := (-2)) xh bh dX8_fun_22 (by decide) ?_
    refine lv_sipush (v := (-1000)) xh bh dX8_fun_24 (by decide) ?_
    refine Ct.callV (As := [.int (-2), .int (-1000)]) (rest := []) (wr := [(h 0, .inr (2, [.ref (h 1), .ref (h 2), .ref (h 3), .ref (h 4), .ref (h 5), .ref (h 6), .ref (h 7), .long (eC row), .int (nI hc), .int (nI un)])), (h 1, .inl (cJ, 8, .inr (.inl (fC T))))]) xh bh hml hown hts hK hP hD hS hA (ct_X8_refuse_0 l D cI cJ cB cZ cA e0 h y z d sc ru fu f0 ra k0 k1 rf (-1000) ) (cwV 2 hts gX8_fun_X8_refuse_ rfl rfl rfl (by decide +kernel) ⟨Nat.le_of_ble_eq_true rfl, Nat.le_of_ble_eq_true rfl⟩) rfl rfl hl.1 (Nat.le_of_ble_eq_true rfl) dX8_fun_27 ⟨Nat.le_refl _, Nat.le_refl _⟩ 0 5 rfl rfl rfl [0, 1] [2, 3] rfl (by decide) rfl rfl (by decide) (by decide) (fun _ H locs _ hP hD hS => ?_)
    have hP : va_P D vwCl [(h 0, .inr (2, [.ref (h 1), .ref (h 2), .ref (h 3), .ref (h 4), .ref (h 5), .ref (h 6), .ref (h 7), .long (eC row), .int (nI hc), .int (nI un)])), (h 1, .inl (cJ, 8, .inr (.inl (fC T)))), (e0, .inr (5, [.ref (h 0), .ref (y 0), .ref (z 0), .ref (d 0), .ref sc, .ref ru, .ref fu, .ref f0, .ref ra, .int (ib k0), .int (ib k1)])), (ra, .inl (cI, 3, .inl (upd rf 0 ((rf 0) + nI 1))))] H := hP
    have hD : va_D AG [(h 0, .inr (2, [.ref (h 1), .ref (h 2), .ref (h 3), .ref (h 4), .ref (h 5), .ref (h 6), .ref (h 7), .long (eC row), .int (nI hc), .int (nI un)])), (h 1, .inl (cJ, 8, .inr (.inl (fC T)))), (e0, .inr (5, [.ref (h 0), .ref (y 0), .ref (z 0), .ref (d 0), .ref sc, .ref ru, .ref fu, .ref f0, .ref ra, .int (ib k0), .int (ib k1)])), (ra, .inl (cI, 3, .inl (upd rf 0 ((rf 0) + nI 1))))] := hD
    refine W.eq (g2 := F0 mG 30 ls [.int (-1000)]) rfl ?_
    exact hend (-1000) () _ _ _ _ (congrArg (fun z => some (Value.int z)) (by rw [hk]; first | rfl | (rw [xN_nI (by omega)]; rfl))) trivial rfl dX8_fun_30 (by rw [hk]; exact (hP.sub [2, 3, 0, 1] rfl)) (by rw [hk]; exact (hD.sub [2, 3, 0, 1] (by decide) rfl)) hS
  · have hk : kBr b = 3 := if_pos c_4
    obtain ⟨k, hk9, rfl⟩ := upB_of (by decide) c_4
    refine lv_aload_n xh bh dX8_fun_7 rfl (lv_at hl 0 rfl) ?_
    refine va_get (D := D) (ci := 5) (v := .ref (h 0)) (C := RX8) (T := TX8) (N := 11) xh bh hts (fun _ h => List.mem_cons_of_mem _ (List.mem_append_left _ (List.mem_append_right _ (h)))) hown hK.1 hP 0 rfl rfl 0 (by decide) (hts _ (List.mem_of_getElem? (i := 1) rfl)) (fun _ h9 => h9) rfl dX8_fun_8 ?_
    refine lv_iload_n xh bh dX8_fun_11 rfl (lv_at hl 1 rfl) ?_
    refine Ct.callV (As := [.int (nI k)]) (rest := []) (wr := [(e0, .inr (5, [.ref (h 0), .ref (y 0), .ref (z 0), .ref (d 0), .ref sc, .ref ru, .ref fu, .ref f0, .ref ra, .int (ib k0), .int (ib k1)])), (ra, .inl (cI, 3, .inl rf))]) xh bh hml hown hts hK hP hD hS hA (ct_X3_taleOf l D cI cJ cB cZ cA h T row hc un k (by first | omega | assumption)) (cwV 1 hts gX8_fun_X3_taleOf rfl rfl rfl (by decide +kernel) ⟨Nat.le_of_ble_eq_true rfl, Nat.le_of_ble_eq_true rfl⟩) rfl rfl hl.1 (Nat.le_of_ble_eq_true rfl) dX8_fun_12 ⟨Nat.le_refl _, Nat.le_refl _⟩ 0 2 rfl rfl rfl [2, 3] [0, 1] rfl (by decide) rfl rfl (by decide) (by decide) (fun _ H locs _ hP hD hS => ?_)
    have hP : va_P D vwCl [(e0, .inr (5, [.ref (h 0), .ref (y 0), .ref (z 0), .ref (d 0), .ref sc, .ref ru, .ref fu, .ref f0, .ref ra, .int (ib k0), .int (ib k1)])), (ra, .inl (cI, 3, .inl rf)), (h 0, .inr (2, [.ref (h 1), .ref (h 2), .ref (h 3), .ref (h 4), .ref (h 5), .ref (h 6), .ref (h 7), .long (eC row), .int (nI hc), .int (nI un)])), (h 1, .inl (cJ, 8, .inr (.inl (fC T))))] H := hP
    have hD : va_D AG [(e0, .inr (5, [.ref (h 0), .ref (y 0), .ref (z 0), .ref (d 0), .ref sc, .ref ru, .ref fu, .ref f0, .ref ra, .int (ib k0), .int (ib k1)])), (ra, .inl (cI, 3, .inl rf)), (h 0, .inr (2, [.ref (h 1), .ref (h 2), .ref (h 3), .ref (h 4), .ref (h 5), .ref (h 6), .ref (h 7), .long (eC row), .int (nI hc), .int (nI un)])), (h 1, .inl (cJ, 8, .inr (.inl (fC T))))] := hD
    refine W.eq (g2 := F0 mG 15 ls [.long (eC (T k))]) rfl ?_
    refine Ct.callS0 (rest := []) xh bh hml hown hts hK hP hS hA (ct_X4_funOf l D cI cJ cB cZ cA (T k) (by exact hT _)) (va_cwS 1 hts gX8_fun_X4_funOf rfl rfl rfl (by decide +kernel) ⟨Nat.le_of_ble_eq_true rfl, Nat.le_of_ble_eq_true rfl⟩) rfl rfl hl.1 (Nat.le_of_ble_eq_true rfl) dX8_fun_15 ⟨Nat.le_refl _, Nat.le_refl _⟩ (fun _ H locs _ hP hS => ?_)
    refine W.eq (g2 := F0 mG 18 ls [.int (funT (T k))]) rfl ?_
    refine lv_goto (tgt := 30) xh bh dX8_fun_18 (by decide) ?_
    exact hend (funT (T k)) () _ _ _ _ (congrArg (fun z => some (Value.int z)) (by rw [hk]; first | rfl | (rw [xN_nI (by omega)]; rfl))) trivial rfl dX8_fun_30 (by rw [hk]; exact hP) (by rw [hk]; exact hD) hS

set_option maxHeartbeats 1000000 in
set_option maxRecDepth 100000 in
theorem ct_X8_slip (l : Launch) (D : va_G) (cI cJ cB cZ cA : ClassId) (e0 : Nat) (h : Nat → Nat) (y : Nat → Nat) (z : Nat → Nat) (d : Nat → Nat) (sc : Nat) (ru : Nat) (fu : Nat) (f0 : Nat) (ra : Nat) (k0 : Bool) (k1 : Bool) (T : Nat → List Nat) (row : List Nat) (hc : Nat) (un : Nat) (rf : Nat → Int32) (b : Int32) (hT : ∀ k, okT (T k)) : Ct l yX8_slip wsX8_slip ({ frames := 6, cells := 0, slots := 0, locals := 146 }) D (tysG cI cJ cB cZ cA) [.ref e0, .int b] [(e0, .inr (5, [.ref (h 0), .ref (y 0), .ref (z 0), .ref (d 0), .ref sc, .ref ru, .ref fu, .ref f0, .ref ra, .int (ib k0), .int (ib k1)])), (ra, .inl (cI, 3, .inl rf)), (h 0, .inr (2, [.ref (h 1), .ref (h 2), .ref (h 3), .ref (h 4), .ref (h 5), .ref (h 6), .ref (h 7), .long (eC row), .int (nI hc), .int (nI un)])), (h 1, .inl (cJ, 8, .inr (.inl (fC T))))] (fun (_ : Unit) => True) (fun _ => some (.int (eSlip (kBr b) (slP (T (xN b)) 500).1))) (fun _ => [(e0, .inr (5, [.ref (h 0), .ref (y 0), .ref (z 0), .ref (d 0), .ref sc, .ref ru, .ref fu, .ref f0, .ref ra, .int (ib k0), .int (ib k1)])), (ra, .inl (cI, 3, .inl (rfU (kBr b) rf))), (h 0, .inr (2, [.ref (h 1), .ref (h 2), .ref (h 3), .ref (h 4), .ref (h 5), .ref (h 6), .ref (h 7), .long (eC row), .int (nI hc), .int (nI un)])), (h 1, .inl (cJ, 8, .inr (.inl (fC T))))]) := by
  refine Ct.ofI (cc := cX8_slip) (maxL := 2) (by decide) rfl (Nat.le_of_ble_eq_true rfl) ?_
  intro pG eG sG mG aG bG tG cG AG QG ls xh bh hml hown hts hK hP hD hS hA hend hl
  have hl : lv_has ls 2 [(0, .ref e0), (1, .int b)] := hl
  refine lv_iload_n xh bh dX8_slip_0 rfl (lv_at hl 1 rfl) ?_
  refine Ct.callS0 (rest := []) xh bh hml hown hts hK hP hS hA (ct_X8_isBranch l D cI cJ cB cZ cA b ) (va_cwS 1 hts gX8_slip_X8_isBranch rfl rfl rfl (by decide +kernel) ⟨Nat.le_of_ble_eq_true rfl, Nat.le_of_ble_eq_true rfl⟩) rfl rfl hl.1 (Nat.le_of_ble_eq_true rfl) dX8_slip_1 ⟨Nat.le_refl _, Nat.le_refl _⟩ (fun _ H locs _ hP hS => ?_)
  refine W.eq (g2 := F0 mG 4 ls [.int (ib (upB b 7))]) rfl ?_
  refine xb_if_eq (tgt := 21) xh bh dX8_slip_4 (by decide) (fun c_4 => ?_) (fun c_4 => ?_)
  · have hk : kBr b = 0 := if_neg (by rw [c_4]; decide)
    refine lv_aload_n xh bh dX8_slip_21 rfl (lv_at hl 0 rfl) ?_
    refine lv_bipush (v := (-2)) xh bh dX8_slip_22 (by decide) ?_
    refine Ct.callV (As := [.int (-2)]) (rest := []) (wr := [(h 0, .inr (2, [.ref (h 1), .ref (h 2), .ref (h 3), .ref (h 4), .ref (h 5), .ref (h 6), .ref (h 7), .long (eC row), .int (nI hc), .int (nI un)])), (h 1, .inl (cJ, 8, .inr (.inl (fC T))))]) xh bh hml hown hts hK hP hD hS hA (ct_X8_refuse0 l D cI cJ cB cZ cA e0 h y z d sc ru fu f0 ra k0 k1 rf ) (cwV 1 hts gX8_slip_X8_refuse rfl rfl rfl (by decide +kernel) ⟨Nat.le_of_ble_eq_true rfl, Nat.le_of_ble_eq_true rfl⟩) rfl rfl hl.1 (Nat.le_of_ble_eq_true rfl) dX8_slip_24 ⟨Nat.le_refl _, Nat.le_refl _⟩ 0 5 rfl rfl rfl [0, 1] [2, 3] rfl (by decide) rfl rfl (by decide) (by decide) (fun _ H locs _ hP hD hS => ?_)
    have hP : va_P D vwCl [(h 0, .inr (2, [.ref (h 1), .ref (h 2), .ref (h 3), .ref (h 4), .ref (h 5), .ref (h 6), .ref (h 7), .long (eC row), .int (nI hc), .int (nI un)])), (h 1, .inl (cJ, 8, .inr (.inl (fC T)))), (e0, .inr (5, [.ref (h 0), .ref (y 0), .ref (z 0), .ref (d 0), .ref sc, .ref ru, .ref fu, .ref f0, .ref ra, .int (ib k0), .int (ib k1)])), (ra, .inl (cI, 3, .inl (upd rf 0 ((rf 0) + nI 1))))] H := hP
    have hD : va_D AG [(h 0, .inr (2, [.ref (h 1), .ref (h 2), .ref (h 3), .ref (h 4), .ref (h 5), .ref (h 6), .ref (h 7), .long (eC row), .int (nI hc), .int (nI un)])), (h 1, .inl (cJ, 8, .inr (.inl (fC T)))), (e0, .inr (5, [.ref (h 0), .ref (y 0), .ref (z 0), .ref (d 0), .ref sc, .ref ru, .ref fu, .ref f0, .ref ra, .int (ib k0), .int (ib k1)])), (ra, .inl (cI, 3, .inl (upd rf 0 ((rf 0) + nI 1))))] := hD
    refine W.eq (g2 := F0 mG 27 ls [.int (-2)]) rfl ?_
    exact hend (-2) () _ _ _ _ (congrArg (fun z => some (Value.int z)) (by rw [hk]; first | (rw [xN_nI (by omega)]; rfl) | rfl)) trivial rfl dX8_slip_27 (by rw [hk]; exact (hP.sub [2, 3, 0, 1] rfl)) (by rw [hk]; exact (hD.sub [2, 3, 0, 1] (by decide) rfl)) hS
  · have hk : kBr b = 3 := if_pos c_4
    obtain ⟨k, hk9, rfl⟩ := upB_of (by decide) c_4
    refine lv_aload_n xh bh dX8_slip_7 rfl (lv_at hl 0 rfl) ?_
    refine va_get (D := D) (ci := 5) (v := .ref (h 0)) (C := RX8) (T := TX8) (N := 11) xh bh hts (fun _ h => List.mem_cons_of_mem _ (List.mem_append_left _ (List.mem_append_right _ (h)))) hown hK.1 hP 0 rfl rfl 0 (by decide) (hts _ (List.mem_of_getElem? (i := 1) rfl)) (fun _ h9 => h9) rfl dX8_slip_8 ?_
    refine lv_iload_n xh bh dX8_slip_11 rfl (lv_at hl 1 rfl) ?_
    refine Ct.callV (As := [.int (nI k)]) (rest := []) (wr := [(e0, .inr (5, [.ref (h 0), .ref (y 0), .ref (z 0), .ref (d 0), .ref sc, .ref ru, .ref fu, .ref f0, .ref ra, .int (ib k0), .int (ib k1)])), (ra, .inl (cI, 3, .inl rf))]) xh bh hml hown hts hK hP hD hS hA (ct_X3_taleOf l D cI cJ cB cZ cA h T row hc un k (by first | omega | assumption)) (cwV 1 hts gX8_slip_X3_taleOf rfl rfl rfl (by decide +kernel) ⟨Nat.le_of_ble_eq_true rfl, Nat.le_of_ble_eq_true rfl⟩) rfl rfl hl.1 (Nat.le_of_ble_eq_true rfl) dX8_slip_12 ⟨Nat.le_refl _, Nat.le_refl _⟩ 0 2 rfl rfl rfl [2, 3] [0, 1] rfl (by decide) rfl rfl (by decide) (by decide) (fun _ H locs _ hP hD hS => ?_)
    have hP : va_P D vwCl [(e0, .inr (5, [.ref (h 0), .ref (y 0), .ref (z 0), .ref (d 0), .ref sc, .ref ru, .ref fu, .ref f0, .ref ra, .int (ib k0), .int (ib k1)])), (ra, .inl (cI, 3, .inl rf)), (h 0, .inr (2, [.ref (h 1), .ref (h 2), .ref (h 3), .ref (h 4), .ref (h 5), .ref (h 6), .ref (h 7), .long (eC row), .int (nI hc), .int (nI un)])), (h 1, .inl (cJ, 8, .inr (.inl (fC T))))] H := hP
    have hD : va_D AG [(e0, .inr (5, [.ref (h 0), .ref (y 0), .ref (z 0), .ref (d 0), .ref sc, .ref ru, .ref fu, .ref f0, .ref ra, .int (ib k0), .int (ib k1)])), (ra, .inl (cI, 3, .inl rf)), (h 0, .inr (2, [.ref (h 1), .ref (h 2), .ref (h 3), .ref (h 4), .ref (h 5), .ref (h 6), .ref (h 7), .long (eC row), .int (nI hc), .int (nI un)])), (h 1, .inl (cJ, 8, .inr (.inl (fC T))))] := hD
    refine W.eq (g2 := F0 mG 15 ls [.long (eC (T k))]) rfl ?_
    refine Ct.callS0 (rest := []) xh bh hml hown hts hK hP hS hA (ct_X4_funniestSlip l D cI cJ cB cZ cA (T k) (by exact hT _)) (va_cwS 1 hts gX8_slip_X4_funniestSlip rfl rfl rfl (by decide +kernel) ⟨Nat.le_of_ble_eq_true rfl, Nat.le_of_ble_eq_true rfl⟩) rfl rfl hl.1 (Nat.le_of_ble_eq_true rfl) dX8_slip_15 ⟨Nat.le_refl _, Nat.le_refl _⟩ (fun _ H locs _ hP hS => ?_)
    refine W.eq (g2 := F0 mG 18 ls [.int (nI ((slP (T k) 500).1))]) rfl ?_
    refine lv_goto (tgt := 27) xh bh dX8_slip_18 (by decide) ?_
    exact hend (nI ((slP (T k) 500).1)) () _ _ _ _ (congrArg (fun z => some (Value.int z)) (by rw [hk]; first | (rw [xN_nI (by omega)]; rfl) | rfl)) trivial rfl dX8_slip_27 (by rw [hk]; exact hP) (by rw [hk]; exact hD) hS

set_option maxHeartbeats 1000000 in
set_option maxRecDepth 100000 in
theorem ct_X8_pawned (l : Launch) (D : va_G) (cI cJ cB cZ cA : ClassId) (e0 : Nat) (h : Nat → Nat) (y : Nat → Nat) (z : Nat → Nat) (d : Nat → Nat) (sc : Nat) (ru : Nat) (fu : Nat) (f0 : Nat) (ra : Nat) (k0 : Bool) (k1 : Bool) (T : Nat → List Nat) (row : List Nat) (hc : Nat) (un : Nat) (rf : Nat → Int32) (v : Int32) (w : Int32) (hT : ∀ k, okT (T k)) : Ct l yX8_pawned wsX8_pawned ({ frames := 4, cells := 0, slots := 0, locals := 92 }) D (tysG cI cJ cB cZ cA) [.ref e0, .int v, .int w] [(e0, .inr (5, [.ref (h 0), .ref (y 0), .ref (z 0), .ref (d 0), .ref sc, .ref ru, .ref fu, .ref f0, .ref ra, .int (ib k0), .int (ib k1)])), (ra, .inl (cI, 3, .inl rf)), (h 0, .inr (2, [.ref (h 1), .ref (h 2), .ref (h 3), .ref (h 4), .ref (h 5), .ref (h 6), .ref (h 7), .long (eC row), .int (nI hc), .int (nI un)])), (h 1, .inl (cJ, 8, .inr (.inl (fC T))))] (fun (_ : Unit) => True) (fun _ => some (.int (ePw (kPw v w) (xN w) (bwoN T (xN v) 8) (optI (foT T (xN v) 256))))) (fun _ => [(e0, .inr (5, [.ref (h 0), .ref (y 0), .ref (z 0), .ref (d 0), .ref sc, .ref ru, .ref fu, .ref f0, .ref ra, .int (ib k0), .int (ib k1)])), (ra, .inl (cI, 3, .inl (rfU (kPw v w) rf))), (h 0, .inr (2, [.ref (h 1), .ref (h 2), .ref (h 3), .ref (h 4), .ref (h 5), .ref (h 6), .ref (h 7), .long (eC row), .int (nI hc), .int (nI un)])), (h 1, .inl (cJ, 8, .inr (.inl (fC T))))]) := by
  refine Ct.ofI (cc := cX8_pawned) (maxL := 3) (by decide) rfl (Nat.le_of_ble_eq_true rfl) ?_
  intro pG eG sG mG aG bG tG cG AG QG ls xh bh hml hown hts hK hP hD hS hA hend hl
  have hl : lv_has ls 3 [(0, .ref e0), (1, .int v), (2, .int w)] := hl
  refine lv_iload_n xh bh dX8_pawned_0 rfl (lv_at hl 1 rfl) ?_
  refine lv_sipush (v := (nI 1023)) xh bh dX8_pawned_1 (by decide) ?_
  refine Ct.callS0 (rest := []) xh bh hml hown hts hK hP hS hA (ct_X8_isUpTo l D cI cJ cB cZ cA v 1023 (by first | omega | assumption)) (va_cwS 2 hts gX8_pawned_X8_isUpTo rfl rfl rfl (by decide +kernel) ⟨Nat.le_of_ble_eq_true rfl, Nat.le_of_ble_eq_true rfl⟩) rfl rfl hl.1 (Nat.le_of_ble_eq_true rfl) dX8_pawned_4 ⟨Nat.le_refl _, Nat.le_refl _⟩ (fun _ H locs _ hP hS => ?_)
  refine W.eq (g2 := F0 mG 7 ls [.int (ib (upB v 1023))]) rfl ?_
  refine xb_if_eq (tgt := 18) xh bh dX8_pawned_7 (by decide) (fun c_7 => ?_) (fun c_7 => ?_)
  · have hk : kPw v w = 0 := if_neg (fun q => by rw [c_7] at q; exact absurd q.1 (by decide))
    refine lv_aload_n xh bh dX8_pawned_18 rfl (lv_at hl 0 rfl) ?_
    refine lv_bipush (v := (-2)) xh bh dX8_pawned_19 (by decide) ?_
    refine Ct.callV (As := [.int (-2)]) (rest := []) (wr := [(h 0, .inr (2, [.ref (h 1), .ref (h 2), .ref (h 3), .ref (h 4), .ref (h 5), .ref (h 6), .ref (h 7), .long (eC row), .int (nI hc), .int (nI un)])), (h 1, .inl (cJ, 8, .inr (.inl (fC T))))]) xh bh hml hown hts hK hP hD hS hA (ct_X8_refuse0 l D cI cJ cB cZ cA e0 h y z d sc ru fu f0 ra k0 k1 rf ) (cwV 1 hts gX8_pawned_X8_refuse rfl rfl rfl (by decide +kernel) ⟨Nat.le_of_ble_eq_true rfl, Nat.le_of_ble_eq_true rfl⟩) rfl rfl hl.1 (Nat.le_of_ble_eq_true rfl) dX8_pawned_21 ⟨Nat.le_refl _, Nat.le_refl _⟩ 0 5 rfl rfl rfl [0, 1] [2, 3] rfl (by decide) rfl rfl (by decide) (by decide) (fun _ H locs _ hP hD hS => ?_)
    have hP : va_P D vwCl [(h 0, .inr (2, [.ref (h 1), .ref (h 2), .ref (h 3), .ref (h 4), .ref (h 5), .ref (h 6), .ref (h 7), .long (eC row), .int (nI hc), .int (nI un)])), (h 1, .inl (cJ, 8, .inr (.inl (fC T)))), (e0, .inr (5, [.ref (h 0), .ref (y 0), .ref (z 0), .ref (d 0), .ref sc, .ref ru, .ref fu, .ref f0, .ref ra, .int (ib k0), .int (ib k1)])), (ra, .inl (cI, 3, .inl (upd rf 0 ((rf 0) + nI 1))))] H := hP
    have hD : va_D AG [(h 0, .inr (2, [.ref (h 1), .ref (h 2), .ref (h 3), .ref (h 4), .ref (h 5), .ref (h 6), .ref (h 7), .long (eC row), .int (nI hc), .int (nI un)])), (h 1, .inl (cJ, 8, .inr (.inl (fC T)))), (e0, .inr (5, [.ref (h 0), .ref (y 0), .ref (z 0), .ref (d 0), .ref sc, .ref ru, .ref fu, .ref f0, .ref ra, .int (ib k0), .int (ib k1)])), (ra, .inl (cI, 3, .inl (upd rf 0 ((rf 0) + nI 1))))] := hD
    refine W.eq (g2 := F0 mG 24 ls [.int (-2)]) rfl ?_
    exact hend (-2) () _ _ _ _ (congrArg (fun z => some (Value.int z)) (by rw [hk]; rfl)) trivial rfl dX8_pawned_24 (by rw [hk]; exact (hP.sub [2, 3, 0, 1] rfl)) (by rw [hk]; exact (hD.sub [2, 3, 0, 1] (by decide) rfl)) hS
  · refine lv_iload_n xh bh dX8_pawned_10 rfl (lv_at hl 2 rfl) ?_
    refine lv_iconst (v := (nI 1)) xh bh dX8_pawned_11 (by decide) ?_
    refine Ct.callS0 (rest := []) xh bh hml hown hts hK hP hS hA (ct_X8_isUpTo l D cI cJ cB cZ cA w 1 (by first | omega | assumption)) (va_cwS 2 hts gX8_pawned_X8_isUpTo rfl rfl rfl (by decide +kernel) ⟨Nat.le_of_ble_eq_true rfl, Nat.le_of_ble_eq_true rfl⟩) rfl rfl hl.1 (Nat.le_of_ble_eq_true rfl) dX8_pawned_12 ⟨Nat.le_refl _, Nat.le_refl _⟩ (fun _ H locs _ hP hS => ?_)
    refine W.eq (g2 := F0 mG 15 ls [.int (ib (upB w 1))]) rfl ?_
    refine xb_if_ne (tgt := 25) xh bh dX8_pawned_15 (by decide) (fun c_15 => ?_) (fun c_15 => ?_)
    · have hk : kPw v w = 3 := if_pos (And.intro c_7 c_15)
      obtain ⟨z2, hz9, rfl⟩ := upB_of (by decide) c_7
      obtain ⟨w2, hw9, rfl⟩ := upB_of (by decide) c_15
      refine lv_iload_n xh bh dX8_pawned_25 rfl (lv_at hl 2 rfl) ?_
      refine xn_if_ne (tgt := 40) xh bh dX8_pawned_26 (by decide) (by omega) (fun c_26 => ?_) (fun c_26 => ?_)
      · refine lv_aload_n xh bh dX8_pawned_40 rfl (lv_at hl 0 rfl) ?_
        refine va_get (D := D) (ci := 5) (v := .ref (h 0)) (C := RX8) (T := TX8) (N := 11) xh bh hts (fun _ h => List.mem_cons_of_mem _ (List.mem_append_left _ (List.mem_append_right _ (h)))) hown hK.1 hP 0 rfl rfl 0 (by decide) (hts _ (List.mem_of_getElem? (i := 1) rfl)) (fun _ h9 => h9) rfl dX8_pawned_41 ?_
        refine lv_iload_n xh bh dX8_pawned_44 rfl (lv_at hl 1 rfl) ?_
        refine Ct.callV (As := [.int (nI z2)]) (rest := []) (wr := [(e0, .inr (5, [.ref (h 0), .ref (y 0), .ref (z 0), .ref (d 0), .ref sc, .ref ru, .ref fu, .ref f0, .ref ra, .int (ib k0), .int (ib k1)])), (ra, .inl (cI, 3, .inl rf))]) xh bh hml hown hts hK hP hD hS hA (ct_X3_fewestWith l D cI cJ cB cZ cA h T row hc un z2 (by first | assumption) (by first | omega | assumption)) (cwV 1 hts gX8_pawned_X3_fewestWith rfl rfl rfl (by decide +kernel) ⟨Nat.le_of_ble_eq_true rfl, Nat.le_of_ble_eq_true rfl⟩) rfl rfl hl.1 (Nat.le_of_ble_eq_true rfl) dX8_pawned_45 ⟨Nat.le_refl _, Nat.le_refl _⟩ 0 2 rfl rfl rfl [2, 3] [0, 1] rfl (by decide) rfl rfl (by decide) (by decide) (fun _ H locs _ hP hD hS => ?_)
        have hP : va_P D vwCl [(e0, .inr (5, [.ref (h 0), .ref (y 0), .ref (z 0), .ref (d 0), .ref sc, .ref ru, .ref fu, .ref f0, .ref ra, .int (ib k0), .int (ib k1)])), (ra, .inl (cI, 3, .inl rf)), (h 0, .inr (2, [.ref (h 1), .ref (h 2), .ref (h 3), .ref (h 4), .ref (h 5), .ref (h 6), .ref (h 7), .long (eC row), .int (nI hc), .int (nI un)])), (h 1, .inl (cJ, 8, .inr (.inl (fC T))))] H := hP
        have hD : va_D AG [(e0, .inr (5, [.ref (h 0), .ref (y 0), .ref (z 0), .ref (d 0), .ref sc, .ref ru, .ref fu, .ref f0, .ref ra, .int (ib k0), .int (ib k1)])), (ra, .inl (cI, 3, .inl rf)), (h 0, .inr (2, [.ref (h 1), .ref (h 2), .ref (h 3), .ref (h 4), .ref (h 5), .ref (h 6), .ref (h 7), .long (eC row), .int (nI hc), .int (nI un)])), (h 1, .inl (cJ, 8, .inr (.inl (fC T))))] := hD
        refine W.eq (g2 := F0 mG 48 ls [.int (optI (foT T z2 256))]) rfl ?_
        exact hend (optI (foT T z2 256)) () _ _ _ _ (congrArg (fun z => some (Value.int z)) (by rw [hk, xN_nI (by omega), xN_nI (by omega)]; first | (rw [c_26]; rfl) | (rw [show w2 = 1 by omega]; rfl))) trivial rfl dX8_pawned_48 (by rw [hk]; exact hP) (by rw [hk]; exact hD) hS
      · refine lv_aload_n xh bh dX8_pawned_29 rfl (lv_at hl 0 rfl) ?_
        refine va_get (D := D) (ci := 5) (v := .ref (h 0)) (C := RX8) (T := TX8) (N := 11) xh bh hts (fun _ h => List.mem_cons_of_mem _ (List.mem_append_left _ (List.mem_append_right _ (h)))) hown hK.1 hP 0 rfl rfl 0 (by decide) (hts _ (List.mem_of_getElem? (i := 1) rfl)) (fun _ h9 => h9) rfl dX8_pawned_30 ?_
        refine lv_iload_n xh bh dX8_pawned_33 rfl (lv_at hl 1 rfl) ?_
        refine Ct.callV (As := [.int (nI z2)]) (rest := []) (wr := [(e0, .inr (5, [.ref (h 0), .ref (y 0), .ref (z 0), .ref (d 0), .ref sc, .ref ru, .ref fu, .ref f0, .ref ra, .int (ib k0), .int (ib k1)])), (ra, .inl (cI, 3, .inl rf))]) xh bh hml hown hts hK hP hD hS hA (ct_X3_branchesWithout l D cI cJ cB cZ cA h T row hc un z2 (by first | assumption)) (cwV 1 hts gX8_pawned_X3_branchesWithout rfl rfl rfl (by decide +kernel) ⟨Nat.le_of_ble_eq_true rfl, Nat.le_of_ble_eq_true rfl⟩) rfl rfl hl.1 (Nat.le_of_ble_eq_true rfl) dX8_pawned_34 ⟨Nat.le_refl _, Nat.le_refl _⟩ 0 2 rfl rfl rfl [2, 3] [0, 1] rfl (by decide) rfl rfl (by decide) (by decide) (fun _ H locs _ hP hD hS => ?_)
        have hP : va_P D vwCl [(e0, .inr (5, [.ref (h 0), .ref (y 0), .ref (z 0), .ref (d 0), .ref sc, .ref ru, .ref fu, .ref f0, .ref ra, .int (ib k0), .int (ib k1)])), (ra, .inl (cI, 3, .inl rf)), (h 0, .inr (2, [.ref (h 1), .ref (h 2), .ref (h 3), .ref (h 4), .ref (h 5), .ref (h 6), .ref (h 7), .long (eC row), .int (nI hc), .int (nI un)])), (h 1, .inl (cJ, 8, .inr (.inl (fC T))))] H := hP
        have hD : va_D AG [(e0, .inr (5, [.ref (h 0), .ref (y 0), .ref (z 0), .ref (d 0), .ref sc, .ref ru, .ref fu, .ref f0, .ref ra, .int (ib k0), .int (ib k1)])), (ra, .inl (cI, 3, .inl rf)), (h 0, .inr (2, [.ref (h 1), .ref (h 2), .ref (h 3), .ref (h 4), .ref (h 5), .ref (h 6), .ref (h 7), .long (eC row), .int (nI hc), .int (nI un)])), (h 1, .inl (cJ, 8, .inr (.inl (fC T))))] := hD
        refine W.eq (g2 := F0 mG 37 ls [.int (nI (bwoN T z2 8))]) rfl ?_
        refine lv_goto (tgt := 48) xh bh dX8_pawned_37 (by decide) ?_
        exact hend (nI (bwoN T z2 8)) () _ _ _ _ (congrArg (fun z => some (Value.int z)) (by rw [hk, xN_nI (by omega), xN_nI (by omega)]; first | (rw [c_26]; rfl) | (rw [show w2 = 1 by omega]; rfl))) trivial rfl dX8_pawned_48 (by rw [hk]; exact hP) (by rw [hk]; exact hD) hS
    · have hk : kPw v w = 0 := if_neg (fun q => by rw [c_15] at q; exact absurd q.2 (by decide))
      refine lv_aload_n xh bh dX8_pawned_18 rfl (lv_at hl 0 rfl) ?_
      refine lv_bipush (v := (-2)) xh bh dX8_pawned_19 (by decide) ?_
      refine Ct.callV (As := [.int (-2)]) (rest := []) (wr := [(h 0, .inr (2, [.ref (h 1), .ref (h 2), .ref (h 3), .ref (h 4), .ref (h 5), .ref (h 6), .ref (h 7), .long (eC row), .int (nI hc), .int (nI un)])), (h 1, .inl (cJ, 8, .inr (.inl (fC T))))]) xh bh hml hown hts hK hP hD hS hA (ct_X8_refuse0 l D cI cJ cB cZ cA e0 h y z d sc ru fu f0 ra k0 k1 rf ) (cwV 1 hts gX8_pawned_X8_refuse rfl rfl rfl (by decide +kernel) ⟨Nat.le_of_ble_eq_true rfl, Nat.le_of_ble_eq_true rfl⟩) rfl rfl hl.1 (Nat.le_of_ble_eq_true rfl) dX8_pawned_21 ⟨Nat.le_refl _, Nat.le_refl _⟩ 0 5 rfl rfl rfl [0, 1] [2, 3] rfl (by decide) rfl rfl (by decide) (by decide) (fun _ H locs _ hP hD hS => ?_)
      have hP : va_P D vwCl [(h 0, .inr (2, [.ref (h 1), .ref (h 2), .ref (h 3), .ref (h 4), .ref (h 5), .ref (h 6), .ref (h 7), .long (eC row), .int (nI hc), .int (nI un)])), (h 1, .inl (cJ, 8, .inr (.inl (fC T)))), (e0, .inr (5, [.ref (h 0), .ref (y 0), .ref (z 0), .ref (d 0), .ref sc, .ref ru, .ref fu, .ref f0, .ref ra, .int (ib k0), .int (ib k1)])), (ra, .inl (cI, 3, .inl (upd rf 0 ((rf 0) + nI 1))))] H := hP
      have hD : va_D AG [(h 0, .inr (2, [.ref (h 1), .ref (h 2), .ref (h 3), .ref (h 4), .ref (h 5), .ref (h 6), .ref (h 7), .long (eC row), .int (nI hc), .int (nI un)])), (h 1, .inl (cJ, 8, .inr (.inl (fC T)))), (e0, .inr (5, [.ref (h 0), .ref (y 0), .ref (z 0), .ref (d 0), .ref sc, .ref ru, .ref fu, .ref f0, .ref ra, .int (ib k0), .int (ib k1)])), (ra, .inl (cI, 3, .inl (upd rf 0 ((rf 0) + nI 1))))] := hD
      refine W.eq (g2 := F0 mG 24 ls [.int (-2)]) rfl ?_
      exact hend (-2) () _ _ _ _ (congrArg (fun z => some (Value.int z)) (by rw [hk]; rfl)) trivial rfl dX8_pawned_24 (by rw [hk]; exact (hP.sub [2, 3, 0, 1] rfl)) (by rw [hk]; exact (hD.sub [2, 3, 0, 1] (by decide) rfl)) hS

set_option maxHeartbeats 1000000 in
set_option maxRecDepth 100000 in
theorem ct_X8_odds (l : Launch) (D : va_G) (cI cJ cB cZ cA : ClassId) (e0 : Nat) (h : Nat → Nat) (y : Nat → Nat) (z : Nat → Nat) (d : Nat → Nat) (sc : Nat) (ru : Nat) (fu : Nat) (f0 : Nat) (ra : Nat) (k0 : Bool) (k1 : Bool) (T : Nat → List Nat) (row : List Nat) (hc : Nat) (un : Nat) (rf : Nat → Int32) (fa : Int64) (fb : Int64) (b : Int32) (x : Int32) (n : Int32) (c1 : Int32) (hT : ∀ k, okT (T k)) : Ct l yX8_odds wsX8_odds ({ frames := 3, cells := 0, slots := 0, locals := 89 }) D (tysG cI cJ cB cZ cA) [.ref e0, .int b, .int x, .int n, .int c1] [(e0, .inr (5, [.ref (h 0), .ref (y 0), .ref (z 0), .ref (d 0), .ref sc, .ref ru, .ref fu, .ref f0, .ref ra, .int (ib k0), .int (ib k1)])), (ra, .inl (cI, 3, .inl rf)), (h 0, .inr (2, [.ref (h 1), .ref (h 2), .ref (h 3), .ref (h 4), .ref (h 5), .ref (h 6), .ref (h 7), .long (eC row), .int (nI hc), .int (nI un)])), (h 1, .inl (cJ, 8, .inr (.inl (fC T)))), (f0, .inr (0, [.long fa, .long fb]))] (fun (_ : Unit) => True) (fun _ => some (.int (e1I (kOd b x n c1)))) (fun _ => [(e0, .inr (5, [.ref (h 0), .ref (y 0), .ref (z 0), .ref (d 0), .ref sc, .ref ru, .ref fu, .ref f0, .ref ra, .int (ib k0), .int (ib k1)])), (ra, .inl (cI, 3, .inl (rfU (kOd b x n c1) rf))), (h 0, .inr (2, [.ref (h 1), .ref (h 2), .ref (h 3), .ref (h 4), .ref (h 5), .ref (h 6), .ref (h 7), .long (eC row), .int (nI hc), .int (nI un)])), (h 1, .inl (cJ, 8, .inr (.inl (fC T)))), (f0, .inr (0, [.long (s3L (kOd b x n c1) fa (lN (keT (T (xN b)) (xN x) (xN n) (xN c1) / Nat.gcd (keT (T (xN b)) (xN x) (xN n) (xN c1)) (kqT (T (xN b)) (xN x) (xN n))))), .long (s3L (kOd b x n c1) fb (lN (kqT (T (xN b)) (xN x) (xN n) / Nat.gcd (keT (T (xN b)) (xN x) (xN n) (xN c1)) (kqT (T (xN b)) (xN x) (xN n)))))]))]) := by
  refine Ct.ofI (cc := cX8_odds) (maxL := 7) (by decide) rfl (Nat.le_of_ble_eq_true rfl) ?_
  intro pG eG sG mG aG bG tG cG AG QG ls xh bh hml hown hts hK hP hD hS hA hend hl
  have hl : lv_has ls 7 [(0, .ref e0), (1, .int b), (2, .int x), (3, .int n), (4, .int c1)] := hl
  refine lv_iload_n xh bh dX8_odds_0 rfl (lv_at hl 1 rfl) ?_
  refine Ct.callS0 (rest := []) xh bh hml hown hts hK hP hS hA (ct_X8_isBranch l D cI cJ cB cZ cA b ) (va_cwS 1 hts gX8_odds_X8_isBranch rfl rfl rfl (by decide +kernel) ⟨Nat.le_of_ble_eq_true rfl, Nat.le_of_ble_eq_true rfl⟩) rfl rfl hl.1 (Nat.le_of_ble_eq_true rfl) dX8_odds_1 ⟨Nat.le_refl _, Nat.le_refl _⟩ (fun _ H locs _ hP hS => ?_)
  refine W.eq (g2 := F0 mG 4 ls [.int (ib (upB b 7))]) rfl ?_
  refine xb_if_eq (tgt := 32) xh bh dX8_odds_4 (by decide) (fun c_4 => ?_) (fun c_4 => ?_)
  · have hk : kOd b x n c1 = 0 := if_neg (fun q => by rw [c_4] at q; exact absurd q.1 (by decide))
    refine lv_aload_n xh bh dX8_odds_32 rfl (lv_at hl 0 rfl) ?_
    refine lv_bipush (v := (-2)) xh bh dX8_odds_33 (by decide) ?_
    refine Ct.callV (As := [.int (-2)]) (rest := []) (wr := [(h 0, .inr (2, [.ref (h 1), .ref (h 2), .ref (h 3), .ref (h 4), .ref (h 5), .ref (h 6), .ref (h 7), .long (eC row), .int (nI hc), .int (nI un)])), (h 1, .inl (cJ, 8, .inr (.inl (fC T)))), (f0, .inr (0, [.long fa, .long fb]))]) xh bh hml hown hts hK hP hD hS hA (ct_X8_refuse0 l D cI cJ cB cZ cA e0 h y z d sc ru fu f0 ra k0 k1 rf ) (cwV 1 hts gX8_odds_X8_refuse rfl rfl rfl (by decide +kernel) ⟨Nat.le_of_ble_eq_true rfl, Nat.le_of_ble_eq_true rfl⟩) rfl rfl hl.1 (Nat.le_of_ble_eq_true rfl) dX8_odds_35 ⟨Nat.le_refl _, Nat.le_refl _⟩ 0 5 rfl rfl rfl [0, 1] [2, 3, 4] rfl (by decide) rfl rfl (by decide) (by decide) (fun _ H locs _ hP hD hS => ?_)
    have hP : va_P D vwCl [(h 0, .inr (2, [.ref (h 1), .ref (h 2), .ref (h 3), .ref (h 4), .ref (h 5), .ref (h 6), .ref (h 7), .long (eC row), .int (nI hc), .int (nI un)])), (h 1, .inl (cJ, 8, .inr (.inl (fC T)))), (f0, .inr (0, [.long fa, .long fb])), (e0, .inr (5, [.ref (h 0), .ref (y 0), .ref (z 0), .ref (d 0), .ref sc, .ref ru, .ref fu, .ref f0, .ref ra, .int (ib k0), .int (ib k1)])), (ra, .inl (cI, 3, .inl (upd rf 0 ((rf 0) + nI 1))))] H := hP
    have hD : va_D AG [(h 0, .inr (2, [.ref (h 1), .ref (h 2), .ref (h 3), .ref (h 4), .ref (h 5), .ref (h 6), .ref (h 7), .long (eC row), .int (nI hc), .int (nI un)])), (h 1, .inl (cJ, 8, .inr (.inl (fC T)))), (f0, .inr (0, [.long fa, .long fb])), (e0, .inr (5, [.ref (h 0), .ref (y 0), .ref (z 0), .ref (d 0), .ref sc, .ref ru, .ref fu, .ref f0, .ref ra, .int (ib k0), .int (ib k1)])), (ra, .inl (cI, 3, .inl (upd rf 0 ((rf 0) + nI 1))))] := hD
    refine W.eq (g2 := F0 mG 38 ls [.int (-2)]) rfl ?_
    exact hend (-2) () _ _ _ _ (congrArg (fun z => some (Value.int z)) (by rw [hk]; rfl)) trivial rfl dX8_odds_38 (by rw [hk]; exact (hP.sub [3, 4, 0, 1, 2] rfl)) (by rw [hk]; exact (hD.sub [3, 4, 0, 1, 2] (by decide) rfl)) hS
  · refine lv_iload_n xh bh dX8_odds_7 rfl (lv_at hl 2 rfl) ?_
    refine Ct.callS0 (rest := []) xh bh hml hown hts hK hP hS hA (ct_X8_isPart l D cI cJ cB cZ cA x ) (va_cwS 1 hts gX8_odds_X8_isPart rfl rfl rfl (by decide +kernel) ⟨Nat.le_of_ble_eq_true rfl, Nat.le_of_ble_eq_true rfl⟩) rfl rfl hl.1 (Nat.le_of_ble_eq_true rfl) dX8_odds_8 ⟨Nat.le_refl _, Nat.le_refl _⟩ (fun _ H locs _ hP hS => ?_)
    refine W.eq (g2 := F0 mG 11 ls [.int (ib (upB x 9))]) rfl ?_
    refine xb_if_eq (tgt := 32) xh bh dX8_odds_11 (by decide) (fun c_11 => ?_) (fun c_11 => ?_)
    · have hk : kOd b x n c1 = 0 := if_neg (fun q => by rw [c_11] at q; exact absurd q.2.1 (by decide))
      refine lv_aload_n xh bh dX8_odds_32 rfl (lv_at hl 0 rfl) ?_
      refine lv_bipush (v := (-2)) xh bh dX8_odds_33 (by decide) ?_
      refine Ct.callV (As := [.int (-2)]) (rest := []) (wr := [(h 0, .inr (2, [.ref (h 1), .ref (h 2), .ref (h 3), .ref (h 4), .ref (h 5), .ref (h 6), .ref (h 7), .long (eC row), .int (nI hc), .int (nI un)])), (h 1, .inl (cJ, 8, .inr (.inl (fC T)))), (f0, .inr (0, [.long fa, .long fb]))]) xh bh hml hown hts hK hP hD hS hA (ct_X8_refuse0 l D cI cJ cB cZ cA e0 h y z d sc ru fu f0 ra k0 k1 rf ) (cwV 1 hts gX8_odds_X8_refuse rfl rfl rfl (by decide +kernel) ⟨Nat.le_of_ble_eq_true rfl, Nat.le_of_ble_eq_true rfl⟩) rfl rfl hl.1 (Nat.le_of_ble_eq_true rfl) dX8_odds_35 ⟨Nat.le_refl _, Nat.le_refl _⟩ 0 5 rfl rfl rfl [0, 1] [2, 3, 4] rfl (by decide) rfl rfl (by decide) (by decide) (fun _ H locs _ hP hD hS => ?_)
      have hP : va_P D vwCl [(h 0, .inr (2, [.ref (h 1), .ref (h 2), .ref (h 3), .ref (h 4), .ref (h 5), .ref (h 6), .ref (h 7), .long (eC row), .int (nI hc), .int (nI un)])), (h 1, .inl (cJ, 8, .inr (.inl (fC T)))), (f0, .inr (0, [.long fa, .long fb])), (e0, .inr (5, [.ref (h 0), .ref (y 0), .ref (z 0), .ref (d 0), .ref sc, .ref ru, .ref fu, .ref f0, .ref ra, .int (ib k0), .int (ib k1)])), (ra, .inl (cI, 3, .inl (upd rf 0 ((rf 0) + nI 1))))] H := hP
      have hD : va_D AG [(h 0, .inr (2, [.ref (h 1), .ref (h 2), .ref (h 3), .ref (h 4), .ref (h 5), .ref (h 6), .ref (h 7), .long (eC row), .int (nI hc), .int (nI un)])), (h 1, .inl (cJ, 8, .inr (.inl (fC T)))), (f0, .inr (0, [.long fa, .long fb])), (e0, .inr (5, [.ref (h 0), .ref (y 0), .ref (z 0), .ref (d 0), .ref sc, .ref ru, .ref fu, .ref f0, .ref ra, .int (ib k0), .int (ib k1)])), (ra, .inl (cI, 3, .inl (upd rf 0 ((rf 0) + nI 1))))] := hD
      refine W.eq (g2 := F0 mG 38 ls [.int (-2)]) rfl ?_
      exact hend (-2) () _ _ _ _ (congrArg (fun z => some (Value.int z)) (by rw [hk]; rfl)) trivial rfl dX8_odds_38 (by rw [hk]; exact (hP.sub [3, 4, 0, 1, 2] rfl)) (by rw [hk]; exact (hD.sub [3, 4, 0, 1, 2] (by decide) rfl)) hS
    · refine lv_iload_n xh bh dX8_odds_14 rfl (lv_at hl 3 rfl) ?_
      refine lv_iconst (v := (nI 4)) xh bh dX8_odds_15 (by decide) ?_
      refine Ct.callS0 (rest := []) xh bh hml hown hts hK hP hS hA (ct_X8_isUpTo l D cI cJ cB cZ cA n 4 (by first | omega | assumption)) (va_cwS 2 hts gX8_odds_X8_isUpTo rfl rfl rfl (by decide +kernel) ⟨Nat.le_of_ble_eq_true rfl, Nat.le_of_ble_eq_true rfl⟩) rfl rfl hl.1 (Nat.le_of_ble_eq_true rfl) dX8_odds_16 ⟨Nat.le_refl _, Nat.le_refl _⟩ (fun _ H locs _ hP hS => ?_)
      refine W.eq (g2 := F0 mG 19 ls [.int (ib (upB n 4))]) rfl ?_
      refine xb_if_eq (tgt := 32) xh bh dX8_odds_19 (by decide) (fun c_19 => ?_) (fun c_19 => ?_)
      · have hk : kOd b x n c1 = 0 := if_neg (fun q => by rw [c_19] at q; exact absurd q.2.2.1 (by decide))
        refine lv_aload_n xh bh dX8_odds_32 rfl (lv_at hl 0 rfl) ?_
        refine lv_bipush (v := (-2)) xh bh dX8_odds_33 (by decide) ?_
        refine Ct.callV (As := [.int (-2)]) (rest := []) (wr := [(h 0, .inr (2, [.ref (h 1), .ref (h 2), .ref (h 3), .ref (h 4), .ref (h 5), .ref (h 6), .ref (h 7), .long (eC row), .int (nI hc), .int (nI un)])), (h 1, .inl (cJ, 8, .inr (.inl (fC T)))), (f0, .inr (0, [.long fa, .long fb]))]) xh bh hml hown hts hK hP hD hS hA (ct_X8_refuse0 l D cI cJ cB cZ cA e0 h y z d sc ru fu f0 ra k0 k1 rf ) (cwV 1 hts gX8_odds_X8_refuse rfl rfl rfl (by decide +kernel) ⟨Nat.le_of_ble_eq_true rfl, Nat.le_of_ble_eq_true rfl⟩) rfl rfl hl.1 (Nat.le_of_ble_eq_true rfl) dX8_odds_35 ⟨Nat.le_refl _, Nat.le_refl _⟩ 0 5 rfl rfl rfl [0, 1] [2, 3, 4] rfl (by decide) rfl rfl (by decide) (by decide) (fun _ H locs _ hP hD hS => ?_)
        have hP : va_P D vwCl [(h 0, .inr (2, [.ref (h 1), .ref (h 2), .ref (h 3), .ref (h 4), .ref (h 5), .ref (h 6), .ref (h 7), .long (eC row), .int (nI hc), .int (nI un)])), (h 1, .inl (cJ, 8, .inr (.inl (fC T)))), (f0, .inr (0, [.long fa, .long fb])), (e0, .inr (5, [.ref (h 0), .ref (y 0), .ref (z 0), .ref (d 0), .ref sc, .ref ru, .ref fu, .ref f0, .ref ra, .int (ib k0), .int (ib k1)])), (ra, .inl (cI, 3, .inl (upd rf 0 ((rf 0) + nI 1))))] H := hP
        have hD : va_D AG [(h 0, .inr (2, [.ref (h 1), .ref (h 2), .ref (h 3), .ref (h 4), .ref (h 5), .ref (h 6), .ref (h 7), .long (eC row), .int (nI hc), .int (nI un)])), (h 1, .inl (cJ, 8, .inr (.inl (fC T)))), (f0, .inr (0, [.long fa, .long fb])), (e0, .inr (5, [.ref (h 0), .ref (y 0), .ref (z 0), .ref (d 0), .ref sc, .ref ru, .ref fu, .ref f0, .ref ra, .int (ib k0), .int (ib k1)])), (ra, .inl (cI, 3, .inl (upd rf 0 ((rf 0) + nI 1))))] := hD
        refine W.eq (g2 := F0 mG 38 ls [.int (-2)]) rfl ?_
        exact hend (-2) () _ _ _ _ (congrArg (fun z => some (Value.int z)) (by rw [hk]; rfl)) trivial rfl dX8_odds_38 (by rw [hk]; exact (hP.sub [3, 4, 0, 1, 2] rfl)) (by rw [hk]; exact (hD.sub [3, 4, 0, 1, 2] (by decide) rfl)) hS
      · refine lv_iload xh bh dX8_odds_22 (lv_at hl 4 rfl) ?_
        refine lv_bipush (v := (nI 10)) xh bh dX8_odds_24 (by decide) ?_
        refine Ct.callS0 (rest := []) xh bh hml hown hts hK hP hS hA (ct_X8_isUpTo l D cI cJ cB cZ cA c1 10 (by first | omega | assumption)) (va_cwS 2 hts gX8_odds_X8_isUpTo rfl rfl rfl (by decide +kernel) ⟨Nat.le_of_ble_eq_true rfl, Nat.le_of_ble_eq_true rfl⟩) rfl rfl hl.1 (Nat.le_of_ble_eq_true rfl) dX8_odds_26 ⟨Nat.le_refl _, Nat.le_refl _⟩ (fun _ H locs _ hP hS => ?_)
        refine W.eq (g2 := F0 mG 29 ls [.int (ib (upB c1 10))]) rfl ?_
        refine xb_if_ne (tgt := 39) xh bh dX8_odds_29 (by decide) (fun c_29 => ?_) (fun c_29 => ?_)
        · have hk : kOd b x n c1 = 3 := if_pos ⟨c_4, c_11, c_19, c_29⟩
          obtain ⟨b2, hb9, rfl⟩ := upB_of (by decide) c_4
          obtain ⟨x2, hx9, rfl⟩ := upB_of (by decide) c_11
          obtain ⟨n2, hn9, rfl⟩ := upB_of (by decide) c_19
          obtain ⟨c2, hc9, rfl⟩ := upB_of (by decide) c_29
          have lt := (hT b2).1
          have lc := cntN_le (T b2) x2 (T b2).length
          refine lv_aload_n xh bh dX8_odds_39 rfl (lv_at hl 0 rfl) ?_
          refine va_get (D := D) (ci := 5) (v := .ref (h 0)) (C := RX8) (T := TX8) (N := 11) xh bh hts (fun _ h => List.mem_cons_of_mem _ (List.mem_append_left _ (List.mem_append_left _ (List.mem_append_right _ (h))))) hown hK.1 hP 0 rfl rfl 0 (by decide) (hts _ (List.mem_of_getElem? (i := 1) rfl)) (fun _ h9 => h9) rfl dX8_odds_40 ?_
          refine lv_iload_n xh bh dX8_odds_43 rfl (lv_at hl 1 rfl) ?_
          refine Ct.callV (As := [.int (nI b2)]) (rest := []) (wr := [(e0, .inr (5, [.ref (h 0), .ref (y 0), .ref (z 0), .ref (d 0), .ref sc, .ref ru, .ref fu, .ref f0, .ref ra, .int (ib k0), .int (ib k1)])), (ra, .inl (cI, 3, .inl rf)), (f0, .inr (0, [.long fa, .long fb]))]) xh bh hml hown hts hK hP hD hS hA (ct_X3_taleOf l D cI cJ cB cZ cA h T row hc un b2 (by first | omega | assumption)) (cwV 1 hts gX8_odds_X3_taleOf rfl rfl rfl (by decide +kernel) ⟨Nat.le_of_ble_eq_true rfl, Nat.le_of_ble_eq_true rfl⟩) rfl rfl hl.1 (Nat.le_of_ble_eq_true rfl) dX8_odds_44 ⟨Nat.le_refl _, Nat.le_refl _⟩ 0 2 rfl rfl rfl [2, 3] [0, 1, 4] rfl (by decide) rfl rfl (by decide) (by decide) (fun _ H locs _ hP hD hS => ?_)
          have hP : va_P D vwCl [(e0, .inr (5, [.ref (h 0), .ref (y 0), .ref (z 0), .ref (d 0), .ref sc, .ref ru, .ref fu, .ref f0, .ref ra, .int (ib k0), .int (ib k1)])), (ra, .inl (cI, 3, .inl rf)), (f0, .inr (0, [.long fa, .long fb])), (h 0, .inr (2, [.ref (h 1), .ref (h 2), .ref (h 3), .ref (h 4), .ref (h 5), .ref (h 6), .ref (h 7), .long (eC row), .int (nI hc), .int (nI un)])), (h 1, .inl (cJ, 8, .inr (.inl (fC T))))] H := hP
          have hD : va_D AG [(e0, .inr (5, [.ref (h 0), .ref (y 0), .ref (z 0), .ref (d 0), .ref sc, .ref ru, .ref fu, .ref f0, .ref ra, .int (ib k0), .int (ib k1)])), (ra, .inl (cI, 3, .inl rf)), (f0, .inr (0, [.long fa, .long fb])), (h 0, .inr (2, [.ref (h 1), .ref (h 2), .ref (h 3), .ref (h 4), .ref (h 5), .ref (h 6), .ref (h 7), .long (eC row), .int (nI hc), .int (nI un)])), (h 1, .inl (cJ, 8, .inr (.inl (fC T))))] := hD
          refine W.eq (g2 := F0 mG 47 ls [.long (eC (T b2))]) rfl ?_
          refine lv_lstore (lv' := [(5, .long (eC (T b2))), (0, .ref e0), (1, .int (nI b2)), (2, .int (nI x2)), (3, .int (nI n2)), (4, .int (nI c2))]) xh bh dX8_odds_47 hl (by decide) rfl (fun ls hl => ?_)
          refine lv_aload_n xh bh dX8_odds_49 rfl (lv_at hl 1 rfl) ?_
          refine va_get (D := D) (ci := 5) (v := .ref f0) (C := RX8) (T := TX8) (N := 11) xh bh hts (fun _ h => List.mem_cons_of_mem _ (List.mem_append_left _ (List.mem_append_left _ (List.mem_append_right _ (h))))) hown hK.1 hP 0 rfl rfl 7 (by decide) (hts _ (List.mem_of_getElem? (i := 2) rfl)) (fun _ h9 => h9) rfl dX8_odds_50 ?_
          refine lv_lload xh bh dX8_odds_53 (lv_at hl 0 rfl) ?_
          refine Ct.callS0 (rest := [.ref f0]) xh bh hml hown hts hK hP hS hA (ct_X7_sizeOf l D cI cJ cB cZ cA (T b2) (by exact hT _)) (va_cwS 1 hts gX8_odds_X7_sizeOf rfl rfl rfl (by decide +kernel) ⟨Nat.le_of_ble_eq_true rfl, Nat.le_of_ble_eq_true rfl⟩) rfl rfl hl.1 (Nat.le_of_ble_eq_true rfl) dX8_odds_55 ⟨Nat.le_refl _, Nat.le_refl _⟩ (fun _ H locs _ hP hS => ?_)
          refine W.eq (g2 := F0 mG 58 ls [.int (nI ((T b2).length)), .ref f0]) rfl ?_
          refine lv_lload xh bh dX8_odds_58 (lv_at hl 0 rfl) ?_
          refine lv_iload_n xh bh dX8_odds_60 rfl (lv_at hl 3 rfl) ?_
          refine Ct.callS0 (rest := [.int (nI ((T b2).length)), .ref f0]) xh bh hml hown hts hK hP hS hA (ct_X7_timesIn l D cI cJ cB cZ cA (T b2) x2 (by exact hT _) (by first | omega | assumption)) (va_cwS 2 hts gX8_odds_X7_timesIn rfl rfl rfl (by decide +kernel) ⟨Nat.le_of_ble_eq_true rfl, Nat.le_of_ble_eq_true rfl⟩) rfl rfl hl.1 (Nat.le_of_ble_eq_true rfl) dX8_odds_61 ⟨Nat.le_refl _, Nat.le_refl _⟩ (fun _ H locs _ hP hS => ?_)
          refine W.eq (g2 := F0 mG 64 ls [.int (nI (cntN (T b2) x2 (T b2).length)), .int (nI ((T b2).length)), .ref f0]) rfl ?_
          refine lv_iload_n xh bh dX8_odds_64 rfl (lv_at hl 4 rfl) ?_
          refine lv_iload xh bh dX8_odds_65 (lv_at hl 5 rfl) ?_
          refine Ct.callV (As := [.int (nI ((T b2).length)), .int (nI (cntN (T b2) x2 (T b2).length)), .int (nI n2), .int (nI c2)]) (rest := []) (wr := [(e0, .inr (5, [.ref (h 0), .ref (y 0), .ref (z 0), .ref (d 0), .ref sc, .ref ru, .ref fu, .ref f0, .ref ra, .int (ib k0), .int (ib k1)])), (ra, .inl (cI, 3, .inl rf)), (h 0, .inr (2, [.ref (h 1), .ref (h 2), .ref (h 3), .ref (h 4), .ref (h 5), .ref (h 6), .ref (h 7), .long (eC row), .int (nI hc), .int (nI un)])), (h 1, .inl (cJ, 8, .inr (.inl (fC T))))]) xh bh hml hown hts hK hP hD hS hA (ct_X1_becomeOdds l D cI cJ cB cZ cA f0 fa fb ((T b2).length) (cntN (T b2) x2 (T b2).length) n2 c2 (by omega) (by omega) (by first | omega | assumption) (by first | omega | assumption)) (cwV 4 hts gX8_odds_X1_becomeOdds rfl rfl rfl (by decide +kernel) ⟨Nat.le_of_ble_eq_true rfl, Nat.le_of_ble_eq_true rfl⟩) rfl rfl hl.1 (Nat.le_of_ble_eq_true rfl) dX8_odds_67 ⟨Nat.le_refl _, Nat.le_refl _⟩ 0 0 rfl rfl rfl [2] [0, 1, 3, 4] rfl (by decide) rfl rfl (by decide) (by decide) (fun _ H locs _ hP hD hS => ?_)
          have hP : va_P D vwCl [(e0, .inr (5, [.ref (h 0), .ref (y 0), .ref (z 0), .ref (d 0), .ref sc, .ref ru, .ref fu, .ref f0, .ref ra, .int (ib k0), .int (ib k1)])), (ra, .inl (cI, 3, .inl rf)), (h 0, .inr (2, [.ref (h 1), .ref (h 2), .ref (h 3), .ref (h 4), .ref (h 5), .ref (h 6), .ref (h 7), .long (eC row), .int (nI hc), .int (nI un)])), (h 1, .inl (cJ, 8, .inr (.inl (fC T)))), (f0, .inr (0, [.long (lN (keN ((T b2).length) (cntN (T b2) x2 (T b2).length) n2 c2 (n2 + 1) / Nat.gcd (keN ((T b2).length) (cntN (T b2) x2 (T b2).length) n2 c2 (n2 + 1)) (10 ^ n2 * flN ((T b2).length) (cntN (T b2) x2 (T b2).length)))), .long (lN ((10 ^ n2 * flN ((T b2).length) (cntN (T b2) x2 (T b2).length)) / Nat.gcd (keN ((T b2).length) (cntN (T b2) x2 (T b2).length) n2 c2 (n2 + 1)) (10 ^ n2 * flN ((T b2).length) (cntN (T b2) x2 (T b2).length))))]))] H := hP
          have hD : va_D AG [(e0, .inr (5, [.ref (h 0), .ref (y 0), .ref (z 0), .ref (d 0), .ref sc, .ref ru, .ref fu, .ref f0, .ref ra, .int (ib k0), .int (ib k1)])), (ra, .inl (cI, 3, .inl rf)), (h 0, .inr (2, [.ref (h 1), .ref (h 2), .ref (h 3), .ref (h 4), .ref (h 5), .ref (h 6), .ref (h 7), .long (eC row), .int (nI hc), .int (nI un)])), (h 1, .inl (cJ, 8, .inr (.inl (fC T)))), (f0, .inr (0, [.long (lN (keN ((T b2).length) (cntN (T b2) x2 (T b2).length) n2 c2 (n2 + 1) / Nat.gcd (keN ((T b2).length) (cntN (T b2) x2 (T b2).length) n2 c2 (n2 + 1)) (10 ^ n2 * flN ((T b2).length) (cntN (T b2) x2 (T b2).length)))), .long (lN ((10 ^ n2 * flN ((T b2).length) (cntN (T b2) x2 (T b2).length)) / Nat.gcd (keN ((T b2).length) (cntN (T b2) x2 (T b2).length) n2 c2 (n2 + 1)) (10 ^ n2 * flN ((T b2).length) (cntN (T b2) x2 (T b2).length))))]))] := hD
          refine W.eq (g2 := F0 mG 70 ls []) rfl ?_
          refine lv_iconst (v := (nI 1)) xh bh dX8_odds_70 (by decide) ?_
          exact hend (nI 1) () _ _ _ _ (congrArg (fun z => some (Value.int z)) (by rw [hk]; rfl)) trivial rfl dX8_odds_71 (by rw [hk, xN_nI (show b2 < 2147483648 by omega), xN_nI (show x2 < 2147483648 by omega), xN_nI (show n2 < 2147483648 by omega), xN_nI (show c2 < 2147483648 by omega)]; exact hP) (by rw [hk, xN_nI (show b2 < 2147483648 by omega), xN_nI (show x2 < 2147483648 by omega), xN_nI (show n2 < 2147483648 by omega), xN_nI (show c2 < 2147483648 by omega)]; exact hD) hS
        · have hk : kOd b x n c1 = 0 := if_neg (fun q => by rw [c_29] at q; exact absurd q.2.2.2 (by decide))
          refine lv_aload_n xh bh dX8_odds_32 rfl (lv_at hl 0 rfl) ?_
          refine lv_bipush (v := (-2)) xh bh dX8_odds_33 (by decide) ?_
          refine Ct.callV (As := [.int (-2)]) (rest := []) (wr := [(h 0, .inr (2, [.ref (h 1), .ref (h 2), .ref (h 3), .ref (h 4), .ref (h 5), .ref (h 6), .ref (h 7), .long (eC row), .int (nI hc), .int (nI un)])), (h 1, .inl (cJ, 8, .inr (.inl (fC T)))), (f0, .inr (0, [.long fa, .long fb]))]) xh bh hml hown hts hK hP hD hS hA (ct_X8_refuse0 l D cI cJ cB cZ cA e0 h y z d sc ru fu f0 ra k0 k1 rf ) (cwV 1 hts gX8_odds_X8_refuse rfl rfl rfl (by decide +kernel) ⟨Nat.le_of_ble_eq_true rfl, Nat.le_of_ble_eq_true rfl⟩) rfl rfl hl.1 (Nat.le_of_ble_eq_true rfl) dX8_odds_35 ⟨Nat.le_refl _, Nat.le_refl _⟩ 0 5 rfl rfl rfl [0, 1] [2, 3, 4] rfl (by decide) rfl rfl (by decide) (by decide) (fun _ H locs _ hP hD hS => ?_)
          have hP : va_P D vwCl [(h 0, .inr (2, [.ref (h 1), .ref (h 2), .ref (h 3), .ref (h 4), .ref (h 5), .ref (h 6), .ref (h 7), .long (eC row), .int (nI hc), .int (nI un)])), (h 1, .inl (cJ, 8, .inr (.inl (fC T)))), (f0, .inr (0, [.long fa, .long fb])), (e0, .inr (5, [.ref (h 0), .ref (y 0), .ref (z 0), .ref (d 0), .ref sc, .ref ru, .ref fu, .ref f0, .ref ra, .int (ib k0), .int (ib k1)])), (ra, .inl (cI, 3, .inl (upd rf 0 ((rf 0) + nI 1))))] H := hP
          have hD : va_D AG [(h 0, .inr (2, [.ref (h 1), .ref (h 2), .ref (h 3), .ref (h 4), .ref (h 5), .ref (h 6), .ref (h 7), .long (eC row), .int (nI hc), .int (nI un)])), (h 1, .inl (cJ, 8, .inr (.inl (fC T)))), (f0, .inr (0, [.long fa, .long fb])), (e0, .inr (5, [.ref (h 0), .ref (y 0), .ref (z 0), .ref (d 0), .ref sc, .ref ru, .ref fu, .ref f0, .ref ra, .int (ib k0), .int (ib k1)])), (ra, .inl (cI, 3, .inl (upd rf 0 ((rf 0) + nI 1))))] := hD
          refine W.eq (g2 := F0 mG 38 ls [.int (-2)]) rfl ?_
          exact hend (-2) () _ _ _ _ (congrArg (fun z => some (Value.int z)) (by rw [hk]; rfl)) trivial rfl dX8_odds_38 (by rw [hk]; exact (hP.sub [3, 4, 0, 1, 2] rfl)) (by rw [hk]; exact (hD.sub [3, 4, 0, 1, 2] (by decide) rfl)) hS

set_option maxHeartbeats 1000000 in
set_option maxRecDepth 100000 in
theorem ct_X8_centuries (l : Launch) (D : va_G) (cI cJ cB cZ cA : ClassId) (e0 : Nat) (h : Nat → Nat) (y : Nat → Nat) (z : Nat → Nat) (d : Nat → Nat) (sc : Nat) (ru : Nat) (fu : Nat) (f0 : Nat) (ra : Nat) (k0 : Bool) (k1 : Bool) (T : Nat → List Nat) (row : List Nat) (hc : Nat) (un : Nat) (rf : Nat → Int32) (b : Int32) (s0 : Int32) (n : Int32) (hT : ∀ k, okT (T k)) : Ct l yX8_centuries wsX8_centuries ({ frames := 6, cells := 0, slots := 0, locals := 150 }) D (tysG cI cJ cB cZ cA) [.ref e0, .int b, .int s0, .int n] [(e0, .inr (5, [.ref (h 0), .ref (y 0), .ref (z 0), .ref (d 0), .ref sc, .ref ru, .ref fu, .ref f0, .ref ra, .int (ib k0), .int (ib k1)])), (ra, .inl (cI, 3, .inl rf)), (h 0, .inr (2, [.ref (h 1), .ref (h 2), .ref (h 3), .ref (h 4), .ref (h 5), .ref (h 6), .ref (h 7), .long (eC row), .int (nI hc), .int (nI un)])), (h 1, .inl (cJ, 8, .inr (.inl (fC T))))] (fun (_ : Unit) => True) (fun _ => some (.int (eCe (kCe b s0 n) (ceI (T (xN b)) (xN s0) 0 (xN n + 1))))) (fun _ => [(e0, .inr (5, [.ref (h 0), .ref (y 0), .ref (z 0), .ref (d 0), .ref sc, .ref ru, .ref fu, .ref f0, .ref ra, .int (ib k0), .int (ib k1)])), (ra, .inl (cI, 3, .inl (rfU (kCe b s0 n) rf))), (h 0, .inr (2, [.ref (h 1), .ref (h 2), .ref (h 3), .ref (h 4), .ref (h 5), .ref (h 6), .ref (h 7), .long (eC row), .int (nI hc), .int (nI un)])), (h 1, .inl (cJ, 8, .inr (.inl (fC T))))]) := by
  refine Ct.ofI (cc := cX8_centuries) (maxL := 4) (by decide) rfl (Nat.le_of_ble_eq_true rfl) ?_
  intro pG eG sG mG aG bG tG cG AG QG ls xh bh hml hown hts hK hP hD hS hA hend hl
  have hl : lv_has ls 4 [(0, .ref e0), (1, .int b), (2, .int s0), (3, .int n)] := hl
  refine lv_iload_n xh bh dX8_centuries_0 rfl (lv_at hl 1 rfl) ?_
  refine Ct.callS0 (rest := []) xh bh hml hown hts hK hP hS hA (ct_X8_isBranch l D cI cJ cB cZ cA b ) (va_cwS 1 hts gX8_centuries_X8_isBranch rfl rfl rfl (by decide +kernel) ⟨Nat.le_of_ble_eq_true rfl, Nat.le_of_ble_eq_true rfl⟩) rfl rfl hl.1 (Nat.le_of_ble_eq_true rfl) dX8_centuries_1 ⟨Nat.le_refl _, Nat.le_refl _⟩ (fun _ H locs _ hP hS => ?_)
  refine W.eq (g2 := F0 mG 4 ls [.int (ib (upB b 7))]) rfl ?_
  refine xb_if_eq (tgt := 25) xh bh dX8_centuries_4 (by decide) (fun c_4 => ?_) (fun c_4 => ?_)
  · have hk : kCe b s0 n = 0 := if_neg (fun q => by rw [c_4] at q; exact absurd q.1 (by decide))
    refine lv_aload_n xh bh dX8_centuries_25 rfl (lv_at hl 0 rfl) ?_
    refine lv_bipush (v := (-2)) xh bh dX8_centuries_26 (by decide) ?_
    refine Ct.callV (As := [.int (-2)]) (rest := []) (wr := [(h 0, .inr (2, [.ref (h 1), .ref (h 2), .ref (h 3), .ref (h 4), .ref (h 5), .ref (h 6), .ref (h 7), .long (eC row), .int (nI hc), .int (nI un)])), (h 1, .inl (cJ, 8, .inr (.inl (fC T))))]) xh bh hml hown hts hK hP hD hS hA (ct_X8_refuse0 l D cI cJ cB cZ cA e0 h y z d sc ru fu f0 ra k0 k1 rf ) (cwV 1 hts gX8_centuries_X8_refuse rfl rfl rfl (by decide +kernel) ⟨Nat.le_of_ble_eq_true rfl, Nat.le_of_ble_eq_true rfl⟩) rfl rfl hl.1 (Nat.le_of_ble_eq_true rfl) dX8_centuries_28 ⟨Nat.le_refl _, Nat.le_refl _⟩ 0 5 rfl rfl rfl [0, 1] [2, 3] rfl (by decide) rfl rfl (by decide) (by decide) (fun _ H locs _ hP hD hS => ?_)
    have hP : va_P D vwCl [(h 0, .inr (2, [.ref (h 1), .ref (h 2), .ref (h 3), .ref (h 4), .ref (h 5), .ref (h 6), .ref (h 7), .long (eC row), .int (nI hc), .int (nI un)])), (h 1, .inl (cJ, 8, .inr (.inl (fC T)))), (e0, .inr (5, [.ref (h 0), .ref (y 0), .ref (z 0), .ref (d 0), .ref sc, .ref ru, .ref fu, .ref f0, .ref ra, .int (ib k0), .int (ib k1)])), (ra, .inl (cI, 3, .inl (upd rf 0 ((rf 0) + nI 1))))] H := hP
    have hD : va_D AG [(h 0, .inr (2, [.ref (h 1), .ref (h 2), .ref (h 3), .ref (h 4), .ref (h 5), .ref (h 6), .ref (h 7), .long (eC row), .int (nI hc), .int (nI un)])), (h 1, .inl (cJ, 8, .inr (.inl (fC T)))), (e0, .inr (5, [.ref (h 0), .ref (y 0), .ref (z 0), .ref (d 0), .ref sc, .ref ru, .ref fu, .ref f0, .ref ra, .int (ib k0), .int (ib k1)])), (ra, .inl (cI, 3, .inl (upd rf 0 ((rf 0) + nI 1))))] := hD
    refine W.eq (g2 := F0 mG 31 ls [.int (-2)]) rfl ?_
    exact hend (-2) () _ _ _ _ (congrArg (fun z => some (Value.int z)) (by rw [hk]; rfl)) trivial rfl dX8_centuries_31 (by rw [hk]; exact (hP.sub [2, 3, 0, 1] rfl)) (by rw [hk]; exact (hD.sub [2, 3, 0, 1] (by decide) rfl)) hS
  · refine lv_iload_n xh bh dX8_centuries_7 rfl (lv_at hl 2 rfl) ?_
    refine lv_ldc (v := (nI 999999)) xh bh hown (hts _ (List.mem_of_getElem? (i := 1) rfl)) dX8_centuries_8 ?_
    refine Ct.callS0 (rest := []) xh bh hml hown hts hK hP hS hA (ct_X8_isUpTo l D cI cJ cB cZ cA s0 999999 (by first | omega | assumption)) (va_cwS 2 hts gX8_centuries_X8_isUpTo rfl rfl rfl (by decide +kernel) ⟨Nat.le_of_ble_eq_true rfl, Nat.le_of_ble_eq_true rfl⟩) rfl rfl hl.1 (Nat.le_of_ble_eq_true rfl) dX8_centuries_10 ⟨Nat.le_refl _, Nat.le_refl _⟩ (fun _ H locs _ hP hS => ?_)
    refine W.eq (g2 := F0 mG 13 ls [.int (ib (upB s0 999999))]) rfl ?_
    refine xb_if_eq (tgt := 25) xh bh dX8_centuries_13 (by decide) (fun c_13 => ?_) (fun c_13 => ?_)
    · have hk : kCe b s0 n = 0 := if_neg (fun q => by rw [c_13] at q; exact absurd q.2.1 (by decide))
      refine lv_aload_n xh bh dX8_centuries_25 rfl (lv_at hl 0 rfl) ?_
      refine lv_bipush (v := (-2)) xh bh dX8_centuries_26 (by decide) ?_
      refine Ct.callV (As := [.int (-2)]) (rest := []) (wr := [(h 0, .inr (2, [.ref (h 1), .ref (h 2), .ref (h 3), .ref (h 4), .ref (h 5), .ref (h 6), .ref (h 7), .long (eC row), .int (nI hc), .int (nI un)])), (h 1, .inl (cJ, 8, .inr (.inl (fC T))))]) xh bh hml hown hts hK hP hD hS hA (ct_X8_refuse0 l D cI cJ cB cZ cA e0 h y z d sc ru fu f0 ra k0 k1 rf ) (cwV 1 hts gX8_centuries_X8_refuse rfl rfl rfl (by decide +kernel) ⟨Nat.le_of_ble_eq_true rfl, Nat.le_of_ble_eq_true rfl⟩) rfl rfl hl.1 (Nat.le_of_ble_eq_true rfl) dX8_centuries_28 ⟨Nat.le_refl _, Nat.le_refl _⟩ 0 5 rfl rfl rfl [0, 1] [2, 3] rfl (by decide) rfl rfl (by decide) (by decide) (fun _ H locs _ hP hD hS => ?_)
      have hP : va_P D vwCl [(h 0, .inr (2, [.ref (h 1), .ref (h 2), .ref (h 3), .ref (h 4), .ref (h 5), .ref (h 6), .ref (h 7), .long (eC row), .int (nI hc), .int (nI un)])), (h 1, .inl (cJ, 8, .inr (.inl (fC T)))), (e0, .inr (5, [.ref (h 0), .ref (y 0), .ref (z 0), .ref (d 0), .ref sc, .ref ru, .ref fu, .ref f0, .ref ra, .int (ib k0), .int (ib k1)])), (ra, .inl (cI, 3, .inl (upd rf 0 ((rf 0) + nI 1))))] H := hP
      have hD : va_D AG [(h 0, .inr (2, [.ref (h 1), .ref (h 2), .ref (h 3), .ref (h 4), .ref (h 5), .ref (h 6), .ref (h 7), .long (eC row), .int (nI hc), .int (nI un)])), (h 1, .inl (cJ, 8, .inr (.inl (fC T)))), (e0, .inr (5, [.ref (h 0), .ref (y 0), .ref (z 0), .ref (d 0), .ref sc, .ref ru, .ref fu, .ref f0, .ref ra, .int (ib k0), .int (ib k1)])), (ra, .inl (cI, 3, .inl (upd rf 0 ((rf 0) + nI 1))))] := hD
      refine W.eq (g2 := F0 mG 31 ls [.int (-2)]) rfl ?_
      exact hend (-2) () _ _ _ _ (congrArg (fun z => some (Value.int z)) (by rw [hk]; rfl)) trivial rfl dX8_centuries_31 (by rw [hk]; exact (hP.sub [2, 3, 0, 1] rfl)) (by rw [hk]; exact (hD.sub [2, 3, 0, 1] (by decide) rfl)) hS
    · refine lv_iload_n xh bh dX8_centuries_16 rfl (lv_at hl 3 rfl) ?_
      refine lv_bipush (v := (nI 60)) xh bh dX8_centuries_17 (by decide) ?_
      refine Ct.callS0 (rest := []) xh bh hml hown hts hK hP hS hA (ct_X8_isUpTo l D cI cJ cB cZ cA n 60 (by first | omega | assumption)) (va_cwS 2 hts gX8_centuries_X8_isUpTo rfl rfl rfl (by decide +kernel) ⟨Nat.le_of_ble_eq_true rfl, Nat.le_of_ble_eq_true rfl⟩) rfl rfl hl.1 (Nat.le_of_ble_eq_true rfl) dX8_centuries_19 ⟨Nat.le_refl _, Nat.le_refl _⟩ (fun _ H locs _ hP hS => ?_)
      refine W.eq (g2 := F0 mG 22 ls [.int (ib (upB n 60))]) rfl ?_
      refine xb_if_ne (tgt := 32) xh bh dX8_centuries_22 (by decide) (fun c_22 => ?_) (fun c_22 => ?_)
      · have hk : kCe b s0 n = 3 := if_pos ⟨c_4, c_13, c_22⟩
        obtain ⟨b2, hb9, rfl⟩ := upB_of (by decide) c_4
        obtain ⟨s2, hs9, rfl⟩ := upB_of (by decide) c_13
        obtain ⟨n2, hn9, rfl⟩ := upB_of (by decide) c_22
        refine lv_aload_n xh bh dX8_centuries_32 rfl (lv_at hl 0 rfl) ?_
        refine va_get (D := D) (ci := 5) (v := .ref (h 0)) (C := RX8) (T := TX8) (N := 11) xh bh hts (fun _ h => List.mem_cons_of_mem _ (List.mem_append_left _ (List.mem_append_right _ (h)))) hown hK.1 hP 0 rfl rfl 0 (by decide) (hts _ (List.mem_of_getElem? (i := 2) rfl)) (fun _ h9 => h9) rfl dX8_centuries_33 ?_
        refine lv_iload_n xh bh dX8_centuries_36 rfl (lv_at hl 1 rfl) ?_
        refine Ct.callV (As := [.int (nI b2)]) (rest := []) (wr := [(e0, .inr (5, [.ref (h 0), .ref (y 0), .ref (z 0), .ref (d 0), .ref sc, .ref ru, .ref fu, .ref f0, .ref ra, .int (ib k0), .int (ib k1)])), (ra, .inl (cI, 3, .inl rf))]) xh bh hml hown hts hK hP hD hS hA (ct_X3_taleOf l D cI cJ cB cZ cA h T row hc un b2 (by first | omega | assumption)) (cwV 1 hts gX8_centuries_X3_taleOf rfl rfl rfl (by decide +kernel) ⟨Nat.le_of_ble_eq_true rfl, Nat.le_of_ble_eq_true rfl⟩) rfl rfl hl.1 (Nat.le_of_ble_eq_true rfl) dX8_centuries_37 ⟨Nat.le_refl _, Nat.le_refl _⟩ 0 2 rfl rfl rfl [2, 3] [0, 1] rfl (by decide) rfl rfl (by decide) (by decide) (fun _ H locs _ hP hD hS => ?_)
        have hP : va_P D vwCl [(e0, .inr (5, [.ref (h 0), .ref (y 0), .ref (z 0), .ref (d 0), .ref sc, .ref ru, .ref fu, .ref f0, .ref ra, .int (ib k0), .int (ib k1)])), (ra, .inl (cI, 3, .inl rf)), (h 0, .inr (2, [.ref (h 1), .ref (h 2), .ref (h 3), .ref (h 4), .ref (h 5), .ref (h 6), .ref (h 7), .long (eC row), .int (nI hc), .int (nI un)])), (h 1, .inl (cJ, 8, .inr (.inl (fC T))))] H := hP
        have hD : va_D AG [(e0, .inr (5, [.ref (h 0), .ref (y 0), .ref (z 0), .ref (d 0), .ref sc, .ref ru, .ref fu, .ref f0, .ref ra, .int (ib k0), .int (ib k1)])), (ra, .inl (cI, 3, .inl rf)), (h 0, .inr (2, [.ref (h 1), .ref (h 2), .ref (h 3), .ref (h 4), .ref (h 5), .ref (h 6), .ref (h 7), .long (eC row), .int (nI hc), .int (nI un)])), (h 1, .inl (cJ, 8, .inr (.inl (fC T))))] := hD
        refine W.eq (g2 := F0 mG 40 ls [.long (eC (T b2))]) rfl ?_
        refine lv_iload_n xh bh dX8_centuries_40 rfl (lv_at hl 2 rfl) ?_
        refine lv_iload_n xh bh dX8_centuries_41 rfl (lv_at hl 3 rfl) ?_
        refine Ct.callS0 (rest := []) xh bh hml hown hts hK hP hS hA (ct_X0_centuriesOfDuck l D cI cJ cB cZ cA (T b2) s2 n2 (by exact hT _) (by first | omega | assumption) (by first | omega | assumption)) (va_cwS 3 hts gX8_centuries_X0_centuriesOfDuck rfl rfl rfl (by decide +kernel) ⟨Nat.le_of_ble_eq_true rfl, Nat.le_of_ble_eq_true rfl⟩) rfl rfl hl.1 (Nat.le_of_ble_eq_true rfl) dX8_centuries_42 ⟨Nat.le_refl _, Nat.le_refl _⟩ (fun _ H locs _ hP hS => ?_)
        refine W.eq (g2 := F0 mG 45 ls [.int (ceI (T b2) s2 0 (n2 + 1))]) rfl ?_
        exact hend (ceI (T b2) s2 0 (n2 + 1)) () _ _ _ _ (congrArg (fun z => some (Value.int z)) (by rw [hk, xN_nI (by omega), xN_nI (by omega), xN_nI (by omega)]; rfl)) trivial rfl dX8_centuries_45 (by rw [hk]; exact hP) (by rw [hk]; exact hD) hS
      · have hk : kCe b s0 n = 0 := if_neg (fun q => by rw [c_22] at q; exact absurd q.2.2 (by decide))
        refine lv_aload_n xh bh dX8_centuries_25 rfl (lv_at hl 0 rfl) ?_
        refine lv_bipush (v := (-2)) xh bh dX8_centuries_26 (by decide) ?_
        refine Ct.callV (As := [.int (-2)]) (rest := []) (wr := [(h 0, .inr (2, [.ref (h 1), .ref (h 2), .ref (h 3), .ref (h 4), .ref (h 5), .ref (h 6), .ref (h 7), .long (eC row), .int (nI hc), .int (nI un)])), (h 1, .inl (cJ, 8, .inr (.inl (fC T))))]) xh bh hml hown hts hK hP hD hS hA (ct_X8_refuse0 l D cI cJ cB cZ cA e0 h y z d sc ru fu f0 ra k0 k1 rf ) (cwV 1 hts gX8_centuries_X8_refuse rfl rfl rfl (by decide +kernel) ⟨Nat.le_of_ble_eq_true rfl, Nat.le_of_ble_eq_true rfl⟩) rfl rfl hl.1 (Nat.le_of_ble_eq_true rfl) dX8_centuries_28 ⟨Nat.le_refl _, Nat.le_refl _⟩ 0 5 rfl rfl rfl [0, 1] [2, 3] rfl (by decide) rfl rfl (by decide) (by decide) (fun _ H locs _ hP hD hS => ?_)
        have hP : va_P D vwCl [(h 0, .inr (2, [.ref (h 1), .ref (h 2), .ref (h 3), .ref (h 4), .ref (h 5), .ref (h 6), .ref (h 7), .long (eC row), .int (nI hc), .int (nI un)])), (h 1, .inl (cJ, 8, .inr (.inl (fC T)))), (e0, .inr (5, [.ref (h 0), .ref (y 0), .ref (z 0), .ref (d 0), .ref sc, .ref ru, .ref fu, .ref f0, .ref ra, .int (ib k0), .int (ib k1)])), (ra, .inl (cI, 3, .inl (upd rf 0 ((rf 0) + nI 1))))] H := hP
        have hD : va_D AG [(h 0, .inr (2, [.ref (h 1), .ref (h 2), .ref (h 3), .ref (h 4), .ref (h 5), .ref (h 6), .ref (h 7), .long (eC row), .int (nI hc), .int (nI un)])), (h 1, .inl (cJ, 8, .inr (.inl (fC T)))), (e0, .inr (5, [.ref (h 0), .ref (y 0), .ref (z 0), .ref (d 0), .ref sc, .ref ru, .ref fu, .ref f0, .ref ra, .int (ib k0), .int (ib k1)])), (ra, .inl (cI, 3, .inl (upd rf 0 ((rf 0) + nI 1))))] := hD
        refine W.eq (g2 := F0 mG 31 ls [.int (-2)]) rfl ?_
        exact hend (-2) () _ _ _ _ (congrArg (fun z => some (Value.int z)) (by rw [hk]; rfl)) trivial rfl dX8_centuries_31 (by rw [hk]; exact (hP.sub [2, 3, 0, 1] rfl)) (by rw [hk]; exact (hD.sub [2, 3, 0, 1] (by decide) rfl)) hS

set_option maxHeartbeats 1000000 in
set_option maxRecDepth 100000 in
theorem ct_X8_part (l : Launch) (D : va_G) (cI cJ cB cZ cA : ClassId) (e0 : Nat) (h : Nat → Nat) (y : Nat → Nat) (z : Nat → Nat) (d : Nat → Nat) (sc : Nat) (ru : Nat) (fu : Nat) (f0 : Nat) (ra : Nat) (k0 : Bool) (k1 : Bool) (rf : Nat → Int32) (fa : Int64) (fb : Int64) (w : Int32) : Ct l yX8_part wsX8_part ({ frames := 2, cells := 0, slots := 0, locals := 44 }) D (tysG cI cJ cB cZ cA) [.ref e0, .int w] [(e0, .inr (5, [.ref (h 0), .ref (y 0), .ref (z 0), .ref (d 0), .ref sc, .ref ru, .ref fu, .ref f0, .ref ra, .int (ib k0), .int (ib k1)])), (ra, .inl (cI, 3, .inl rf)), (f0, .inr (0, [.long fa, .long fb]))] (fun (_ : Unit) => True) (fun _ => some (.long (ePa (kW w 1) w fa fb))) (fun _ => [(e0, .inr (5, [.ref (h 0), .ref (y 0), .ref (z 0), .ref (d 0), .ref sc, .ref ru, .ref fu, .ref f0, .ref ra, .int (ib k0), .int (ib k1)])), (ra, .inl (cI, 3, .inl (rfU (kW w 1) rf))), (f0, .inr (0, [.long fa, .long fb]))]) := by
  refine Ct.ofL (cc := cX8_part) (maxL := 2) (by decide) rfl (Nat.le_of_ble_eq_true rfl) ?_
  intro pG eG sG mG aG bG tG cG AG QG ls xh bh hml hown hts hK hP hD hS hA hend hl
  have hl : lv_has ls 2 [(0, .ref e0), (1, .int w)] := hl
  refine lv_iload_n xh bh dX8_part_0 rfl (lv_at hl 1 rfl) ?_
  refine lv_iconst (v := (nI 1)) xh bh dX8_part_1 (by decide) ?_
  refine Ct.callS0 (rest := []) xh bh hml hown hts hK hP hS hA (ct_X8_isUpTo l D cI cJ cB cZ cA w 1 (by first | omega | assumption)) (va_cwS 2 hts gX8_part_X8_isUpTo rfl rfl rfl (by decide +kernel) ⟨Nat.le_of_ble_eq_true rfl, Nat.le_of_ble_eq_true rfl⟩) rfl rfl hl.1 (Nat.le_of_ble_eq_true rfl) dX8_part_2 ⟨Nat.le_refl _, Nat.le_refl _⟩ (fun _ H locs _ hP hS => ?_)
  refine W.eq (g2 := F0 mG 5 ls [.int (ib (upB w 1))]) rfl ?_
  refine xb_if_ne (tgt := 16) xh bh dX8_part_5 (by decide) (fun c_5 => ?_) (fun c_5 => ?_)
  · have hk : kW w 1 = 3 := if_pos c_5
    refine lv_iload_n xh bh dX8_part_16 rfl (lv_at hl 1 rfl) ?_
    refine lv_if_ne (tgt := 30) xh bh dX8_part_17 (by decide) (fun c_17 => ?_) (fun c_17 => ?_)
    · refine lv_aload_n xh bh dX8_part_30 rfl (lv_at hl 0 rfl) ?_
      refine va_get (D := D) (ci := 5) (v := .ref f0) (C := RX8) (T := TX8) (N := 11) xh bh hts (fun _ h => List.mem_cons_of_mem _ (List.mem_append_left _ (List.mem_append_right _ (h)))) hown hK.1 hP 0 rfl rfl 7 (by decide) (hts _ (List.mem_of_getElem? (i := 1) rfl)) (fun _ h9 => h9) rfl dX8_part_31 ?_
      refine va_get (D := D) (ci := 0) (v := .long fb) (C := RX1) (T := TX1) (N := 2) xh bh hts (fun _ h => List.mem_cons_of_mem _ (List.mem_append_right _ (h))) hown hK.1 hP 2 rfl rfl 1 (by decide) (hts _ (List.mem_of_getElem? (i := 3) rfl)) (fun _ h9 => h9) rfl dX8_part_34 ?_
      exact hend fb () _ _ _ _ (congrArg (fun z => some (Value.long z)) (by rw [hk]; first | exact if_pos c_17 | exact if_neg c_17)) trivial dX8_part_37 (by rw [hk]; exact hP) (by rw [hk]; exact hD) hS
    · refine lv_aload_n xh bh dX8_part_20 rfl (lv_at hl 0 rfl) ?_
      refine va_get (D := D) (ci := 5) (v := .ref f0) (C := RX8) (T := TX8) (N := 11) xh bh hts (fun _ h => List.mem_cons_of_mem _ (List.mem_append_left _ (List.mem_append_right _ (h)))) hown hK.1 hP 0 rfl rfl 7 (by decide) (hts _ (List.mem_of_getElem? (i := 1) rfl)) (fun _ h9 => h9) rfl dX8_part_21 ?_
      refine va_get (D := D) (ci := 0) (v := .long fa) (C := RX1) (T := TX1) (N := 2) xh bh hts (fun _ h => List.mem_cons_of_mem _ (List.mem_append_right _ (h))) hown hK.1 hP 2 rfl rfl 0 (by decide) (hts _ (List.mem_of_getElem? (i := 2) rfl)) (fun _ h9 => h9) rfl dX8_part_24 ?_
      refine lv_goto (tgt := 37) xh bh dX8_part_27 (by decide) ?_
      exact hend fa () _ _ _ _ (congrArg (fun z => some (Value.long z)) (by rw [hk]; first | exact if_pos c_17 | exact if_neg c_17)) trivial dX8_part_37 (by rw [hk]; exact hP) (by rw [hk]; exact hD) hS
  · have hk : kW w 1 = 0 := if_neg (by rw [c_5]; decide)
    refine lv_aload_n xh bh dX8_part_8 rfl (lv_at hl 0 rfl) ?_
    refine lv_bipush (v := (-2)) xh bh dX8_part_9 (by decide) ?_
    refine Ct.callV (As := [.int (-2)]) (rest := []) (wr := [(f0, .inr (0, [.long fa, .long fb]))]) xh bh hml hown hts hK hP hD hS hA (ct_X8_refuse0 l D cI cJ cB cZ cA e0 h y z d sc ru fu f0 ra k0 k1 rf ) (cwV 1 hts gX8_part_X8_refuse rfl rfl rfl (by decide +kernel) ⟨Nat.le_of_ble_eq_true rfl, Nat.le_of_ble_eq_true rfl⟩) rfl rfl hl.1 (Nat.le_of_ble_eq_true rfl) dX8_part_11 ⟨Nat.le_refl _, Nat.le_refl _⟩ 0 5 rfl rfl rfl [0, 1] [2] rfl (by decide) rfl rfl (by decide) (by decide) (fun _ H locs _ hP hD hS => ?_)
    have hP : va_P D vwCl [(f0, .inr (0, [.long fa, .long fb])), (e0, .inr (5, [.ref (h 0), .ref (y 0), .ref (z 0), .ref (d 0), .ref sc, .ref ru, .ref fu, .ref f0, .ref ra, .int (ib k0), .int (ib k1)])), (ra, .inl (cI, 3, .inl (upd rf 0 ((rf 0) + nI 1))))] H := hP
    have hD : va_D AG [(f0, .inr (0, [.long fa, .long fb])), (e0, .inr (5, [.ref (h 0), .ref (y 0), .ref (z 0), .ref (d 0), .ref sc, .ref ru, .ref fu, .ref f0, .ref ra, .int (ib k0), .int (ib k1)])), (ra, .inl (cI, 3, .inl (upd rf 0 ((rf 0) + nI 1))))] := hD
    refine W.eq (g2 := F0 mG 14 ls [.int (-2)]) rfl ?_
    refine lv_i2l xh bh dX8_part_14 rfl ?_
    exact hend ((-2).toInt64) () _ _ _ _ (congrArg (fun z => some (Value.long z)) (by rw [hk]; rfl)) trivial dX8_part_15 (by rw [hk]; exact (hP.sub [1, 2, 0] rfl)) (by rw [hk]; exact (hD.sub [1, 2, 0] (by decide) rfl)) hS

set_option maxHeartbeats 1000000 in
set_option maxRecDepth 100000 in
theorem ct_X8_status (l : Launch) (D : va_G) (cI cJ cB cZ cA : ClassId) (e0 : Nat) (h : Nat → Nat) (y : Nat → Nat) (z : Nat → Nat) (d : Nat → Nat) (sc : Nat) (ru : Nat) (fu : Nat) (f0 : Nat) (ra : Nat) (k0 : Bool) (k1 : Bool) (rf : Nat → Int32) (w : Int32) : Ct l yX8_status wsX8_status ({ frames := 1, cells := 0, slots := 0, locals := 23 }) D (tysG cI cJ cB cZ cA) [.ref e0, .int w] [(e0, .inr (5, [.ref (h 0), .ref (y 0), .ref (z 0), .ref (d 0), .ref sc, .ref ru, .ref fu, .ref f0, .ref ra, .int (ib k0), .int (ib k1)])), (ra, .inl (cI, 3, .inl rf))] (fun (_ : Unit) => True) (fun _ => some (.int (eSt (kW w 2) (rf (xN w))))) (fun _ => [(e0, .inr (5, [.ref (h 0), .ref (y 0), .ref (z 0), .ref (d 0), .ref sc, .ref ru, .ref fu, .ref f0, .ref ra, .int (ib k0), .int (ib k1)])), (ra, .inl (cI, 3, .inl (rfU (kW w 2) rf)))]) := by
  refine Ct.ofI (cc := cX8_status) (maxL := 2) (by decide) rfl (Nat.le_of_ble_eq_true rfl) ?_
  intro pG eG sG mG aG bG tG cG AG QG ls xh bh hml hown hts hK hP hD hS hA hend hl
  have hl : lv_has ls 2 [(0, .ref e0), (1, .int w)] := hl
  refine lv_iload_n xh bh dX8_status_0 rfl (lv_at hl 1 rfl) ?_
  refine lv_if_lt (tgt := 13) xh bh dX8_status_1 (by decide) (fun c_1 => ?_) (fun c_1 => ?_)
  · have hk : kW w 2 = 0 := if_neg (fun q => (of_decide_eq_true q).1 c_1)
    refine lv_aload_n xh bh dX8_status_13 rfl (lv_at hl 0 rfl) ?_
    refine lv_bipush (v := (-2)) xh bh dX8_status_14 (by decide) ?_
    refine lv_iconst (v := (-1)) xh bh dX8_status_16 (by decide) ?_
    refine Ct.callV (As := [.int (-2), .int (-1)]) (rest := []) (wr := []) xh bh hml hown hts hK hP hD hS hA (ct_X8_refuse_0 l D cI cJ cB cZ cA e0 h y z d sc ru fu f0 ra k0 k1 rf (-1) ) (cwV 2 hts gX8_status_X8_refuse_ rfl rfl rfl (by decide +kernel) ⟨Nat.le_of_ble_eq_true rfl, Nat.le_of_ble_eq_true rfl⟩) rfl rfl hl.1 (Nat.le_of_ble_eq_true rfl) dX8_status_17 ⟨Nat.le_refl _, Nat.le_refl _⟩ 0 5 rfl rfl rfl [0, 1] [] rfl (by decide) rfl rfl (by decide) (by decide) (fun _ H locs _ hP hD hS => ?_)
    have hP : va_P D vwCl [(e0, .inr (5, [.ref (h 0), .ref (y 0), .ref (z 0), .ref (d 0), .ref sc, .ref ru, .ref fu, .ref f0, .ref ra, .int (ib k0), .int (ib k1)])), (ra, .inl (cI, 3, .inl (upd rf 0 ((rf 0) + nI 1))))] H := hP
    have hD : va_D AG [(e0, .inr (5, [.ref (h 0), .ref (y 0), .ref (z 0), .ref (d 0), .ref sc, .ref ru, .ref fu, .ref f0, .ref ra, .int (ib k0), .int (ib k1)])), (ra, .inl (cI, 3, .inl (upd rf 0 ((rf 0) + nI 1))))] := hD
    refine W.eq (g2 := F0 mG 20 ls [.int (-1)]) rfl ?_
    exact hend (-1) () _ _ _ _ (congrArg (fun z => some (Value.int z)) (by rw [hk]; rfl)) trivial rfl dX8_status_20 (by rw [hk]; exact hP) (by rw [hk]; exact hD) hS
  · refine lv_iload_n xh bh dX8_status_4 rfl (lv_at hl 1 rfl) ?_
    refine lv_aload_n xh bh dX8_status_5 rfl (lv_at hl 0 rfl) ?_
    refine va_get (D := D) (ci := 5) (v := .ref ra) (C := RX8) (T := TX8) (N := 11) xh bh hts (fun _ h => List.mem_cons_of_mem _ (List.mem_append_right _ (h))) hown hK.1 hP 0 rfl rfl 8 (by decide) (hts _ (List.mem_of_getElem? (i := 1) rfl)) (fun _ h9 => h9) rfl dX8_status_6 ?_
    refine va_alen (v := nI 3) xh bh hK.1 hP 1 0 rfl rfl rfl dX8_status_9 ?_
    refine lv_icmp_lt (tgt := 21) xh bh dX8_status_10 (by decide) (fun c_10 => ?_) (fun c_10 => ?_)
    · obtain ⟨k, hk9, rfl⟩ : ∃ k : Nat, k < 3 ∧ w = nI k := by
        obtain ⟨j, hj, e⟩ := nI_of c_1
        exact ⟨j, (nI_ltI hj (by decide)).mp (by rw [← e]; exact c_10), e⟩
      have hk : kW (nI k) 2 = 3 := if_pos (by rw [upB_nI (by omega) (by decide)]; exact decide_eq_true (by omega))
      refine lv_aload_n xh bh dX8_status_21 rfl (lv_at hl 0 rfl) ?_
      refine va_get (D := D) (ci := 5) (v := .ref ra) (C := RX8) (T := TX8) (N := 11) xh bh hts (fun _ h => List.mem_cons_of_mem _ (List.mem_append_right _ (h))) hown hK.1 hP 0 rfl rfl 8 (by decide) (hts _ (List.mem_of_getElem? (i := 1) rfl)) (fun _ h9 => h9) rfl dX8_status_22 ?_
      refine lv_iload_n xh bh dX8_status_25 rfl (lv_at hl 1 rfl) ?_
      refine xa_iald xh bh hK.1 hP 1 0 rfl rfl (by omega) (by omega) dX8_status_26 ?_
      exact hend (rf k) () _ _ _ _ (congrArg (fun z => some (Value.int z)) (by rw [hk, xN_nI (by omega)]; rfl)) trivial rfl dX8_status_27 (by rw [hk]; exact hP) (by rw [hk]; exact hD) hS
    · have hk : kW w 2 = 0 := if_neg (fun q => by obtain ⟨k, h1, h2⟩ := upB_of (by decide) q; exact c_10 (by rw [h2]; exact nI_lt (by omega) (by decide)))
      refine lv_aload_n xh bh dX8_status_13 rfl (lv_at hl 0 rfl) ?_
      refine lv_bipush (v := (-2)) xh bh dX8_status_14 (by decide) ?_
      refine lv_iconst (v := (-1)) xh bh dX8_status_16 (by decide) ?_
      refine Ct.callV (As := [.int (-2), .int (-1)]) (rest := []) (wr := []) xh bh hml hown hts hK hP hD hS hA (ct_X8_refuse_0 l D cI cJ cB cZ cA e0 h y z d sc ru fu f0 ra k0 k1 rf (-1) ) (cwV 2 hts gX8_status_X8_refuse_ rfl rfl rfl (by decide +kernel) ⟨Nat.le_of_ble_eq_true rfl, Nat.le_of_ble_eq_true rfl⟩) rfl rfl hl.1 (Nat.le_of_ble_eq_true rfl) dX8_status_17 ⟨Nat.le_refl _, Nat.le_refl _⟩ 0 5 rfl rfl rfl [0, 1] [] rfl (by decide) rfl rfl (by decide) (by decide) (fun _ H locs _ hP hD hS => ?_)
      have hP : va_P D vwCl [(e0, .inr (5, [.ref (h 0), .ref (y 0), .ref (z 0), .ref (d 0), .ref sc, .ref ru, .ref fu, .ref f0, .ref ra, .int (ib k0), .int (ib k1)])), (ra, .inl (cI, 3, .inl (upd rf 0 ((rf 0) + nI 1))))] H := hP
      have hD : va_D AG [(e0, .inr (5, [.ref (h 0), .ref (y 0), .ref (z 0), .ref (d 0), .ref sc, .ref ru, .ref fu, .ref f0, .ref ra, .int (ib k0), .int (ib k1)])), (ra, .inl (cI, 3, .inl (upd rf 0 ((rf 0) + nI 1))))] := hD
      refine W.eq (g2 := F0 mG 20 ls [.int (-1)]) rfl ?_
      exact hend (-1) () _ _ _ _ (congrArg (fun z => some (Value.int z)) (by rw [hk]; rfl)) trivial rfl dX8_status_20 (by rw [hk]; exact hP) (by rw [hk]; exact hD) hS
