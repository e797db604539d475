-- rows laid by wip/whole/gen.py
set_option maxHeartbeats 1000000 in
set_option maxRecDepth 100000 in
theorem ct_X6_byteIn (l : Launch) (D : va_G) (cI cJ cB cZ cA : ClassId) (sc : Nat) (sb : Nat) (bl : Nat) (bt : Nat → Nat) (st : Int32) (be : Int32) (tk : Int32) (nu : Int32) (p : Nat) (hp : p < bl) (hbl : bl ≤ 150) : Ct l yX6_byteIn wsX6_byteIn ({ frames := 0, cells := 0, slots := 0, locals := 0 }) D (tysG cI cJ cB cZ cA) [.ref sc, .int (nI p)] [(sc, .inr (4, [.ref sb, .int (nI bl), .int st, .int be, .int tk, .int nu])), (sb, .inl (cB, 150, .inl (fN bt)))] (fun (_ : Unit) => True) (fun _ => some (.int (nI (bt p)))) (fun _ => [(sc, .inr (4, [.ref sb, .int (nI bl), .int st, .int be, .int tk, .int nu])), (sb, .inl (cB, 150, .inl (fN bt)))]) := by
  refine Ct.ofI (cc := cX6_byteIn) (maxL := 2) (by decide) rfl (Nat.le_of_ble_eq_true rfl) ?_
  intro pG eG sG mG aG bG tG cG AG QG ls xh bh hml hown hts hK hP hD hS hA hend hl
  have hl : lv_has ls 2 [(0, .ref sc), (1, .int (nI p))] := hl
  refine lv_iload_n xh bh dX6_byteIn_0 rfl (lv_at hl 1 rfl) ?_
  refine xn_if_lt (tgt := 28) xh bh dX6_byteIn_1 (by decide) (by omega) (fun c_1 => ?_) (fun c_1 => ?_)
  · exact absurd c_1 (by exact id)
  · refine lv_iload_n xh bh dX6_byteIn_4 rfl (lv_at hl 1 rfl) ?_
    refine lv_aload_n xh bh dX6_byteIn_5 rfl (lv_at hl 0 rfl) ?_
    refine va_get (D := D) (ci := 4) (v := .int (nI bl)) (C := RX6) (T := TX6) (N := 6) xh bh hts (fun _ h => List.mem_cons_of_mem _ (List.mem_append_right _ (h))) hown hK.1 hP 0 rfl rfl 1 (by decide) (hts _ (List.mem_of_getElem? (i := 1) rfl)) (fun _ h9 => h9) rfl dX6_byteIn_6 ?_
    refine xn_icmp_ge (tgt := 28) xh bh dX6_byteIn_9 (by decide) (by omega) (by omega) (fun c_9 => ?_) (fun c_9 => ?_)
    · exact absurd c_9 (by omega)
    · refine lv_iload_n xh bh dX6_byteIn_12 rfl (lv_at hl 1 rfl) ?_
      refine lv_sipush (v := (nI 150)) xh bh dX6_byteIn_13 (by decide) ?_
      refine xn_icmp_ge (tgt := 28) xh bh dX6_byteIn_16 (by decide) (by omega) (by omega) (fun c_16 => ?_) (fun c_16 => ?_)
      · exact absurd c_16 (by omega)
      · refine lv_aload_n xh bh dX6_byteIn_19 rfl (lv_at hl 0 rfl) ?_
        refine va_get (D := D) (ci := 4) (v := .ref sb) (C := RX6) (T := TX6) (N := 6) xh bh hts (fun _ h => List.mem_cons_of_mem _ (List.mem_append_right _ (h))) hown hK.1 hP 0 rfl rfl 0 (by decide) (hts _ (List.mem_of_getElem? (i := 2) rfl)) (fun _ h9 => h9) rfl dX6_byteIn_20 ?_
        refine lv_iload_n xh bh dX6_byteIn_23 rfl (lv_at hl 1 rfl) ?_
        refine xa_bald xh bh hK.1 hP 1 2 rfl rfl (by omega) (by omega) dX6_byteIn_24 ?_
        refine W.eq (g2 := F0 mG 25 ls [.int (nI (bt p))]) rfl ?_
        refine lv_goto (tgt := 29) xh bh dX6_byteIn_25 (by decide) ?_
        exact hend (nI (bt p)) () _ _ _ _ (congrArg (fun z => some (Value.int (nI z))) (by rfl)) trivial rfl dX6_byteIn_29 hP hD hS

set_option maxHeartbeats 1000000 in
set_option maxRecDepth 100000 in
theorem ct_X6_lookAtWord (l : Launch) (D : va_G) (cI cJ cB cZ cA : ClassId) (sc : Nat) (sb : Nat) (bl : Nat) (bt : Nat → Nat) (st : Int32) (tk : Int32) (nu : Int32) (j : Nat) (hj : j ≤ bl) (hbl : bl ≤ 150) (hbt : ∀ k, bt k < 128) : Ct l yX6_lookAtWord wsX6_lookAtWord ({ frames := 1, cells := 0, slots := 0, locals := 21 }) D (tysG cI cJ cB cZ cA) [.ref sc] [(sc, .inr (4, [.ref sb, .int (nI bl), .int st, .int (nI j), .int tk, .int nu])), (sb, .inl (cB, 150, .inl (fN bt)))] (fun (_ : Unit) => True) (fun _ => none) (fun _ => [(sc, .inr (4, [.ref sb, .int (nI bl), .int st, .int (nI (rnE isL bt bl j)), .int (nI 1), .int nu])), (sb, .inl (cB, 150, .inl (fN bt)))]) := by
  refine Ct.ofV (cc := cX6_lookAtWord) (maxL := 1) (by decide) rfl (Nat.le_of_ble_eq_true rfl) ?_
  intro pG eG sG mG aG bG tG cG AG QG ls xh bh hml hown hts hK hP hD hS hA hend hl
  have hl : lv_has ls 1 [(0, .ref sc)] := hl
  refine lv_aload_n xh bh dX6_lookAtWord_0 rfl (lv_at hl 0 rfl) ?_
  refine lv_iconst (v := (nI 1)) xh bh dX6_lookAtWord_1 (by decide) ?_
  refine va_put (D := D) (ci := 4) (v := .int (nI 1)) (ty := .int) (C := RX6) (T := TX6) (N := 6) xh bh hts (fun _ h => List.mem_cons_of_mem _ (List.mem_append_right _ (h))) tyX6 tyX6_ok nmX6 hown hK.1 hP hD hS 0 rfl rfl 4 (by decide) (hts _ (List.mem_of_getElem? (i := 1) rfl)) (fun _ h9 => h9) rfl (by decide +kernel) (by rfl) (by rfl) (Nat.le_of_ble_eq_true rfl) dX6_lookAtWord_2 (fun H locs hP hD hS => ?_)
  have hP : va_P D vwCl [(sc, .inr (4, [.ref sb, .int (nI bl), .int st, .int (nI j), .int (nI 1), .int nu])), (sb, .inl (cB, 150, .inl (fN bt)))] H := hP
  have hD : va_D AG [(sc, .inr (4, [.ref sb, .int (nI bl), .int st, .int (nI j), .int (nI 1), .int nu])), (sb, .inl (cB, 150, .inl (fN bt)))] := hD
  have cut_5 : ∀ (n_5 : Nat), ∀ (i : Nat), (i ≤ bl) → (rnE isL bt bl j = rnE isL bt bl i) → (bl - i) < n_5 → ∀ (H : Heap) (locs : List Loc) (ls : Array Slot), va_P D vwCl [(sc, .inr (4, [.ref sb, .int (nI bl), .int st, .int (nI i), .int (nI 1), .int nu])), (sb, .inl (cB, 150, .inl (fN bt)))] H → va_D AG [(sc, .inr (4, [.ref sb, .int (nI bl), .int st, .int (nI i), .int (nI 1), .int nu])), (sb, .inl (cB, 150, .inl (fN bt)))] → va_S AG sG.heap H locs → lv_has ls 1 [(0, .ref sc)] → W pG l eG ({ frames := 1, cells := 0, slots := 0, locals := 21 }) sG mG aG bG tG cG H locs 0 0 QG (F0 mG 5 ls []) := by
    intro n_5
    induction n_5 with
    | zero =>
      intro i hi hr hmu
      exact absurd hmu (Nat.not_lt_zero _)
    | succ n_5 ih_5 =>
      intro i hi hr hmu H locs ls hP hD hS hl
      refine lv_aload_n xh bh dX6_lookAtWord_5 rfl (lv_at hl 0 rfl) ?_
      refine va_get (D := D) (ci := 4) (v := .int (nI i)) (C := RX6) (T := TX6) (N := 6) xh bh hts (fun _ h => List.mem_cons_of_mem _ (List.mem_append_right _ (h))) hown hK.1 hP 0 rfl rfl 3 (by decide) (hts _ (List.mem_of_getElem? (i := 2) rfl)) (fun _ h9 => h9) rfl dX6_lookAtWord_6 ?_
      refine lv_aload_n xh bh dX6_lookAtWord_9 rfl (lv_at hl 0 rfl) ?_
      refine va_get (D := D) (ci := 4) (v := .int (nI bl)) (C := RX6) (T := TX6) (N := 6) xh bh hts (fun _ h => List.mem_cons_of_mem _ (List.mem_append_right _ (h))) hown hK.1 hP 0 rfl rfl 1 (by decide) (hts _ (List.mem_of_getElem? (i := 3) rfl)) (fun _ h9 => h9) rfl dX6_lookAtWord_10 ?_
      refine xn_icmp_ge (tgt := 43) xh bh dX6_lookAtWord_13 (by decide) (by omega) (by omega) (fun c_13 => ?_) (fun c_13 => ?_)
      · exact hend () _ _ _ _ rfl trivial dX6_lookAtWord_43 (by rw [hr, rnE_e (fun q => by first | exact absurd q.1 (by omega) | exact absurd (q.2.symm.trans c_27) (by decide))]; exact hP) (by rw [hr, rnE_e (fun q => by first | exact absurd q.1 (by omega) | exact absurd (q.2.symm.trans c_27) (by decide))]; exact hD) hS
      · refine lv_aload_n xh bh dX6_lookAtWord_16 rfl (lv_at hl 0 rfl) ?_
        refine lv_aload_n xh bh dX6_lookAtWord_17 rfl (lv_at hl 0 rfl) ?_
        refine va_get (D := D) (ci := 4) (v := .int (nI i)) (C := RX6) (T := TX6) (N := 6) xh bh hts (fun _ h => List.mem_cons_of_mem _ (List.mem_append_right _ (h))) hown hK.1 hP 0 rfl rfl 3 (by decide) (hts _ (List.mem_of_getElem? (i := 2) rfl)) (fun _ h9 => h9) rfl dX6_lookAtWord_18 ?_
        refine Ct.callV (As := [.int (nI i)]) (rest := []) (wr := []) xh bh hml hown hts hK hP hD hS hA (ct_X6_byteIn l D cI cJ cB cZ cA sc sb bl bt st (nI i) (nI 1) nu i (by first | omega | assumption) (by first | omega | assumption)) (cwV 1 hts gX6_lookAtWord_X6_byteIn rfl rfl rfl (by decide +kernel) ⟨Nat.le_of_ble_eq_true rfl, Nat.le_of_ble_eq_true rfl⟩) rfl rfl hl.1 (Nat.le_of_ble_eq_true rfl) dX6_lookAtWord_21 ⟨Nat.le_refl _, Nat.le_refl _⟩ 0 4 rfl rfl rfl [0, 1] [] rfl (by decide) rfl rfl (by decide) (by decide) (fun _ H locs _ hP hD hS => ?_)
        have hP : va_P D vwCl [(sc, .inr (4, [.ref sb, .int (nI bl), .int st, .int (nI i), .int (nI 1), .int nu])), (sb, .inl (cB, 150, .inl (fN bt)))] H := hP
        have hD : va_D AG [(sc, .inr (4, [.ref sb, .int (nI bl), .int st, .int (nI i), .int (nI 1), .int nu])), (sb, .inl (cB, 150, .inl (fN bt)))] := hD
        refine W.eq (g2 := F0 mG 24 ls [.int (nI (bt i))]) rfl ?_
        refine Ct.callS0 (rest := []) xh bh hml hown hts hK hP hS hA (ct_X6_isLetter l D cI cJ cB cZ cA (bt i) (by have := hbt i; omega)) (va_cwS 1 hts gX6_lookAtWord_X6_isLetter rfl rfl rfl (by decide +kernel) ⟨Nat.le_of_ble_eq_true rfl, Nat.le_of_ble_eq_true rfl⟩) rfl rfl hl.1 (Nat.le_of_ble_eq_true rfl) dX6_lookAtWord_24 ⟨Nat.le_refl _, Nat.le_refl _⟩ (fun _ H locs _ hP hS => ?_)
        refine W.eq (g2 := F0 mG 27 ls [.int (ib (decide (97 ≤ (bt i) ∧ (bt i) ≤ 122)))]) rfl ?_
        refine xb_if_eq (tgt := 43) xh bh dX6_lookAtWord_27 (by decide) (fun c_27 => ?_) (fun c_27 => ?_)
        · exact hend () _ _ _ _ rfl trivial dX6_lookAtWord_43 (by rw [hr, rnE_e (fun q => by first | exact absurd q.1 (by omega) | exact absurd (q.2.symm.trans c_27) (by decide))]; exact hP) (by rw [hr, rnE_e (fun q => by first | exact absurd q.1 (by omega) | exact absurd (q.2.symm.trans c_27) (by decide))]; exact hD) hS
        · refine lv_aload_n xh bh dX6_lookAtWord_30 rfl (lv_at hl 0 rfl) ?_
          refine lv_dup xh bh dX6_lookAtWord_31 rfl ?_
          refine va_get (D := D) (ci := 4) (v := .int (nI i)) (C := RX6) (T := TX6) (N := 6) xh bh hts (fun _ h => List.mem_cons_of_mem _ (List.mem_append_right _ (h))) hown hK.1 hP 0 rfl rfl 3 (by decide) (hts _ (List.mem_of_getElem? (i := 2) rfl)) (fun _ h9 => h9) rfl dX6_lookAtWord_32 ?_
          refine lv_iconst (v := (nI 1)) xh bh dX6_lookAtWord_35 (by decide) ?_
          refine xn_iadd xh bh dX6_lookAtWord_36 ?_
          refine va_put (D := D) (ci := 4) (v := .int (nI (i + 1))) (ty := .int) (C := RX6) (T := TX6) (N := 6) xh bh hts (fun _ h => List.mem_cons_of_mem _ (List.mem_append_right _ (h))) tyX6 tyX6_ok nmX6 hown hK.1 hP hD hS 0 rfl rfl 3 (by decide) (hts _ (List.mem_of_getElem? (i := 2) rfl)) (fun _ h9 => h9) rfl (by decide +kernel) (by rfl) (by rfl) (Nat.le_of_ble_eq_true rfl) dX6_lookAtWord_37 (fun H locs hP hD hS => ?_)
          have hP : va_P D vwCl [(sc, .inr (4, [.ref sb, .int (nI bl), .int st, .int (nI (i + 1)), .int (nI 1), .int nu])), (sb, .inl (cB, 150, .inl (fN bt)))] H := hP
          have hD : va_D AG [(sc, .inr (4, [.ref sb, .int (nI bl), .int st, .int (nI (i + 1)), .int (nI 1), .int nu])), (sb, .inl (cB, 150, .inl (fN bt)))] := hD
          refine lv_goto (tgt := 5) xh bh dX6_lookAtWord_40 (by decide) ?_
          exact ih_5 (i + 1) (by omega) (by exact hr.trans (rnE_s c_13 c_27)) (by omega) _ _ ls hP hD hS (lv_sub hl [0] rfl)
  exact cut_5 (bl - j + 1) j (by exact hj) (by rfl) (Nat.lt_succ_self _) _ _ ls hP hD hS (lv_sub hl [0] rfl)

set_option maxHeartbeats 1000000 in
set_option maxRecDepth 100000 in
theorem ct_X6_lookAtNumber (l : Launch) (D : va_G) (cI cJ cB cZ cA : ClassId) (sc : Nat) (sb : Nat) (bl : Nat) (bt : Nat → Nat) (tk : Int32) (s0 : Nat) (hs : s0 < bl) (hbl : bl ≤ 150) (hbt : ∀ k, bt k < 128) (hf : isF (bt s0) = true) : Ct l yX6_lookAtNumber wsX6_lookAtNumber ({ frames := 1, cells := 0, slots := 0, locals := 21 }) D (tysG cI cJ cB cZ cA) [.ref sc] [(sc, .inr (4, [.ref sb, .int (nI bl), .int (nI s0), .int (nI s0), .int tk, .int (nI 0)])), (sb, .inl (cB, 150, .inl (fN bt)))] (fun (u : Int32) => rnE isF bt bl s0 - s0 ≤ 2 → u = nI (v2N bt s0 (rnE isF bt bl s0))) (fun u => none) (fun u => [(sc, .inr (4, [.ref sb, .int (nI bl), .int (nI s0), .int (nI (rnE isF bt bl s0)), .int (nI (if rnE isF bt bl s0 - s0 ≤ 2 then 2 else 4)), .int u])), (sb, .inl (cB, 150, .inl (fN bt)))]) := by
  refine Ct.ofV (cc := cX6_lookAtNumber) (maxL := 1) (by decide) rfl (Nat.le_of_ble_eq_true rfl) ?_
  intro pG eG sG mG aG bG tG cG AG QG ls xh bh hml hown hts hK hP hD hS hA hend hl
  have hl : lv_has ls 1 [(0, .ref sc)] := hl
  have cut_0 : ∀ (n_0 : Nat), ∀ (i : Nat), ∀ (v : Int32), (s0 ≤ i ∧ i ≤ bl) → (rnE isF bt bl s0 = rnE isF bt bl i) → (i - s0 ≤ 2 → v = nI (vlN bt s0 i)) → (bl - i) < n_0 → ∀ (H : Heap) (locs : List Loc) (ls : Array Slot), va_P D vwCl [(sc, .inr (4, [.ref sb, .int (nI bl), .int (nI s0), .int (nI i), .int tk, .int v])), (sb, .inl (cB, 150, .inl (fN bt)))] H → va_D AG [(sc, .inr (4, [.ref sb, .int (nI bl), .int (nI s0), .int (nI i), .int tk, .int v])), (sb, .inl (cB, 150, .inl (fN bt)))] → va_S AG sG.heap H locs → lv_has ls 1 [(0, .ref sc)] → W pG l eG ({ frames := 1, cells := 0, slots := 0, locals := 21 }) sG mG aG bG tG cG H locs 0 0 QG (F0 mG 0 ls []) := by
    intro n_0
    induction n_0 with
    | zero =>
      intro i v hi hr hv hmu
      exact absurd hmu (Nat.not_lt_zero _)
    | succ n_0 ih_0 =>
      intro i v hi hr hv hmu H locs ls hP hD hS hl
      refine lv_aload_n xh bh dX6_lookAtNumber_0 rfl (lv_at hl 0 rfl) ?_
      refine va_get (D := D) (ci := 4) (v := .int (nI i)) (C := RX6) (T := TX6) (N := 6) xh bh hts (fun _ h => List.mem_cons_of_mem _ (List.mem_append_right _ (h))) hown hK.1 hP 0 rfl rfl 3 (by decide) (hts _ (List.mem_of_getElem? (i := 1) rfl)) (fun _ h9 => h9) rfl dX6_lookAtNumber_1 ?_
      refine lv_aload_n xh bh dX6_lookAtNumber_4 rfl (lv_at hl 0 rfl) ?_
      refine va_get (D := D) (ci := 4) (v := .int (nI bl)) (C := RX6) (T := TX6) (N := 6) xh bh hts (fun _ h => List.mem_cons_of_mem _ (List.mem_append_right _ (h))) hown hK.1 hP 0 rfl rfl 1 (by decide) (hts _ (List.mem_of_getElem? (i := 2) rfl)) (fun _ h9 => h9) rfl dX6_lookAtNumber_5 ?_
      refine xn_icmp_ge (tgt := 61) xh bh dX6_lookAtNumber_8 (by decide) (by omega) (by omega) (fun c_8 => ?_) (fun c_8 => ?_)
      · have e9 : rnE isF bt bl s0 = i := hr.trans (rnE_e (fun q => by first | exact absurd q.1 (by omega) | exact absurd (q.2.symm.trans c_22) (by decide)))
        have e8 := rnE_gt hs hf
        refine lv_aload_n xh bh dX6_lookAtNumber_61 rfl (lv_at hl 0 rfl) ?_
        refine lv_aload_n xh bh dX6_lookAtNumber_62 rfl (lv_at hl 0 rfl) ?_
        refine va_get (D := D) (ci := 4) (v := .int (nI i)) (C := RX6) (T := TX6) (N := 6) xh bh hts (fun _ h => List.mem_cons_of_mem _ (List.mem_append_right _ (h))) hown hK.1 hP 0 rfl rfl 3 (by decide) (hts _ (List.mem_of_getElem? (i := 1) rfl)) (fun _ h9 => h9) rfl dX6_lookAtNumber_63 ?_
        refine lv_aload_n xh bh dX6_lookAtNumber_66 rfl (lv_at hl 0 rfl) ?_
        refine va_get (D := D) (ci := 4) (v := .int (nI s0)) (C := RX6) (T := TX6) (N := 6) xh bh hts (fun _ h => List.mem_cons_of_mem _ (List.mem_append_right _ (h))) hown hK.1 hP 0 rfl rfl 2 (by decide) (hts _ (List.mem_of_getElem? (i := 4) rfl)) (fun _ h9 => h9) rfl dX6_lookAtNumber_67 ?_
        refine xn_isub xh bh dX6_lookAtNumber_70 (by omega) ?_
        refine lv_iconst (v := (nI 2)) xh bh dX6_lookAtNumber_71 (by decide) ?_
        refine xn_icmp_gt (tgt := 79) xh bh dX6_lookAtNumber_72 (by decide) (by omega) (by omega) (fun c_72 => ?_) (fun c_72 => ?_)
        · refine lv_iconst (v := (nI 4)) xh bh dX6_lookAtNumber_79 (by decide) ?_
          refine va_put (D := D) (ci := 4) (v := .int (nI 4)) (ty := .int) (C := RX6) (T := TX6) (N := 6) xh bh hts (fun _ h => List.mem_cons_of_mem _ (List.mem_append_right _ (h))) tyX6 tyX6_ok nmX6 hown hK.1 hP hD hS 0 rfl rfl 4 (by decide) (hts _ (List.mem_of_getElem? (i := 5) rfl)) (fun _ h9 => h9) rfl (by decide +kernel) (by rfl) (by rfl) (Nat.le_of_ble_eq_true rfl) dX6_lookAtNumber_80 (fun H locs hP hD hS => ?_)
          have hP : va_P D vwCl [(sc, .inr (4, [.ref sb, .int (nI bl), .int (nI s0), .int (nI i), .int (nI 4), .int v])), (sb, .inl (cB, 150, .inl (fN bt)))] H := hP
          have hD : va_D AG [(sc, .inr (4, [.ref sb, .int (nI bl), .int (nI s0), .int (nI i), .int (nI 4), .int v])), (sb, .inl (cB, 150, .inl (fN bt)))] := hD
          exact hend v _ _ _ _ rfl (by rw [e9]; intro q; rw [← vlN_n (by omega)]; exact hv q) dX6_lookAtNumber_83 (by rw [e9]; first | (rw [if_pos (show i - s0 ≤ 2 by omega)]; exact hP) | (rw [if_neg (show ¬ i - s0 ≤ 2 by omega)]; exact hP)) (by rw [e9]; first | (rw [if_pos (show i - s0 ≤ 2 by omega)]; exact hD) | (rw [if_neg (show ¬ i - s0 ≤ 2 by omega)]; exact hD)) hS
        · refine lv_iconst (v := (nI 2)) xh bh dX6_lookAtNumber_75 (by decide) ?_
          refine lv_goto (tgt := 80) xh bh dX6_lookAtNumber_76 (by decide) ?_
          refine va_put (D := D) (ci := 4) (v := .int (nI 2)) (ty := .int) (C := RX6) (T := TX6) (N := 6) xh bh hts (fun _ h => List.mem_cons_of_mem _ (List.mem_append_right _ (h))) tyX6 tyX6_ok nmX6 hown hK.1 hP hD hS 0 rfl rfl 4 (by decide) (hts _ (List.mem_of_getElem? (i := 5) rfl)) (fun _ h9 => h9) rfl (by decide +kernel) (by rfl) (by rfl) (Nat.le_of_ble_eq_true rfl) dX6_lookAtNumber_80 (fun H locs hP hD hS => ?_)
          have hP : va_P D vwCl [(sc, .inr (4, [.ref sb, .int (nI bl), .int (nI s0), .int (nI i), .int (nI 2), .int v])), (sb, .inl (cB, 150, .inl (fN bt)))] H := hP
          have hD : va_D AG [(sc, .inr (4, [.ref sb, .int (nI bl), .int (nI s0), .int (nI i), .int (nI 2), .int v])), (sb, .inl (cB, 150, .inl (fN bt)))] := hD
          exact hend v _ _ _ _ rfl (by rw [e9]; intro q; rw [← vlN_n (by omega)]; exact hv q) dX6_lookAtNumber_83 (by rw [e9]; first | (rw [if_pos (show i - s0 ≤ 2 by omega)]; exact hP) | (rw [if_neg (show ¬ i - s0 ≤ 2 by omega)]; exact hP)) (by rw [e9]; first | (rw [if_pos (show i - s0 ≤ 2 by omega)]; exact hD) | (rw [if_neg (show ¬ i - s0 ≤ 2 by omega)]; exact hD)) hS
      · refine lv_aload_n xh bh dX6_lookAtNumber_11 rfl (lv_at hl 0 rfl) ?_
        refine lv_aload_n xh bh dX6_lookAtNumber_12 rfl (lv_at hl 0 rfl) ?_
        refine va_get (D := D) (ci := 4) (v := .int (nI i)) (C := RX6) (T := TX6) (N := 6) xh bh hts (fun _ h => List.mem_cons_of_mem _ (List.mem_append_right _ (h))) hown hK.1 hP 0 rfl rfl 3 (by decide) (hts _ (List.mem_of_getElem? (i := 1) rfl)) (fun _ h9 => h9) rfl dX6_lookAtNumber_13 ?_
        refine Ct.callV (As := [.int (nI i)]) (rest := []) (wr := []) xh bh hml hown hts hK hP hD hS hA (ct_X6_byteIn l D cI cJ cB cZ cA sc sb bl bt (nI s0) (nI i) tk v i (by first | omega | assumption) (by first | omega | assumption)) (cwV 1 hts gX6_lookAtNumber_X6_byteIn rfl rfl rfl (by decide +kernel) ⟨Nat.le_of_ble_eq_true rfl, Nat.le_of_ble_eq_true rfl⟩) rfl rfl hl.1 (Nat.le_of_ble_eq_true rfl) dX6_lookAtNumber_16 ⟨Nat.le_refl _, Nat.le_refl _⟩ 0 4 rfl rfl rfl [0, 1] [] rfl (by decide) rfl rfl (by decide) (by decide) (fun _ H locs _ hP hD hS => ?_)
        have hP : va_P D vwCl [(sc, .inr (4, [.ref sb, .int (nI bl), .int (nI s0), .int (nI i), .int tk, .int v])), (sb, .inl (cB, 150, .inl (fN bt)))] H := hP
        have hD : va_D AG [(sc, .inr (4, [.ref sb, .int (nI bl), .int (nI s0), .int (nI i), .int tk, .int v])), (sb, .inl (cB, 150, .inl (fN bt)))] := hD
        refine W.eq (g2 := F0 mG 19 ls [.int (nI (bt i))]) rfl ?_
        refine Ct.callS0 (rest := []) xh bh hml hown hts hK hP hS hA (ct_X6_isFigure l D cI cJ cB cZ cA (bt i) (by have := hbt i; omega)) (va_cwS 1 hts gX6_lookAtNumber_X6_isFigure rfl rfl rfl (by decide +kernel) ⟨Nat.le_of_ble_eq_true rfl, Nat.le_of_ble_eq_true rfl⟩) rfl rfl hl.1 (Nat.le_of_ble_eq_true rfl) dX6_lookAtNumber_19 ⟨Nat.le_refl _, Nat.le_refl _⟩ (fun _ H locs _ hP hS => ?_)
        refine W.eq (g2 := F0 mG 22 ls [.int (ib (decide (48 ≤ (bt i) ∧ (bt i) ≤ 57)))]) rfl ?_
        refine xb_if_eq (tgt := 61) xh bh dX6_lookAtNumber_22 (by decide) (fun c_22 => ?_) (fun c_22 => ?_)
        · have e9 : rnE isF bt bl s0 = i := hr.trans (rnE_e (fun q => by first | exact absurd q.1 (by omega) | exact absurd (q.2.symm.trans c_22) (by decide)))
          have e8 := rnE_gt hs hf
          refine lv_aload_n xh bh dX6_lookAtNumber_61 rfl (lv_at hl 0 rfl) ?_
          refine lv_aload_n xh bh dX6_lookAtNumber_62 rfl (lv_at hl 0 rfl) ?_
          refine va_get (D := D) (ci := 4) (v := .int (nI i)) (C := RX6) (T := TX6) (N := 6) xh bh hts (fun _ h => List.mem_cons_of_mem _ (List.mem_append_right _ (h))) hown hK.1 hP 0 rfl rfl 3 (by decide) (hts _ (List.mem_of_getElem? (i := 1) rfl)) (fun _ h9 => h9) rfl dX6_lookAtNumber_63 ?_
          refine lv_aload_n xh bh dX6_lookAtNumber_66 rfl (lv_at hl 0 rfl) ?_
          refine va_get (D := D) (ci := 4) (v := .int (nI s0)) (C := RX6) (T := TX6) (N := 6) xh bh hts (fun _ h => List.mem_cons_of_mem _ (List.mem_append_right _ (h))) hown hK.1 hP 0 rfl rfl 2 (by decide) (hts _ (List.mem_of_getElem? (i := 4) rfl)) (fun _ h9 => h9) rfl dX6_lookAtNumber_67 ?_
          refine xn_isub xh bh dX6_lookAtNumber_70 (by omega) ?_
          refine lv_iconst (v := (nI 2)) xh bh dX6_lookAtNumber_71 (by decide) ?_
          refine xn_icmp_gt (tgt := 79) xh bh dX6_lookAtNumber_72 (by decide) (by omega) (by omega) (fun c_72 => ?_) (fun c_72 => ?_)
          · refine lv_iconst (v := (nI 4)) xh bh dX6_lookAtNumber_79 (by decide) ?_
            refine va_put (D := D) (ci := 4) (v := .int (nI 4)) (ty := .int) (C := RX6) (T := TX6) (N := 6) xh bh hts (fun _ h => List.mem_cons_of_mem _ (List.mem_append_right _ (h))) tyX6 tyX6_ok nmX6 hown hK.1 hP hD hS 0 rfl rfl 4 (by decide) (hts _ (List.mem_of_getElem? (i := 5) rfl)) (fun _ h9 => h9) rfl (by decide +kernel) (by rfl) (by rfl) (Nat.le_of_ble_eq_true rfl) dX6_lookAtNumber_80 (fun H locs hP hD hS => ?_)
            have hP : va_P D vwCl [(sc, .inr (4, [.ref sb, .int (nI bl), .int (nI s0), .int (nI i), .int (nI 4), .int v])), (sb, .inl (cB, 150, .inl (fN bt)))] H := hP
            have hD : va_D AG [(sc, .inr (4, [.ref sb, .int (nI bl), .int (nI s0), .int (nI i), .int (nI 4), .int v])), (sb, .inl (cB, 150, .inl (fN bt)))] := hD
            exact hend v _ _ _ _ rfl (by rw [e9]; intro q; rw [← vlN_n (by omega)]; exact hv q) dX6_lookAtNumber_83 (by rw [e9]; first | (rw [if_pos (show i - s0 ≤ 2 by omega)]; exact hP) | (rw [if_neg (show ¬ i - s0 ≤ 2 by omega)]; exact hP)) (by rw [e9]; first | (rw [if_pos (show i - s0 ≤ 2 by omega)]; exact hD) | (rw [if_neg (show ¬ i - s0 ≤ 2 by omega)]; exact hD)) hS
          · refine lv_iconst (v := (nI 2)) xh bh dX6_lookAtNumber_75 (by decide) ?_
            refine lv_goto (tgt := 80) xh bh dX6_lookAtNumber_76 (by decide) ?_
            refine va_put (D := D) (ci := 4) (v := .int (nI 2)) (ty := .int) (C := RX6) (T := TX6) (N := 6) xh bh hts (fun _ h => List.mem_cons_of_mem _ (List.mem_append_right _ (h))) tyX6 tyX6_ok nmX6 hown hK.1 hP hD hS 0 rfl rfl 4 (by decide) (hts _ (List.mem_of_getElem? (i := 5) rfl)) (fun _ h9 => h9) rfl (by decide +kernel) (by rfl) (by rfl) (Nat.le_of_ble_eq_true rfl) dX6_lookAtNumber_80 (fun H locs hP hD hS => ?_)
            have hP : va_P D vwCl [(sc, .inr (4, [.ref sb, .int (nI bl), .int (nI s0), .int (nI i), .int (nI 2), .int v])), (sb, .inl (cB, 150, .inl (fN bt)))] H := hP
            have hD : va_D AG [(sc, .inr (4, [.ref sb, .int (nI bl), .int (nI s0), .int (nI i), .int (nI 2), .int v])), (sb, .inl (cB, 150, .inl (fN bt)))] := hD
            exact hend v _ _ _ _ rfl (by rw [e9]; intro q; rw [← vlN_n (by omega)]; exact hv q) dX6_lookAtNumber_83 (by rw [e9]; first | (rw [if_pos (show i - s0 ≤ 2 by omega)]; exact hP) | (rw [if_neg (show ¬ i - s0 ≤ 2 by omega)]; exact hP)) (by rw [e9]; first | (rw [if_pos (show i - s0 ≤ 2 by omega)]; exact hD) | (rw [if_neg (show ¬ i - s0 ≤ 2 by omega)]; exact hD)) hS
        · refine lv_aload_n xh bh dX6_lookAtNumber_25 rfl (lv_at hl 0 rfl) ?_
          refine lv_bipush (v := (nI 10)) xh bh dX6_lookAtNumber_26 (by decide) ?_
          refine lv_aload_n xh bh dX6_lookAtNumber_28 rfl (lv_at hl 0 rfl) ?_
          refine va_get (D := D) (ci := 4) (v := .int v) (C := RX6) (T := TX6) (N := 6) xh bh hts (fun _ h => List.mem_cons_of_mem _ (List.mem_append_right _ (h))) hown hK.1 hP 0 rfl rfl 5 (by decide) (hts _ (List.mem_of_getElem? (i := 3) rfl)) (fun _ h9 => h9) rfl dX6_lookAtNumber_29 ?_
          refine lv_imul xh bh dX6_lookAtNumber_32 ?_
          refine lv_aload_n xh bh dX6_lookAtNumber_33 rfl (lv_at hl 0 rfl) ?_
          refine lv_aload_n xh bh dX6_lookAtNumber_34 rfl (lv_at hl 0 rfl) ?_
          refine va_get (D := D) (ci := 4) (v := .int (nI i)) (C := RX6) (T := TX6) (N := 6) xh bh hts (fun _ h => List.mem_cons_of_mem _ (List.mem_append_right _ (h))) hown hK.1 hP 0 rfl rfl 3 (by decide) (hts _ (List.mem_of_getElem? (i := 1) rfl)) (fun _ h9 => h9) rfl dX6_lookAtNumber_35 ?_
          refine Ct.callV (As := [.int (nI i)]) (rest := [.int ((nI 10) * v), .ref sc]) (wr := []) xh bh hml hown hts hK hP hD hS hA (ct_X6_byteIn l D cI cJ cB cZ cA sc sb bl bt (nI s0) (nI i) tk v i (by first | omega | assumption) (by first | omega | assumption)) (cwV 1 hts gX6_lookAtNumber_X6_byteIn rfl rfl rfl (by decide +kernel) ⟨Nat.le_of_ble_eq_true rfl, Nat.le_of_ble_eq_true rfl⟩) rfl rfl hl.1 (Nat.le_of_ble_eq_true rfl) dX6_lookAtNumber_38 ⟨Nat.le_refl _, Nat.le_refl _⟩ 0 4 rfl rfl rfl [0, 1] [] rfl (by decide) rfl rfl (by decide) (by decide) (fun _ H locs _ hP hD hS => ?_)
          have hP : va_P D vwCl [(sc, .inr (4, [.ref sb, .int (nI bl), .int (nI s0), .int (nI i), .int tk, .int v])), (sb, .inl (cB, 150, .inl (fN bt)))] H := hP
          have hD : va_D AG [(sc, .inr (4, [.ref sb, .int (nI bl), .int (nI s0), .int (nI i), .int tk, .int v])), (sb, .inl (cB, 150, .inl (fN bt)))] := hD
          refine W.eq (g2 := F0 mG 41 ls [.int (nI (bt i)), .int ((nI 10) * v), .ref sc]) rfl ?_
          refine lv_iadd xh bh dX6_lookAtNumber_41 ?_
          refine lv_bipush (v := (nI 48)) xh bh dX6_lookAtNumber_42 (by decide) ?_
          refine lv_isub xh bh dX6_lookAtNumber_44 ?_
          refine lv_topi (fun v_45 ev_45 => ?_)
          refine va_put (D := D) (ci := 4) (v := .int v_45) (ty := .int) (C := RX6) (T := TX6) (N := 6) xh bh hts (fun _ h => List.mem_cons_of_mem _ (List.mem_append_right _ (h))) tyX6 tyX6_ok nmX6 hown hK.1 hP hD hS 0 rfl rfl 5 (by decide) (hts _ (List.mem_of_getElem? (i := 3) rfl)) (fun _ h9 => h9) rfl (by decide +kernel) (by rfl) (by rfl) (Nat.le_of_ble_eq_true rfl) dX6_lookAtNumber_45 (fun H locs hP hD hS => ?_)
          have hP : va_P D vwCl [(sc, .inr (4, [.ref sb, .int (nI bl), .int (nI s0), .int (nI i), .int tk, .int v_45])), (sb, .inl (cB, 150, .inl (fN bt)))] H := hP
          have hD : va_D AG [(sc, .inr (4, [.ref sb, .int (nI bl), .int (nI s0), .int (nI i), .int tk, .int v_45])), (sb, .inl (cB, 150, .inl (fN bt)))] := hD
          refine lv_aload_n xh bh dX6_lookAtNumber_48 rfl (lv_at hl 0 rfl) ?_
          refine lv_dup xh bh dX6_lookAtNumber_49 rfl ?_
          refine va_get (D := D) (ci := 4) (v := .int (nI i)) (C := RX6) (T := TX6) (N := 6) xh bh hts (fun _ h => List.mem_cons_of_mem _ (List.mem_append_right _ (h))) hown hK.1 hP 0 rfl rfl 3 (by decide) (hts _ (List.mem_of_getElem? (i := 1) rfl)) (fun _ h9 => h9) rfl dX6_lookAtNumber_50 ?_
          refine lv_iconst (v := (nI 1)) xh bh dX6_lookAtNumber_53 (by decide) ?_
          refine xn_iadd xh bh dX6_lookAtNumber_54 ?_
          refine va_put (D := D) (ci := 4) (v := .int (nI (i + 1))) (ty := .int) (C := RX6) (T := TX6) (N := 6) xh bh hts (fun _ h => List.mem_cons_of_mem _ (List.mem_append_right _ (h))) tyX6 tyX6_ok nmX6 hown hK.1 hP hD hS 0 rfl rfl 3 (by decide) (hts _ (List.mem_of_getElem? (i := 1) rfl)) (fun _ h9 => h9) rfl (by decide +kernel) (by rfl) (by rfl) (Nat.le_of_ble_eq_true rfl) dX6_lookAtNumber_55 (fun H locs hP hD hS => ?_)
          have hP : va_P D vwCl [(sc, .inr (4, [.ref sb, .int (nI bl), .int (nI s0), .int (nI (i + 1)), .int tk, .int v_45])), (sb, .inl (cB, 150, .inl (fN bt)))] H := hP
          have hD : va_D AG [(sc, .inr (4, [.ref sb, .int (nI bl), .int (nI s0), .int (nI (i + 1)), .int tk, .int v_45])), (sb, .inl (cB, 150, .inl (fN bt)))] := hD
          refine lv_goto (tgt := 0) xh bh dX6_lookAtNumber_58 (by decide) ?_
          exact ih_0 (i + 1) v_45 (by omega) (by exact hr.trans (rnE_s c_8 c_22)) (by rw [ev_45]; exact nu_s hi.1 c_22 hv) (by omega) _ _ ls hP hD hS (lv_sub hl [0] rfl)
  exact cut_0 (bl - s0 + 1) s0 (nI 0) (by omega) (by rfl) (by intro _; rw [vlN_0]) (Nat.lt_succ_self _) _ _ ls hP hD hS (lv_sub hl [0] rfl)

set_option maxHeartbeats 1000000 in
set_option maxRecDepth 100000 in
theorem ct_X6_look (l : Launch) (D : va_G) (cI cJ cB cZ cA : ClassId) (sc : Nat) (sb : Nat) (bl : Nat) (bt : Nat → Nat) (st : Int32) (tk : Int32) (nu : Int32) (i : Nat) (hi : i ≤ bl) (hbl : bl ≤ 150) (hbt : ∀ k, bt k < 128) : Ct l yX6_look wsX6_look ({ frames := 2, cells := 0, slots := 0, locals := 41 }) D (tysG cI cJ cB cZ cA) [.ref sc] [(sc, .inr (4, [.ref sb, .int (nI bl), .int st, .int (nI i), .int tk, .int nu])), (sb, .inl (cB, 150, .inl (fN bt)))] (fun (u : Int32) => tK bt bl i = 2 → u = nI (tV bt bl i)) (fun u => none) (fun u => [(sc, .inr (4, [.ref sb, .int (nI bl), .int (nI (tS bt bl i)), .int (nI (tE bt bl i)), .int (nI (tK bt bl i)), .int u])), (sb, .inl (cB, 150, .inl (fN bt)))]) := by
  refine Ct.ofV (cc := cX6_look) (maxL := 1) (by decide) rfl (Nat.le_of_ble_eq_true rfl) ?_
  intro pG eG sG mG aG bG tG cG AG QG ls xh bh hml hown hts hK hP hD hS hA hend hl
  have hl : lv_has ls 1 [(0, .ref sc)] := hl
  refine lv_aload_n xh bh dX6_look_0 rfl (lv_at hl 0 rfl) ?_
  refine lv_aload_n xh bh dX6_look_1 rfl (lv_at hl 0 rfl) ?_
  refine va_get (D := D) (ci := 4) (v := .int (nI i)) (C := RX6) (T := TX6) (N := 6) xh bh hts (fun _ h => List.mem_cons_of_mem _ (List.mem_append_right _ (h))) hown hK.1 hP 0 rfl rfl 3 (by decide) (hts _ (List.mem_of_getElem? (i := 1) rfl)) (fun _ h9 => h9) rfl dX6_look_2 ?_
  refine va_put (D := D) (ci := 4) (v := .int (nI i)) (ty := .int) (C := RX6) (T := TX6) (N := 6) xh bh hts (fun _ h => List.mem_cons_of_mem _ (List.mem_append_right _ (h))) tyX6 tyX6_ok nmX6 hown hK.1 hP hD hS 0 rfl rfl 2 (by decide) (hts _ (List.mem_of_getElem? (i := 2) rfl)) (fun _ h9 => h9) rfl (by decide +kernel) (by rfl) (by rfl) (Nat.le_of_ble_eq_true rfl) dX6_look_5 (fun H locs hP hD hS => ?_)
  have hP : va_P D vwCl [(sc, .inr (4, [.ref sb, .int (nI bl), .int (nI i), .int (nI i), .int tk, .int nu])), (sb, .inl (cB, 150, .inl (fN bt)))] H := hP
  have hD : va_D AG [(sc, .inr (4, [.ref sb, .int (nI bl), .int (nI i), .int (nI i), .int tk, .int nu])), (sb, .inl (cB, 150, .inl (fN bt)))] := hD
  have cut_8 : ∀ (n_8 : Nat), ∀ (s1 : Nat), (i ≤ s1 ∧ s1 ≤ bl) → (tS bt bl i = tS bt bl s1) → (bl - s1) < n_8 → ∀ (H : Heap) (locs : List Loc) (ls : Array Slot), va_P D vwCl [(sc, .inr (4, [.ref sb, .int (nI bl), .int (nI s1), .int (nI i), .int tk, .int nu])), (sb, .inl (cB, 150, .inl (fN bt)))] H → va_D AG [(sc, .inr (4, [.ref sb, .int (nI bl), .int (nI s1), .int (nI i), .int tk, .int nu])), (sb, .inl (cB, 150, .inl (fN bt)))] → va_S AG sG.heap H locs → lv_has ls 1 [(0, .ref sc)] → W pG l eG ({ frames := 2, cells := 0, slots := 0, locals := 41 }) sG mG aG bG tG cG H locs 0 0 QG (F0 mG 8 ls []) := by
    intro n_8
    induction n_8 with
    | zero =>
      intro s1 hs hr hmu
      exact absurd hmu (Nat.not_lt_zero _)
    | succ n_8 ih_8 =>
      intro s1 hs hr hmu H locs ls hP hD hS hl
      refine lv_aload_n xh bh dX6_look_8 rfl (lv_at hl 0 rfl) ?_
      refine va_get (D := D) (ci := 4) (v := .int (nI s1)) (C := RX6) (T := TX6) (N := 6) xh bh hts (fun _ h => List.mem_cons_of_mem _ (List.mem_append_right _ (h))) hown hK.1 hP 0 rfl rfl 2 (by decide) (hts _ (List.mem_of_getElem? (i := 2) rfl)) (fun _ h9 => h9) rfl dX6_look_9 ?_
      refine lv_aload_n xh bh dX6_look_12 rfl (lv_at hl 0 rfl) ?_
      refine va_get (D := D) (ci := 4) (v := .int (nI bl)) (C := RX6) (T := TX6) (N := 6) xh bh hts (fun _ h => List.mem_cons_of_mem _ (List.mem_append_right _ (h))) hown hK.1 hP 0 rfl rfl 1 (by decide) (hts _ (List.mem_of_getElem? (i := 3) rfl)) (fun _ h9 => h9) rfl dX6_look_13 ?_
      refine xn_icmp_ge (tgt := 45) xh bh dX6_look_16 (by decide) (by omega) (by omega) (fun c_16 => ?_) (fun c_16 => ?_)
      · have e9 : tS bt bl i = s1 := hr.trans (rnE_e (fun q => by first | exact absurd q.1 (by omega) | exact absurd (of_decide_eq_true q.2) c_29))
        refine lv_aload_n xh bh dX6_look_45 rfl (lv_at hl 0 rfl) ?_
        refine lv_aload_n xh bh dX6_look_46 rfl (lv_at hl 0 rfl) ?_
        refine va_get (D := D) (ci := 4) (v := .int (nI s1)) (C := RX6) (T := TX6) (N := 6) xh bh hts (fun _ h => List.mem_cons_of_mem _ (List.mem_append_right _ (h))) hown hK.1 hP 0 rfl rfl 2 (by decide) (hts _ (List.mem_of_getElem? (i := 2) rfl)) (fun _ h9 => h9) rfl dX6_look_47 ?_
        refine va_put (D := D) (ci := 4) (v := .int (nI s1)) (ty := .int) (C := RX6) (T := TX6) (N := 6) xh bh hts (fun _ h => List.mem_cons_of_mem _ (List.mem_append_right _ (h))) tyX6 tyX6_ok nmX6 hown hK.1 hP hD hS 0 rfl rfl 3 (by decide) (hts _ (List.mem_of_getElem? (i := 1) rfl)) (fun _ h9 => h9) rfl (by decide +kernel) (by rfl) (by rfl) (Nat.le_of_ble_eq_true rfl) dX6_look_50 (fun H locs hP hD hS => ?_)
        have hP : va_P D vwCl [(sc, .inr (4, [.ref sb, .int (nI bl), .int (nI s1), .int (nI s1), .int tk, .int nu])), (sb, .inl (cB, 150, .inl (fN bt)))] H := hP
        have hD : va_D AG [(sc, .inr (4, [.ref sb, .int (nI bl), .int (nI s1), .int (nI s1), .int tk, .int nu])), (sb, .inl (cB, 150, .inl (fN bt)))] := hD
        refine lv_aload_n xh bh dX6_look_53 rfl (lv_at hl 0 rfl) ?_
        refine lv_iconst (v := (nI 0)) xh bh dX6_look_54 (by decide) ?_
        refine va_put (D := D) (ci := 4) (v := .int (nI 0)) (ty := .int) (C := RX6) (T := TX6) (N := 6) xh bh hts (fun _ h => List.mem_cons_of_mem _ (List.mem_append_right _ (h))) tyX6 tyX6_ok nmX6 hown hK.1 hP hD hS 0 rfl rfl 5 (by decide) (hts _ (List.mem_of_getElem? (i := 4) rfl)) (fun _ h9 => h9) rfl (by decide +kernel) (by rfl) (by rfl) (Nat.le_of_ble_eq_true rfl) dX6_look_55 (fun H locs hP hD hS => ?_)
        have hP : va_P D vwCl [(sc, .inr (4, [.ref sb, .int (nI bl), .int (nI s1), .int (nI s1), .int tk, .int (nI 0)])), (sb, .inl (cB, 150, .inl (fN bt)))] H := hP
        have hD : va_D AG [(sc, .inr (4, [.ref sb, .int (nI bl), .int (nI s1), .int (nI s1), .int tk, .int (nI 0)])), (sb, .inl (cB, 150, .inl (fN bt)))] := hD
        refine lv_aload_n xh bh dX6_look_58 rfl (lv_at hl 0 rfl) ?_
        refine va_get (D := D) (ci := 4) (v := .int (nI s1)) (C := RX6) (T := TX6) (N := 6) xh bh hts (fun _ h => List.mem_cons_of_mem _ (List.mem_append_right _ (h))) hown hK.1 hP 0 rfl rfl 2 (by decide) (hts _ (List.mem_of_getElem? (i := 2) rfl)) (fun _ h9 => h9) rfl dX6_look_59 ?_
        refine lv_aload_n xh bh dX6_look_62 rfl (lv_at hl 0 rfl) ?_
        refine va_get (D := D) (ci := 4) (v := .int (nI bl)) (C := RX6) (T := TX6) (N := 6) xh bh hts (fun _ h => List.mem_cons_of_mem _ (List.mem_append_right _ (h))) hown hK.1 hP 0 rfl rfl 1 (by decide) (hts _ (List.mem_of_getElem? (i := 3) rfl)) (fun _ h9 => h9) rfl dX6_look_63 ?_
        refine xn_icmp_lt (tgt := 77) xh bh dX6_look_66 (by decide) (by omega) (by omega) (fun c_66 => ?_) (fun c_66 => ?_)
        · refine lv_aload_n xh bh dX6_look_77 rfl (lv_at hl 0 rfl) ?_
          refine lv_aload_n xh bh dX6_look_78 rfl (lv_at hl 0 rfl) ?_
          refine va_get (D := D) (ci := 4) (v := .int (nI s1)) (C := RX6) (T := TX6) (N := 6) xh bh hts (fun _ h => List.mem_cons_of_mem _ (List.mem_append_right _ (h))) hown hK.1 hP 0 rfl rfl 2 (by decide) (hts _ (List.mem_of_getElem? (i := 2) rfl)) (fun _ h9 => h9) rfl dX6_look_79 ?_
          refine Ct.callV (As := [.int (nI s1)]) (rest := []) (wr := []) xh bh hml hown hts hK hP hD hS hA (ct_X6_byteIn l D cI cJ cB cZ cA sc sb bl bt (nI s1) (nI s1) tk (nI 0) s1 (by first | omega | assumption) (by first | omega | assumption)) (cwV 1 hts gX6_look_X6_byteIn rfl rfl rfl (by decide +kernel) ⟨Nat.le_of_ble_eq_true rfl, Nat.le_of_ble_eq_true rfl⟩) rfl rfl hl.1 (Nat.le_of_ble_eq_true rfl) dX6_look_82 ⟨Nat.le_refl _, Nat.le_refl _⟩ 0 4 rfl rfl rfl [0, 1] [] rfl (by decide) rfl rfl (by decide) (by decide) (fun _ H locs _ hP hD hS => ?_)
          have hP : va_P D vwCl [(sc, .inr (4, [.ref sb, .int (nI bl), .int (nI s1), .int (nI s1), .int tk, .int (nI 0)])), (sb, .inl (cB, 150, .inl (fN bt)))] H := hP
          have hD : va_D AG [(sc, .inr (4, [.ref sb, .int (nI bl), .int (nI s1), .int (nI s1), .int tk, .int (nI 0)])), (sb, .inl (cB, 150, .inl (fN bt)))] := hD
          refine W.eq (g2 := F0 mG 85 ls [.int (nI (bt s1))]) rfl ?_
          refine Ct.callS0 (rest := []) xh bh hml hown hts hK hP hS hA (ct_X6_isLetter l D cI cJ cB cZ cA (bt s1) (by have := hbt s1; omega)) (va_cwS 1 hts gX6_look_X6_isLetter rfl rfl rfl (by decide +kernel) ⟨Nat.le_of_ble_eq_true rfl, Nat.le_of_ble_eq_true rfl⟩) rfl rfl hl.1 (Nat.le_of_ble_eq_true rfl) dX6_look_85 ⟨Nat.le_refl _, Nat.le_refl _⟩ (fun _ H locs _ hP hS => ?_)
          refine W.eq (g2 := F0 mG 88 ls [.int (ib (decide (97 ≤ (bt s1) ∧ (bt s1) ≤ 122)))]) rfl ?_
          refine xb_if_eq (tgt := 98) xh bh dX6_look_88 (by decide) (fun c_88 => ?_) (fun c_88 => ?_)
          · refine lv_aload_n xh bh dX6_look_98 rfl (lv_at hl 0 rfl) ?_
            refine lv_aload_n xh bh dX6_look_99 rfl (lv_at hl 0 rfl) ?_
            refine va_get (D := D) (ci := 4) (v := .int (nI s1)) (C := RX6) (T := TX6) (N := 6) xh bh hts (fun _ h => List.mem_cons_of_mem _ (List.mem_append_right _ (h))) hown hK.1 hP 0 rfl rfl 2 (by decide) (hts _ (List.mem_of_getElem? (i := 2) rfl)) (fun _ h9 => h9) rfl dX6_look_100 ?_
            refine Ct.callV (As := [.int (nI s1)]) (rest := []) (wr := []) xh bh hml hown hts hK hP hD hS hA (ct_X6_byteIn l D cI cJ cB cZ cA sc sb bl bt (nI s1) (nI s1) tk (nI 0) s1 (by first | omega | assumption) (by first | omega | assumption)) (cwV 1 hts gX6_look_X6_byteIn rfl rfl rfl (by decide +kernel) ⟨Nat.le_of_ble_eq_true rfl, Nat.le_of_ble_eq_true rfl⟩) rfl rfl hl.1 (Nat.le_of_ble_eq_true rfl) dX6_look_103 ⟨Nat.le_refl _, Nat.le_refl _⟩ 0 4 rfl rfl rfl [0, 1] [] rfl (by decide) rfl rfl (by decide) (by decide) (fun _ H locs _ hP hD hS => ?_)
            have hP : va_P D vwCl [(sc, .inr (4, [.ref sb, .int (nI bl), .int (nI s1), .int (nI s1), .int tk, .int (nI 0)])), (sb, .inl (cB, 150, .inl (fN bt)))] H := hP
            have hD : va_D AG [(sc, .inr (4, [.ref sb, .int (nI bl), .int (nI s1), .int (nI s1), .int tk, .int (nI 0)])), (sb, .inl (cB, 150, .inl (fN bt)))] := hD
            refine W.eq (g2 := F0 mG 106 ls [.int (nI (bt s1))]) rfl ?_
            refine Ct.callS0 (rest := []) xh bh hml hown hts hK hP hS hA (ct_X6_isFigure l D cI cJ cB cZ cA (bt s1) (by have := hbt s1; omega)) (va_cwS 1 hts gX6_look_X6_isFigure rfl rfl rfl (by decide +kernel) ⟨Nat.le_of_ble_eq_true rfl, Nat.le_of_ble_eq_true rfl⟩) rfl rfl hl.1 (Nat.le_of_ble_eq_true rfl) dX6_look_106 ⟨Nat.le_refl _, Nat.le_refl _⟩ (fun _ H locs _ hP hS => ?_)
            refine W.eq (g2 := F0 mG 109 ls [.int (ib (decide (48 ≤ (bt s1) ∧ (bt s1) ≤ 57)))]) rfl ?_
            refine xb_if_eq (tgt := 119) xh bh dX6_look_109 (by decide) (fun c_109 => ?_) (fun c_109 => ?_)
            · have h9 := kK_o (b := bt) (n := bl) (s := s1) (by omega) (fun q => absurd (q.symm.trans c_88) (by decide)) (fun q => absurd (q.symm.trans c_109) (by decide))
              refine lv_aload_n xh bh dX6_look_119 rfl (lv_at hl 0 rfl) ?_
              refine lv_aload_n xh bh dX6_look_120 rfl (lv_at hl 0 rfl) ?_
              refine lv_aload_n xh bh dX6_look_121 rfl (lv_at hl 0 rfl) ?_
              refine va_get (D := D) (ci := 4) (v := .int (nI s1)) (C := RX6) (T := TX6) (N := 6) xh bh hts (fun _ h => List.mem_cons_of_mem _ (List.mem_append_right _ (h))) hown hK.1 hP 0 rfl rfl 2 (by decide) (hts _ (List.mem_of_getElem? (i := 2) rfl)) (fun _ h9 => h9) rfl dX6_look_122 ?_
              refine Ct.callV (As := [.int (nI s1)]) (rest := [.ref sc]) (wr := []) xh bh hml hown hts hK hP hD hS hA (ct_X6_byteIn l D cI cJ cB cZ cA sc sb bl bt (nI s1) (nI s1) tk (nI 0) s1 (by first | omega | assumption) (by first | omega | assumption)) (cwV 1 hts gX6_look_X6_byteIn rfl rfl rfl (by decide +kernel) ⟨Nat.le_of_ble_eq_true rfl, Nat.le_of_ble_eq_true rfl⟩) rfl rfl hl.1 (Nat.le_of_ble_eq_true rfl) dX6_look_125 ⟨Nat.le_refl _, Nat.le_refl _⟩ 0 4 rfl rfl rfl [0, 1] [] rfl (by decide) rfl rfl (by decide) (by decide) (fun _ H locs _ hP hD hS => ?_)
              have hP : va_P D vwCl [(sc, .inr (4, [.ref sb, .int (nI bl), .int (nI s1), .int (nI s1), .int tk, .int (nI 0)])), (sb, .inl (cB, 150, .inl (fN bt)))] H := hP
              have hD : va_D AG [(sc, .inr (4, [.ref sb, .int (nI bl), .int (nI s1), .int (nI s1), .int tk, .int (nI 0)])), (sb, .inl (cB, 150, .inl (fN bt)))] := hD
              refine W.eq (g2 := F0 mG 128 ls [.int (nI (bt s1)), .ref sc]) rfl ?_
              refine lv_bipush (v := (nI 59)) xh bh dX6_look_128 (by decide) ?_
              refine xn_icmp_ne (tgt := 137) xh bh dX6_look_130 (by decide) (by have := hbt s1; omega) (by have := hbt s1; omega) (fun c_130 => ?_) (fun c_130 => ?_)
              · rw [if_neg c_130] at h9
                refine lv_iconst (v := (nI 4)) xh bh dX6_look_137 (by decide) ?_
                refine va_put (D := D) (ci := 4) (v := .int (nI 4)) (ty := .int) (C := RX6) (T := TX6) (N := 6) xh bh hts (fun _ h => List.mem_cons_of_mem _ (List.mem_append_right _ (h))) tyX6 tyX6_ok nmX6 hown hK.1 hP hD hS 0 rfl rfl 4 (by decide) (hts _ (List.mem_of_getElem? (i := 5) rfl)) (fun _ h9 => h9) rfl (by decide +kernel) (by rfl) (by rfl) (Nat.le_of_ble_eq_true rfl) dX6_look_138 (fun H locs hP hD hS => ?_)
                have hP : va_P D vwCl [(sc, .inr (4, [.ref sb, .int (nI bl), .int (nI s1), .int (nI s1), .int (nI 4), .int (nI 0)])), (sb, .inl (cB, 150, .inl (fN bt)))] H := hP
                have hD : va_D AG [(sc, .inr (4, [.ref sb, .int (nI bl), .int (nI s1), .int (nI s1), .int (nI 4), .int (nI 0)])), (sb, .inl (cB, 150, .inl (fN bt)))] := hD
                refine lv_aload_n xh bh dX6_look_141 rfl (lv_at hl 0 rfl) ?_
                refine lv_aload_n xh bh dX6_look_142 rfl (lv_at hl 0 rfl) ?_
                refine va_get (D := D) (ci := 4) (v := .int (nI s1)) (C := RX6) (T := TX6) (N := 6) xh bh hts (fun _ h => List.mem_cons_of_mem _ (List.mem_append_right _ (h))) hown hK.1 hP 0 rfl rfl 2 (by decide) (hts _ (List.mem_of_getElem? (i := 2) rfl)) (fun _ h9 => h9) rfl dX6_look_143 ?_
                refine lv_iconst (v := (nI 1)) xh bh dX6_look_146 (by decide) ?_
                refine xn_iadd xh bh dX6_look_147 ?_
                refine va_put (D := D) (ci := 4) (v := .int (nI (s1 + 1))) (ty := .int) (C := RX6) (T := TX6) (N := 6) xh bh hts (fun _ h => List.mem_cons_of_mem _ (List.mem_append_right _ (h))) tyX6 tyX6_ok nmX6 hown hK.1 hP hD hS 0 rfl rfl 3 (by decide) (hts _ (List.mem_of_getElem? (i := 1) rfl)) (fun _ h9 => h9) rfl (by decide +kernel) (by rfl) (by rfl) (Nat.le_of_ble_eq_true rfl) dX6_look_148 (fun H locs hP hD hS => ?_)
                have hP : va_P D vwCl [(sc, .inr (4, [.ref sb, .int (nI bl), .int (nI s1), .int (nI (s1 + 1)), .int (nI 4), .int (nI 0)])), (sb, .inl (cB, 150, .inl (fN bt)))] H := hP
                have hD : va_D AG [(sc, .inr (4, [.ref sb, .int (nI bl), .int (nI s1), .int (nI (s1 + 1)), .int (nI 4), .int (nI 0)])), (sb, .inl (cB, 150, .inl (fN bt)))] := hD
                exact hend (nI 0) _ _ _ _ rfl (by intro q; unfold tK at q; unfold tV; rw [e9] at q ⊢; rw [h9.1] at q; first | exact absurd q (by decide) | (rw [h9.2.2]; exact hu_113 (by refine Nat.le_of_not_lt (fun z => ?_); rw [if_neg (by omega)] at q; exact absurd q (by decide)))) dX6_look_151 (by unfold tE tK; rw [e9, h9.1, h9.2.1]; exact hP) (by unfold tE tK; rw [e9, h9.1, h9.2.1]; exact hD) hS
              · rw [if_pos c_130] at h9
                refine lv_iconst (v := (nI 3)) xh bh dX6_look_133 (by decide) ?_
                refine lv_goto (tgt := 138) xh bh dX6_look_134 (by decide) ?_
                refine va_put (D := D) (ci := 4) (v := .int (nI 3)) (ty := .int) (C := RX6) (T := TX6) (N := 6) xh bh hts (fun _ h => List.mem_cons_of_mem _ (List.mem_append_right _ (h))) tyX6 tyX6_ok nmX6 hown hK.1 hP hD hS 0 rfl rfl 4 (by decide) (hts _ (List.mem_of_getElem? (i := 5) rfl)) (fun _ h9 => h9) rfl (by decide +kernel) (by rfl) (by rfl) (Nat.le_of_ble_eq_true rfl) dX6_look_138 (fun H locs hP hD hS => ?_)
                have hP : va_P D vwCl [(sc, .inr (4, [.ref sb, .int (nI bl), .int (nI s1), .int (nI s1), .int (nI 3), .int (nI 0)])), (sb, .inl (cB, 150, .inl (fN bt)))] H := hP
                have hD : va_D AG [(sc, .inr (4, [.ref sb, .int (nI bl), .int (nI s1), .int (nI s1), .int (nI 3), .int (nI 0)])), (sb, .inl (cB, 150, .inl (fN bt)))] := hD
                refine lv_aload_n xh bh dX6_look_141 rfl (lv_at hl 0 rfl) ?_
                refine lv_aload_n xh bh dX6_look_142 rfl (lv_at hl 0 rfl) ?_
                refine va_get (D := D) (ci := 4) (v := .int (nI s1)) (C := RX6) (T := TX6) (N := 6) xh bh hts (fun _ h => List.mem_cons_of_mem _ (List.mem_append_right _ (h))) hown hK.1 hP 0 rfl rfl 2 (by decide) (hts _ (List.mem_of_getElem? (i := 2) rfl)) (fun _ h9 => h9) rfl dX6_look_143 ?_
                refine lv_iconst (v := (nI 1)) xh bh dX6_look_146 (by decide) ?_
                refine xn_iadd xh bh dX6_look_147 ?_
                refine va_put (D := D) (ci := 4) (v := .int (nI (s1 + 1))) (ty := .int) (C := RX6) (T := TX6) (N := 6) xh bh hts (fun _ h => List.mem_cons_of_mem _ (List.mem_append_right _ (h))) tyX6 tyX6_ok nmX6 hown hK.1 hP hD hS 0 rfl rfl 3 (by decide) (hts _ (List.mem_of_getElem? (i := 1) rfl)) (fun _ h9 => h9) rfl (by decide +kernel) (by rfl) (by rfl) (Nat.le_of_ble_eq_true rfl) dX6_look_148 (fun H locs hP hD hS => ?_)
                have hP : va_P D vwCl [(sc, .inr (4, [.ref sb, .int (nI bl), .int (nI s1), .int (nI (s1 + 1)), .int (nI 3), .int (nI 0)])), (sb, .inl (cB, 150, .inl (fN bt)))] H := hP
                have hD : va_D AG [(sc, .inr (4, [.ref sb, .int (nI bl), .int (nI s1), .int (nI (s1 + 1)), .int (nI 3), .int (nI 0)])), (sb, .inl (cB, 150, .inl (fN bt)))] := hD
                exact hend (nI 0) _ _ _ _ rfl (by intro q; unfold tK at q; unfold tV; rw [e9] at q ⊢; rw [h9.1] at q; first | exact absurd q (by decide) | (rw [h9.2.2]; exact hu_113 (by refine Nat.le_of_not_lt (fun z => ?_); rw [if_neg (by omega)] at q; exact absurd q (by decide)))) dX6_look_151 (by unfold tE tK; rw [e9, h9.1, h9.2.1]; exact hP) (by unfold tE tK; rw [e9, h9.1, h9.2.1]; exact hD) hS
            · have h9 := kK_f (b := bt) (n := bl) (s := s1) (by omega) c_109
              refine lv_aload_n xh bh dX6_look_112 rfl (lv_at hl 0 rfl) ?_
              refine Ct.callV (As := []) (rest := []) (wr := []) xh bh hml hown hts hK hP hD hS hA (ct_X6_lookAtNumber l D cI cJ cB cZ cA sc sb bl bt tk s1 (by first | omega | assumption) (by first | omega | assumption) (by first | assumption) (by first | assumption)) (cwV 0 hts gX6_look_X6_lookAtNumber rfl rfl rfl (by decide +kernel) ⟨Nat.le_of_ble_eq_true rfl, Nat.le_of_ble_eq_true rfl⟩) rfl rfl hl.1 (Nat.le_of_ble_eq_true rfl) dX6_look_113 ⟨Nat.le_refl _, Nat.le_refl _⟩ 0 4 rfl rfl rfl [0, 1] [] rfl (by decide) rfl rfl (by decide) (by decide) (fun u_113 H locs hu_113 hP hD hS => ?_)
              have hP : va_P D vwCl [(sc, .inr (4, [.ref sb, .int (nI bl), .int (nI s1), .int (nI (rnE isF bt bl s1)), .int (nI (if rnE isF bt bl s1 - s1 ≤ 2 then 2 else 4)), .int u_113])), (sb, .inl (cB, 150, .inl (fN bt)))] H := hP
              have hD : va_D AG [(sc, .inr (4, [.ref sb, .int (nI bl), .int (nI s1), .int (nI (rnE isF bt bl s1)), .int (nI (if rnE isF bt bl s1 - s1 ≤ 2 then 2 else 4)), .int u_113])), (sb, .inl (cB, 150, .inl (fN bt)))] := hD
              refine W.eq (g2 := F0 mG 116 ls []) rfl ?_
              refine lv_goto (tgt := 151) xh bh dX6_look_116 (by decide) ?_
              exact hend u_113 _ _ _ _ rfl (by intro q; unfold tK at q; unfold tV; rw [e9] at q ⊢; rw [h9.1] at q; first | exact absurd q (by decide) | (rw [h9.2.2]; exact hu_113 (by refine Nat.le_of_not_lt (fun z => ?_); rw [if_neg (by omega)] at q; exact absurd q (by decide)))) dX6_look_151 (by unfold tE tK; rw [e9, h9.1, h9.2.1]; exact hP) (by unfold tE tK; rw [e9, h9.1, h9.2.1]; exact hD) hS
          · have h9 := kK_l (b := bt) (n := bl) (s := s1) (by omega) c_88
            refine lv_aload_n xh bh dX6_look_91 rfl (lv_at hl 0 rfl) ?_
            refine Ct.callV (As := []) (rest := []) (wr := []) xh bh hml hown hts hK hP hD hS hA (ct_X6_lookAtWord l D cI cJ cB cZ cA sc sb bl bt (nI s1) tk (nI 0) s1 (by first | omega | assumption) (by first | omega | assumption) (by first | assumption)) (cwV 0 hts gX6_look_X6_lookAtWord rfl rfl rfl (by decide +kernel) ⟨Nat.le_of_ble_eq_true rfl, Nat.le_of_ble_eq_true rfl⟩) rfl rfl hl.1 (Nat.le_of_ble_eq_true rfl) dX6_look_92 ⟨Nat.le_refl _, Nat.le_refl _⟩ 0 4 rfl rfl rfl [0, 1] [] rfl (by decide) rfl rfl (by decide) (by decide) (fun _ H locs _ hP hD hS => ?_)
            have hP : va_P D vwCl [(sc, .inr (4, [.ref sb, .int (nI bl), .int (nI s1), .int (nI (rnE isL bt bl s1)), .int (nI 1), .int (nI 0)])), (sb, .inl (cB, 150, .inl (fN bt)))] H := hP
            have hD : va_D AG [(sc, .inr (4, [.ref sb, .int (nI bl), .int (nI s1), .int (nI (rnE isL bt bl s1)), .int (nI 1), .int (nI 0)])), (sb, .inl (cB, 150, .inl (fN bt)))] := hD
            refine W.eq (g2 := F0 mG 95 ls []) rfl ?_
            refine lv_goto (tgt := 151) xh bh dX6_look_95 (by decide) ?_
            exact hend (nI 0) _ _ _ _ rfl (by intro q; unfold tK at q; unfold tV; rw [e9] at q ⊢; rw [h9.1] at q; first | exact absurd q (by decide) | (rw [h9.2.2]; exact hu_113 (by refine Nat.le_of_not_lt (fun z => ?_); rw [if_neg (by omega)] at q; exact absurd q (by decide)))) dX6_look_151 (by unfold tE tK; rw [e9, h9.1, h9.2.1]; exact hP) (by unfold tE tK; rw [e9, h9.1, h9.2.1]; exact hD) hS
        · have h9 := kK_e (b := bt) (n := bl) (s := s1) (by omega)
          refine lv_aload_n xh bh dX6_look_69 rfl (lv_at hl 0 rfl) ?_
          refine lv_iconst (v := (nI 0)) xh bh dX6_look_70 (by decide) ?_
          refine va_put (D := D) (ci := 4) (v := .int (nI 0)) (ty := .int) (C := RX6) (T := TX6) (N := 6) xh bh hts (fun _ h => List.mem_cons_of_mem _ (List.mem_append_right _ (h))) tyX6 tyX6_ok nmX6 hown hK.1 hP hD hS 0 rfl rfl 4 (by decide) (hts _ (List.mem_of_getElem? (i := 5) rfl)) (fun _ h9 => h9) rfl (by decide +kernel) (by rfl) (by rfl) (Nat.le_of_ble_eq_true rfl) dX6_look_71 (fun H locs hP hD hS => ?_)
          have hP : va_P D vwCl [(sc, .inr (4, [.ref sb, .int (nI bl), .int (nI s1), .int (nI s1), .int (nI 0), .int (nI 0)])), (sb, .inl (cB, 150, .inl (fN bt)))] H := hP
          have hD : va_D AG [(sc, .inr (4, [.ref sb, .int (nI bl), .int (nI s1), .int (nI s1), .int (nI 0), .int (nI 0)])), (sb, .inl (cB, 150, .inl (fN bt)))] := hD
          refine lv_goto (tgt := 151) xh bh dX6_look_74 (by decide) ?_
          exact hend (nI 0) _ _ _ _ rfl (by intro q; unfold tK at q; unfold tV; rw [e9] at q ⊢; rw [h9.1] at q; first | exact absurd q (by decide) | (rw [h9.2.2]; exact hu_113 (by refine Nat.le_of_not_lt (fun z => ?_); rw [if_neg (by omega)] at q; exact absurd q (by decide)))) dX6_look_151 (by unfold tE tK; rw [e9, h9.1, h9.2.1]; exact hP) (by unfold tE tK; rw [e9, h9.1, h9.2.1]; exact hD) hS
      · refine lv_aload_n xh bh dX6_look_19 rfl (lv_at hl 0 rfl) ?_
        refine lv_aload_n xh bh dX6_look_20 rfl (lv_at hl 0 rfl) ?_
        refine va_get (D := D) (ci := 4) (v := .int (nI s1)) (C := RX6) (T := TX6) (N := 6) xh bh hts (fun _ h => List.mem_cons_of_mem _ (List.mem_append_right _ (h))) hown hK.1 hP 0 rfl rfl 2 (by decide) (hts _ (List.mem_of_getElem? (i := 2) rfl)) (fun _ h9 => h9) rfl dX6_look_21 ?_
        refine Ct.callV (As := [.int (nI s1)]) (rest := []) (wr := []) xh bh hml hown hts hK hP hD hS hA (ct_X6_byteIn l D cI cJ cB cZ cA sc sb bl bt (nI s1) (nI i) tk nu s1 (by first | omega | assumption) (by first | omega | assumption)) (cwV 1 hts gX6_look_X6_byteIn rfl rfl rfl (by decide +kernel) ⟨Nat.le_of_ble_eq_true rfl, Nat.le_of_ble_eq_true rfl⟩) rfl rfl hl.1 (Nat.le_of_ble_eq_true rfl) dX6_look_24 ⟨Nat.le_refl _, Nat.le_refl _⟩ 0 4 rfl rfl rfl [0, 1] [] rfl (by decide) rfl rfl (by decide) (by decide) (fun _ H locs _ hP hD hS => ?_)
        have hP : va_P D vwCl [(sc, .inr (4, [.ref sb, .int (nI bl), .int (nI s1), .int (nI i), .int tk, .int nu])), (sb, .inl (cB, 150, .inl (fN bt)))] H := hP
        have hD : va_D AG [(sc, .inr (4, [.ref sb, .int (nI bl), .int (nI s1), .int (nI i), .int tk, .int nu])), (sb, .inl (cB, 150, .inl (fN bt)))] := hD
        refine W.eq (g2 := F0 mG 27 ls [.int (nI (bt s1))]) rfl ?_
        refine lv_bipush (v := (nI 32)) xh bh dX6_look_27 (by decide) ?_
        refine xn_icmp_ne (tgt := 45) xh bh dX6_look_29 (by decide) (by have := hbt s1; omega) (by have := hbt s1; omega) (fun c_29 => ?_) (fun c_29 => ?_)
        · have e9 : tS bt bl i = s1 := hr.trans (rnE_e (fun q => by first | exact absurd q.1 (by omega) | exact absurd (of_decide_eq_true q.2) c_29))
          refine lv_aload_n xh bh dX6_look_45 rfl (lv_at hl 0 rfl) ?_
          refine lv_aload_n xh bh dX6_look_46 rfl (lv_at hl 0 rfl) ?_
          refine va_get (D := D) (ci := 4) (v := .int (nI s1)) (C := RX6) (T := TX6) (N := 6) xh bh hts (fun _ h => List.mem_cons_of_mem _ (List.mem_append_right _ (h))) hown hK.1 hP 0 rfl rfl 2 (by decide) (hts _ (List.mem_of_getElem? (i := 2) rfl)) (fun _ h9 => h9) rfl dX6_look_47 ?_
          refine va_put (D := D) (ci := 4) (v := .int (nI s1)) (ty := .int) (C := RX6) (T := TX6) (N := 6) xh bh hts (fun _ h => List.mem_cons_of_mem _ (List.mem_append_right _ (h))) tyX6 tyX6_ok nmX6 hown hK.1 hP hD hS 0 rfl rfl 3 (by decide) (hts _ (List.mem_of_getElem? (i := 1) rfl)) (fun _ h9 => h9) rfl (by decide +kernel) (by rfl) (by rfl) (Nat.le_of_ble_eq_true rfl) dX6_look_50 (fun H locs hP hD hS => ?_)
          have hP : va_P D vwCl [(sc, .inr (4, [.ref sb, .int (nI bl), .int (nI s1), .int (nI s1), .int tk, .int nu])), (sb, .inl (cB, 150, .inl (fN bt)))] H := hP
          have hD : va_D AG [(sc, .inr (4, [.ref sb, .int (nI bl), .int (nI s1), .int (nI s1), .int tk, .int nu])), (sb, .inl (cB, 150, .inl (fN bt)))] := hD
          refine lv_aload_n xh bh dX6_look_53 rfl (lv_at hl 0 rfl) ?_
          refine lv_iconst (v := (nI 0)) xh bh dX6_look_54 (by decide) ?_
          refine va_put (D := D) (ci := 4) (v := .int (nI 0)) (ty := .int) (C := RX6) (T := TX6) (N := 6) xh bh hts (fun _ h => List.mem_cons_of_mem _ (List.mem_append_right _ (h))) tyX6 tyX6_ok nmX6 hown hK.1 hP hD hS 0 rfl rfl 5 (by decide) (hts _ (List.mem_of_getElem? (i := 4) rfl)) (fun _ h9 => h9) rfl (by decide +kernel) (by rfl) (by rfl) (Nat.le_of_ble_eq_true rfl) dX6_look_55 (fun H locs hP hD hS => ?_)
          have hP : va_P D vwCl [(sc, .inr (4, [.ref sb, .int (nI bl), .int (nI s1), .int (nI s1), .int tk, .int (nI 0)])), (sb, .inl (cB, 150, .inl (fN bt)))] H := hP
          have hD : va_D AG [(sc, .inr (4, [.ref sb, .int (nI bl), .int (nI s1), .int (nI s1), .int tk, .int (nI 0)])), (sb, .inl (cB, 150, .inl (fN bt)))] := hD
          refine lv_aload_n xh bh dX6_look_58 rfl (lv_at hl 0 rfl) ?_
          refine va_get (D := D) (ci := 4) (v := .int (nI s1)) (C := RX6) (T := TX6) (N := 6) xh bh hts (fun _ h => List.mem_cons_of_mem _ (List.mem_append_right _ (h))) hown hK.1 hP 0 rfl rfl 2 (by decide) (hts _ (List.mem_of_getElem? (i := 2) rfl)) (fun _ h9 => h9) rfl dX6_look_59 ?_
          refine lv_aload_n xh bh dX6_look_62 rfl (lv_at hl 0 rfl) ?_
          refine va_get (D := D) (ci := 4) (v := .int (nI bl)) (C := RX6) (T := TX6) (N := 6) xh bh hts (fun _ h => List.mem_cons_of_mem _ (List.mem_append_right _ (h))) hown hK.1 hP 0 rfl rfl 1 (by decide) (hts _ (List.mem_of_getElem? (i := 3) rfl)) (fun _ h9 => h9) rfl dX6_look_63 ?_
          refine xn_icmp_lt (tgt := 77) xh bh dX6_look_66 (by decide) (by omega) (by omega) (fun c_66 => ?_) (fun c_66 => ?_)
          · refine lv_aload_n xh bh dX6_look_77 rfl (lv_at hl 0 rfl) ?_
            refine lv_aload_n xh bh dX6_look_78 rfl (lv_at hl 0 rfl) ?_
            refine va_get (D := D) (ci := 4) (v := .int (nI s1)) (C := RX6) (T := TX6) (N := 6) xh bh hts (fun _ h => List.mem_cons_of_mem _ (List.mem_append_right _ (h))) hown hK.1 hP 0 rfl rfl 2 (by decide) (hts _ (List.mem_of_getElem? (i := 2) rfl)) (fun _ h9 => h9) rfl dX6_look_79 ?_
            refine Ct.callV (As := [.int (nI s1)]) (rest := []) (wr := []) xh bh hml hown hts hK hP hD hS hA (ct_X6_byteIn l D cI cJ cB cZ cA sc sb bl bt (nI s1) (nI s1) tk (nI 0) s1 (by first | omega | assumption) (by first | omega | assumption)) (cwV 1 hts gX6_look_X6_byteIn rfl rfl rfl (by decide +kernel) ⟨Nat.le_of_ble_eq_true rfl, Nat.le_of_ble_eq_true rfl⟩) rfl rfl hl.1 (Nat.le_of_ble_eq_true rfl) dX6_look_82 ⟨Nat.le_refl _, Nat.le_refl _⟩ 0 4 rfl rfl rfl [0, 1] [] rfl (by decide) rfl rfl (by decide) (by decide) (fun _ H locs _ hP hD hS => ?_)
            have hP : va_P D vwCl [(sc, .inr (4, [.ref sb, .int (nI bl), .int (nI s1), .int (nI s1), .int tk, .int (nI 0)])), (sb, .inl (cB, 150, .inl (fN bt)))] H := hP
            have hD : va_D AG [(sc, .inr (4, [.ref sb, .int (nI bl), .int (nI s1), .int (nI s1), .int tk, .int (nI 0)])), (sb, .inl (cB, 150, .inl (fN bt)))] := hD
            refine W.eq (g2 := F0 mG 85 ls [.int (nI (bt s1))]) rfl ?_
            refine Ct.callS0 (rest := []) xh bh hml hown hts hK hP hS hA (ct_X6_isLetter l D cI cJ cB cZ cA (bt s1) (by have := hbt s1; omega)) (va_cwS 1 hts gX6_look_X6_isLetter rfl rfl rfl (by decide +kernel) ⟨Nat.le_of_ble_eq_true rfl, Nat.le_of_ble_eq_true rfl⟩) rfl rfl hl.1 (Nat.le_of_ble_eq_true rfl) dX6_look_85 ⟨Nat.le_refl _, Nat.le_refl _⟩ (fun _ H locs _ hP hS => ?_)
            refine W.eq (g2 := F0 mG 88 ls [.int (ib (decide (97 ≤ (bt s1) ∧ (bt s1) ≤ 122)))]) rfl ?_
            refine xb_if_eq (tgt := 98) xh bh dX6_look_88 (by decide) (fun c_88 => ?_) (fun c_88 => ?_)
            · refine lv_aload_n xh bh dX6_look_98 rfl (lv_at hl 0 rfl) ?_
              refine lv_aload_n xh bh dX6_look_99 rfl (lv_at hl 0 rfl) ?_
              refine va_get (D := D) (ci := 4) (v := .int (nI s1)) (C := RX6) (T := TX6) (N := 6) xh bh hts (fun _ h => List.mem_cons_of_mem _ (List.mem_append_right _ (h))) hown hK.1 hP 0 rfl rfl 2 (by decide) (hts _ (List.mem_of_getElem? (i := 2) rfl)) (fun _ h9 => h9) rfl dX6_look_100 ?_
              refine Ct.callV (As := [.int (nI s1)]) (rest := []) (wr := []) xh bh hml hown hts hK hP hD hS hA (ct_X6_byteIn l D cI cJ cB cZ cA sc sb bl bt (nI s1) (nI s1) tk (nI 0) s1 (by first | omega | assumption) (by first | omega | assumption)) (cwV 1 hts gX6_look_X6_byteIn rfl rfl rfl (by decide +kernel) ⟨Nat.le_of_ble_eq_true rfl, Nat.le_of_ble_eq_true rfl⟩) rfl rfl hl.1 (Nat.le_of_ble_eq_true rfl) dX6_look_103 ⟨Nat.le_refl _, Nat.le_refl _⟩ 0 4 rfl rfl rfl [0, 1] [] rfl (by decide) rfl rfl (by decide) (by decide) (fun _ H locs _ hP hD hS => ?_)
              have hP : va_P D vwCl [(sc, .inr (4, [.ref sb, .int (nI bl), .int (nI s1), .int (nI s1), .int tk, .int (nI 0)])), (sb, .inl (cB, 150, .inl (fN bt)))] H := hP
              have hD : va_D AG [(sc, .inr (4, [.ref sb, .int (nI bl), .int (nI s1), .int (nI s1), .int tk, .int (nI 0)])), (sb, .inl (cB, 150, .inl (fN bt)))] := hD
              refine W.eq (g2 := F0 mG 106 ls [.int (nI (bt s1))]) rfl ?_
              refine Ct.callS0 (rest := []) xh bh hml hown hts hK hP hS hA (ct_X6_isFigure l D cI cJ cB cZ cA (bt s1) (by have := hbt s1; omega)) (va_cwS 1 hts gX6_look_X6_isFigure rfl rfl rfl (by decide +kernel) ⟨Nat.le_of_ble_eq_true rfl, Nat.le_of_ble_eq_true rfl⟩) rfl rfl hl.1 (Nat.le_of_ble_eq_true rfl) dX6_look_106 ⟨Nat.le_refl _, Nat.le_refl _⟩ (fun _ H locs _ hP hS => ?_)
              refine W.eq (g2 := F0 mG 109 ls [.int (ib (decide (48 ≤ (bt s1) ∧ (bt s1) ≤ 57)))]) rfl ?_
              refine xb_if_eq (tgt := 119) xh bh dX6_look_109 (by decide) (fun c_109 => ?_) (fun c_109 => ?_)
              · have h9 := kK_o (b := bt) (n := bl) (s := s1) (by omega) (fun q => absurd (q.symm.trans c_88) (by decide)) (fun q => absurd (q.symm.trans c_109) (by decide))
                refine lv_aload_n xh bh dX6_look_119 rfl (lv_at hl 0 rfl) ?_
                refine lv_aload_n xh bh dX6_look_120 rfl (lv_at hl 0 rfl) ?_
                refine lv_aload_n xh bh dX6_look_121 rfl (lv_at hl 0 rfl) ?_
                refine va_get (D := D) (ci := 4) (v := .int (nI s1)) (C := RX6) (T := TX6) (N := 6) xh bh hts (fun _ h => List.mem_cons_of_mem _ (List.mem_append_right _ (h))) hown hK.1 hP 0 rfl rfl 2 (by decide) (hts _ (List.mem_of_getElem? (i := 2) rfl)) (fun _ h9 => h9) rfl dX6_look_122 ?_
                refine Ct.callV (As := [.int (nI s1)]) (rest := [.ref sc]) (wr := []) xh bh hml hown hts hK hP hD hS hA (ct_X6_byteIn l D cI cJ cB cZ cA sc sb bl bt (nI s1) (nI s1) tk (nI 0) s1 (by first | omega | assumption) (by first | omega | assumption)) (cwV 1 hts gX6_look_X6_byteIn rfl rfl rfl (by decide +kernel) ⟨Nat.le_of_ble_eq_true rfl, Nat.le_of_ble_eq_true rfl⟩) rfl rfl hl.1 (Nat.le_of_ble_eq_true rfl) dX6_look_125 ⟨Nat.le_refl _, Nat.le_refl _⟩ 0 4 rfl rfl rfl [0, 1] [] rfl (by decide) rfl rfl (by decide) (by decide) (fun _ H locs _ hP hD hS => ?_)
                have hP : va_P D vwCl [(sc, .inr (4, [.ref sb, .int (nI bl), .int (nI s1), .int (nI s1), .int tk, .int (nI 0)])), (sb, .inl (cB, 150, .inl (fN bt)))] H := hP
                have hD : va_D AG [(sc, .inr (4, [.ref sb, .int (nI bl), .int (nI s1), .int (nI s1), .int tk, .int (nI 0)])), (sb, .inl (cB, 150, .inl (fN bt)))] := hD
                refine W.eq (g2 := F0 mG 128 ls [.int (nI (bt s1)), .ref sc]) rfl ?_
                refine lv_bipush (v := (nI 59)) xh bh dX6_look_128 (by decide) ?_
                refine xn_icmp_ne (tgt := 137) xh bh dX6_look_130 (by decide) (by have := hbt s1; omega) (by have := hbt s1; omega) (fun c_130 => ?_) (fun c_130 => ?_)
                · rw [if_neg c_130] at h9
                  refine lv_iconst (v := (nI 4)) xh bh dX6_look_137 (by decide) ?_
                  refine va_put (D := D) (ci := 4) (v := .int (nI 4)) (ty := .int) (C := RX6) (T := TX6) (N := 6) xh bh hts (fun _ h => List.mem_cons_of_mem _ (List.mem_append_right _ (h))) tyX6 tyX6_ok nmX6 hown hK.1 hP hD hS 0 rfl rfl 4 (by decide) (hts _ (List.mem_of_getElem? (i := 5) rfl)) (fun _ h9 => h9) rfl (by decide +kernel) (by rfl) (by rfl) (Nat.le_of_ble_eq_true rfl) dX6_look_138 (fun H locs hP hD hS => ?_)
                  have hP : va_P D vwCl [(sc, .inr (4, [.ref sb, .int (nI bl), .int (nI s1), .int (nI s1), .int (nI 4), .int (nI 0)])), (sb, .inl (cB, 150, .inl (fN bt)))] H := hP
                  have hD : va_D AG [(sc, .inr (4, [.ref sb, .int (nI bl), .int (nI s1), .int (nI s1), .int (nI 4), .int (nI 0)])), (sb, .inl (cB, 150, .inl (fN bt)))] := hD
                  refine lv_aload_n xh bh dX6_look_141 rfl (lv_at hl 0 rfl) ?_
                  refine lv_aload_n xh bh dX6_look_142 rfl (lv_at hl 0 rfl) ?_
                  refine va_get (D := D) (ci := 4) (v := .int (nI s1)) (C := RX6) (T := TX6) (N := 6) xh bh hts (fun _ h => List.mem_cons_of_mem _ (List.mem_append_right _ (h))) hown hK.1 hP 0 rfl rfl 2 (by decide) (hts _ (List.mem_of_getElem? (i := 2) rfl)) (fun _ h9 => h9) rfl dX6_look_143 ?_
                  refine lv_iconst (v := (nI 1)) xh bh dX6_look_146 (by decide) ?_
                  refine xn_iadd xh bh dX6_look_147 ?_
                  refine va_put (D := D) (ci := 4) (v := .int (nI (s1 + 1))) (ty := .int) (C := RX6) (T := TX6) (N := 6) xh bh hts (fun _ h => List.mem_cons_of_mem _ (List.mem_append_right _ (h))) tyX6 tyX6_ok nmX6 hown hK.1 hP hD hS 0 rfl rfl 3 (by decide) (hts _ (List.mem_of_getElem? (i := 1) rfl)) (fun _ h9 => h9) rfl (by decide +kernel) (by rfl) (by rfl) (Nat.le_of_ble_eq_true rfl) dX6_look_148 (fun H locs hP hD hS => ?_)
                  have hP : va_P D vwCl [(sc, .inr (4, [.ref sb, .int (nI bl), .int (nI s1), .int (nI (s1 + 1)), .int (nI 4), .int (nI 0)])), (sb, .inl (cB, 150, .inl (fN bt)))] H := hP
                  have hD : va_D AG [(sc, .inr (4, [.ref sb, .int (nI bl), .int (nI s1), .int (nI (s1 + 1)), .int (nI 4), .int (nI 0)])), (sb, .inl (cB, 150, .inl (fN bt)))] := hD
                  exact hend (nI 0) _ _ _ _ rfl (by intro q; unfold tK at q; unfold tV; rw [e9] at q ⊢; rw [h9.1] at q; first | exact absurd q (by decide) | (rw [h9.2.2]; exact hu_113 (by refine Nat.le_of_not_lt (fun z => ?_); rw [if_neg (by omega)] at q; exact absurd q (by decide)))) dX6_look_151 (by unfold tE tK; rw [e9, h9.1, h9.2.1]; exact hP) (by unfold tE tK; rw [e9, h9.1, h9.2.1]; exact hD) hS
                · rw [if_pos c_130] at h9
                  refine lv_iconst (v := (nI 3)) xh bh dX6_look_133 (by decide) ?_
                  refine lv_goto (tgt := 138) xh bh dX6_look_134 (by decide) ?_
                  refine va_put (D := D) (ci := 4) (v := .int (nI 3)) (ty := .int) (C := RX6) (T := TX6) (N := 6) xh bh hts (fun _ h => List.mem_cons_of_mem _ (List.mem_append_right _ (h))) tyX6 tyX6_ok nmX6 hown hK.1 hP hD hS 0 rfl rfl 4 (by decide) (hts _ (List.mem_of_getElem? (i := 5) rfl)) (fun _ h9 => h9) rfl (by decide +kernel) (by rfl) (by rfl) (Nat.le_of_ble_eq_true rfl) dX6_look_138 (fun H locs hP hD hS => ?_)
                  have hP : va_P D vwCl [(sc, .inr (4, [.ref sb, .int (nI bl), .int (nI s1), .int (nI s1), .int (nI 3), .int (nI 0)])), (sb, .inl (cB, 150, .inl (fN bt)))] H := hP
                  have hD : va_D AG [(sc, .inr (4, [.ref sb, .int (nI bl), .int (nI s1), .int (nI s1), .int (nI 3), .int (nI 0)])), (sb, .inl (cB, 150, .inl (fN bt)))] := hD
                  refine lv_aload_n xh bh dX6_look_141 rfl (lv_at hl 0 rfl) ?_
                  refine lv_aload_n xh bh dX6_look_142 rfl (lv_at hl 0 rfl) ?_
                  refine va_get (D := D) (ci := 4) (v := .int (nI s1)) (C := RX6) (T := TX6) (N := 6) xh bh hts (fun _ h => List.mem_cons_of_mem _ (List.mem_append_right _ (h))) hown hK.1 hP 0 rfl rfl 2 (by decide) (hts _ (List.mem_of_getElem? (i := 2) rfl)) (fun _ h9 => h9) rfl dX6_look_143 ?_
                  refine lv_iconst (v := (nI 1)) xh bh dX6_look_146 (by decide) ?_
                  refine xn_iadd xh bh dX6_look_147 ?_
                  refine va_put (D := D) (ci := 4) (v := .int (nI (s1 + 1))) (ty := .int) (C := RX6) (T := TX6) (N := 6) xh bh hts (fun _ h => List.mem_cons_of_mem _ (List.mem_append_right _ (h))) tyX6 tyX6_ok nmX6 hown hK.1 hP hD hS 0 rfl rfl 3 (by decide) (hts _ (List.mem_of_getElem? (i := 1) rfl)) (fun _ h9 => h9) rfl (by decide +kernel) (by rfl) (by rfl) (Nat.le_of_ble_eq_true rfl) dX6_look_148 (fun H locs hP hD hS => ?_)
                  have hP : va_P D vwCl [(sc, .inr (4, [.ref sb, .int (nI bl), .int (nI s1), .int (nI (s1 + 1)), .int (nI 3), .int (nI 0)])), (sb, .inl (cB, 150, .inl (fN bt)))] H := hP
                  have hD : va_D AG [(sc, .inr (4, [.ref sb, .int (nI bl), .int (nI s1), .int (nI (s1 + 1)), .int (nI 3), .int (nI 0)])), (sb, .inl (cB, 150, .inl (fN bt)))] := hD
                  exact hend (nI 0) _ _ _ _ rfl (by intro q; unfold tK at q; unfold tV; rw [e9] at q ⊢; rw [h9.1] at q; first | exact absurd q (by decide) | (rw [h9.2.2]; exact hu_113 (by refine Nat.le_of_not_lt (fun z => ?_); rw [if_neg (by omega)] at q; exact absurd q (by decide)))) dX6_look_151 (by unfold tE tK; rw [e9, h9.1, h9.2.1]; exact hP) (by unfold tE tK; rw [e9, h9.1, h9.2.1]; exact hD) hS
              · have h9 := kK_f (b := bt) (n := bl) (s := s1) (by omega) c_109
                refine lv_aload_n xh bh dX6_look_112 rfl (lv_at hl 0 rfl) ?_
                refine Ct.callV (As := []) (rest := []) (wr := []) xh bh hml hown hts hK hP hD hS hA (ct_X6_lookAtNumber l D cI cJ cB cZ cA sc sb bl bt tk s1 (by first | omega | assumption) (by first | omega | assumption) (by first | assumption) (by first | assumption)) (cwV 0 hts gX6_look_X6_lookAtNumber rfl rfl rfl (by decide +kernel) ⟨Nat.le_of_ble_eq_true rfl, Nat.le_of_ble_eq_true rfl⟩) rfl rfl hl.1 (Nat.le_of_ble_eq_true rfl) dX6_look_113 ⟨Nat.le_refl _, Nat.le_refl _⟩ 0 4 rfl rfl rfl [0, 1] [] rfl (by decide) rfl rfl (by decide) (by decide) (fun u_113 H locs hu_113 hP hD hS => ?_)
                have hP : va_P D vwCl [(sc, .inr (4, [.ref sb, .int (nI bl), .int (nI s1), .int (nI (rnE isF bt bl s1)), .int (nI (if rnE isF bt bl s1 - s1 ≤ 2 then 2 else 4)), .int u_113])), (sb, .inl (cB, 150, .inl (fN bt)))] H := hP
                have hD : va_D AG [(sc, .inr (4, [.ref sb, .int (nI bl), .int (nI s1), .int (nI (rnE isF bt bl s1)), .int (nI (if rnE isF bt bl s1 - s1 ≤ 2 then 2 else 4)), .int u_113])), (sb, .inl (cB, 150, .inl (fN bt)))] := hD
                refine W.eq (g2 := F0 mG 116 ls []) rfl ?_
                refine lv_goto (tgt := 151) xh bh dX6_look_116 (by decide) ?_
                exact hend u_113 _ _ _ _ rfl (by intro q; unfold tK at q; unfold tV; rw [e9] at q ⊢; rw [h9.1] at q; first | exact absurd q (by decide) | (rw [h9.2.2]; exact hu_113 (by refine Nat.le_of_not_lt (fun z => ?_); rw [if_neg (by omega)] at q; exact absurd q (by decide)))) dX6_look_151 (by unfold tE tK; rw [e9, h9.1, h9.2.1]; exact hP) (by unfold tE tK; rw [e9, h9.1, h9.2.1]; exact hD) hS
            · have h9 := kK_l (b := bt) (n := bl) (s := s1) (by omega) c_88
              refine lv_aload_n xh bh dX6_look_91 rfl (lv_at hl 0 rfl) ?_
              refine Ct.callV (As := []) (rest := []) (wr := []) xh bh hml hown hts hK hP hD hS hA (ct_X6_lookAtWord l D cI cJ cB cZ cA sc sb bl bt (nI s1) tk (nI 0) s1 (by first | omega | assumption) (by first | omega | assumption) (by first | assumption)) (cwV 0 hts gX6_look_X6_lookAtWord rfl rfl rfl (by decide +kernel) ⟨Nat.le_of_ble_eq_true rfl, Nat.le_of_ble_eq_true rfl⟩) rfl rfl hl.1 (Nat.le_of_ble_eq_true rfl) dX6_look_92 ⟨Nat.le_refl _, Nat.le_refl _⟩ 0 4 rfl rfl rfl [0, 1] [] rfl (by decide) rfl rfl (by decide) (by decide) (fun _ H locs _ hP hD hS => ?_)
              have hP : va_P D vwCl [(sc, .inr (4, [.ref sb, .int (nI bl), .int (nI s1), .int (nI (rnE isL bt bl s1)), .int (nI 1), .int (nI 0)])), (sb, .inl (cB, 150, .inl (fN bt)))] H := hP
              have hD : va_D AG [(sc, .inr (4, [.ref sb, .int (nI bl), .int (nI s1), .int (nI (rnE isL bt bl s1)), .int (nI 1), .int (nI 0)])), (sb, .inl (cB, 150, .inl (fN bt)))] := hD
              refine W.eq (g2 := F0 mG 95 ls []) rfl ?_
              refine lv_goto (tgt := 151) xh bh dX6_look_95 (by decide) ?_
              exact hend (nI 0) _ _ _ _ rfl (by intro q; unfold tK at q; unfold tV; rw [e9] at q ⊢; rw [h9.1] at q; first | exact absurd q (by decide) | (rw [h9.2.2]; exact hu_113 (by refine Nat.le_of_not_lt (fun z => ?_); rw [if_neg (by omega)] at q; exact absurd q (by decide)))) dX6_look_151 (by unfold tE tK; rw [e9, h9.1, h9.2.1]; exact hP) (by unfold tE tK; rw [e9, h9.1, h9.2.1]; exact hD) hS
          · have h9 := kK_e (b := bt) (n := bl) (s := s1) (by omega)
            refine lv_aload_n xh bh dX6_look_69 rfl (lv_at hl 0 rfl) ?_
            refine lv_iconst (v := (nI 0)) xh bh dX6_look_70 (by decide) ?_
            refine va_put (D := D) (ci := 4) (v := .int (nI 0)) (ty := .int) (C := RX6) (T := TX6) (N := 6) xh bh hts (fun _ h => List.mem_cons_of_mem _ (List.mem_append_right _ (h))) tyX6 tyX6_ok nmX6 hown hK.1 hP hD hS 0 rfl rfl 4 (by decide) (hts _ (List.mem_of_getElem? (i := 5) rfl)) (fun _ h9 => h9) rfl (by decide +kernel) (by rfl) (by rfl) (Nat.le_of_ble_eq_true rfl) dX6_look_71 (fun H locs hP hD hS => ?_)
            have hP : va_P D vwCl [(sc, .inr (4, [.ref sb, .int (nI bl), .int (nI s1), .int (nI s1), .int (nI 0), .int (nI 0)])), (sb, .inl (cB, 150, .inl (fN bt)))] H := hP
            have hD : va_D AG [(sc, .inr (4, [.ref sb, .int (nI bl), .int (nI s1), .int (nI s1), .int (nI 0), .int (nI 0)])), (sb, .inl (cB, 150, .inl (fN bt)))] := hD
            refine lv_goto (tgt := 151) xh bh dX6_look_74 (by decide) ?_
            exact hend (nI 0) _ _ _ _ rfl (by intro q; unfold tK at q; unfold tV; rw [e9] at q ⊢; rw [h9.1] at q; first | exact absurd q (by decide) | (rw [h9.2.2]; exact hu_113 (by refine Nat.le_of_not_lt (fun z => ?_); rw [if_neg (by omega)] at q; exact absurd q (by decide)))) dX6_look_151 (by unfold tE tK; rw [e9, h9.1, h9.2.1]; exact hP) (by unfold tE tK; rw [e9, h9.1, h9.2.1]; exact hD) hS
        · refine lv_aload_n xh bh dX6_look_32 rfl (lv_at hl 0 rfl) ?_
          refine lv_dup xh bh dX6_look_33 rfl ?_
          refine va_get (D := D) (ci := 4) (v := .int (nI s1)) (C := RX6) (T := TX6) (N := 6) xh bh hts (fun _ h => List.mem_cons_of_mem _ (List.mem_append_right _ (h))) hown hK.1 hP 0 rfl rfl 2 (by decide) (hts _ (List.mem_of_getElem? (i := 2) rfl)) (fun _ h9 => h9) rfl dX6_look_34 ?_
          refine lv_iconst (v := (nI 1)) xh bh dX6_look_37 (by decide) ?_
          refine xn_iadd xh bh dX6_look_38 ?_
          refine va_put (D := D) (ci := 4) (v := .int (nI (s1 + 1))) (ty := .int) (C := RX6) (T := TX6) (N := 6) xh bh hts (fun _ h => List.mem_cons_of_mem _ (List.mem_append_right _ (h))) tyX6 tyX6_ok nmX6 hown hK.1 hP hD hS 0 rfl rfl 2 (by decide) (hts _ (List.mem_of_getElem? (i := 2) rfl)) (fun _ h9 => h9) rfl (by decide +kernel) (by rfl) (by rfl) (Nat.le_of_ble_eq_true rfl) dX6_look_39 (fun H locs hP hD hS => ?_)
          have hP : va_P D vwCl [(sc, .inr (4, [.ref sb, .int (nI bl), .int (nI (s1 + 1)), .int (nI i), .int tk, .int nu])), (sb, .inl (cB, 150, .inl (fN bt)))] H := hP
          have hD : va_D AG [(sc, .inr (4, [.ref sb, .int (nI bl), .int (nI (s1 + 1)), .int (nI i), .int tk, .int nu])), (sb, .inl (cB, 150, .inl (fN bt)))] := hD
          refine lv_goto (tgt := 8) xh bh dX6_look_42 (by decide) ?_
          exact ih_8 (s1 + 1) (by omega) (by exact hr.trans (rnE_s c_16 (decide_eq_true c_29))) (by omega) _ _ ls hP hD hS (lv_sub hl [0] rfl)
  exact cut_8 (bl - i + 1) i (by omega) (by rfl) (Nat.lt_succ_self _) _ _ ls hP hD hS (lv_sub hl [0] rfl)

set_option maxHeartbeats 1000000 in
set_option maxRecDepth 100000 in
theorem ct_X6_isEnded (l : Launch) (D : va_G) (cI cJ cB cZ cA : ClassId) (sc : Nat) (sb : Nat) (bl : Nat) (bt : Nat → Nat) (st : Int32) (tk : Int32) (nu : Int32) (i : Nat) (hi : i ≤ bl) (hbl : bl ≤ 150) (hbt : ∀ k, bt k < 128) : Ct l yX6_isEnded wsX6_isEnded ({ frames := 3, cells := 0, slots := 0, locals := 61 }) D (tysG cI cJ cB cZ cA) [.ref sc] [(sc, .inr (4, [.ref sb, .int (nI bl), .int st, .int (nI i), .int tk, .int nu])), (sb, .inl (cB, 150, .inl (fN bt)))] (fun (u : Int32) => tK bt bl i = 2 → u = nI (tV bt bl i)) (fun u => some (.int (ib (decide (tK bt bl i = 3))))) (fun u => [(sc, .inr (4, [.ref sb, .int (nI bl), .int (nI (tS bt bl i)), .int (nI (tE bt bl i)), .int (nI (tK bt bl i)), .int u])), (sb, .inl (cB, 150, .inl (fN bt)))]) := by
  refine Ct.ofI (cc := cX6_isEnded) (maxL := 1) (by decide) rfl (Nat.le_of_ble_eq_true rfl) ?_
  intro pG eG sG mG aG bG tG cG AG QG ls xh bh hml hown hts hK hP hD hS hA hend hl
  have hl : lv_has ls 1 [(0, .ref sc)] := hl
  refine lv_aload_n xh bh dX6_isEnded_0 rfl (lv_at hl 0 rfl) ?_
  refine Ct.callV (As := []) (rest := []) (wr := []) xh bh hml hown hts hK hP hD hS hA (ct_X6_look l D cI cJ cB cZ cA sc sb bl bt st tk nu i (by first | omega | assumption) (by first | omega | assumption) (by first | assumption)) (cwV 0 hts gX6_isEnded_X6_look rfl rfl rfl (by decide +kernel) ⟨Nat.le_of_ble_eq_true rfl, Nat.le_of_ble_eq_true rfl⟩) rfl rfl hl.1 (Nat.le_of_ble_eq_true rfl) dX6_isEnded_1 ⟨Nat.le_refl _, Nat.le_refl _⟩ 0 4 rfl rfl rfl [0, 1] [] rfl (by decide) rfl rfl (by decide) (by decide) (fun u_1 H locs hu_1 hP hD hS => ?_)
  have hP : va_P D vwCl [(sc, .inr (4, [.ref sb, .int (nI bl), .int (nI (tS bt bl i)), .int (nI (tE bt bl i)), .int (nI (tK bt bl i)), .int u_1])), (sb, .inl (cB, 150, .inl (fN bt)))] H := hP
  have hD : va_D AG [(sc, .inr (4, [.ref sb, .int (nI bl), .int (nI (tS bt bl i)), .int (nI (tE bt bl i)), .int (nI (tK bt bl i)), .int u_1])), (sb, .inl (cB, 150, .inl (fN bt)))] := hD
  refine W.eq (g2 := F0 mG 4 ls []) rfl ?_
  refine lv_aload_n xh bh dX6_isEnded_4 rfl (lv_at hl 0 rfl) ?_
  refine va_get (D := D) (ci := 4) (v := .int (nI (tK bt bl i))) (C := RX6) (T := TX6) (N := 6) xh bh hts (fun _ h => List.mem_cons_of_mem _ (List.mem_append_right _ (h))) hown hK.1 hP 0 rfl rfl 4 (by decide) (hts _ (List.mem_of_getElem? (i := 1) rfl)) (fun _ h9 => h9) rfl dX6_isEnded_5 ?_
  refine lv_iconst (v := (nI 3)) xh bh dX6_isEnded_8 (by decide) ?_
  refine xn_icmp_ne (tgt := 16) xh bh dX6_isEnded_9 (by decide) (by have := tK_le bt bl i; omega) (by have := tK_le bt bl i; omega) (fun c_9 => ?_) (fun c_9 => ?_)
  · refine lv_iconst (v := (nI 0)) xh bh dX6_isEnded_16 (by decide) ?_
    exact hend (nI 0) u_1 _ _ _ _ (xb_ret0 (by first | exact decide_eq_true c_9 | exact decide_eq_false c_9)) (by exact hu_1) (vz_bool (by decide)) dX6_isEnded_17 hP hD hS
  · refine lv_iconst (v := (nI 1)) xh bh dX6_isEnded_12 (by decide) ?_
    refine lv_goto (tgt := 17) xh bh dX6_isEnded_13 (by decide) ?_
    exact hend (nI 1) u_1 _ _ _ _ (xb_ret1 (by first | exact decide_eq_true c_9 | exact decide_eq_false c_9)) (by exact hu_1) (vz_bool (by decide)) dX6_isEnded_17 hP hD hS

set_option maxHeartbeats 1000000 in
set_option maxRecDepth 100000 in
theorem ct_X6_isNumber (l : Launch) (D : va_G) (cI cJ cB cZ cA : ClassId) (sc : Nat) (sb : Nat) (bl : Nat) (bt : Nat → Nat) (st : Int32) (tk : Int32) (nu : Int32) (i : Nat) (m : Nat) (hi : i ≤ bl) (hbl : bl ≤ 150) (hbt : ∀ k, bt k < 128) (hm : m < 1000) : Ct l yX6_isNumber wsX6_isNumber ({ frames := 3, cells := 0, slots := 0, locals := 61 }) D (tysG cI cJ cB cZ cA) [.ref sc, .int (nI m)] [(sc, .inr (4, [.ref sb, .int (nI bl), .int st, .int (nI i), .int tk, .int nu])), (sb, .inl (cB, 150, .inl (fN bt)))] (fun (u : Int32) => tK bt bl i = 2 → u = nI (tV bt bl i)) (fun u => some (.int (ib (decide (tK bt bl i = 2 ∧ tV bt bl i ≤ m))))) (fun u => [(sc, .inr (4, [.ref sb, .int (nI bl), .int (nI (tS bt bl i)), .int (nI (tE bt bl i)), .int (nI (tK bt bl i)), .int u])), (sb, .inl (cB, 150, .inl (fN bt)))]) := by
  refine Ct.ofI (cc := cX6_isNumber) (maxL := 2) (by decide) rfl (Nat.le_of_ble_eq_true rfl) ?_
  intro pG eG sG mG aG bG tG cG AG QG ls xh bh hml hown hts hK hP hD hS hA hend hl
  have hl : lv_has ls 2 [(0, .ref sc), (1, .int (nI m))] := hl
  refine lv_aload_n xh bh dX6_isNumber_0 rfl (lv_at hl 0 rfl) ?_
  refine Ct.callV (As := []) (rest := []) (wr := []) xh bh hml hown hts hK hP hD hS hA (ct_X6_look l D cI cJ cB cZ cA sc sb bl bt st tk nu i (by first | omega | assumption) (by first | omega | assumption) (by first | assumption)) (cwV 0 hts gX6_isNumber_X6_look rfl rfl rfl (by decide +kernel) ⟨Nat.le_of_ble_eq_true rfl, Nat.le_of_ble_eq_true rfl⟩) rfl rfl hl.1 (Nat.le_of_ble_eq_true rfl) dX6_isNumber_1 ⟨Nat.le_refl _, Nat.le_refl _⟩ 0 4 rfl rfl rfl [0, 1] [] rfl (by decide) rfl rfl (by decide) (by decide) (fun u_1 H locs hu_1 hP hD hS => ?_)
  have hP : va_P D vwCl [(sc, .inr (4, [.ref sb, .int (nI bl), .int (nI (tS bt bl i)), .int (nI (tE bt bl i)), .int (nI (tK bt bl i)), .int u_1])), (sb, .inl (cB, 150, .inl (fN bt)))] H := hP
  have hD : va_D AG [(sc, .inr (4, [.ref sb, .int (nI bl), .int (nI (tS bt bl i)), .int (nI (tE bt bl i)), .int (nI (tK bt bl i)), .int u_1])), (sb, .inl (cB, 150, .inl (fN bt)))] := hD
  refine W.eq (g2 := F0 mG 4 ls []) rfl ?_
  refine lv_aload_n xh bh dX6_isNumber_4 rfl (lv_at hl 0 rfl) ?_
  refine va_get (D := D) (ci := 4) (v := .int (nI (tK bt bl i))) (C := RX6) (T := TX6) (N := 6) xh bh hts (fun _ h => List.mem_cons_of_mem _ (List.mem_append_right _ (h))) hown hK.1 hP 0 rfl rfl 4 (by decide) (hts _ (List.mem_of_getElem? (i := 1) rfl)) (fun _ h9 => h9) rfl dX6_isNumber_5 ?_
  refine lv_iconst (v := (nI 2)) xh bh dX6_isNumber_8 (by decide) ?_
  refine xn_icmp_ne (tgt := 24) xh bh dX6_isNumber_9 (by decide) (by have := tK_le bt bl i; omega) (by have := tK_le bt bl i; omega) (fun c_9 => ?_) (fun c_9 => ?_)
  · refine lv_iconst (v := (nI 0)) xh bh dX6_isNumber_24 (by decide) ?_
    exact hend (nI 0) u_1 _ _ _ _ (xb_ret0 (by first | exact decide_eq_true (And.intro c_9 (by omega)) | exact decide_eq_false (fun q => c_9 q.1) | exact decide_eq_false (fun q => absurd q.2 (by omega)))) (by first | exact hu_1 | exact fun _ => rfl) (vz_bool (by decide)) dX6_isNumber_25 hP hD hS
  · obtain rfl : u_1 = nI (tV bt bl i) := hu_1 c_9
    have hv9 := tV_lt hbt bl i
    refine lv_aload_n xh bh dX6_isNumber_12 rfl (lv_at hl 0 rfl) ?_
    refine va_get (D := D) (ci := 4) (v := .int (nI (tV bt bl i))) (C := RX6) (T := TX6) (N := 6) xh bh hts (fun _ h => List.mem_cons_of_mem _ (List.mem_append_right _ (h))) hown hK.1 hP 0 rfl rfl 5 (by decide) (hts _ (List.mem_of_getElem? (i := 2) rfl)) (fun _ h9 => h9) rfl dX6_isNumber_13 ?_
    refine lv_iload_n xh bh dX6_isNumber_16 rfl (lv_at hl 1 rfl) ?_
    refine xn_icmp_gt (tgt := 24) xh bh dX6_isNumber_17 (by decide) (by omega) (by omega) (fun c_17 => ?_) (fun c_17 => ?_)
    · refine lv_iconst (v := (nI 0)) xh bh dX6_isNumber_24 (by decide) ?_
      exact hend (nI 0) (nI (tV bt bl i)) _ _ _ _ (xb_ret0 (by first | exact decide_eq_true (And.intro c_9 (by omega)) | exact decide_eq_false (fun q => c_9 q.1) | exact decide_eq_false (fun q => absurd q.2 (by omega)))) (by first | exact hu_1 | exact fun _ => rfl) (vz_bool (by decide)) dX6_isNumber_25 hP hD hS
    · refine lv_iconst (v := (nI 1)) xh bh dX6_isNumber_20 (by decide) ?_
      refine lv_goto (tgt := 25) xh bh dX6_isNumber_21 (by decide) ?_
      exact hend (nI 1) (nI (tV bt bl i)) _ _ _ _ (xb_ret1 (by first | exact decide_eq_true (And.intro c_9 (by omega)) | exact decide_eq_false (fun q => c_9 q.1) | exact decide_eq_false (fun q => absurd q.2 (by omega)))) (by first | exact hu_1 | exact fun _ => rfl) (vz_bool (by decide)) dX6_isNumber_25 hP hD hS

set_option maxHeartbeats 1000000 in
set_option maxRecDepth 100000 in
theorem ct_X6_readTale (l : Launch) (D : va_G) (cI cJ cB cZ cA : ClassId) (sc : Nat) (sb : Nat) (bl : Nat) (bt : Nat → Nat) (st : Int32) (tk : Int32) (nu : Int32) (i : Nat) (h : Nat → Nat) (T : Nat → List Nat) (P : Nat → Int32) (row : List Nat) (hc : Nat) (un : Nat) (hi : i ≤ bl) (hbl : bl ≤ 150) (hbt : ∀ k, bt k < 128) (hT : ∀ k, okT (T k)) : Ct l yX6_readTale wsX6_readTale ({ frames := 4, cells := 0, slots := 0, locals := 82 }) D (tysG cI cJ cB cZ cA) [.ref sc, .ref (h 0)] [(sc, .inr (4, [.ref sb, .int (nI bl), .int st, .int (nI i), .int tk, .int nu])), (sb, .inl (cB, 150, .inl (fN bt))), (h 0, .inr (2, [.ref (h 1), .ref (h 2), .ref (h 3), .ref (h 4), .ref (h 5), .ref (h 6), .ref (h 7), .long (eC row), .int (nI hc), .int (nI un)])), (h 1, .inl (cJ, 8, .inr (.inl (fC T)))), (h 2, .inl (cI, 8, .inl P))] (fun (u : Int32 × (Nat → List Nat) × (Nat → Int32)) => (tK bt bl (itT bt bl T P i).2.1 = 2 → u.1 = nI (tV bt bl (itT bt bl T P i).2.1)) ∧ (∀ k, okT (u.2.1 k)) ∧ (((itT bt bl T P i).1 && decide (tK bt bl (itT bt bl T P i).2.1 = 3)) = true → u.2.1 = (itT bt bl T P i).2.2.1 ∧ u.2.2 = (itT bt bl T P i).2.2.2)) (fun u => some (.int (ib ((itT bt bl T P i).1 && decide (tK bt bl (itT bt bl T P i).2.1 = 3))))) (fun u => [(sc, .inr (4, [.ref sb, .int (nI bl), .int (nI (tS bt bl (itT bt bl T P i).2.1)), .int (nI (tE bt bl (itT bt bl T P i).2.1)), .int (nI (tK bt bl (itT bt bl T P i).2.1)), .int u.1])), (sb, .inl (cB, 150, .inl (fN bt))), (h 0, .inr (2, [.ref (h 1), .ref (h 2), .ref (h 3), .ref (h 4), .ref (h 5), .ref (h 6), .ref (h 7), .long (eC row), .int (nI hc), .int (nI un)])), (h 1, .inl (cJ, 8, .inr (.inl (fC u.2.1)))), (h 2, .inl (cI, 8, .inl u.2.2))]) := by
  refine Ct.ofI (cc := cX6_readTale) (maxL := 6) (by decide) rfl (Nat.le_of_ble_eq_true rfl) ?_
  intro pG eG sG mG aG bG tG cG AG QG ls xh bh hml hown hts hK hP hD hS hA hend hl
  have hl : lv_has ls 6 [(0, .ref sc), (1, .ref (h 0))] := hl
  refine lv_aload_n xh bh dX6_readTale_0 rfl (lv_at hl 0 rfl) ?_
  refine lv_bipush (v := (nI 7)) xh bh dX6_readTale_1 (by decide) ?_
  refine Ct.callV (As := [.int (nI 7)]) (rest := []) (wr := [(h 0, .inr (2, [.ref (h 1), .ref (h 2), .ref (h 3), .ref (h 4), .ref (h 5), .ref (h 6), .ref (h 7), .long (eC row), .int (nI hc), .int (nI un)])), (h 1, .inl (cJ, 8, .inr (.inl (fC T)))), (h 2, .inl (cI, 8, .inl P))]) xh bh hml hown hts hK hP hD hS hA (ct_X6_isNumber l D cI cJ cB cZ cA sc sb bl bt st tk nu i 7 (by first | omega | assumption) (by first | omega | assumption) (by first | assumption) (by first | omega | assumption)) (cwV 1 hts gX6_readTale_X6_isNumber rfl rfl rfl (by decide +kernel) ⟨Nat.le_of_ble_eq_true rfl, Nat.le_of_ble_eq_true rfl⟩) rfl rfl hl.1 (Nat.le_of_ble_eq_true rfl) dX6_readTale_3 ⟨Nat.le_refl _, Nat.le_refl _⟩ 0 4 rfl rfl rfl [0, 1] [2, 3, 4] rfl (by decide) rfl rfl (by decide) (by decide) (fun u_3 H locs hu_3 hP hD hS => ?_)
  have hP : va_P D vwCl [(h 0, .inr (2, [.ref (h 1), .ref (h 2), .ref (h 3), .ref (h 4), .ref (h 5), .ref (h 6), .ref (h 7), .long (eC row), .int (nI hc), .int (nI un)])), (h 1, .inl (cJ, 8, .inr (.inl (fC T)))), (h 2, .inl (cI, 8, .inl P)), (sc, .inr (4, [.ref sb, .int (nI bl), .int (nI (tS bt bl i)), .int (nI (tE bt bl i)), .int (nI (tK bt bl i)), .int u_3])), (sb, .inl (cB, 150, .inl (fN bt)))] H := hP
  have hD : va_D AG [(h 0, .inr (2, [.ref (h 1), .ref (h 2), .ref (h 3), .ref (h 4), .ref (h 5), .ref (h 6), .ref (h 7), .long (eC row), .int (nI hc), .int (nI un)])), (h 1, .inl (cJ, 8, .inr (.inl (fC T)))), (h 2, .inl (cI, 8, .inl P)), (sc, .inr (4, [.ref sb, .int (nI bl), .int (nI (tS bt bl i)), .int (nI (tE bt bl i)), .int (nI (tK bt bl i)), .int u_3])), (sb, .inl (cB, 150, .inl (fN bt)))] := hD
  refine W.eq (g2 := F0 mG 6 ls [.int (ib (decide (tK bt bl i = 2 ∧ tV bt bl i ≤ 7)))]) rfl ?_
  refine xb_if_ne (tgt := 11) xh bh dX6_readTale_6 (by decide) (fun c_6 => ?_) (fun c_6 => ?_)
  · have h8 := of_decide_eq_true c_6
    obtain rfl : u_3 = nI (tV bt bl i) := hu_3 h8.1
    obtain ⟨R, hR⟩ : ∃ R, ptl bt bl 11 (tE bt bl i) [] = R := ⟨_, rfl⟩
    have h9 := itT_y (T := T) (P := P) h8.1 h8.2 hR
    have hl9 := tE_le bt hi
    refine lv_aload_n xh bh dX6_readTale_11 rfl (lv_at hl 0 rfl) ?_
    refine va_get (D := D) (ci := 4) (v := .int (nI (tV bt bl i))) (C := RX6) (T := TX6) (N := 6) xh bh hts (fun _ h => List.mem_cons_of_mem _ (List.mem_append_left _ (List.mem_append_right _ (h)))) hown hK.1 hP 3 rfl rfl 5 (by decide) (hts _ (List.mem_of_getElem? (i := 1) rfl)) (fun _ h9 => h9) rfl dX6_readTale_12 ?_
    refine lv_istore_n (lv' := [(2, .int (nI (tV bt bl i))), (0, .ref sc), (1, .ref (h 0))]) xh bh dX6_readTale_15 rfl hl (by decide) rfl (fun ls hl => ?_)
    refine lv_lconst (v := lN 0) xh bh dX6_readTale_16 (by decide) ?_
    refine lv_lstore_n (lv' := [(3, .long (lN 0)), (2, .int (nI (tV bt bl i))), (0, .ref sc), (1, .ref (h 0))]) xh bh dX6_readTale_17 rfl hl (by decide) rfl (fun ls hl => ?_)
    refine lv_iconst (v := (nI 0)) xh bh dX6_readTale_18 (by decide) ?_
    refine lv_istore (lv' := [(5, .int (nI 0)), (3, .long (lN 0)), (2, .int (nI (tV bt bl i))), (0, .ref sc), (1, .ref (h 0))]) xh bh dX6_readTale_19 hl (by decide) rfl (fun ls hl => ?_)
    have cut_21 : ∀ (n_21 : Nat), ∀ (i1 : Nat), ∀ (t : List Nat), ∀ (m : Nat), ∀ (x1 : Int32), ∀ (x2 : Int32), ∀ (x3 : Int32), (i1 ≤ bl) → (m = t.length) → (okT t) → (ptl bt bl (11 - t.length) i1 t = R) → (11 - m) < n_21 → ∀ (H : Heap) (locs : List Loc) (ls : Array Slot), va_P D vwCl [(sc, .inr (4, [.ref sb, .int (nI bl), .int x1, .int (nI i1), .int x2, .int x3])), (sb, .inl (cB, 150, .inl (fN bt))), (h 0, .inr (2, [.ref (h 1), .ref (h 2), .ref (h 3), .ref (h 4), .ref (h 5), .ref (h 6), .ref (h 7), .long (eC row), .int (nI hc), .int (nI un)])), (h 1, .inl (cJ, 8, .inr (.inl (fC T)))), (h 2, .inl (cI, 8, .inl P))] H → va_D AG [(sc, .inr (4, [.ref sb, .int (nI bl), .int x1, .int (nI i1), .int x2, .int x3])), (sb, .inl (cB, 150, .inl (fN bt))), (h 0, .inr (2, [.ref (h 1), .ref (h 2), .ref (h 3), .ref (h 4), .ref (h 5), .ref (h 6), .ref (h 7), .long (eC row), .int (nI hc), .int (nI un)])), (h 1, .inl (cJ, 8, .inr (.inl (fC T)))), (h 2, .inl (cI, 8, .inl P))] → va_S AG sG.heap H locs → lv_has ls 6 [(0, .ref sc), (1, .ref (h 0)), (2, .int (nI (tV bt bl i))), (3, .long (eC t)), (5, .int (nI m))] → W pG l eG ({ frames := 4, cells := 0, slots := 0, locals := 82 }) sG mG aG bG tG cG H locs 0 0 QG (F0 mG 21 ls []) := by
      intro n_21
      induction n_21 with
      | zero =>
        intro i1 t m x1 x2 x3 hi1 hm ht hr hmu
        exact absurd hmu (Nat.not_lt_zero _)
      | succ n_21 ih_21 =>
        intro i1 t m x1 x2 x3 hi1 hm ht hr hmu H locs ls hP hD hS hl
        have hlt := ht.1
        refine lv_iload xh bh dX6_readTale_21 (lv_at hl 4 rfl) ?_
        refine lv_bipush (v := (nI 10)) xh bh dX6_readTale_23 (by decide) ?_
        refine xn_icmp_gt (tgt := 91) xh bh dX6_readTale_25 (by decide) (by omega) (by omega) (fun c_25 => ?_) (fun c_25 => ?_)
        · exact absurd c_25 (by omega)
        · refine lv_aload_n xh bh dX6_readTale_28 rfl (lv_at hl 0 rfl) ?_
          refine Ct.callV (As := []) (rest := []) (wr := [(h 0, .inr (2, [.ref (h 1), .ref (h 2), .ref (h 3), .ref (h 4), .ref (h 5), .ref (h 6), .ref (h 7), .long (eC row), .int (nI hc), .int (nI un)])), (h 1, .inl (cJ, 8, .inr (.inl (fC T)))), (h 2, .inl (cI, 8, .inl P))]) xh bh hml hown hts hK hP hD hS hA (ct_X6_look l D cI cJ cB cZ cA sc sb bl bt x1 x2 x3 i1 (by first | omega | assumption) (by first | omega | assumption) (by first | assumption)) (cwV 0 hts gX6_readTale_X6_look rfl rfl rfl (by decide +kernel) ⟨Nat.le_of_ble_eq_true rfl, Nat.le_of_ble_eq_true rfl⟩) rfl rfl hl.1 (Nat.le_of_ble_eq_true rfl) dX6_readTale_29 ⟨Nat.le_refl _, Nat.le_refl _⟩ 0 4 rfl rfl rfl [0, 1] [2, 3, 4] rfl (by decide) rfl rfl (by decide) (by decide) (fun u_29 H locs hu_29 hP hD hS => ?_)
          have hP : va_P D vwCl [(h 0, .inr (2, [.ref (h 1), .ref (h 2), .ref (h 3), .ref (h 4), .ref (h 5), .ref (h 6), .ref (h 7), .long (eC row), .int (nI hc), .int (nI un)])), (h 1, .inl (cJ, 8, .inr (.inl (fC T)))), (h 2, .inl (cI, 8, .inl P)), (sc, .inr (4, [.ref sb, .int (nI bl), .int (nI (tS bt bl i1)), .int (nI (tE bt bl i1)), .int (nI (tK bt bl i1)), .int u_29])), (sb, .inl (cB, 150, .inl (fN bt)))] H := hP
          have hD : va_D AG [(h 0, .inr (2, [.ref (h 1), .ref (h 2), .ref (h 3), .ref (h 4), .ref (h 5), .ref (h 6), .ref (h 7), .long (eC row), .int (nI hc), .int (nI un)])), (h 1, .inl (cJ, 8, .inr (.inl (fC T)))), (h 2, .inl (cI, 8, .inl P)), (sc, .inr (4, [.ref sb, .int (nI bl), .int (nI (tS bt bl i1)), .int (nI (tE bt bl i1)), .int (nI (tK bt bl i1)), .int u_29])), (sb, .inl (cB, 150, .inl (fN bt)))] := hD
          refine W.eq (g2 := F0 mG 32 ls []) rfl ?_
          refine lv_aload_n xh bh dX6_readTale_32 rfl (lv_at hl 0 rfl) ?_
          refine va_get (D := D) (ci := 4) (v := .int (nI (tK bt bl i1))) (C := RX6) (T := TX6) (N := 6) xh bh hts (fun _ h => List.mem_cons_of_mem _ (List.mem_append_left _ (List.mem_append_right _ (h)))) hown hK.1 hP 3 rfl rfl 4 (by decide) (hts _ (List.mem_of_getElem? (i := 2) rfl)) (fun _ h9 => h9) rfl dX6_readTale_33 ?_
          refine lv_iconst (v := (nI 3)) xh bh dX6_readTale_36 (by decide) ?_
          refine xn_icmp_ne (tgt := 49) xh bh dX6_readTale_37 (by decide) (by have := tK_le bt bl i1; omega) (by have := tK_le bt bl i1; omega) (fun c_37 => ?_) (fun c_37 => ?_)
          · refine lv_aload_n xh bh dX6_readTale_49 rfl (lv_at hl 0 rfl) ?_
            refine va_get (D := D) (ci := 4) (v := .int (nI (tK bt bl i1))) (C := RX6) (T := TX6) (N := 6) xh bh hts (fun _ h => List.mem_cons_of_mem _ (List.mem_append_left _ (List.mem_append_right _ (h)))) hown hK.1 hP 3 rfl rfl 4 (by decide) (hts _ (List.mem_of_getElem? (i := 2) rfl)) (fun _ h9 => h9) rfl dX6_readTale_50 ?_
            refine lv_iconst (v := (nI 2)) xh bh dX6_readTale_53 (by decide) ?_
            refine xn_icmp_ne (tgt := 74) xh bh dX6_readTale_54 (by decide) (by have := tK_le bt bl i1; omega) (by have := tK_le bt bl i1; omega) (fun c_54 => ?_) (fun c_54 => ?_)
            · have hR2 : R = (true, i1, t) := hr.symm.trans (ptl_e (by omega) c_54)
              rw [hR2] at h9
              refine lv_iconst (v := (nI 0)) xh bh dX6_readTale_74 (by decide) ?_
              exact hend (nI 0) (u_29, T, P) _ _ _ _ (xb_ret0 (by rw [h9]; first | exact decide_eq_true c_37 | exact decide_eq_false c_37 | rfl)) (by rw [h9]; first | exact And.intro hu_3 (And.intro hT (fun q => absurd q Bool.false_ne_true)) | exact And.intro hu_29 (And.intro (okT_up hT ht _) (fun _ => And.intro rfl rfl)) | exact And.intro hu_29 (And.intro hT (fun q => absurd (of_decide_eq_true q) c_37)) | exact And.intro (fun _ => rfl) (And.intro hT (fun q => absurd q Bool.false_ne_true))) (vz_bool (by decide)) dX6_readTale_75 (by rw [h9]; exact (hP.sub [3, 4, 0, 1, 2] rfl)) (by rw [h9]; exact (hD.sub [3, 4, 0, 1, 2] (by decide) rfl)) hS
            · obtain rfl : u_29 = nI (tV bt bl i1) := hu_29 c_54
              have hv9 := tV_lt hbt bl i1
              refine lv_aload_n xh bh dX6_readTale_57 rfl (lv_at hl 0 rfl) ?_
              refine va_get (D := D) (ci := 4) (v := .int (nI (tV bt bl i1))) (C := RX6) (T := TX6) (N := 6) xh bh hts (fun _ h => List.mem_cons_of_mem _ (List.mem_append_left _ (List.mem_append_right _ (h)))) hown hK.1 hP 3 rfl rfl 5 (by decide) (hts _ (List.mem_of_getElem? (i := 1) rfl)) (fun _ h9 => h9) rfl dX6_readTale_58 ?_
              refine Ct.callN0 (rest := []) xh bh hml hown hts hK hP hS hA (ct_X8_isPart l D cI cJ cB cZ cA (nI (tV bt bl i1)) ) ⟨va_cnB 1 hts gX6_readTale_X8_isPart_n74 rfl rfl rfl (hK.2.at 4 rfl) (hts _ (List.mem_of_getElem? (i := 42) rfl)) (by decide +kernel) ⟨Nat.le_of_ble_eq_true rfl, Nat.le_of_ble_eq_true rfl⟩, hts _ (List.mem_of_getElem? (i := 47) rfl), trivial⟩ rfl rfl hl.1 (Nat.le_of_ble_eq_true rfl) dX6_readTale_61 ⟨Nat.le_refl _, Nat.le_refl _⟩ (fun _ H locs _ hP hS => ?_)
              refine W.eq (g2 := F0 mG 64 ls [.int (ib (upB (nI (tV bt bl i1)) 9))]) rfl ?_
              refine xb_if_eq (tgt := 74) xh bh dX6_readTale_64 (by decide) (fun c_64 => ?_) (fun c_64 => ?_)
              · rw [upB_nI (by omega) (by decide)] at c_64
                have hx9 := of_decide_eq_false c_64
                have hR2 : R = (false, i1, t) := hr.symm.trans (ptl_x (by omega) c_54 (Or.inr (by omega)))
                rw [hR2] at h9
                refine lv_iconst (v := (nI 0)) xh bh dX6_readTale_74 (by decide) ?_
                exact hend (nI 0) ((nI (tV bt bl i1)), T, P) _ _ _ _ (xb_ret0 (by rw [h9]; first | exact decide_eq_true c_37 | exact decide_eq_false c_37 | rfl)) (by rw [h9]; first | exact And.intro hu_3 (And.intro hT (fun q => absurd q Bool.false_ne_true)) | exact And.intro hu_29 (And.intro (okT_up hT ht _) (fun _ => And.intro rfl rfl)) | exact And.intro hu_29 (And.intro hT (fun q => absurd (of_decide_eq_true q) c_37)) | exact And.intro (fun _ => rfl) (And.intro hT (fun q => absurd q Bool.false_ne_true))) (vz_bool (by decide)) dX6_readTale_75 (by rw [h9]; exact (hP.sub [3, 4, 0, 1, 2] rfl)) (by rw [h9]; exact (hD.sub [3, 4, 0, 1, 2] (by decide) rfl)) hS
              · rw [upB_nI (by omega) (by decide)] at c_64
                have hx9 := of_decide_eq_true c_64
                refine lv_iload xh bh dX6_readTale_67 (lv_at hl 4 rfl) ?_
                refine lv_bipush (v := (nI 10)) xh bh dX6_readTale_69 (by decide) ?_
                refine xn_icmp_ne (tgt := 76) xh bh dX6_readTale_71 (by decide) (by omega) (by omega) (fun c_71 => ?_) (fun c_71 => ?_)
                · refine lv_lload_n xh bh dX6_readTale_76 rfl (lv_at hl 3 rfl) ?_
                  refine lv_aload_n xh bh dX6_readTale_77 rfl (lv_at hl 0 rfl) ?_
                  refine va_get (D := D) (ci := 4) (v := .int (nI (tV bt bl i1))) (C := RX6) (T := TX6) (N := 6) xh bh hts (fun _ h => List.mem_cons_of_mem _ (List.mem_append_left _ (List.mem_append_right _ (h)))) hown hK.1 hP 3 rfl rfl 5 (by decide) (hts _ (List.mem_of_getElem? (i := 1) rfl)) (fun _ h9 => h9) rfl dX6_readTale_78 ?_
                  refine Ct.callS0 (rest := []) xh bh hml hown hts hK hP hS hA (ct_X7_added l D cI cJ cB cZ cA t (tV bt bl i1) (by exact ht) (by omega)) (va_cwS 2 hts gX6_readTale_X7_added rfl rfl rfl (by decide +kernel) ⟨Nat.le_of_ble_eq_true rfl, Nat.le_of_ble_eq_true rfl⟩) rfl rfl hl.1 (Nat.le_of_ble_eq_true rfl) dX6_readTale_81 ⟨Nat.le_refl _, Nat.le_refl _⟩ (fun _ H locs _ hP hS => ?_)
                  refine W.eq (g2 := F0 mG 84 ls [.long (eC (addT t (tV bt bl i1)))]) rfl ?_
                  refine xw_topl (x := (eC (addT t (tV bt bl i1)))) (y := (eC (t ++ [tV bt bl i1]))) (by rw [addT_lt (by omega)]) ?_
                  refine lv_lstore_n (lv' := [(3, .long (eC (t ++ [tV bt bl i1]))), (0, .ref sc), (1, .ref (h 0)), (2, .int (nI (tV bt bl i))), (5, .int (nI m))]) xh bh dX6_readTale_84 rfl hl (by decide) rfl (fun ls hl => ?_)
                  refine lv_iinc (v := (nI (m + 1))) (lv' := [(5, .int (nI (m + 1))), (3, .long (eC (t ++ [tV bt bl i1]))), (0, .ref sc), (1, .ref (h 0)), (2, .int (nI (tV bt bl i)))]) xh bh dX6_readTale_85 hl (k := 4) rfl (by exact xn_inc _ _) (by decide) rfl (fun ls hl => ?_)
                  refine lv_goto (tgt := 21) xh bh dX6_readTale_88 (by decide) ?_
                  exact ih_21 (tE bt bl i1) (t ++ [tV bt bl i1]) (m + 1) (nI (tS bt bl i1)) (nI (tK bt bl i1)) (nI (tV bt bl i1)) (by exact tE_le bt hi1) (by rw [hm, List.length_append]; rfl) (by exact ht.app (by omega) (by omega)) (by rw [← hr, show 11 - t.length = (11 - (t ++ [tV bt bl i1]).length) + 1 by rw [List.length_append]; show _ = 11 - (t.length + 1) + 1; omega]; exact (ptl_s c_54 (fun q => by omega)).symm) (by omega) _ _ ls (hP.sub [3, 4, 0, 1, 2] rfl) (hD.sub [3, 4, 0, 1, 2] (by decide) rfl) hS (lv_sub hl [2, 3, 4, 1, 0] rfl)
                · have hR2 : R = (false, i1, t) := hr.symm.trans (ptl_x (by omega) c_54 (Or.inl (by omega)))
                  rw [hR2] at h9
                  refine lv_iconst (v := (nI 0)) xh bh dX6_readTale_74 (by decide) ?_
                  exact hend (nI 0) ((nI (tV bt bl i1)), T, P) _ _ _ _ (xb_ret0 (by rw [h9]; first | exact decide_eq_true c_37 | exact decide_eq_false c_37 | rfl)) (by rw [h9]; first | exact And.intro hu_3 (And.intro hT (fun q => absurd q Bool.false_ne_true)) | exact And.intro hu_29 (And.intro (okT_up hT ht _) (fun _ => And.intro rfl rfl)) | exact And.intro hu_29 (And.intro hT (fun q => absurd (of_decide_eq_true q) c_37)) | exact And.intro (fun _ => rfl) (And.intro hT (fun q => absurd q Bool.false_ne_true))) (vz_bool (by decide)) dX6_readTale_75 (by rw [h9]; exact (hP.sub [3, 4, 0, 1, 2] rfl)) (by rw [h9]; exact (hD.sub [3, 4, 0, 1, 2] (by decide) rfl)) hS
          · have hR2 : R = (true, i1, t) := hr.symm.trans (ptl_e (by omega) (by omega))
            rw [hR2] at h9
            refine lv_aload_n xh bh dX6_readTale_40 rfl (lv_at hl 1 rfl) ?_
            refine lv_iload_n xh bh dX6_readTale_41 rfl (lv_at hl 2 rfl) ?_
            refine lv_lload_n xh bh dX6_readTale_42 rfl (lv_at hl 3 rfl) ?_
            refine lv_iconst (v := (-1)) xh bh dX6_readTale_43 (by decide) ?_
            refine Ct.callV (As := [.int (nI (tV bt bl i)), .long (eC t), .int (-1)]) (rest := []) (wr := [(sc, .inr (4, [.ref sb, .int (nI bl), .int (nI (tS bt bl i1)), .int (nI (tE bt bl i1)), .int (nI (tK bt bl i1)), .int u_29])), (sb, .inl (cB, 150, .inl (fN bt)))]) xh bh hml hown hts hK hP hD hS hA (ct_X3_put l D cI cJ cB cZ cA h T P row hc un (tV bt bl i) t (-1) (by omega)) (cwV 3 hts gX6_readTale_X3_put rfl rfl rfl (by decide +kernel) ⟨Nat.le_of_ble_eq_true rfl, Nat.le_of_ble_eq_true rfl⟩) rfl rfl hl.1 (Nat.le_of_ble_eq_true rfl) dX6_readTale_44 ⟨Nat.le_refl _, Nat.le_refl _⟩ 0 2 rfl rfl rfl [0, 1, 2] [3, 4] rfl (by decide) rfl rfl (by decide) (by decide) (fun _ H locs _ hP hD hS => ?_)
            have hP : va_P D vwCl [(sc, .inr (4, [.ref sb, .int (nI bl), .int (nI (tS bt bl i1)), .int (nI (tE bt bl i1)), .int (nI (tK bt bl i1)), .int u_29])), (sb, .inl (cB, 150, .inl (fN bt))), (h 0, .inr (2, [.ref (h 1), .ref (h 2), .ref (h 3), .ref (h 4), .ref (h 5), .ref (h 6), .ref (h 7), .long (eC row), .int (nI hc), .int (nI un)])), (h 1, .inl (cJ, 8, .inr (.inl (fC (va_up T (tV bt bl i) t))))), (h 2, .inl (cI, 8, .inl (upd P (tV bt bl i) (-1))))] H := hP
            have hD : va_D AG [(sc, .inr (4, [.ref sb, .int (nI bl), .int (nI (tS bt bl i1)), .int (nI (tE bt bl i1)), .int (nI (tK bt bl i1)), .int u_29])), (sb, .inl (cB, 150, .inl (fN bt))), (h 0, .inr (2, [.ref (h 1), .ref (h 2), .ref (h 3), .ref (h 4), .ref (h 5), .ref (h 6), .ref (h 7), .long (eC row), .int (nI hc), .int (nI un)])), (h 1, .inl (cJ, 8, .inr (.inl (fC (va_up T (tV bt bl i) t))))), (h 2, .inl (cI, 8, .inl (upd P (tV bt bl i) (-1))))] := hD
            refine W.eq (g2 := F0 mG 47 ls []) rfl ?_
            refine lv_iconst (v := (nI 1)) xh bh dX6_readTale_47 (by decide) ?_
            exact hend (nI 1) (u_29, (va_up T (tV bt bl i) t), (upd P (tV bt bl i) (-1))) _ _ _ _ (xb_ret1 (by rw [h9]; first | exact decide_eq_true c_37 | exact decide_eq_false c_37 | rfl)) (by rw [h9]; first | exact And.intro hu_3 (And.intro hT (fun q => absurd q Bool.false_ne_true)) | exact And.intro hu_29 (And.intro (okT_up hT ht _) (fun _ => And.intro rfl rfl)) | exact And.intro hu_29 (And.intro hT (fun q => absurd (of_decide_eq_true q) c_37)) | exact And.intro (fun _ => rfl) (And.intro hT (fun q => absurd q Bool.false_ne_true))) (vz_bool (by decide)) dX6_readTale_48 (by rw [h9]; exact hP) (by rw [h9]; exact hD) hS
    exact cut_21 (11 - 0 + 1) (tE bt bl i) ([]) 0 (nI (tS bt bl i)) (nI (tK bt bl i)) (nI (tV bt bl i)) (by exact hl9) (by rfl) (by exact okT_nil) (by exact hR) (Nat.lt_succ_self _) _ _ ls (hP.sub [3, 4, 0, 1, 2] rfl) (hD.sub [3, 4, 0, 1, 2] (by decide) rfl) hS (lv_sub hl [3, 4, 2, 1, 0] rfl)
  · have h9 : itT bt bl T P i = (false, i, T, P) := itT_n (of_decide_eq_false c_6)
    refine lv_iconst (v := (nI 0)) xh bh dX6_readTale_9 (by decide) ?_
    exact hend (nI 0) (u_3, T, P) _ _ _ _ (xb_ret0 (by rw [h9]; first | exact decide_eq_true c_37 | exact decide_eq_false c_37 | rfl)) (by rw [h9]; first | exact And.intro hu_3 (And.intro hT (fun q => absurd q Bool.false_ne_true)) | exact And.intro hu_29 (And.intro (okT_up hT ht _) (fun _ => And.intro rfl rfl)) | exact And.intro hu_29 (And.intro hT (fun q => absurd (of_decide_eq_true q) c_37)) | exact And.intro (fun _ => rfl) (And.intro hT (fun q => absurd q Bool.false_ne_true))) (vz_bool (by decide)) dX6_readTale_10 (by rw [h9]; exact (hP.sub [3, 4, 0, 1, 2] rfl)) (by rw [h9]; exact (hD.sub [3, 4, 0, 1, 2] (by decide) rfl)) hS

set_option maxHeartbeats 1000000 in
set_option maxRecDepth 100000 in
theorem ct_X6_readHand (l : Launch) (D : va_G) (cI cJ cB cZ cA : ClassId) (sc : Nat) (sb : Nat) (bl : Nat) (bt : Nat → Nat) (st : Int32) (tk : Int32) (nu : Int32) (i : Nat) (h : Nat → Nat) (T : Nat → List Nat) (P : Nat → Int32) (row : List Nat) (hc : Nat) (un : Nat) (hi : i ≤ bl) (hbl : bl ≤ 150) (hbt : ∀ k, bt k < 128) (hT : ∀ k, okT (T k)) : Ct l yX6_readHand wsX6_readHand ({ frames := 5, cells := 0, slots := 0, locals := 118 }) D (tysG cI cJ cB cZ cA) [.ref sc, .ref (h 0)] [(sc, .inr (4, [.ref sb, .int (nI bl), .int st, .int (nI i), .int tk, .int nu])), (sb, .inl (cB, 150, .inl (fN bt))), (h 0, .inr (2, [.ref (h 1), .ref (h 2), .ref (h 3), .ref (h 4), .ref (h 5), .ref (h 6), .ref (h 7), .long (eC row), .int (nI hc), .int (nI un)])), (h 1, .inl (cJ, 8, .inr (.inl (fC T)))), (h 2, .inl (cI, 8, .inl P))] (fun (u : Int32 × (Nat → List Nat) × (Nat → Int32)) => (tK bt bl (itH bt bl T P i).2.1 = 2 → u.1 = nI (tV bt bl (itH bt bl T P i).2.1)) ∧ (∀ k, okT (u.2.1 k)) ∧ (((itH bt bl T P i).1 && decide (tK bt bl (itH bt bl T P i).2.1 = 3)) = true → u.2.1 = (itH bt bl T P i).2.2.1 ∧ u.2.2 = (itH bt bl T P i).2.2.2)) (fun u => some (.int (ib ((itH bt bl T P i).1 && decide (tK bt bl (itH bt bl T P i).2.1 = 3))))) (fun u => [(sc, .inr (4, [.ref sb, .int (nI bl), .int (nI (tS bt bl (itH bt bl T P i).2.1)), .int (nI (tE bt bl (itH bt bl T P i).2.1)), .int (nI (tK bt bl (itH bt bl T P i).2.1)), .int u.1])), (sb, .inl (cB, 150, .inl (fN bt))), (h 0, .inr (2, [.ref (h 1), .ref (h 2), .ref (h 3), .ref (h 4), .ref (h 5), .ref (h 6), .ref (h 7), .long (eC row), .int (nI hc), .int (nI un)])), (h 1, .inl (cJ, 8, .inr (.inl (fC u.2.1)))), (h 2, .inl (cI, 8, .inl u.2.2))]) := by
  refine Ct.ofI (cc := cX6_readHand) (maxL := 6) (by decide) rfl (Nat.le_of_ble_eq_true rfl) ?_
  intro pG eG sG mG aG bG tG cG AG QG ls xh bh hml hown hts hK hP hD hS hA hend hl
  have hl : lv_has ls 6 [(0, .ref sc), (1, .ref (h 0))] := hl
  have l2 := tE_le bt hi
  have l3 := tE_le bt l2
  have l4 := tE_le bt l3
  have l5 := tE_le bt l4
  have l6 := tE_le bt l5
  refine lv_aload_n xh bh dX6_readHand_0 rfl (lv_at hl 0 rfl) ?_
  refine lv_bipush (v := (nI 7)) xh bh dX6_readHand_1 (by decide) ?_
  refine Ct.callV (As := [.int (nI 7)]) (rest := []) (wr := [(h 0, .inr (2, [.ref (h 1), .ref (h 2), .ref (h 3), .ref (h 4), .ref (h 5), .ref (h 6), .ref (h 7), .long (eC row), .int (nI hc), .int (nI un)])), (h 1, .inl (cJ, 8, .inr (.inl (fC T)))), (h 2, .inl (cI, 8, .inl P))]) xh bh hml hown hts hK hP hD hS hA (ct_X6_isNumber l D cI cJ cB cZ cA sc sb bl bt st tk nu i 7 (by first | omega | assumption) (by first | omega | assumption) (by first | assumption) (by first | omega | assumption)) (cwV 1 hts gX6_readHand_X6_isNumber rfl rfl rfl (by decide +kernel) ⟨Nat.le_of_ble_eq_true rfl, Nat.le_of_ble_eq_true rfl⟩) rfl rfl hl.1 (Nat.le_of_ble_eq_true rfl) dX6_readHand_3 ⟨Nat.le_refl _, Nat.le_refl _⟩ 0 4 rfl rfl rfl [0, 1] [2, 3, 4] rfl (by decide) rfl rfl (by decide) (by decide) (fun u_3 H locs hu_3 hP hD hS => ?_)
  have hP : va_P D vwCl [(h 0, .inr (2, [.ref (h 1), .ref (h 2), .ref (h 3), .ref (h 4), .ref (h 5), .ref (h 6), .ref (h 7), .long (eC row), .int (nI hc), .int (nI un)])), (h 1, .inl (cJ, 8, .inr (.inl (fC T)))), (h 2, .inl (cI, 8, .inl P)), (sc, .inr (4, [.ref sb, .int (nI bl), .int (nI (tS bt bl i)), .int (nI (tE bt bl i)), .int (nI (tK bt bl i)), .int u_3])), (sb, .inl (cB, 150, .inl (fN bt)))] H := hP
  have hD : va_D AG [(h 0, .inr (2, [.ref (h 1), .ref (h 2), .ref (h 3), .ref (h 4), .ref (h 5), .ref (h 6), .ref (h 7), .long (eC row), .int (nI hc), .int (nI un)])), (h 1, .inl (cJ, 8, .inr (.inl (fC T)))), (h 2, .inl (cI, 8, .inl P)), (sc, .inr (4, [.ref sb, .int (nI bl), .int (nI (tS bt bl i)), .int (nI (tE bt bl i)), .int (nI (tK bt bl i)), .int u_3])), (sb, .inl (cB, 150, .inl (fN bt)))] := hD
  refine W.eq (g2 := F0 mG 6 ls [.int (ib (decide (tK bt bl i = 2 ∧ tV bt bl i ≤ 7)))]) rfl ?_
  refine xb_if_eq (tgt := 22) xh bh dX6_readHand_6 (by decide) (fun c_6 => ?_) (fun c_6 => ?_)
  · have h9 : itH bt bl T P i = (false, i, T, P) := if_neg (fun q => of_decide_eq_false c_6 (And.intro q.1 q.2.1))
    refine lv_iconst (v := (nI 0)) xh bh dX6_readHand_22 (by decide) ?_
    exact hend (nI 0) (u_3, T, P) _ _ _ _ (xb_ret0 (by rw [h9]; rfl)) (by rw [h9]; refine And.intro ?_ (And.intro hT (fun q => absurd q Bool.false_ne_true)); first | exact hu_3 | exact hu_32 | exact hu_55 | exact hu_72 | exact hu_89 | exact fun _ => rfl) (vz_bool (by decide)) dX6_readHand_23 (by rw [h9]; exact (hP.sub [3, 4, 0, 1, 2] rfl)) (by rw [h9]; exact (hD.sub [3, 4, 0, 1, 2] (by decide) rfl)) hS
  · have h8_3 := of_decide_eq_true c_6
    obtain rfl : u_3 = nI (tV bt bl i) := hu_3 h8_3.1
    refine lv_aload_n xh bh dX6_readHand_9 rfl (lv_at hl 1 rfl) ?_
    refine lv_aload_n xh bh dX6_readHand_10 rfl (lv_at hl 0 rfl) ?_
    refine va_get (D := D) (ci := 4) (v := .int (nI (tV bt bl i))) (C := RX6) (T := TX6) (N := 6) xh bh hts (fun _ h => List.mem_cons_of_mem _ (List.mem_append_left _ (List.mem_append_right _ (h)))) hown hK.1 hP 3 rfl rfl 5 (by decide) (hts _ (List.mem_of_getElem? (i := 1) rfl)) (fun _ h9 => h9) rfl dX6_readHand_11 ?_
    refine Ct.callV (As := [.int (nI (tV bt bl i))]) (rest := []) (wr := [(h 2, .inl (cI, 8, .inl P)), (sc, .inr (4, [.ref sb, .int (nI bl), .int (nI (tS bt bl i)), .int (nI (tE bt bl i)), .int (nI (tK bt bl i)), .int (nI (tV bt bl i))])), (sb, .inl (cB, 150, .inl (fN bt)))]) xh bh hml hown hts hK hP hD hS hA (ct_X3_taleOf l D cI cJ cB cZ cA h T row hc un (tV bt bl i) (by exact h8_3.2)) (cwV 1 hts gX6_readHand_X3_taleOf rfl rfl rfl (by decide +kernel) ⟨Nat.le_of_ble_eq_true rfl, Nat.le_of_ble_eq_true rfl⟩) rfl rfl hl.1 (Nat.le_of_ble_eq_true rfl) dX6_readHand_14 ⟨Nat.le_refl _, Nat.le_refl _⟩ 0 2 rfl rfl rfl [0, 1] [2, 3, 4] rfl (by decide) rfl rfl (by decide) (by decide) (fun _ H locs _ hP hD hS => ?_)
    have hP : va_P D vwCl [(h 2, .inl (cI, 8, .inl P)), (sc, .inr (4, [.ref sb, .int (nI bl), .int (nI (tS bt bl i)), .int (nI (tE bt bl i)), .int (nI (tK bt bl i)), .int (nI (tV bt bl i))])), (sb, .inl (cB, 150, .inl (fN bt))), (h 0, .inr (2, [.ref (h 1), .ref (h 2), .ref (h 3), .ref (h 4), .ref (h 5), .ref (h 6), .ref (h 7), .long (eC row), .int (nI hc), .int (nI un)])), (h 1, .inl (cJ, 8, .inr (.inl (fC T))))] H := hP
    have hD : va_D AG [(h 2, .inl (cI, 8, .inl P)), (sc, .inr (4, [.ref sb, .int (nI bl), .int (nI (tS bt bl i)), .int (nI (tE bt bl i)), .int (nI (tK bt bl i)), .int (nI (tV bt bl i))])), (sb, .inl (cB, 150, .inl (fN bt))), (h 0, .inr (2, [.ref (h 1), .ref (h 2), .ref (h 3), .ref (h 4), .ref (h 5), .ref (h 6), .ref (h 7), .long (eC row), .int (nI hc), .int (nI un)])), (h 1, .inl (cJ, 8, .inr (.inl (fC T))))] := hD
    refine W.eq (g2 := F0 mG 17 ls [.long (eC (T (tV bt bl i)))]) rfl ?_
    refine lv_lconst (v := lN 0) xh bh dX6_readHand_17 (by decide) ?_
    refine W.lcmp xh bh dX6_readHand_18 ?_
    refine xt_if_neC (tgt := 24) xh bh dX6_readHand_19 (by decide) (by exact hT _) (fun c_19 => ?_) (fun c_19 => ?_)
    · have h9 : itH bt bl T P i = itH1 bt bl T P (tV bt bl i) (tE bt bl i) := if_pos (And.intro h8_3.1 (And.intro h8_3.2 c_19))
      refine lv_aload_n xh bh dX6_readHand_24 rfl (lv_at hl 0 rfl) ?_
      refine va_get (D := D) (ci := 4) (v := .int (nI (tV bt bl i))) (C := RX6) (T := TX6) (N := 6) xh bh hts (fun _ h => List.mem_cons_of_mem _ (List.mem_append_left _ (List.mem_append_right _ (h)))) hown hK.1 hP 1 rfl rfl 5 (by decide) (hts _ (List.mem_of_getElem? (i := 1) rfl)) (fun _ h9 => h9) rfl dX6_readHand_25 ?_
      refine lv_istore_n (lv' := [(2, .int (nI (tV bt bl i))), (0, .ref sc), (1, .ref (h 0))]) xh bh dX6_readHand_28 rfl hl (by decide) rfl (fun ls hl => ?_)
      refine lv_aload_n xh bh dX6_readHand_29 rfl (lv_at hl 1 rfl) ?_
      refine lv_bipush (v := (nI 7)) xh bh dX6_readHand_30 (by decide) ?_
      refine Ct.callV (As := [.int (nI 7)]) (rest := []) (wr := [(h 2, .inl (cI, 8, .inl P)), (h 0, .inr (2, [.ref (h 1), .ref (h 2), .ref (h 3), .ref (h 4), .ref (h 5), .ref (h 6), .ref (h 7), .long (eC row), .int (nI hc), .int (nI un)])), (h 1, .inl (cJ, 8, .inr (.inl (fC T))))]) xh bh hml hown hts hK hP hD hS hA (ct_X6_isNumber l D cI cJ cB cZ cA sc sb bl bt (nI (tS bt bl i)) (nI (tK bt bl i)) (nI (tV bt bl i)) (tE bt bl i) 7 (by first | omega | assumption) (by first | omega | assumption) (by first | assumption) (by first | omega | assumption)) (cwV 1 hts gX6_readHand_X6_isNumber rfl rfl rfl (by decide +kernel) ⟨Nat.le_of_ble_eq_true rfl, Nat.le_of_ble_eq_true rfl⟩) rfl rfl hl.1 (Nat.le_of_ble_eq_true rfl) dX6_readHand_32 ⟨Nat.le_refl _, Nat.le_refl _⟩ 0 4 rfl rfl rfl [1, 2] [0, 3, 4] rfl (by decide) rfl rfl (by decide) (by decide) (fun u_32 H locs hu_32 hP hD hS => ?_)
      have hP : va_P D vwCl [(h 2, .inl (cI, 8, .inl P)), (h 0, .inr (2, [.ref (h 1), .ref (h 2), .ref (h 3), .ref (h 4), .ref (h 5), .ref (h 6), .ref (h 7), .long (eC row), .int (nI hc), .int (nI un)])), (h 1, .inl (cJ, 8, .inr (.inl (fC T)))), (sc, .inr (4, [.ref sb, .int (nI bl), .int (nI (tS bt bl (tE bt bl i))), .int (nI (tE bt bl (tE bt bl i))), .int (nI (tK bt bl (tE bt bl i))), .int u_32])), (sb, .inl (cB, 150, .inl (fN bt)))] H := hP
      have hD : va_D AG [(h 2, .inl (cI, 8, .inl P)), (h 0, .inr (2, [.ref (h 1), .ref (h 2), .ref (h 3), .ref (h 4), .ref (h 5), .ref (h 6), .ref (h 7), .long (eC row), .int (nI hc), .int (nI un)])), (h 1, .inl (cJ, 8, .inr (.inl (fC T)))), (sc, .inr (4, [.ref sb, .int (nI bl), .int (nI (tS bt bl (tE bt bl i))), .int (nI (tE bt bl (tE bt bl i))), .int (nI (tK bt bl (tE bt bl i))), .int u_32])), (sb, .inl (cB, 150, .inl (fN bt)))] := hD
      refine W.eq (g2 := F0 mG 35 ls [.int (ib (decide (tK bt bl (tE bt bl i) = 2 ∧ tV bt bl (tE bt bl i) ≤ 7)))]) rfl ?_
      refine xb_if_eq (tgt := 46) xh bh dX6_readHand_35 (by decide) (fun c_35 => ?_) (fun c_35 => ?_)
      · have hn9 : itH1 bt bl T P (tV bt bl i) (tE bt bl i) = (false, (tE bt bl i), T, P) := if_neg (fun q => of_decide_eq_false c_35 (And.intro q.1 q.2.2))
        rw [hn9] at h9
        refine lv_iconst (v := (nI 0)) xh bh dX6_readHand_46 (by decide) ?_
        exact hend (nI 0) (u_32, T, P) _ _ _ _ (xb_ret0 (by rw [h9]; rfl)) (by rw [h9]; refine And.intro ?_ (And.intro hT (fun q => absurd q Bool.false_ne_true)); first | exact hu_3 | exact hu_32 | exact hu_55 | exact hu_72 | exact hu_89 | exact fun _ => rfl) (vz_bool (by decide)) dX6_readHand_47 (by rw [h9]; exact (hP.sub [3, 4, 1, 2, 0] rfl)) (by rw [h9]; exact (hD.sub [3, 4, 1, 2, 0] (by decide) rfl)) hS
      · have h8_32 := of_decide_eq_true c_35
        obtain rfl : u_32 = nI (tV bt bl (tE bt bl i)) := hu_32 h8_32.1
        have hv9 := tV_lt hbt bl (tE bt bl i)
        have hv8 := tV_lt hbt bl i
        refine lv_aload_n xh bh dX6_readHand_38 rfl (lv_at hl 1 rfl) ?_
        refine va_get (D := D) (ci := 4) (v := .int (nI (tV bt bl (tE bt bl i)))) (C := RX6) (T := TX6) (N := 6) xh bh hts (fun _ h => List.mem_cons_of_mem _ (List.mem_append_left _ (List.mem_append_right _ (h)))) hown hK.1 hP 3 rfl rfl 5 (by decide) (hts _ (List.mem_of_getElem? (i := 1) rfl)) (fun _ h9 => h9) rfl dX6_readHand_39 ?_
        refine lv_iload_n xh bh dX6_readHand_42 rfl (lv_at hl 0 rfl) ?_
        refine xn_icmp_gt (tgt := 48) xh bh dX6_readHand_43 (by decide) (by omega) (by omega) (fun c_43 => ?_) (fun c_43 => ?_)
        · have hn9 : itH1 bt bl T P (tV bt bl i) (tE bt bl i) = itH2 bt bl T P (tV bt bl i) (tV bt bl (tE bt bl i)) (tE bt bl (tE bt bl i)) := if_pos (And.intro h8_32.1 (And.intro c_43 h8_32.2))
          rw [hn9] at h9
          refine lv_aload_n xh bh dX6_readHand_48 rfl (lv_at hl 1 rfl) ?_
          refine va_get (D := D) (ci := 4) (v := .int (nI (tV bt bl (tE bt bl i)))) (C := RX6) (T := TX6) (N := 6) xh bh hts (fun _ h => List.mem_cons_of_mem _ (List.mem_append_left _ (List.mem_append_right _ (h)))) hown hK.1 hP 3 rfl rfl 5 (by decide) (hts _ (List.mem_of_getElem? (i := 1) rfl)) (fun _ h9 => h9) rfl dX6_readHand_49 ?_
          refine lv_istore_n (lv' := [(3, .int (nI (tV bt bl (tE bt bl i)))), (2, .int (nI (tV bt bl i))), (0, .ref sc), (1, .ref (h 0))]) xh bh dX6_readHand_52 rfl hl (by decide) rfl (fun ls hl => ?_)
          refine lv_aload_n xh bh dX6_readHand_53 rfl (lv_at hl 2 rfl) ?_
          refine lv_iconst (v := (nI 5)) xh bh dX6_readHand_54 (by decide) ?_
          refine Ct.callV (As := [.int (nI 5)]) (rest := []) (wr := [(h 2, .inl (cI, 8, .inl P)), (h 0, .inr (2, [.ref (h 1), .ref (h 2), .ref (h 3), .ref (h 4), .ref (h 5), .ref (h 6), .ref (h 7), .long (eC row), .int (nI hc), .int (nI un)])), (h 1, .inl (cJ, 8, .inr (.inl (fC T))))]) xh bh hml hown hts hK hP hD hS hA (ct_X6_isNumber l D cI cJ cB cZ cA sc sb bl bt (nI (tS bt bl (tE bt bl i))) (nI (tK bt bl (tE bt bl i))) (nI (tV bt bl (tE bt bl i))) (tE bt bl (tE bt bl i)) 5 (by first | omega | assumption) (by first | omega | assumption) (by first | assumption) (by first | omega | assumption)) (cwV 1 hts gX6_readHand_X6_isNumber rfl rfl rfl (by decide +kernel) ⟨Nat.le_of_ble_eq_true rfl, Nat.le_of_ble_eq_true rfl⟩) rfl rfl hl.1 (Nat.le_of_ble_eq_true rfl) dX6_readHand_55 ⟨Nat.le_refl _, Nat.le_refl _⟩ 0 4 rfl rfl rfl [3, 4] [0, 1, 2] rfl (by decide) rfl rfl (by decide) (by decide) (fun u_55 H locs hu_55 hP hD hS => ?_)
          have hP : va_P D vwCl [(h 2, .inl (cI, 8, .inl P)), (h 0, .inr (2, [.ref (h 1), .ref (h 2), .ref (h 3), .ref (h 4), .ref (h 5), .ref (h 6), .ref (h 7), .long (eC row), .int (nI hc), .int (nI un)])), (h 1, .inl (cJ, 8, .inr (.inl (fC T)))), (sc, .inr (4, [.ref sb, .int (nI bl), .int (nI (tS bt bl (tE bt bl (tE bt bl i)))), .int (nI (tE bt bl (tE bt bl (tE bt bl i)))), .int (nI (tK bt bl (tE bt bl (tE bt bl i)))), .int u_55])), (sb, .inl (cB, 150, .inl (fN bt)))] H := hP
          have hD : va_D AG [(h 2, .inl (cI, 8, .inl P)), (h 0, .inr (2, [.ref (h 1), .ref (h 2), .ref (h 3), .ref (h 4), .ref (h 5), .ref (h 6), .ref (h 7), .long (eC row), .int (nI hc), .int (nI un)])), (h 1, .inl (cJ, 8, .inr (.inl (fC T)))), (sc, .inr (4, [.ref sb, .int (nI bl), .int (nI (tS bt bl (tE bt bl (tE bt bl i)))), .int (nI (tE bt bl (tE bt bl (tE bt bl i)))), .int (nI (tK bt bl (tE bt bl (tE bt bl i)))), .int u_55])), (sb, .inl (cB, 150, .inl (fN bt)))] := hD
          refine W.eq (g2 := F0 mG 58 ls [.int (ib (decide (tK bt bl (tE bt bl (tE bt bl i)) = 2 ∧ tV bt bl (tE bt bl (tE bt bl i)) ≤ 5)))]) rfl ?_
          refine xb_if_ne (tgt := 63) xh bh dX6_readHand_58 (by decide) (fun c_58 => ?_) (fun c_58 => ?_)
          · have h8_55 := of_decide_eq_true c_58
            obtain rfl : u_55 = nI (tV bt bl (tE bt bl (tE bt bl i))) := hu_55 h8_55.1
            have hn9 : itH2 bt bl T P (tV bt bl i) (tV bt bl (tE bt bl i)) (tE bt bl (tE bt bl i)) = itH3 bt bl T P (tV bt bl i) (tV bt bl (tE bt bl i)) (tV bt bl (tE bt bl (tE bt bl i))) (tE bt bl (tE bt bl (tE bt bl i))) := if_pos h8_55
            rw [hn9] at h9
            refine lv_aload_n xh bh dX6_readHand_63 rfl (lv_at hl 2 rfl) ?_
            refine va_get (D := D) (ci := 4) (v := .int (nI (tV bt bl (tE bt bl (tE bt bl i))))) (C := RX6) (T := TX6) (N := 6) xh bh hts (fun _ h => List.mem_cons_of_mem _ (List.mem_append_left _ (List.mem_append_right _ (h)))) hown hK.1 hP 3 rfl rfl 5 (by decide) (hts _ (List.mem_of_getElem? (i := 1) rfl)) (fun _ h9 => h9) rfl dX6_readHand_64 ?_
            refine lv_istore (lv' := [(4, .int (nI (tV bt bl (tE bt bl (tE bt bl i))))), (3, .int (nI (tV bt bl (tE bt bl i)))), (2, .int (nI (tV bt bl i))), (0, .ref sc), (1, .ref (h 0))]) xh bh dX6_readHand_67 hl (by decide) rfl (fun ls hl => ?_)
            refine lv_aload_n xh bh dX6_readHand_69 rfl (lv_at hl 3 rfl) ?_
            refine lv_bipush (v := (nI 9)) xh bh dX6_readHand_70 (by decide) ?_
            refine Ct.callV (As := [.int (nI 9)]) (rest := []) (wr := [(h 2, .inl (cI, 8, .inl P)), (h 0, .inr (2, [.ref (h 1), .ref (h 2), .ref (h 3), .ref (h 4), .ref (h 5), .ref (h 6), .ref (h 7), .long (eC row), .int (nI hc), .int (nI un)])), (h 1, .inl (cJ, 8, .inr (.inl (fC T))))]) xh bh hml hown hts hK hP hD hS hA (ct_X6_isNumber l D cI cJ cB cZ cA sc sb bl bt (nI (tS bt bl (tE bt bl (tE bt bl i)))) (nI (tK bt bl (tE bt bl (tE bt bl i)))) (nI (tV bt bl (tE bt bl (tE bt bl i)))) (tE bt bl (tE bt bl (tE bt bl i))) 9 (by first | omega | assumption) (by first | omega | assumption) (by first | assumption) (by first | omega | assumption)) (cwV 1 hts gX6_readHand_X6_isNumber rfl rfl rfl (by decide +kernel) ⟨Nat.le_of_ble_eq_true rfl, Nat.le_of_ble_eq_true rfl⟩) rfl rfl hl.1 (Nat.le_of_ble_eq_true rfl) dX6_readHand_72 ⟨Nat.le_refl _, Nat.le_refl _⟩ 0 4 rfl rfl rfl [3, 4] [0, 1, 2] rfl (by decide) rfl rfl (by decide) (by decide) (fun u_72 H locs hu_72 hP hD hS => ?_)
            have hP : va_P D vwCl [(h 2, .inl (cI, 8, .inl P)), (h 0, .inr (2, [.ref (h 1), .ref (h 2), .ref (h 3), .ref (h 4), .ref (h 5), .ref (h 6), .ref (h 7), .long (eC row), .int (nI hc), .int (nI un)])), (h 1, .inl (cJ, 8, .inr (.inl (fC T)))), (sc, .inr (4, [.ref sb, .int (nI bl), .int (nI (tS bt bl (tE bt bl (tE bt bl (tE bt bl i))))), .int (nI (tE bt bl (tE bt bl (tE bt bl (tE bt bl i))))), .int (nI (tK bt bl (tE bt bl (tE bt bl (tE bt bl i))))), .int u_72])), (sb, .inl (cB, 150, .inl (fN bt)))] H := hP
            have hD : va_D AG [(h 2, .inl (cI, 8, .inl P)), (h 0, .inr (2, [.ref (h 1), .ref (h 2), .ref (h 3), .ref (h 4), .ref (h 5), .ref (h 6), .ref (h 7), .long (eC row), .int (nI hc), .int (nI un)])), (h 1, .inl (cJ, 8, .inr (.inl (fC T)))), (sc, .inr (4, [.ref sb, .int (nI bl), .int (nI (tS bt bl (tE bt bl (tE bt bl (tE bt bl i))))), .int (nI (tE bt bl (tE bt bl (tE bt bl (tE bt bl i))))), .int (nI (tK bt bl (tE bt bl (tE bt bl (tE bt bl i))))), .int u_72])), (sb, .inl (cB, 150, .inl (fN bt)))] := hD
            refine W.eq (g2 := F0 mG 75 ls [.int (ib (decide (tK bt bl (tE bt bl (tE bt bl (tE bt bl i))) = 2 ∧ tV bt bl (tE bt bl (tE bt bl (tE bt bl i))) ≤ 9)))]) rfl ?_
            refine xb_if_ne (tgt := 80) xh bh dX6_readHand_75 (by decide) (fun c_75 => ?_) (fun c_75 => ?_)
            · have h8_72 := of_decide_eq_true c_75
              obtain rfl : u_72 = nI (tV bt bl (tE bt bl (tE bt bl (tE bt bl i)))) := hu_72 h8_72.1
              have hn9 : itH3 bt bl T P (tV bt bl i) (tV bt bl (tE bt bl i)) (tV bt bl (tE bt bl (tE bt bl i))) (tE bt bl (tE bt bl (tE bt bl i))) = itH4 bt bl T P (tV bt bl i) (tV bt bl (tE bt bl i)) (tV bt bl (tE bt bl (tE bt bl i))) (tE bt bl (tE bt bl (tE bt bl i))) (tE bt bl (tE bt bl (tE bt bl (tE bt bl i)))) := if_pos h8_72
              rw [hn9] at h9
              refine lv_aload_n xh bh dX6_readHand_80 rfl (lv_at hl 3 rfl) ?_
              refine va_get (D := D) (ci := 4) (v := .int (nI (tV bt bl (tE bt bl (tE bt bl (tE bt bl i)))))) (C := RX6) (T := TX6) (N := 6) xh bh hts (fun _ h => List.mem_cons_of_mem _ (List.mem_append_left _ (List.mem_append_right _ (h)))) hown hK.1 hP 3 rfl rfl 5 (by decide) (hts _ (List.mem_of_getElem? (i := 1) rfl)) (fun _ h9 => h9) rfl dX6_readHand_81 ?_
              refine lv_istore (lv' := [(5, .int (nI (tV bt bl (tE bt bl (tE bt bl (tE bt bl i)))))), (4, .int (nI (tV bt bl (tE bt bl (tE bt bl i))))), (3, .int (nI (tV bt bl (tE bt bl i)))), (2, .int (nI (tV bt bl i))), (0, .ref sc), (1, .ref (h 0))]) xh bh dX6_readHand_84 hl (by decide) rfl (fun ls hl => ?_)
              refine lv_aload_n xh bh dX6_readHand_86 rfl (lv_at hl 4 rfl) ?_
              refine lv_bipush (v := (nI 9)) xh bh dX6_readHand_87 (by decide) ?_
              refine Ct.callV (As := [.int (nI 9)]) (rest := []) (wr := [(h 2, .inl (cI, 8, .inl P)), (h 0, .inr (2, [.ref (h 1), .ref (h 2), .ref (h 3), .ref (h 4), .ref (h 5), .ref (h 6), .ref (h 7), .long (eC row), .int (nI hc), .int (nI un)])), (h 1, .inl (cJ, 8, .inr (.inl (fC T))))]) xh bh hml hown hts hK hP hD hS hA (ct_X6_isNumber l D cI cJ cB cZ cA sc sb bl bt (nI (tS bt bl (tE bt bl (tE bt bl (tE bt bl i))))) (nI (tK bt bl (tE bt bl (tE bt bl (tE bt bl i))))) (nI (tV bt bl (tE bt bl (tE bt bl (tE bt bl i))))) (tE bt bl (tE bt bl (tE bt bl (tE bt bl i)))) 9 (by first | omega | assumption) (by first | omega | assumption) (by first | assumption) (by first | omega | assumption)) (cwV 1 hts gX6_readHand_X6_isNumber rfl rfl rfl (by decide +kernel) ⟨Nat.le_of_ble_eq_true rfl, Nat.le_of_ble_eq_true rfl⟩) rfl rfl hl.1 (Nat.le_of_ble_eq_true rfl) dX6_readHand_89 ⟨Nat.le_refl _, Nat.le_refl _⟩ 0 4 rfl rfl rfl [3, 4] [0, 1, 2] rfl (by decide) rfl rfl (by decide) (by decide) (fun u_89 H locs hu_89 hP hD hS => ?_)
              have hP : va_P D vwCl [(h 2, .inl (cI, 8, .inl P)), (h 0, .inr (2, [.ref (h 1), .ref (h 2), .ref (h 3), .ref (h 4), .ref (h 5), .ref (h 6), .ref (h 7), .long (eC row), .int (nI hc), .int (nI un)])), (h 1, .inl (cJ, 8, .inr (.inl (fC T)))), (sc, .inr (4, [.ref sb, .int (nI bl), .int (nI (tS bt bl (tE bt bl (tE bt bl (tE bt bl (tE bt bl i)))))), .int (nI (tE bt bl (tE bt bl (tE bt bl (tE bt bl (tE bt bl i)))))), .int (nI (tK bt bl (tE bt bl (tE bt bl (tE bt bl (tE bt bl i)))))), .int u_89])), (sb, .inl (cB, 150, .inl (fN bt)))] H := hP
              have hD : va_D AG [(h 2, .inl (cI, 8, .inl P)), (h 0, .inr (2, [.ref (h 1), .ref (h 2), .ref (h 3), .ref (h 4), .ref (h 5), .ref (h 6), .ref (h 7), .long (eC row), .int (nI hc), .int (nI un)])), (h 1, .inl (cJ, 8, .inr (.inl (fC T)))), (sc, .inr (4, [.ref sb, .int (nI bl), .int (nI (tS bt bl (tE bt bl (tE bt bl (tE bt bl (tE bt bl i)))))), .int (nI (tE bt bl (tE bt bl (tE bt bl (tE bt bl (tE bt bl i)))))), .int (nI (tK bt bl (tE bt bl (tE bt bl (tE bt bl (tE bt bl i)))))), .int u_89])), (sb, .inl (cB, 150, .inl (fN bt)))] := hD
              refine W.eq (g2 := F0 mG 92 ls [.int (ib (decide (tK bt bl (tE bt bl (tE bt bl (tE bt bl (tE bt bl i)))) = 2 ∧ tV bt bl (tE bt bl (tE bt bl (tE bt bl (tE bt bl i)))) ≤ 9)))]) rfl ?_
              refine xb_if_ne (tgt := 97) xh bh dX6_readHand_92 (by decide) (fun c_92 => ?_) (fun c_92 => ?_)
              · have h8_89 := of_decide_eq_true c_92
                obtain rfl : u_89 = nI (tV bt bl (tE bt bl (tE bt bl (tE bt bl (tE bt bl i))))) := hu_89 h8_89.1
                have hn9 : itH4 bt bl T P (tV bt bl i) (tV bt bl (tE bt bl i)) (tV bt bl (tE bt bl (tE bt bl i))) (tE bt bl (tE bt bl (tE bt bl i))) (tE bt bl (tE bt bl (tE bt bl (tE bt bl i)))) = (true, (tE bt bl (tE bt bl (tE bt bl (tE bt bl (tE bt bl i))))), va_up T (tV bt bl (tE bt bl i)) (slipT (T (tV bt bl i)) (tV bt bl (tE bt bl (tE bt bl i))) (tV bt bl (tE bt bl (tE bt bl (tE bt bl i)))) (tV bt bl (tE bt bl (tE bt bl (tE bt bl (tE bt bl i)))))), upd P (tV bt bl (tE bt bl i)) (nI (tV bt bl i))) := if_pos h8_89
                rw [hn9] at h9
                refine lv_aload_n xh bh dX6_readHand_97 rfl (lv_at hl 5 rfl) ?_
                refine lv_iload_n xh bh dX6_readHand_98 rfl (lv_at hl 2 rfl) ?_
                refine lv_aload_n xh bh dX6_readHand_99 rfl (lv_at hl 5 rfl) ?_
                refine lv_iload_n xh bh dX6_readHand_100 rfl (lv_at hl 3 rfl) ?_
                refine Ct.callV (As := [.int (nI (tV bt bl i))]) (rest := [.int (nI (tV bt bl (tE bt bl i))), .ref (h 0)]) (wr := [(h 2, .inl (cI, 8, .inl P)), (sc, .inr (4, [.ref sb, .int (nI bl), .int (nI (tS bt bl (tE bt bl (tE bt bl (tE bt bl (tE bt bl i)))))), .int (nI (tE bt bl (tE bt bl (tE bt bl (tE bt bl (tE bt bl i)))))), .int (nI (tK bt bl (tE bt bl (tE bt bl (tE bt bl (tE bt bl i)))))), .int (nI (tV bt bl (tE bt bl (tE bt bl (tE bt bl (tE bt bl i))))))])), (sb, .inl (cB, 150, .inl (fN bt)))]) xh bh hml hown hts hK hP hD hS hA (ct_X3_taleOf l D cI cJ cB cZ cA h T row hc un (tV bt bl i) (by exact h8_3.2)) (cwV 1 hts gX6_readHand_X3_taleOf rfl rfl rfl (by decide +kernel) ⟨Nat.le_of_ble_eq_true rfl, Nat.le_of_ble_eq_true rfl⟩) rfl rfl hl.1 (Nat.le_of_ble_eq_true rfl) dX6_readHand_101 ⟨Nat.le_refl _, Nat.le_refl _⟩ 0 2 rfl rfl rfl [1, 2] [0, 3, 4] rfl (by decide) rfl rfl (by decide) (by decide) (fun _ H locs _ hP hD hS => ?_)
                have hP : va_P D vwCl [(h 2, .inl (cI, 8, .inl P)), (sc, .inr (4, [.ref sb, .int (nI bl), .int (nI (tS bt bl (tE bt bl (tE bt bl (tE bt bl (tE bt bl i)))))), .int (nI (tE bt bl (tE bt bl (tE bt bl (tE bt bl (tE bt bl i)))))), .int (nI (tK bt bl (tE bt bl (tE bt bl (tE bt bl (tE bt bl i)))))), .int (nI (tV bt bl (tE bt bl (tE bt bl (tE bt bl (tE bt bl i))))))])), (sb, .inl (cB, 150, .inl (fN bt))), (h 0, .inr (2, [.ref (h 1), .ref (h 2), .ref (h 3), .ref (h 4), .ref (h 5), .ref (h 6), .ref (h 7), .long (eC row), .int (nI hc), .int (nI un)])), (h 1, .inl (cJ, 8, .inr (.inl (fC T))))] H := hP
                have hD : va_D AG [(h 2, .inl (cI, 8, .inl P)), (sc, .inr (4, [.ref sb, .int (nI bl), .int (nI (tS bt bl (tE bt bl (tE bt bl (tE bt bl (tE bt bl i)))))), .int (nI (tE bt bl (tE bt bl (tE bt bl (tE bt bl (tE bt bl i)))))), .int (nI (tK bt bl (tE bt bl (tE bt bl (tE bt bl (tE bt bl i)))))), .int (nI (tV bt bl (tE bt bl (tE bt bl (tE bt bl (tE bt bl i))))))])), (sb, .inl (cB, 150, .inl (fN bt))), (h 0, .inr (2, [.ref (h 1), .ref (h 2), .ref (h 3), .ref (h 4), .ref (h 5), .ref (h 6), .ref (h 7), .long (eC row), .int (nI hc), .int (nI un)])), (h 1, .inl (cJ, 8, .inr (.inl (fC T))))] := hD
                refine W.eq (g2 := F0 mG 104 ls [.long (eC (T (tV bt bl i))), .int (nI (tV bt bl (tE bt bl i))), .ref (h 0)]) rfl ?_
                refine lv_iload xh bh dX6_readHand_104 (lv_at hl 1 rfl) ?_
                refine lv_iload xh bh dX6_readHand_106 (lv_at hl 0 rfl) ?_
                refine lv_aload_n xh bh dX6_readHand_108 rfl (lv_at hl 4 rfl) ?_
                refine va_get (D := D) (ci := 4) (v := .int (nI (tV bt bl (tE bt bl (tE bt bl (tE bt bl (tE bt bl i))))))) (C := RX6) (T := TX6) (N := 6) xh bh hts (fun _ h => List.mem_cons_of_mem _ (List.mem_append_left _ (List.mem_append_right _ (h)))) hown hK.1 hP 1 rfl rfl 5 (by decide) (hts _ (List.mem_of_getElem? (i := 1) rfl)) (fun _ h9 => h9) rfl dX6_readHand_109 ?_
                refine Ct.callS0 (rest := [.int (nI (tV bt bl (tE bt bl i))), .ref (h 0)]) xh bh hml hown hts hK hP hS hA (ct_X7_slipped l D cI cJ cB cZ cA (T (tV bt bl i)) (tV bt bl (tE bt bl (tE bt bl i))) (tV bt bl (tE bt bl (tE bt bl (tE bt bl i)))) (tV bt bl (tE bt bl (tE bt bl (tE bt bl (tE bt bl i))))) (by exact hT _) (by have := h8_55.2; omega) (by have := h8_72.2; omega) (by have := h8_89.2; omega)) (va_cwS 4 hts gX6_readHand_X7_slipped rfl rfl rfl (by decide +kernel) ⟨Nat.le_of_ble_eq_true rfl, Nat.le_of_ble_eq_true rfl⟩) rfl rfl hl.1 (Nat.le_of_ble_eq_true rfl) dX6_readHand_112 ⟨Nat.le_refl _, Nat.le_refl _⟩ (fun _ H locs _ hP hS => ?_)
                refine W.eq (g2 := F0 mG 115 ls [.long (eC (slipT (T (tV bt bl i)) (tV bt bl (tE bt bl (tE bt bl i))) (tV bt bl (tE bt bl (tE bt bl (tE bt bl i)))) (tV bt bl (tE bt bl (tE bt bl (tE bt bl (tE bt bl i))))))), .int (nI (tV bt bl (tE bt bl i))), .ref (h 0)]) rfl ?_
                refine lv_iload_n xh bh dX6_readHand_115 rfl (lv_at hl 3 rfl) ?_
                refine Ct.callV (As := [.int (nI (tV bt bl (tE bt bl i))), .long (eC (slipT (T (tV bt bl i)) (tV bt bl (tE bt bl (tE bt bl i))) (tV bt bl (tE bt bl (tE bt bl (tE bt bl i)))) (tV bt bl (tE bt bl (tE bt bl (tE bt bl (tE bt bl i))))))), .int (nI (tV bt bl i))]) (rest := []) (wr := [(sc, .inr (4, [.ref sb, .int (nI bl), .int (nI (tS bt bl (tE bt bl (tE bt bl (tE bt bl (tE bt bl i)))))), .int (nI (tE bt bl (tE bt bl (tE bt bl (tE bt bl (tE bt bl i)))))), .int (nI (tK bt bl (tE bt bl (tE bt bl (tE bt bl (tE bt bl i)))))), .int (nI (tV bt bl (tE bt bl (tE bt bl (tE bt bl (tE bt bl i))))))])), (sb, .inl (cB, 150, .inl (fN bt)))]) xh bh hml hown hts hK hP hD hS hA (ct_X3_put l D cI cJ cB cZ cA h T P row hc un (tV bt bl (tE bt bl i)) (slipT (T (tV bt bl i)) (tV bt bl (tE bt bl (tE bt bl i))) (tV bt bl (tE bt bl (tE bt bl (tE bt bl i)))) (tV bt bl (tE bt bl (tE bt bl (tE bt bl (tE bt bl i)))))) (nI (tV bt bl i)) (by exact h8_32.2)) (cwV 3 hts gX6_readHand_X3_put rfl rfl rfl (by decide +kernel) ⟨Nat.le_of_ble_eq_true rfl, Nat.le_of_ble_eq_true rfl⟩) rfl rfl hl.1 (Nat.le_of_ble_eq_true rfl) dX6_readHand_116 ⟨Nat.le_refl _, Nat.le_refl _⟩ 0 2 rfl rfl rfl [3, 4, 0] [1, 2] rfl (by decide) rfl rfl (by decide) (by decide) (fun _ H locs _ hP hD hS => ?_)
                have hP : va_P D vwCl [(sc, .inr (4, [.ref sb, .int (nI bl), .int (nI (tS bt bl (tE bt bl (tE bt bl (tE bt bl (tE bt bl i)))))), .int (nI (tE bt bl (tE bt bl (tE bt bl (tE bt bl (tE bt bl i)))))), .int (nI (tK bt bl (tE bt bl (tE bt bl (tE bt bl (tE bt bl i)))))), .int (nI (tV bt bl (tE bt bl (tE bt bl (tE bt bl (tE bt bl i))))))])), (sb, .inl (cB, 150, .inl (fN bt))), (h 0, .inr (2, [.ref (h 1), .ref (h 2), .ref (h 3), .ref (h 4), .ref (h 5), .ref (h 6), .ref (h 7), .long (eC row), .int (nI hc), .int (nI un)])), (h 1, .inl (cJ, 8, .inr (.inl (fC (va_up T (tV bt bl (tE bt bl i)) (slipT (T (tV bt bl i)) (tV bt bl (tE bt bl (tE bt bl i))) (tV bt bl (tE bt bl (tE bt bl (tE bt bl i)))) (tV bt bl (tE bt bl (tE bt bl (tE bt bl (tE bt bl i))))))))))), (h 2, .inl (cI, 8, .inl (upd P (tV bt bl (tE bt bl i)) (nI (tV bt bl i)))))] H := hP
                have hD : va_D AG [(sc, .inr (4, [.ref sb, .int (nI bl), .int (nI (tS bt bl (tE bt bl (tE bt bl (tE bt bl (tE bt bl i)))))), .int (nI (tE bt bl (tE bt bl (tE bt bl (tE bt bl (tE bt bl i)))))), .int (nI (tK bt bl (tE bt bl (tE bt bl (tE bt bl (tE bt bl i)))))), .int (nI (tV bt bl (tE bt bl (tE bt bl (tE bt bl (tE bt bl i))))))])), (sb, .inl (cB, 150, .inl (fN bt))), (h 0, .inr (2, [.ref (h 1), .ref (h 2), .ref (h 3), .ref (h 4), .ref (h 5), .ref (h 6), .ref (h 7), .long (eC row), .int (nI hc), .int (nI un)])), (h 1, .inl (cJ, 8, .inr (.inl (fC (va_up T (tV bt bl (tE bt bl i)) (slipT (T (tV bt bl i)) (tV bt bl (tE bt bl (tE bt bl i))) (tV bt bl (tE bt bl (tE bt bl (tE bt bl i)))) (tV bt bl (tE bt bl (tE bt bl (tE bt bl (tE bt bl i))))))))))), (h 2, .inl (cI, 8, .inl (upd P (tV bt bl (tE bt bl i)) (nI (tV bt bl i)))))] := hD
                refine W.eq (g2 := F0 mG 119 ls []) rfl ?_
                refine lv_aload_n xh bh dX6_readHand_119 rfl (lv_at hl 4 rfl) ?_
                refine Ct.callV (As := []) (rest := []) (wr := [(h 0, .inr (2, [.ref (h 1), .ref (h 2), .ref (h 3), .ref (h 4), .ref (h 5), .ref (h 6), .ref (h 7), .long (eC row), .int (nI hc), .int (nI un)])), (h 1, .inl (cJ, 8, .inr (.inl (fC (va_up T (tV bt bl (tE bt bl i)) (slipT (T (tV bt bl i)) (tV bt bl (tE bt bl (tE bt bl i))) (tV bt bl (tE bt bl (tE bt bl (tE bt bl i)))) (tV bt bl (tE bt bl (tE bt bl (tE bt bl (tE bt bl i))))))))))), (h 2, .inl (cI, 8, .inl (upd P (tV bt bl (tE bt bl i)) (nI (tV bt bl i)))))]) xh bh hml hown hts hK hP hD hS hA (ct_X6_isEnded l D cI cJ cB cZ cA sc sb bl bt (nI (tS bt bl (tE bt bl (tE bt bl (tE bt bl (tE bt bl i)))))) (nI (tK bt bl (tE bt bl (tE bt bl (tE bt bl (tE bt bl i)))))) (nI (tV bt bl (tE bt bl (tE bt bl (tE bt bl (tE bt bl i)))))) (tE bt bl (tE bt bl (tE bt bl (tE bt bl (tE bt bl i))))) (by first | omega | assumption) (by first | omega | assumption) (by first | assumption)) (cwV 0 hts gX6_readHand_X6_isEnded rfl rfl rfl (by decide +kernel) ⟨Nat.le_of_ble_eq_true rfl, Nat.le_of_ble_eq_true rfl⟩) rfl rfl hl.1 (Nat.le_of_ble_eq_true rfl) dX6_readHand_120 ⟨Nat.le_refl _, Nat.le_refl _⟩ 0 4 rfl rfl rfl [0, 1] [2, 3, 4] rfl (by decide) rfl rfl (by decide) (by decide) (fun u_120 H locs hu_120 hP hD hS => ?_)
                have hP : va_P D vwCl [(h 0, .inr (2, [.ref (h 1), .ref (h 2), .ref (h 3), .ref (h 4), .ref (h 5), .ref (h 6), .ref (h 7), .long (eC row), .int (nI hc), .int (nI un)])), (h 1, .inl (cJ, 8, .inr (.inl (fC (va_up T (tV bt bl (tE bt bl i)) (slipT (T (tV bt bl i)) (tV bt bl (tE bt bl (tE bt bl i))) (tV bt bl (tE bt bl (tE bt bl (tE bt bl i)))) (tV bt bl (tE bt bl (tE bt bl (tE bt bl (tE bt bl i))))))))))), (h 2, .inl (cI, 8, .inl (upd P (tV bt bl (tE bt bl i)) (nI (tV bt bl i))))), (sc, .inr (4, [.ref sb, .int (nI bl), .int (nI (tS bt bl (tE bt bl (tE bt bl (tE bt bl (tE bt bl (tE bt bl i))))))), .int (nI (tE bt bl (tE bt bl (tE bt bl (tE bt bl (tE bt bl (tE bt bl i))))))), .int (nI (tK bt bl (tE bt bl (tE bt bl (tE bt bl (tE bt bl (tE bt bl i))))))), .int u_120])), (sb, .inl (cB, 150, .inl (fN bt)))] H := hP
                have hD : va_D AG [(h 0, .inr (2, [.ref (h 1), .ref (h 2), .ref (h 3), .ref (h 4), .ref (h 5), .ref (h 6), .ref (h 7), .long (eC row), .int (nI hc), .int (nI un)])), (h 1, .inl (cJ, 8, .inr (.inl (fC (va_up T (tV bt bl (tE bt bl i)) (slipT (T (tV bt bl i)) (tV bt bl (tE bt bl (tE bt bl i))) (tV bt bl (tE bt bl (tE bt bl (tE bt bl i)))) (tV bt bl (tE bt bl (tE bt bl (tE bt bl (tE bt bl i))))))))))), (h 2, .inl (cI, 8, .inl (upd P (tV bt bl (tE bt bl i)) (nI (tV bt bl i))))), (sc, .inr (4, [.ref sb, .int (nI bl), .int (nI (tS bt bl (tE bt bl (tE bt bl (tE bt bl (tE bt bl (tE bt bl i))))))), .int (nI (tE bt bl (tE bt bl (tE bt bl (tE bt bl (tE bt bl (tE bt bl i))))))), .int (nI (tK bt bl (tE bt bl (tE bt bl (tE bt bl (tE bt bl (tE bt bl i))))))), .int u_120])), (sb, .inl (cB, 150, .inl (fN bt)))] := hD
                refine W.eq (g2 := F0 mG 123 ls [.int (ib (decide (tK bt bl (tE bt bl (tE bt bl (tE bt bl (tE bt bl (tE bt bl i))))) = 3)))]) rfl ?_
                exact hend (ib (decide (tK bt bl (tE bt bl (tE bt bl (tE bt bl (tE bt bl (tE bt bl i))))) = 3))) (u_120, (va_up T (tV bt bl (tE bt bl i)) (slipT (T (tV bt bl i)) (tV bt bl (tE bt bl (tE bt bl i))) (tV bt bl (tE bt bl (tE bt bl (tE bt bl i)))) (tV bt bl (tE bt bl (tE bt bl (tE bt bl (tE bt bl i))))))), (upd P (tV bt bl (tE bt bl i)) (nI (tV bt bl i)))) _ _ _ _ (congrArg (fun z => some (Value.int (ib z))) (by rw [h9]; rfl)) (by rw [h9]; exact And.intro hu_120 (And.intro (okT_up hT (okT_slip (hT _) _ _ (by have := h8_89.2; omega)) _) (fun _ => And.intro rfl rfl))) (vz_ib _) dX6_readHand_123 (by rw [h9]; exact (hP.sub [3, 4, 0, 1, 2] rfl)) (by rw [h9]; exact (hD.sub [3, 4, 0, 1, 2] (by decide) rfl)) hS
              · have hn9 : itH4 bt bl T P (tV bt bl i) (tV bt bl (tE bt bl i)) (tV bt bl (tE bt bl (tE bt bl i))) (tE bt bl (tE bt bl (tE bt bl i))) (tE bt bl (tE bt bl (tE bt bl (tE bt bl i)))) = (false, (tE bt bl (tE bt bl (tE bt bl (tE bt bl i)))), T, P) := if_neg (fun q => of_decide_eq_false c_92 q)
                rw [hn9] at h9
                refine lv_iconst (v := (nI 0)) xh bh dX6_readHand_95 (by decide) ?_
                exact hend (nI 0) (u_89, T, P) _ _ _ _ (xb_ret0 (by rw [h9]; rfl)) (by rw [h9]; refine And.intro ?_ (And.intro hT (fun q => absurd q Bool.false_ne_true)); first | exact hu_3 | exact hu_32 | exact hu_55 | exact hu_72 | exact hu_89 | exact fun _ => rfl) (vz_bool (by decide)) dX6_readHand_96 (by rw [h9]; exact (hP.sub [3, 4, 1, 2, 0] rfl)) (by rw [h9]; exact (hD.sub [3, 4, 1, 2, 0] (by decide) rfl)) hS
            · have hn9 : itH3 bt bl T P (tV bt bl i) (tV bt bl (tE bt bl i)) (tV bt bl (tE bt bl (tE bt bl i))) (tE bt bl (tE bt bl (tE bt bl i))) = (false, (tE bt bl (tE bt bl (tE bt bl i))), T, P) := if_neg (fun q => of_decide_eq_false c_75 q)
              rw [hn9] at h9
              refine lv_iconst (v := (nI 0)) xh bh dX6_readHand_78 (by decide) ?_
              exact hend (nI 0) (u_72, T, P) _ _ _ _ (xb_ret0 (by rw [h9]; rfl)) (by rw [h9]; refine And.intro ?_ (And.intro hT (fun q => absurd q Bool.false_ne_true)); first | exact hu_3 | exact hu_32 | exact hu_55 | exact hu_72 | exact hu_89 | exact fun _ => rfl) (vz_bool (by decide)) dX6_readHand_79 (by rw [h9]; exact (hP.sub [3, 4, 1, 2, 0] rfl)) (by rw [h9]; exact (hD.sub [3, 4, 1, 2, 0] (by decide) rfl)) hS
          · have hn9 : itH2 bt bl T P (tV bt bl i) (tV bt bl (tE bt bl i)) (tE bt bl (tE bt bl i)) = (false, (tE bt bl (tE bt bl i)), T, P) := if_neg (fun q => of_decide_eq_false c_58 q)
            rw [hn9] at h9
            refine lv_iconst (v := (nI 0)) xh bh dX6_readHand_61 (by decide) ?_
            exact hend (nI 0) (u_55, T, P) _ _ _ _ (xb_ret0 (by rw [h9]; rfl)) (by rw [h9]; refine And.intro ?_ (And.intro hT (fun q => absurd q Bool.false_ne_true)); first | exact hu_3 | exact hu_32 | exact hu_55 | exact hu_72 | exact hu_89 | exact fun _ => rfl) (vz_bool (by decide)) dX6_readHand_62 (by rw [h9]; exact (hP.sub [3, 4, 1, 2, 0] rfl)) (by rw [h9]; exact (hD.sub [3, 4, 1, 2, 0] (by decide) rfl)) hS
        · have hn9 : itH1 bt bl T P (tV bt bl i) (tE bt bl i) = (false, (tE bt bl i), T, P) := if_neg (fun q => absurd q.2.1 (by omega))
          rw [hn9] at h9
          refine lv_iconst (v := (nI 0)) xh bh dX6_readHand_46 (by decide) ?_
          exact hend (nI 0) ((nI (tV bt bl (tE bt bl i))), T, P) _ _ _ _ (xb_ret0 (by rw [h9]; rfl)) (by rw [h9]; refine And.intro ?_ (And.intro hT (fun q => absurd q Bool.false_ne_true)); first | exact hu_3 | exact hu_32 | exact hu_55 | exact hu_72 | exact hu_89 | exact fun _ => rfl) (vz_bool (by decide)) dX6_readHand_47 (by rw [h9]; exact (hP.sub [3, 4, 1, 2, 0] rfl)) (by rw [h9]; exact (hD.sub [3, 4, 1, 2, 0] (by decide) rfl)) hS
    · have h9 : itH bt bl T P i = (false, i, T, P) := if_neg (fun q => q.2.2 c_19)
      refine lv_iconst (v := (nI 0)) xh bh dX6_readHand_22 (by decide) ?_
      exact hend (nI 0) ((nI (tV bt bl i)), T, P) _ _ _ _ (xb_ret0 (by rw [h9]; rfl)) (by rw [h9]; refine And.intro ?_ (And.intro hT (fun q => absurd q Bool.false_ne_true)); first | exact hu_3 | exact hu_32 | exact hu_55 | exact hu_72 | exact hu_89 | exact fun _ => rfl) (vz_bool (by decide)) dX6_readHand_23 (by rw [h9]; exact (hP.sub [1, 2, 3, 4, 0] rfl)) (by rw [h9]; exact (hD.sub [1, 2, 3, 4, 0] (by decide) rfl)) hS

set_option maxHeartbeats 1000000 in
set_option maxRecDepth 100000 in
theorem ct_X6_isWord (l : Launch) (D : va_G) (cI cJ cB cZ cA : ClassId) (adK adV : Nat → Nat) (sc : Nat) (sb : Nat) (bl : Nat) (bt : Nat → Nat) (nu : Int32) (i : Nat) (j : Nat) (hi : i ≤ bl) (hbl : bl ≤ 150) (hbt : ∀ k, bt k < 128) (hj : j < 3) : CtS l yX6_isWord wsX6_isWord ({ frames := 4, cells := 0, slots := 0, locals := 85 }) D (tysG cI cJ cB cZ cA) adK adV [.ref sc, .ref (adK j)] [(sc, .inr (4, [.ref sb, .int (nI bl), .int (nI (tS bt bl i)), .int (nI (tE bt bl i)), .int (nI (tK bt bl i)), .int nu])), (sb, .inl (cB, 150, .inl (fN bt)))] (fun (_ : Unit) => True) (fun _ => some (.int (ib (isW bt bl i (wdL j))))) (fun _ => [(sc, .inr (4, [.ref sb, .int (nI bl), .int (nI (tS bt bl i)), .int (nI (tE bt bl i)), .int (nI (tK bt bl i)), .int nu])), (sb, .inl (cB, 150, .inl (fN bt)))]) := by
  refine CtS.ofI (cc := cX6_isWord) (maxL := 3) (by decide) rfl (Nat.le_of_ble_eq_true rfl) ?_
  intro pG eG sG mG aG bG tG cG AG QG ls xh bh hml hown hts hK hSS hP hD hS hA hend hl
  have hl : lv_has ls 3 [(0, .ref sc), (1, .ref (adK j))] := hl
  have l1 := tE_le bt hi
  have l2 := tSE bt bl i
  have l3 := (wdL_b j hj).1
  refine lv_aload_n xh bh dX6_isWord_0 rfl (lv_at hl 0 rfl) ?_
  refine va_get (D := D) (ci := 4) (v := .int (nI (tK bt bl i))) (C := RX6) (T := TX6) (N := 6) xh bh hts (fun _ h => List.mem_cons_of_mem _ (List.mem_append_right _ (h))) hown hK.1 hP 0 rfl rfl 4 (by decide) (hts _ (List.mem_of_getElem? (i := 1) rfl)) (fun _ h9 => h9) rfl dX6_isWord_1 ?_
  refine lv_iconst (v := (nI 1)) xh bh dX6_isWord_4 (by decide) ?_
  refine xn_icmp_ne (tgt := 24) xh bh dX6_isWord_5 (by decide) (by have := tK_le bt bl i; omega) (by have := tK_le bt bl i; omega) (fun c_5 => ?_) (fun c_5 => ?_)
  · refine lv_iconst (v := (nI 0)) xh bh dX6_isWord_24 (by decide) ?_
    exact hend (nI 0) () _ _ _ _ (xb_ret0 (by first | exact decide_eq_false (fun q => c_5 q.1) | exact decide_eq_false (fun q => c_21 q.2.1))) trivial (vz_bool (by decide)) dX6_isWord_25 hP hD hS
  · refine lv_aload_n xh bh dX6_isWord_8 rfl (lv_at hl 0 rfl) ?_
    refine va_get (D := D) (ci := 4) (v := .int (nI (tE bt bl i))) (C := RX6) (T := TX6) (N := 6) xh bh hts (fun _ h => List.mem_cons_of_mem _ (List.mem_append_right _ (h))) hown hK.1 hP 0 rfl rfl 3 (by decide) (hts _ (List.mem_of_getElem? (i := 2) rfl)) (fun _ h9 => h9) rfl dX6_isWord_9 ?_
    refine lv_aload_n xh bh dX6_isWord_12 rfl (lv_at hl 0 rfl) ?_
    refine va_get (D := D) (ci := 4) (v := .int (nI (tS bt bl i))) (C := RX6) (T := TX6) (N := 6) xh bh hts (fun _ h => List.mem_cons_of_mem _ (List.mem_append_right _ (h))) hown hK.1 hP 0 rfl rfl 2 (by decide) (hts _ (List.mem_of_getElem? (i := 3) rfl)) (fun _ h9 => h9) rfl dX6_isWord_13 ?_
    refine xn_isub xh bh dX6_isWord_16 (by exact l2) ?_
    refine lv_aload_n xh bh dX6_isWord_17 rfl (lv_at hl 1 rfl) ?_
    refine CtS.callV0 (As := []) (rest := [.int (nI ((tE bt bl i) - (tS bt bl i)))]) xh bh hml hown hts hK hSS hP hS hA (by first | assumption | omega) (ct_J0_length l D cI cJ cB cZ cA adK adV j (by first | omega | assumption)) (cwV 0 hts gX6_isWord_J0_length_8abf5 rfl rfl rfl (by decide +kernel) ⟨Nat.le_of_ble_eq_true rfl, Nat.le_of_ble_eq_true rfl⟩) rfl rfl hl.1 (Nat.le_of_ble_eq_true rfl) dX6_isWord_18 ⟨Nat.le_refl _, Nat.le_refl _⟩ (fun _ H locs _ hP hS => ?_)
    refine W.eq (g2 := F0 mG 21 ls [.int (nI ((wdL j).length)), .int (nI ((tE bt bl i) - (tS bt bl i)))]) rfl ?_
    refine xn_icmp_eq (tgt := 26) xh bh dX6_isWord_21 (by decide) (by omega) (by omega) (fun c_21 => ?_) (fun c_21 => ?_)
    · refine lv_iconst (v := (nI 0)) xh bh dX6_isWord_26 (by decide) ?_
      refine lv_istore_n (lv' := [(2, .int (nI 0)), (0, .ref sc), (1, .ref (adK j))]) xh bh dX6_isWord_27 rfl hl (by decide) rfl (fun ls hl => ?_)
      have cut_28 : ∀ (n_28 : Nat), ∀ (k : Nat), (k ≤ (wdL j).length) → (∀ x, x < k → bt (tS bt bl i + x) = (wdL j).getD x 0) → ((wdL j).length - k) < n_28 → ∀ (H : Heap) (locs : List Loc) (ls : Array Slot), va_P D vwCl [(sc, .inr (4, [.ref sb, .int (nI bl), .int (nI (tS bt bl i)), .int (nI (tE bt bl i)), .int (nI (tK bt bl i)), .int nu])), (sb, .inl (cB, 150, .inl (fN bt)))] H → va_D AG [(sc, .inr (4, [.ref sb, .int (nI bl), .int (nI (tS bt bl i)), .int (nI (tE bt bl i)), .int (nI (tK bt bl i)), .int nu])), (sb, .inl (cB, 150, .inl (fN bt)))] → va_S AG sG.heap H locs → lv_has ls 3 [(0, .ref sc), (1, .ref (adK j)), (2, .int (nI k))] → W pG l eG ({ frames := 4, cells := 0, slots := 0, locals := 85 }) sG mG aG bG tG cG H locs 0 0 QG (F0 mG 28 ls []) := by
        intro n_28
        induction n_28 with
        | zero =>
          intro k hk hw hmu
          exact absurd hmu (Nat.not_lt_zero _)
        | succ n_28 ih_28 =>
          intro k hk hw hmu H locs ls hP hD hS hl
          refine lv_iload_n xh bh dX6_isWord_28 rfl (lv_at hl 2 rfl) ?_
          refine lv_aload_n xh bh dX6_isWord_29 rfl (lv_at hl 1 rfl) ?_
          refine CtS.callV0 (As := []) (rest := [.int (nI k)]) xh bh hml hown hts hK hSS hP hS hA (by first | assumption | omega) (ct_J0_length l D cI cJ cB cZ cA adK adV j (by first | omega | assumption)) (cwV 0 hts gX6_isWord_J0_length_8abf5 rfl rfl rfl (by decide +kernel) ⟨Nat.le_of_ble_eq_true rfl, Nat.le_of_ble_eq_true rfl⟩) rfl rfl hl.1 (Nat.le_of_ble_eq_true rfl) dX6_isWord_30 ⟨Nat.le_refl _, Nat.le_refl _⟩ (fun _ H locs _ hP hS => ?_)
          refine W.eq (g2 := F0 mG 33 ls [.int (nI ((wdL j).length)), .int (nI k)]) rfl ?_
          refine xn_icmp_ge (tgt := 62) xh bh dX6_isWord_33 (by decide) (by omega) (by omega) (fun c_33 => ?_) (fun c_33 => ?_)
          · refine lv_iconst (v := (nI 1)) xh bh dX6_isWord_62 (by decide) ?_
            exact hend (nI 1) () _ _ _ _ (xb_ret1 (by exact decide_eq_true (And.intro c_5 (And.intro c_21 (fun x hx => hw x (by omega)))))) trivial (vz_bool (by decide)) dX6_isWord_63 hP hD hS
          · refine lv_aload_n xh bh dX6_isWord_36 rfl (lv_at hl 0 rfl) ?_
            refine lv_aload_n xh bh dX6_isWord_37 rfl (lv_at hl 0 rfl) ?_
            refine va_get (D := D) (ci := 4) (v := .int (nI (tS bt bl i))) (C := RX6) (T := TX6) (N := 6) xh bh hts (fun _ h => List.mem_cons_of_mem _ (List.mem_append_right _ (h))) hown hK.1 hP 0 rfl rfl 2 (by decide) (hts _ (List.mem_of_getElem? (i := 3) rfl)) (fun _ h9 => h9) rfl dX6_isWord_38 ?_
            refine lv_iload_n xh bh dX6_isWord_41 rfl (lv_at hl 2 rfl) ?_
            refine xn_iadd xh bh dX6_isWord_42 ?_
            refine Ct.callV (As := [.int (nI ((tS bt bl i) + k))]) (rest := []) (wr := []) xh bh hml hown hts hK hP hD hS hA (ct_X6_byteIn l D cI cJ cB cZ cA sc sb bl bt (nI (tS bt bl i)) (nI (tE bt bl i)) (nI (tK bt bl i)) nu ((tS bt bl i) + k) (by omega) (by first | omega | assumption)) (cwV 1 hts gX6_isWord_X6_byteIn rfl rfl rfl (by decide +kernel) ⟨Nat.le_of_ble_eq_true rfl, Nat.le_of_ble_eq_true rfl⟩) rfl rfl hl.1 (Nat.le_of_ble_eq_true rfl) dX6_isWord_43 ⟨Nat.le_refl _, Nat.le_refl _⟩ 0 4 rfl rfl rfl [0, 1] [] rfl (by decide) rfl rfl (by decide) (by decide) (fun _ H locs _ hP hD hS => ?_)
            have hP : va_P D vwCl [(sc, .inr (4, [.ref sb, .int (nI bl), .int (nI (tS bt bl i)), .int (nI (tE bt bl i)), .int (nI (tK bt bl i)), .int nu])), (sb, .inl (cB, 150, .inl (fN bt)))] H := hP
            have hD : va_D AG [(sc, .inr (4, [.ref sb, .int (nI bl), .int (nI (tS bt bl i)), .int (nI (tE bt bl i)), .int (nI (tK bt bl i)), .int nu])), (sb, .inl (cB, 150, .inl (fN bt)))] := hD
            refine W.eq (g2 := F0 mG 46 ls [.int (nI (bt ((tS bt bl i) + k)))]) rfl ?_
            refine lv_aload_n xh bh dX6_isWord_46 rfl (lv_at hl 1 rfl) ?_
            refine lv_iload_n xh bh dX6_isWord_47 rfl (lv_at hl 2 rfl) ?_
            refine CtS.callV0 (As := [.int (nI k)]) (rest := [.int (nI (bt ((tS bt bl i) + k)))]) xh bh hml hown hts hK hSS hP hS hA (by first | assumption | omega) (ct_J0_charAt l D cI cJ cB cZ cA adK adV j k (by first | omega | assumption) (by first | omega | assumption)) (cwV 1 hts gX6_isWord_J0_charAt_5068e rfl rfl rfl (by decide +kernel) ⟨Nat.le_of_ble_eq_true rfl, Nat.le_of_ble_eq_true rfl⟩) rfl rfl hl.1 (Nat.le_of_ble_eq_true rfl) dX6_isWord_48 ⟨Nat.le_refl _, Nat.le_refl _⟩ (fun _ H locs _ hP hS => ?_)
            refine W.eq (g2 := F0 mG 51 ls [.int (nI ((wdL j).getD k 0)), .int (nI (bt ((tS bt bl i) + k)))]) rfl ?_
            refine xn_icmp_eq (tgt := 56) xh bh dX6_isWord_51 (by decide) (by have := hbt (tS bt bl i + k); have := (wdL_b j hj).2 k (by omega); omega) (by have := hbt (tS bt bl i + k); have := (wdL_b j hj).2 k (by omega); omega) (fun c_51 => ?_) (fun c_51 => ?_)
            · refine lv_iinc (v := (nI (k + 1))) (lv' := [(2, .int (nI (k + 1))), (0, .ref sc), (1, .ref (adK j))]) xh bh dX6_isWord_56 hl (k := 2) rfl (by exact xn_inc _ _) (by decide) rfl (fun ls hl => ?_)
              refine lv_goto (tgt := 28) xh bh dX6_isWord_59 (by decide) ?_
              exact ih_28 (k + 1) (by omega) (by intro x hx; rcases Nat.lt_or_ge x k with z | z; exact hw x z; rw [show x = k by omega]; exact c_51) (by omega) _ _ ls hP hD hS (lv_sub hl [1, 2, 0] rfl)
            · refine lv_iconst (v := (nI 0)) xh bh dX6_isWord_54 (by decide) ?_
              exact hend (nI 0) () _ _ _ _ (xb_ret0 (by exact decide_eq_false (fun q => c_51 (q.2.2 k c_33)))) trivial (vz_bool (by decide)) dX6_isWord_55 hP hD hS
      exact cut_28 ((wdL j).length - 0 + 1) 0 (by exact Nat.zero_le _) (by exact fun x q => absurd q (Nat.not_lt_zero _)) (Nat.lt_succ_self _) _ _ ls hP hD hS (lv_sub hl [1, 2, 0] rfl)
    · refine lv_iconst (v := (nI 0)) xh bh dX6_isWord_24 (by decide) ?_
      exact hend (nI 0) () _ _ _ _ (xb_ret0 (by first | exact decide_eq_false (fun q => c_5 q.1) | exact decide_eq_false (fun q => c_21 q.2.1))) trivial (vz_bool (by decide)) dX6_isWord_25 hP hD hS

set_option maxHeartbeats 1000000 in
set_option maxRecDepth 100000 in
theorem ct_X6_readInto (l : Launch) (D : va_G) (cI cJ cB cZ cA : ClassId) (adK adV : Nat → Nat) (sc : Nat) (sb : Nat) (bl : Nat) (bt : Nat → Nat) (st : Int32) (be : Int32) (tk : Int32) (nu : Int32) (h : Nat → Nat) (T : Nat → List Nat) (P : Nat → Int32) (row : List Nat) (hc : Nat) (un : Nat) (hbl : bl ≤ 150) (hbt : ∀ k, bt k < 128) (hT : ∀ k, okT (T k)) : CtS l yX6_readInto wsX6_readInto ({ frames := 6, cells := 0, slots := 0, locals := 143 }) D (tysG cI cJ cB cZ cA) adK adV [.ref sc, .ref (h 0)] [(sc, .inr (4, [.ref sb, .int (nI bl), .int st, .int be, .int tk, .int nu])), (sb, .inl (cB, 150, .inl (fN bt))), (h 0, .inr (2, [.ref (h 1), .ref (h 2), .ref (h 3), .ref (h 4), .ref (h 5), .ref (h 6), .ref (h 7), .long (eC row), .int (nI hc), .int (nI un)])), (h 1, .inl (cJ, 8, .inr (.inl (fC T)))), (h 2, .inl (cI, 8, .inl P))] (fun (u : Int32 × Int32 × Int32 × Int32 × (Nat → List Nat) × (Nat → Int32)) => (∀ k, okT (u.2.2.2.2.1 k)) ∧ ((rdA bt bl (flT T [] 8) (flI P (-1) 8)).1 = true → u.2.2.2.2.1 = (rdA bt bl (flT T [] 8) (flI P (-1) 8)).2.2.1 ∧ u.2.2.2.2.2 = (rdA bt bl (flT T [] 8) (flI P (-1) 8)).2.2.2)) (fun u => some (.int ((rdA bt bl (flT T [] 8) (flI P (-1) 8)).2.1))) (fun u => [(sc, .inr (4, [.ref sb, .int (nI bl), .int u.1, .int u.2.1, .int u.2.2.1, .int u.2.2.2.1])), (sb, .inl (cB, 150, .inl (fN bt))), (h 0, .inr (2, [.ref (h 1), .ref (h 2), .ref (h 3), .ref (h 4), .ref (h 5), .ref (h 6), .ref (h 7), .long (eC ([])), .int (nI 0), .int (nI 0)])), (h 1, .inl (cJ, 8, .inr (.inl (fC u.2.2.2.2.1)))), (h 2, .inl (cI, 8, .inl u.2.2.2.2.2))]) := by
  refine CtS.ofI (cc := cX6_readInto) (maxL := 4) (by decide) rfl (Nat.le_of_ble_eq_true rfl) ?_
  intro pG eG sG mG aG bG tG cG AG QG ls xh bh hml hown hts hK hSS hP hD hS hA hend hl
  have hl : lv_has ls 4 [(0, .ref sc), (1, .ref (h 0))] := hl
  have hT0 : ∀ k, okT (flT T [] 8 k) := fun k => by
    unfold flT
    by_cases q : k < 8
    · rw [if_pos q]; exact okT_nil
    · rw [if_neg q]; exact hT k
  have l0 := Nat.zero_le bl
  have l1 := tE_le bt l0
  have l2 := tE_le bt l1
  refine lv_aload_n xh bh dX6_readInto_0 rfl (lv_at hl 1 rfl) ?_
  refine Ct.callV (As := []) (rest := []) (wr := [(sc, .inr (4, [.ref sb, .int (nI bl), .int st, .int be, .int tk, .int nu])), (sb, .inl (cB, 150, .inl (fN bt)))]) xh bh hml hown hts hK hP hD hS hA (ct_X3_becomeNew l D cI cJ cB cZ cA h T P row hc un ) (cwV 0 hts gX6_readInto_X3_becomeNew rfl rfl rfl (by decide +kernel) ⟨Nat.le_of_ble_eq_true rfl, Nat.le_of_ble_eq_true rfl⟩) rfl rfl hl.1 (Nat.le_of_ble_eq_true rfl) dX6_readInto_1 ⟨Nat.le_refl _, Nat.le_refl _⟩ 0 2 rfl rfl rfl [2, 3, 4] [0, 1] rfl (by decide) rfl rfl (by decide) (by decide) (fun _ H locs _ hP hD hS => ?_)
  have hP : va_P D vwCl [(sc, .inr (4, [.ref sb, .int (nI bl), .int st, .int be, .int tk, .int nu])), (sb, .inl (cB, 150, .inl (fN bt))), (h 0, .inr (2, [.ref (h 1), .ref (h 2), .ref (h 3), .ref (h 4), .ref (h 5), .ref (h 6), .ref (h 7), .long (eC ([])), .int (nI 0), .int (nI 0)])), (h 1, .inl (cJ, 8, .inr (.inl (fC (flT T [] 8))))), (h 2, .inl (cI, 8, .inl (flI P (-1) 8)))] H := hP
  have hD : va_D AG [(sc, .inr (4, [.ref sb, .int (nI bl), .int st, .int be, .int tk, .int nu])), (sb, .inl (cB, 150, .inl (fN bt))), (h 0, .inr (2, [.ref (h 1), .ref (h 2), .ref (h 3), .ref (h 4), .ref (h 5), .ref (h 6), .ref (h 7), .long (eC ([])), .int (nI 0), .int (nI 0)])), (h 1, .inl (cJ, 8, .inr (.inl (fC (flT T [] 8))))), (h 2, .inl (cI, 8, .inl (flI P (-1) 8)))] := hD
  refine W.eq (g2 := F0 mG 4 ls []) rfl ?_
  refine lv_aload_n xh bh dX6_readInto_4 rfl (lv_at hl 0 rfl) ?_
  refine lv_iconst (v := (nI 0)) xh bh dX6_readInto_5 (by decide) ?_
  refine va_put (D := D) (ci := 4) (v := .int (nI 0)) (ty := .int) (C := RX6) (T := TX6) (N := 6) xh bh hts (fun _ h => List.mem_cons_of_mem _ (List.mem_append_left _ (List.mem_append_right _ (h)))) tyX6 tyX6_ok nmX6 hown hK.1 hP hD hS 0 rfl rfl 3 (by decide) (hts _ (List.mem_of_getElem? (i := 1) rfl)) (fun _ h9 => h9) rfl (by decide +kernel) (by rfl) (by rfl) (Nat.le_of_ble_eq_true rfl) dX6_readInto_6 (fun H locs hP hD hS => ?_)
  have hP : va_P D vwCl [(sc, .inr (4, [.ref sb, .int (nI bl), .int st, .int (nI 0), .int tk, .int nu])), (sb, .inl (cB, 150, .inl (fN bt))), (h 0, .inr (2, [.ref (h 1), .ref (h 2), .ref (h 3), .ref (h 4), .ref (h 5), .ref (h 6), .ref (h 7), .long (eC ([])), .int (nI 0), .int (nI 0)])), (h 1, .inl (cJ, 8, .inr (.inl (fC (flT T [] 8))))), (h 2, .inl (cI, 8, .inl (flI P (-1) 8)))] H := hP
  have hD : va_D AG [(sc, .inr (4, [.ref sb, .int (nI bl), .int st, .int (nI 0), .int tk, .int nu])), (sb, .inl (cB, 150, .inl (fN bt))), (h 0, .inr (2, [.ref (h 1), .ref (h 2), .ref (h 3), .ref (h 4), .ref (h 5), .ref (h 6), .ref (h 7), .long (eC ([])), .int (nI 0), .int (nI 0)])), (h 1, .inl (cJ, 8, .inr (.inl (fC (flT T [] 8))))), (h 2, .inl (cI, 8, .inl (flI P (-1) 8)))] := hD
  refine lv_aload_n xh bh dX6_readInto_9 rfl (lv_at hl 0 rfl) ?_
  refine Ct.callV (As := []) (rest := []) (wr := [(h 0, .inr (2, [.ref (h 1), .ref (h 2), .ref (h 3), .ref (h 4), .ref (h 5), .ref (h 6), .ref (h 7), .long (eC ([])), .int (nI 0), .int (nI 0)])), (h 1, .inl (cJ, 8, .inr (.inl (fC (flT T [] 8))))), (h 2, .inl (cI, 8, .inl (flI P (-1) 8)))]) xh bh hml hown hts hK hP hD hS hA (ct_X6_look l D cI cJ cB cZ cA sc sb bl bt st tk nu 0 (by first | omega | assumption) (by first | omega | assumption) (by first | assumption)) (cwV 0 hts gX6_readInto_X6_look rfl rfl rfl (by decide +kernel) ⟨Nat.le_of_ble_eq_true rfl, Nat.le_of_ble_eq_true rfl⟩) rfl rfl hl.1 (Nat.le_of_ble_eq_true rfl) dX6_readInto_10 ⟨Nat.le_refl _, Nat.le_refl _⟩ 0 4 rfl rfl rfl [0, 1] [2, 3, 4] rfl (by decide) rfl rfl (by decide) (by decide) (fun u_10 H locs hu_10 hP hD hS => ?_)
  have hP : va_P D vwCl [(h 0, .inr (2, [.ref (h 1), .ref (h 2), .ref (h 3), .ref (h 4), .ref (h 5), .ref (h 6), .ref (h 7), .long (eC ([])), .int (nI 0), .int (nI 0)])), (h 1, .inl (cJ, 8, .inr (.inl (fC (flT T [] 8))))), (h 2, .inl (cI, 8, .inl (flI P (-1) 8))), (sc, .inr (4, [.ref sb, .int (nI bl), .int (nI (tS bt bl 0)), .int (nI (tE bt bl 0)), .int (nI (tK bt bl 0)), .int u_10])), (sb, .inl (cB, 150, .inl (fN bt)))] H := hP
  have hD : va_D AG [(h 0, .inr (2, [.ref (h 1), .ref (h 2), .ref (h 3), .ref (h 4), .ref (h 5), .ref (h 6), .ref (h 7), .long (eC ([])), .int (nI 0), .int (nI 0)])), (h 1, .inl (cJ, 8, .inr (.inl (fC (flT T [] 8))))), (h 2, .inl (cI, 8, .inl (flI P (-1) 8))), (sc, .inr (4, [.ref sb, .int (nI bl), .int (nI (tS bt bl 0)), .int (nI (tE bt bl 0)), .int (nI (tK bt bl 0)), .int u_10])), (sb, .inl (cB, 150, .inl (fN bt)))] := hD
  refine W.eq (g2 := F0 mG 13 ls []) rfl ?_
  refine lv_aload_n xh bh dX6_readInto_13 rfl (lv_at hl 0 rfl) ?_
  refine va_ldcS xh bh hown hSS.2.1 dX6_readInto_14 ?_
  refine CtS.callV (As := [.ref (adK 0)]) (rest := []) (wr := [(h 0, .inr (2, [.ref (h 1), .ref (h 2), .ref (h 3), .ref (h 4), .ref (h 5), .ref (h 6), .ref (h 7), .long (eC ([])), .int (nI 0), .int (nI 0)])), (h 1, .inl (cJ, 8, .inr (.inl (fC (flT T [] 8))))), (h 2, .inl (cI, 8, .inl (flI P (-1) 8)))]) xh bh hml hown hts hK hSS hP hD hS hA (ct_X6_isWord l D cI cJ cB cZ cA adK adV sc sb bl bt u_10 0 0 (by first | omega | assumption) (by first | omega | assumption) (by first | assumption) (by first | omega | assumption)) (cwV 1 hts gX6_readInto_X6_isWord rfl rfl rfl (by decide +kernel) ⟨Nat.le_of_ble_eq_true rfl, Nat.le_of_ble_eq_true rfl⟩) rfl rfl hl.1 (Nat.le_of_ble_eq_true rfl) dX6_readInto_16 ⟨Nat.le_refl _, Nat.le_refl _⟩ 0 4 rfl rfl rfl [3, 4] [0, 1, 2] rfl (by decide) rfl rfl (by decide) (by decide) (fun _ H locs _ hP hD hS => ?_)
  have hP : va_P D vwCl [(h 0, .inr (2, [.ref (h 1), .ref (h 2), .ref (h 3), .ref (h 4), .ref (h 5), .ref (h 6), .ref (h 7), .long (eC ([])), .int (nI 0), .int (nI 0)])), (h 1, .inl (cJ, 8, .inr (.inl (fC (flT T [] 8))))), (h 2, .inl (cI, 8, .inl (flI P (-1) 8))), (sc, .inr (4, [.ref sb, .int (nI bl), .int (nI (tS bt bl 0)), .int (nI (tE bt bl 0)), .int (nI (tK bt bl 0)), .int u_10])), (sb, .inl (cB, 150, .inl (fN bt)))] H := hP
  have hD : va_D AG [(h 0, .inr (2, [.ref (h 1), .ref (h 2), .ref (h 3), .ref (h 4), .ref (h 5), .ref (h 6), .ref (h 7), .long (eC ([])), .int (nI 0), .int (nI 0)])), (h 1, .inl (cJ, 8, .inr (.inl (fC (flT T [] 8))))), (h 2, .inl (cI, 8, .inl (flI P (-1) 8))), (sc, .inr (4, [.ref sb, .int (nI bl), .int (nI (tS bt bl 0)), .int (nI (tE bt bl 0)), .int (nI (tK bt bl 0)), .int u_10])), (sb, .inl (cB, 150, .inl (fN bt)))] := hD
  refine W.eq (g2 := F0 mG 19 ls [.int (ib (isW bt bl 0 (wdL 0)))]) rfl ?_
  refine xb_if_eq (tgt := 29) xh bh dX6_readInto_19 (by decide) (fun c_19 => ?_) (fun c_19 => ?_)
  · have h9 := rdA_1 (T := flT T [] 8) (P := flI P (-1) 8) c_19
    refine lv_bipush (v := (-10)) xh bh dX6_readInto_29 (by decide) ?_
    refine lv_aload_n xh bh dX6_readInto_31 rfl (lv_at hl 0 rfl) ?_
    refine va_get (D := D) (ci := 4) (v := .int (nI (tS bt bl 0))) (C := RX6) (T := TX6) (N := 6) xh bh hts (fun _ h => List.mem_cons_of_mem _ (List.mem_append_left _ (List.mem_append_right _ (h)))) hown hK.1 hP 3 rfl rfl 2 (by decide) (hts _ (List.mem_of_getElem? (i := 2) rfl)) (fun _ h9 => h9) rfl dX6_readInto_32 ?_
    refine lv_isub xh bh dX6_readInto_35 ?_
    exact hend ((-10) - (nI (tS bt bl 0))) ((nI (tS bt bl 0)), (nI (tE bt bl 0)), (nI (tK bt bl 0)), u_10, (flT T [] 8), (flI P (-1) 8)) _ _ _ _ (congrArg (fun z => some (Value.int z)) (by rw [h9])) (by rw [h9]; first | exact And.intro hok (fun _ => And.intro rfl rfl) | exact And.intro hT0 (fun q => absurd q Bool.false_ne_true) | exact And.intro hok (fun q => absurd q Bool.false_ne_true) | exact And.intro hk_71 (fun q => absurd q Bool.false_ne_true) | exact And.intro hk_88 (fun q => absurd q Bool.false_ne_true)) rfl dX6_readInto_36 (by exact (hP.sub [3, 4, 0, 1, 2] rfl)) (by exact (hD.sub [3, 4, 0, 1, 2] (by decide) rfl)) hS
  · refine lv_aload_n xh bh dX6_readInto_22 rfl (lv_at hl 0 rfl) ?_
    refine Ct.callV (As := []) (rest := []) (wr := [(h 0, .inr (2, [.ref (h 1), .ref (h 2), .ref (h 3), .ref (h 4), .ref (h 5), .ref (h 6), .ref (h 7), .long (eC ([])), .int (nI 0), .int (nI 0)])), (h 1, .inl (cJ, 8, .inr (.inl (fC (flT T [] 8))))), (h 2, .inl (cI, 8, .inl (flI P (-1) 8)))]) xh bh hml hown hts hK hP hD hS hA (ct_X6_isEnded l D cI cJ cB cZ cA sc sb bl bt (nI (tS bt bl 0)) (nI (tK bt bl 0)) u_10 (tE bt bl 0) (by first | omega | assumption) (by first | omega | assumption) (by first | assumption)) (cwV 0 hts gX6_readInto_X6_isEnded rfl rfl rfl (by decide +kernel) ⟨Nat.le_of_ble_eq_true rfl, Nat.le_of_ble_eq_true rfl⟩) rfl rfl hl.1 (Nat.le_of_ble_eq_true rfl) dX6_readInto_23 ⟨Nat.le_refl _, Nat.le_refl _⟩ 0 4 rfl rfl rfl [3, 4] [0, 1, 2] rfl (by decide) rfl rfl (by decide) (by decide) (fun u_23 H locs hu_23 hP hD hS => ?_)
    have hP : va_P D vwCl [(h 0, .inr (2, [.ref (h 1), .ref (h 2), .ref (h 3), .ref (h 4), .ref (h 5), .ref (h 6), .ref (h 7), .long (eC ([])), .int (nI 0), .int (nI 0)])), (h 1, .inl (cJ, 8, .inr (.inl (fC (flT T [] 8))))), (h 2, .inl (cI, 8, .inl (flI P (-1) 8))), (sc, .inr (4, [.ref sb, .int (nI bl), .int (nI (tS bt bl (tE bt bl 0))), .int (nI (tE bt bl (tE bt bl 0))), .int (nI (tK bt bl (tE bt bl 0))), .int u_23])), (sb, .inl (cB, 150, .inl (fN bt)))] H := hP
    have hD : va_D AG [(h 0, .inr (2, [.ref (h 1), .ref (h 2), .ref (h 3), .ref (h 4), .ref (h 5), .ref (h 6), .ref (h 7), .long (eC ([])), .int (nI 0), .int (nI 0)])), (h 1, .inl (cJ, 8, .inr (.inl (fC (flT T [] 8))))), (h 2, .inl (cI, 8, .inl (flI P (-1) 8))), (sc, .inr (4, [.ref sb, .int (nI bl), .int (nI (tS bt bl (tE bt bl 0))), .int (nI (tE bt bl (tE bt bl 0))), .int (nI (tK bt bl (tE bt bl 0))), .int u_23])), (sb, .inl (cB, 150, .inl (fN bt)))] := hD
    refine W.eq (g2 := F0 mG 26 ls [.int (ib (decide (tK bt bl (tE bt bl 0) = 3)))]) rfl ?_
    refine xb_if_ne (tgt := 37) xh bh dX6_readInto_26 (by decide) (fun c_26 => ?_) (fun c_26 => ?_)
    · refine lv_iconst (v := (nI 1)) xh bh dX6_readInto_37 (by decide) ?_
      refine lv_istore_n (lv' := [(2, .int (nI 1)), (0, .ref sc), (1, .ref (h 0))]) xh bh dX6_readInto_38 rfl hl (by decide) rfl (fun ls hl => ?_)
      have cut_39 : ∀ (n_39 : Nat), ∀ (k : Nat), ∀ (i : Nat), ∀ (T1 : Nat → List Nat), ∀ (P1 : Nat → Int32), ∀ (x1 : Int32), ∀ (x2 : Int32), ∀ (x3 : Int32), (1 ≤ k) → (k ≤ i) → (i ≤ bl) → (∀ k, okT (T1 k)) → ((rdA bt bl (flT T [] 8) (flI P (-1) 8)) = rdL bt bl (bl + 1 - k) k i T1 P1) → (bl + 1 - k) < n_39 → ∀ (H : Heap) (locs : List Loc) (ls : Array Slot), va_P D vwCl [(sc, .inr (4, [.ref sb, .int (nI bl), .int x1, .int (nI i), .int x2, .int x3])), (sb, .inl (cB, 150, .inl (fN bt))), (h 0, .inr (2, [.ref (h 1), .ref (h 2), .ref (h 3), .ref (h 4), .ref (h 5), .ref (h 6), .ref (h 7), .long (eC ([])), .int (nI 0), .int (nI 0)])), (h 1, .inl (cJ, 8, .inr (.inl (fC T1)))), (h 2, .inl (cI, 8, .inl P1))] H → va_D AG [(sc, .inr (4, [.ref sb, .int (nI bl), .int x1, .int (nI i), .int x2, .int x3])), (sb, .inl (cB, 150, .inl (fN bt))), (h 0, .inr (2, [.ref (h 1), .ref (h 2), .ref (h 3), .ref (h 4), .ref (h 5), .ref (h 6), .ref (h 7), .long (eC ([])), .int (nI 0), .int (nI 0)])), (h 1, .inl (cJ, 8, .inr (.inl (fC T1)))), (h 2, .inl (cI, 8, .inl P1))] → va_S AG sG.heap H locs → lv_has ls 4 [(0, .ref sc), (1, .ref (h 0)), (2, .int (nI k))] → W pG l eG ({ frames := 6, cells := 0, slots := 0, locals := 143 }) sG mG aG bG tG cG H locs 0 0 QG (F0 mG 39 ls []) := by
        intro n_39
        induction n_39 with
        | zero =>
          intro k i T1 P1 x1 x2 x3 h1 h2 h3 hok hr hmu
          exact absurd hmu (Nat.not_lt_zero _)
        | succ n_39 ih_39 =>
          intro k i T1 P1 x1 x2 x3 h1 h2 h3 hok hr hmu H locs ls hP hD hS hl
          refine lv_iload_n xh bh dX6_readInto_39 rfl (lv_at hl 2 rfl) ?_
          refine lv_aload_n xh bh dX6_readInto_40 rfl (lv_at hl 0 rfl) ?_
          refine va_get (D := D) (ci := 4) (v := .int (nI bl)) (C := RX6) (T := TX6) (N := 6) xh bh hts (fun _ h => List.mem_cons_of_mem _ (List.mem_append_left _ (List.mem_append_right _ (h)))) hown hK.1 hP 0 rfl rfl 1 (by decide) (hts _ (List.mem_of_getElem? (i := 3) rfl)) (fun _ h9 => h9) rfl dX6_readInto_41 ?_
          refine xn_icmp_gt (tgt := 118) xh bh dX6_readInto_44 (by decide) (by omega) (by omega) (fun c_44 => ?_) (fun c_44 => ?_)
          · exact absurd c_44 (by omega)
          · refine lv_aload_n xh bh dX6_readInto_47 rfl (lv_at hl 0 rfl) ?_
            refine Ct.callV (As := []) (rest := []) (wr := [(h 0, .inr (2, [.ref (h 1), .ref (h 2), .ref (h 3), .ref (h 4), .ref (h 5), .ref (h 6), .ref (h 7), .long (eC ([])), .int (nI 0), .int (nI 0)])), (h 1, .inl (cJ, 8, .inr (.inl (fC T1)))), (h 2, .inl (cI, 8, .inl P1))]) xh bh hml hown hts hK hP hD hS hA (ct_X6_look l D cI cJ cB cZ cA sc sb bl bt x1 x2 x3 i (by first | omega | assumption) (by first | omega | assumption) (by first | assumption)) (cwV 0 hts gX6_readInto_X6_look rfl rfl rfl (by decide +kernel) ⟨Nat.le_of_ble_eq_true rfl, Nat.le_of_ble_eq_true rfl⟩) rfl rfl hl.1 (Nat.le_of_ble_eq_true rfl) dX6_readInto_48 ⟨Nat.le_refl _, Nat.le_refl _⟩ 0 4 rfl rfl rfl [0, 1] [2, 3, 4] rfl (by decide) rfl rfl (by decide) (by decide) (fun u_48 H locs hu_48 hP hD hS => ?_)
            have hP : va_P D vwCl [(h 0, .inr (2, [.ref (h 1), .ref (h 2), .ref (h 3), .ref (h 4), .ref (h 5), .ref (h 6), .ref (h 7), .long (eC ([])), .int (nI 0), .int (nI 0)])), (h 1, .inl (cJ, 8, .inr (.inl (fC T1)))), (h 2, .inl (cI, 8, .inl P1)), (sc, .inr (4, [.ref sb, .int (nI bl), .int (nI (tS bt bl i)), .int (nI (tE bt bl i)), .int (nI (tK bt bl i)), .int u_48])), (sb, .inl (cB, 150, .inl (fN bt)))] H := hP
            have hD : va_D AG [(h 0, .inr (2, [.ref (h 1), .ref (h 2), .ref (h 3), .ref (h 4), .ref (h 5), .ref (h 6), .ref (h 7), .long (eC ([])), .int (nI 0), .int (nI 0)])), (h 1, .inl (cJ, 8, .inr (.inl (fC T1)))), (h 2, .inl (cI, 8, .inl P1)), (sc, .inr (4, [.ref sb, .int (nI bl), .int (nI (tS bt bl i)), .int (nI (tE bt bl i)), .int (nI (tK bt bl i)), .int u_48])), (sb, .inl (cB, 150, .inl (fN bt)))] := hD
            refine W.eq (g2 := F0 mG 51 ls []) rfl ?_
            refine lv_aload_n xh bh dX6_readInto_51 rfl (lv_at hl 0 rfl) ?_
            refine va_get (D := D) (ci := 4) (v := .int (nI (tK bt bl i))) (C := RX6) (T := TX6) (N := 6) xh bh hts (fun _ h => List.mem_cons_of_mem _ (List.mem_append_left _ (List.mem_append_right _ (h)))) hown hK.1 hP 3 rfl rfl 4 (by decide) (hts _ (List.mem_of_getElem? (i := 4) rfl)) (fun _ h9 => h9) rfl dX6_readInto_52 ?_
            refine xn_if_ne (tgt := 60) xh bh dX6_readInto_55 (by decide) (by have := tK_le bt bl i; omega) (fun c_55 => ?_) (fun c_55 => ?_)
            · have l3 := tE_le bt h3
              refine lv_aload_n xh bh dX6_readInto_60 rfl (lv_at hl 0 rfl) ?_
              refine va_ldcS xh bh hown hSS.2.2.1 dX6_readInto_61 ?_
              refine CtS.callV (As := [.ref (adK 1)]) (rest := []) (wr := [(h 0, .inr (2, [.ref (h 1), .ref (h 2), .ref (h 3), .ref (h 4), .ref (h 5), .ref (h 6), .ref (h 7), .long (eC ([])), .int (nI 0), .int (nI 0)])), (h 1, .inl (cJ, 8, .inr (.inl (fC T1)))), (h 2, .inl (cI, 8, .inl P1))]) xh bh hml hown hts hK hSS hP hD hS hA (ct_X6_isWord l D cI cJ cB cZ cA adK adV sc sb bl bt u_48 i 1 (by first | omega | assumption) (by first | omega | assumption) (by first | assumption) (by first | omega | assumption)) (cwV 1 hts gX6_readInto_X6_isWord rfl rfl rfl (by decide +kernel) ⟨Nat.le_of_ble_eq_true rfl, Nat.le_of_ble_eq_true rfl⟩) rfl rfl hl.1 (Nat.le_of_ble_eq_true rfl) dX6_readInto_63 ⟨Nat.le_refl _, Nat.le_refl _⟩ 0 4 rfl rfl rfl [3, 4] [0, 1, 2] rfl (by decide) rfl rfl (by decide) (by decide) (fun _ H locs _ hP hD hS => ?_)
              have hP : va_P D vwCl [(h 0, .inr (2, [.ref (h 1), .ref (h 2), .ref (h 3), .ref (h 4), .ref (h 5), .ref (h 6), .ref (h 7), .long (eC ([])), .int (nI 0), .int (nI 0)])), (h 1, .inl (cJ, 8, .inr (.inl (fC T1)))), (h 2, .inl (cI, 8, .inl P1)), (sc, .inr (4, [.ref sb, .int (nI bl), .int (nI (tS bt bl i)), .int (nI (tE bt bl i)), .int (nI (tK bt bl i)), .int u_48])), (sb, .inl (cB, 150, .inl (fN bt)))] H := hP
              have hD : va_D AG [(h 0, .inr (2, [.ref (h 1), .ref (h 2), .ref (h 3), .ref (h 4), .ref (h 5), .ref (h 6), .ref (h 7), .long (eC ([])), .int (nI 0), .int (nI 0)])), (h 1, .inl (cJ, 8, .inr (.inl (fC T1)))), (h 2, .inl (cI, 8, .inl P1)), (sc, .inr (4, [.ref sb, .int (nI bl), .int (nI (tS bt bl i)), .int (nI (tE bt bl i)), .int (nI (tK bt bl i)), .int u_48])), (sb, .inl (cB, 150, .inl (fN bt)))] := hD
              refine W.eq (g2 := F0 mG 66 ls [.int (ib (isW bt bl i (wdL 1)))]) rfl ?_
              refine xb_if_eq (tgt := 77) xh bh dX6_readInto_66 (by decide) (fun c_66 => ?_) (fun c_66 => ?_)
              · refine lv_aload_n xh bh dX6_readInto_77 rfl (lv_at hl 0 rfl) ?_
                refine va_ldcS xh bh hown hSS.2.2.2 dX6_readInto_78 ?_
                refine CtS.callV (As := [.ref (adK 2)]) (rest := []) (wr := [(h 0, .inr (2, [.ref (h 1), .ref (h 2), .ref (h 3), .ref (h 4), .ref (h 5), .ref (h 6), .ref (h 7), .long (eC ([])), .int (nI 0), .int (nI 0)])), (h 1, .inl (cJ, 8, .inr (.inl (fC T1)))), (h 2, .inl (cI, 8, .inl P1))]) xh bh hml hown hts hK hSS hP hD hS hA (ct_X6_isWord l D cI cJ cB cZ cA adK adV sc sb bl bt u_48 i 2 (by first | omega | assumption) (by first | omega | assumption) (by first | assumption) (by first | omega | assumption)) (cwV 1 hts gX6_readInto_X6_isWord rfl rfl rfl (by decide +kernel) ⟨Nat.le_of_ble_eq_true rfl, Nat.le_of_ble_eq_true rfl⟩) rfl rfl hl.1 (Nat.le_of_ble_eq_true rfl) dX6_readInto_80 ⟨Nat.le_refl _, Nat.le_refl _⟩ 0 4 rfl rfl rfl [3, 4] [0, 1, 2] rfl (by decide) rfl rfl (by decide) (by decide) (fun _ H locs _ hP hD hS => ?_)
                have hP : va_P D vwCl [(h 0, .inr (2, [.ref (h 1), .ref (h 2), .ref (h 3), .ref (h 4), .ref (h 5), .ref (h 6), .ref (h 7), .long (eC ([])), .int (nI 0), .int (nI 0)])), (h 1, .inl (cJ, 8, .inr (.inl (fC T1)))), (h 2, .inl (cI, 8, .inl P1)), (sc, .inr (4, [.ref sb, .int (nI bl), .int (nI (tS bt bl i)), .int (nI (tE bt bl i)), .int (nI (tK bt bl i)), .int u_48])), (sb, .inl (cB, 150, .inl (fN bt)))] H := hP
                have hD : va_D AG [(h 0, .inr (2, [.ref (h 1), .ref (h 2), .ref (h 3), .ref (h 4), .ref (h 5), .ref (h 6), .ref (h 7), .long (eC ([])), .int (nI 0), .int (nI 0)])), (h 1, .inl (cJ, 8, .inr (.inl (fC T1)))), (h 2, .inl (cI, 8, .inl P1)), (sc, .inr (4, [.ref sb, .int (nI bl), .int (nI (tS bt bl i)), .int (nI (tE bt bl i)), .int (nI (tK bt bl i)), .int u_48])), (sb, .inl (cB, 150, .inl (fN bt)))] := hD
                refine W.eq (g2 := F0 mG 83 ls [.int (ib (isW bt bl i (wdL 2)))]) rfl ?_
                refine xb_if_eq (tgt := 98) xh bh dX6_readInto_83 (by decide) (fun c_83 => ?_) (fun c_83 => ?_)
                · have hM : itM bt bl T1 P1 i = (false, i, T1, P1) := (if_neg (by rw [c_66]; decide)).trans (if_neg (by rw [c_83]; decide))
                  have h9 := hr.trans (rdL_x (by omega) c_55 hM (fun q => absurd q.1 Bool.false_ne_true))
                  refine lv_iconst (v := (nI 0)) xh bh dX6_readInto_98 (by decide) ?_
                  refine lv_istore_n (lv' := [(3, .int (nI 0)), (0, .ref sc), (1, .ref (h 0)), (2, .int (nI k))]) xh bh dX6_readInto_99 rfl hl (by decide) rfl (fun ls hl => ?_)
                  refine lv_iload_n xh bh dX6_readInto_100 rfl (lv_at hl 0 rfl) ?_
                  refine xn_if_ne (tgt := 112) xh bh dX6_readInto_101 (by decide) (by omega) (fun c_101 => ?_) (fun c_101 => ?_)
                  · exact absurd c_101 (by decide)
                  · refine lv_bipush (v := (-10)) xh bh dX6_readInto_104 (by decide) ?_
                    refine lv_aload_n xh bh dX6_readInto_106 rfl (lv_at hl 1 rfl) ?_
                    refine va_get (D := D) (ci := 4) (v := .int (nI (tS bt bl i))) (C := RX6) (T := TX6) (N := 6) xh bh hts (fun _ h => List.mem_cons_of_mem _ (List.mem_append_left _ (List.mem_append_right _ (h)))) hown hK.1 hP 3 rfl rfl 2 (by decide) (hts _ (List.mem_of_getElem? (i := 2) rfl)) (fun _ h9 => h9) rfl dX6_readInto_107 ?_
                    refine lv_isub xh bh dX6_readInto_110 ?_
                    exact hend ((-10) - (nI (tS bt bl i))) ((nI (tS bt bl i)), (nI (tE bt bl i)), (nI (tK bt bl i)), u_48, T1, P1) _ _ _ _ (congrArg (fun z => some (Value.int z)) (by rw [h9])) (by rw [h9]; first | exact And.intro hok (fun _ => And.intro rfl rfl) | exact And.intro hT0 (fun q => absurd q Bool.false_ne_true) | exact And.intro hok (fun q => absurd q Bool.false_ne_true) | exact And.intro hk_71 (fun q => absurd q Bool.false_ne_true) | exact And.intro hk_88 (fun q => absurd q Bool.false_ne_true)) rfl dX6_readInto_111 (by exact (hP.sub [3, 4, 0, 1, 2] rfl)) (by exact (hD.sub [3, 4, 0, 1, 2] (by decide) rfl)) hS
                · have hM : itM bt bl T1 P1 i = (itH bt bl T1 P1 (tE bt bl i)) := (if_neg (by rw [c_66]; decide)).trans (if_pos c_83)
                  have hq8 := itM_8 (b := bt) (n := bl) (T := T1) (T' := T1) (P := P1) (P' := P1) (fun _ _ => And.intro rfl rfl) hok hok i
                  rw [hM] at hq8
                  have hj1 := hq8.2.2.2.1
                  have hj2 := hq8.2.2.2.2.1 h3
                  refine lv_aload_n xh bh dX6_readInto_86 rfl (lv_at hl 0 rfl) ?_
                  refine lv_aload_n xh bh dX6_readInto_87 rfl (lv_at hl 1 rfl) ?_
                  refine Ct.callV (As := [.ref (h 0)]) (rest := []) (wr := []) xh bh hml hown hts hK hP hD hS hA (ct_X6_readHand l D cI cJ cB cZ cA sc sb bl bt (nI (tS bt bl i)) (nI (tK bt bl i)) u_48 (tE bt bl i) h T1 P1 ([]) 0 0 (by first | omega | assumption) (by first | omega | assumption) (by first | assumption) (by first | assumption)) (cwV 1 hts gX6_readInto_X6_readHand rfl rfl rfl (by decide +kernel) ⟨Nat.le_of_ble_eq_true rfl, Nat.le_of_ble_eq_true rfl⟩) rfl rfl hl.1 (Nat.le_of_ble_eq_true rfl) dX6_readInto_88 ⟨Nat.le_refl _, Nat.le_refl _⟩ 0 4 rfl rfl rfl [3, 4, 0, 1, 2] [] rfl (by decide) rfl rfl (by decide) (by decide) (fun u_88 H locs hu_88 hP hD hS => ?_)
                  have hP : va_P D vwCl [(sc, .inr (4, [.ref sb, .int (nI bl), .int (nI (tS bt bl (itH bt bl T1 P1 (tE bt bl i)).2.1)), .int (nI (tE bt bl (itH bt bl T1 P1 (tE bt bl i)).2.1)), .int (nI (tK bt bl (itH bt bl T1 P1 (tE bt bl i)).2.1)), .int u_88.1])), (sb, .inl (cB, 150, .inl (fN bt))), (h 0, .inr (2, [.ref (h 1), .ref (h 2), .ref (h 3), .ref (h 4), .ref (h 5), .ref (h 6), .ref (h 7), .long (eC ([])), .int (nI 0), .int (nI 0)])), (h 1, .inl (cJ, 8, .inr (.inl (fC u_88.2.1)))), (h 2, .inl (cI, 8, .inl u_88.2.2))] H := hP
                  have hD : va_D AG [(sc, .inr (4, [.ref sb, .int (nI bl), .int (nI (tS bt bl (itH bt bl T1 P1 (tE bt bl i)).2.1)), .int (nI (tE bt bl (itH bt bl T1 P1 (tE bt bl i)).2.1)), .int (nI (tK bt bl (itH bt bl T1 P1 (tE bt bl i)).2.1)), .int u_88.1])), (sb, .inl (cB, 150, .inl (fN bt))), (h 0, .inr (2, [.ref (h 1), .ref (h 2), .ref (h 3), .ref (h 4), .ref (h 5), .ref (h 6), .ref (h 7), .long (eC ([])), .int (nI 0), .int (nI 0)])), (h 1, .inl (cJ, 8, .inr (.inl (fC u_88.2.1)))), (h 2, .inl (cI, 8, .inl u_88.2.2))] := hD
                  refine W.eq (g2 := F0 mG 91 ls [.int (ib ((itH bt bl T1 P1 (tE bt bl i)).1 && decide (tK bt bl (itH bt bl T1 P1 (tE bt bl i)).2.1 = 3)))]) rfl ?_
                  obtain ⟨n_88, T_88, P_88⟩ := u_88
                  obtain ⟨hn_88, hk_88, hq_88⟩ := hu_88
                  have hP : va_P D vwCl [(sc, .inr (4, [.ref sb, .int (nI bl), .int (nI (tS bt bl (itH bt bl T1 P1 (tE bt bl i)).2.1)), .int (nI (tE bt bl (itH bt bl T1 P1 (tE bt bl i)).2.1)), .int (nI (tK bt bl (itH bt bl T1 P1 (tE bt bl i)).2.1)), .int n_88])), (sb, .inl (cB, 150, .inl (fN bt))), (h 0, .inr (2, [.ref (h 1), .ref (h 2), .ref (h 3), .ref (h 4), .ref (h 5), .ref (h 6), .ref (h 7), .long (eC ([])), .int (nI 0), .int (nI 0)])), (h 1, .inl (cJ, 8, .inr (.inl (fC T_88)))), (h 2, .inl (cI, 8, .inl P_88))] H := hP
                  have hD : va_D AG [(sc, .inr (4, [.ref sb, .int (nI bl), .int (nI (tS bt bl (itH bt bl T1 P1 (tE bt bl i)).2.1)), .int (nI (tE bt bl (itH bt bl T1 P1 (tE bt bl i)).2.1)), .int (nI (tK bt bl (itH bt bl T1 P1 (tE bt bl i)).2.1)), .int n_88])), (sb, .inl (cB, 150, .inl (fN bt))), (h 0, .inr (2, [.ref (h 1), .ref (h 2), .ref (h 3), .ref (h 4), .ref (h 5), .ref (h 6), .ref (h 7), .long (eC ([])), .int (nI 0), .int (nI 0)])), (h 1, .inl (cJ, 8, .inr (.inl (fC T_88)))), (h 2, .inl (cI, 8, .inl P_88))] := hD
                  refine xb_if_eq (tgt := 98) xh bh dX6_readInto_91 (by decide) (fun c_91 => ?_) (fun c_91 => ?_)
                  · have h9 := hr.trans (rdL_x (by omega) c_55 hM (fun q => by rw [q.1, decide_eq_true q.2] at c_91; exact absurd c_91 (by decide)))
                    refine lv_iconst (v := (nI 0)) xh bh dX6_readInto_98 (by decide) ?_
                    refine lv_istore_n (lv' := [(3, .int (nI 0)), (0, .ref sc), (1, .ref (h 0)), (2, .int (nI k))]) xh bh dX6_readInto_99 rfl hl (by decide) rfl (fun ls hl => ?_)
                    refine lv_iload_n xh bh dX6_readInto_100 rfl (lv_at hl 0 rfl) ?_
                    refine xn_if_ne (tgt := 112) xh bh dX6_readInto_101 (by decide) (by omega) (fun c_101 => ?_) (fun c_101 => ?_)
                    · exact absurd c_101 (by decide)
                    · refine lv_bipush (v := (-10)) xh bh dX6_readInto_104 (by decide) ?_
                      refine lv_aload_n xh bh dX6_readInto_106 rfl (lv_at hl 1 rfl) ?_
                      refine va_get (D := D) (ci := 4) (v := .int (nI (tS bt bl (itH bt bl T1 P1 (tE bt bl i)).2.1))) (C := RX6) (T := TX6) (N := 6) xh bh hts (fun _ h => List.mem_cons_of_mem _ (List.mem_append_left _ (List.mem_append_right _ (h)))) hown hK.1 hP 0 rfl rfl 2 (by decide) (hts _ (List.mem_of_getElem? (i := 2) rfl)) (fun _ h9 => h9) rfl dX6_readInto_107 ?_
                      refine lv_isub xh bh dX6_readInto_110 ?_
                      exact hend ((-10) - (nI (tS bt bl (itH bt bl T1 P1 (tE bt bl i)).2.1))) ((nI (tS bt bl (itH bt bl T1 P1 (tE bt bl i)).2.1)), (nI (tE bt bl (itH bt bl T1 P1 (tE bt bl i)).2.1)), (nI (tK bt bl (itH bt bl T1 P1 (tE bt bl i)).2.1)), n_88, T_88, P_88) _ _ _ _ (congrArg (fun z => some (Value.int z)) (by rw [h9])) (by rw [h9]; first | exact And.intro hok (fun _ => And.intro rfl rfl) | exact And.intro hT0 (fun q => absurd q Bool.false_ne_true) | exact And.intro hok (fun q => absurd q Bool.false_ne_true) | exact And.intro hk_71 (fun q => absurd q Bool.false_ne_true) | exact And.intro hk_88 (fun q => absurd q Bool.false_ne_true)) rfl dX6_readInto_111 (by exact hP) (by exact hD) hS
                  · have hz9 := (Bool.and_eq_true _ _).mp c_91
                    have hs9 := rdL_s (f := bl + 1 - (k + 1)) (k := k) c_55 hM hz9.1 (of_decide_eq_true hz9.2)
                    rw [← (hq_88 c_91).1, ← (hq_88 c_91).2] at hs9
                    have hj3 := tE_gt bt (i := (itH bt bl T1 P1 (tE bt bl i)).2.1) (by rw [of_decide_eq_true hz9.2]; decide)
                    refine lv_iconst (v := (nI 1)) xh bh dX6_readInto_94 (by decide) ?_
                    refine lv_goto (tgt := 99) xh bh dX6_readInto_95 (by decide) ?_
                    refine lv_istore_n (lv' := [(3, .int (nI 1)), (0, .ref sc), (1, .ref (h 0)), (2, .int (nI k))]) xh bh dX6_readInto_99 rfl hl (by decide) rfl (fun ls hl => ?_)
                    refine lv_iload_n xh bh dX6_readInto_100 rfl (lv_at hl 0 rfl) ?_
                    refine xn_if_ne (tgt := 112) xh bh dX6_readInto_101 (by decide) (by omega) (fun c_101 => ?_) (fun c_101 => ?_)
                    · refine lv_iinc (v := (nI (k + 1))) (lv' := [(2, .int (nI (k + 1))), (3, .int (nI 1)), (0, .ref sc), (1, .ref (h 0))]) xh bh dX6_readInto_112 hl (k := 3) rfl (by exact xn_inc _ _) (by decide) rfl (fun ls hl => ?_)
                      refine lv_goto (tgt := 39) xh bh dX6_readInto_115 (by decide) ?_
                      exact ih_39 (k + 1) (tE bt bl (itH bt bl T1 P1 (tE bt bl i)).2.1) T_88 P_88 (nI (tS bt bl (itH bt bl T1 P1 (tE bt bl i)).2.1)) (nI (tK bt bl (itH bt bl T1 P1 (tE bt bl i)).2.1)) n_88 (by omega) (by omega) (by exact tE_le bt hj2) (by first | exact hk_71 | exact hk_88) (by rw [hr, show bl + 1 - k = (bl + 1 - (k + 1)) + 1 by omega]; exact hs9) (by omega) _ _ ls hP hD hS (lv_sub hl [2, 3, 0] rfl)
                    · exact absurd c_101 (by decide)
              · have hM : itM bt bl T1 P1 i = (itT bt bl T1 P1 (tE bt bl i)) := if_pos c_66
                have hq8 := itM_8 (b := bt) (n := bl) (T := T1) (T' := T1) (P := P1) (P' := P1) (fun _ _ => And.intro rfl rfl) hok hok i
                rw [hM] at hq8
                have hj1 := hq8.2.2.2.1
                have hj2 := hq8.2.2.2.2.1 h3
                refine lv_aload_n xh bh dX6_readInto_69 rfl (lv_at hl 0 rfl) ?_
                refine lv_aload_n xh bh dX6_readInto_70 rfl (lv_at hl 1 rfl) ?_
                refine Ct.callV (As := [.ref (h 0)]) (rest := []) (wr := []) xh bh hml hown hts hK hP hD hS hA (ct_X6_readTale l D cI cJ cB cZ cA sc sb bl bt (nI (tS bt bl i)) (nI (tK bt bl i)) u_48 (tE bt bl i) h T1 P1 ([]) 0 0 (by first | omega | assumption) (by first | omega | assumption) (by first | assumption) (by first | assumption)) (cwV 1 hts gX6_readInto_X6_readTale rfl rfl rfl (by decide +kernel) ⟨Nat.le_of_ble_eq_true rfl, Nat.le_of_ble_eq_true rfl⟩) rfl rfl hl.1 (Nat.le_of_ble_eq_true rfl) dX6_readInto_71 ⟨Nat.le_refl _, Nat.le_refl _⟩ 0 4 rfl rfl rfl [3, 4, 0, 1, 2] [] rfl (by decide) rfl rfl (by decide) (by decide) (fun u_71 H locs hu_71 hP hD hS => ?_)
                have hP : va_P D vwCl [(sc, .inr (4, [.ref sb, .int (nI bl), .int (nI (tS bt bl (itT bt bl T1 P1 (tE bt bl i)).2.1)), .int (nI (tE bt bl (itT bt bl T1 P1 (tE bt bl i)).2.1)), .int (nI (tK bt bl (itT bt bl T1 P1 (tE bt bl i)).2.1)), .int u_71.1])), (sb, .inl (cB, 150, .inl (fN bt))), (h 0, .inr (2, [.ref (h 1), .ref (h 2), .ref (h 3), .ref (h 4), .ref (h 5), .ref (h 6), .ref (h 7), .long (eC ([])), .int (nI 0), .int (nI 0)])), (h 1, .inl (cJ, 8, .inr (.inl (fC u_71.2.1)))), (h 2, .inl (cI, 8, .inl u_71.2.2))] H := hP
                have hD : va_D AG [(sc, .inr (4, [.ref sb, .int (nI bl), .int (nI (tS bt bl (itT bt bl T1 P1 (tE bt bl i)).2.1)), .int (nI (tE bt bl (itT bt bl T1 P1 (tE bt bl i)).2.1)), .int (nI (tK bt bl (itT bt bl T1 P1 (tE bt bl i)).2.1)), .int u_71.1])), (sb, .inl (cB, 150, .inl (fN bt))), (h 0, .inr (2, [.ref (h 1), .ref (h 2), .ref (h 3), .ref (h 4), .ref (h 5), .ref (h 6), .ref (h 7), .long (eC ([])), .int (nI 0), .int (nI 0)])), (h 1, .inl (cJ, 8, .inr (.inl (fC u_71.2.1)))), (h 2, .inl (cI, 8, .inl u_71.2.2))] := hD
                refine W.eq (g2 := F0 mG 74 ls [.int (ib ((itT bt bl T1 P1 (tE bt bl i)).1 && decide (tK bt bl (itT bt bl T1 P1 (tE bt bl i)).2.1 = 3)))]) rfl ?_
                obtain ⟨n_71, T_71, P_71⟩ := u_71
                obtain ⟨hn_71, hk_71, hq_71⟩ := hu_71
                have hP : va_P D vwCl [(sc, .inr (4, [.ref sb, .int (nI bl), .int (nI (tS bt bl (itT bt bl T1 P1 (tE bt bl i)).2.1)), .int (nI (tE bt bl (itT bt bl T1 P1 (tE bt bl i)).2.1)), .int (nI (tK bt bl (itT bt bl T1 P1 (tE bt bl i)).2.1)), .int n_71])), (sb, .inl (cB, 150, .inl (fN bt))), (h 0, .inr (2, [.ref (h 1), .ref (h 2), .ref (h 3), .ref (h 4), .ref (h 5), .ref (h 6), .ref (h 7), .long (eC ([])), .int (nI 0), .int (nI 0)])), (h 1, .inl (cJ, 8, .inr (.inl (fC T_71)))), (h 2, .inl (cI, 8, .inl P_71))] H := hP
                have hD : va_D AG [(sc, .inr (4, [.ref sb, .int (nI bl), .int (nI (tS bt bl (itT bt bl T1 P1 (tE bt bl i)).2.1)), .int (nI (tE bt bl (itT bt bl T1 P1 (tE bt bl i)).2.1)), .int (nI (tK bt bl (itT bt bl T1 P1 (tE bt bl i)).2.1)), .int n_71])), (sb, .inl (cB, 150, .inl (fN bt))), (h 0, .inr (2, [.ref (h 1), .ref (h 2), .ref (h 3), .ref (h 4), .ref (h 5), .ref (h 6), .ref (h 7), .long (eC ([])), .int (nI 0), .int (nI 0)])), (h 1, .inl (cJ, 8, .inr (.inl (fC T_71)))), (h 2, .inl (cI, 8, .inl P_71))] := hD
                refine lv_goto (tgt := 99) xh bh dX6_readInto_74 (by decide) ?_
                refine lv_istore_n (lv' := [(3, .int (ib ((itT bt bl T1 P1 (tE bt bl i)).1 && decide (tK bt bl (itT bt bl T1 P1 (tE bt bl i)).2.1 = 3)))), (0, .ref sc), (1, .ref (h 0)), (2, .int (nI k))]) xh bh dX6_readInto_99 rfl hl (by decide) rfl (fun ls hl => ?_)
                refine lv_iload_n xh bh dX6_readInto_100 rfl (lv_at hl 0 rfl) ?_
                refine xb_if_ne (tgt := 112) xh bh dX6_readInto_101 (by decide) (fun c_101 => ?_) (fun c_101 => ?_)
                · have hz9 := (Bool.and_eq_true _ _).mp c_101
                  have hs9 := rdL_s (f := bl + 1 - (k + 1)) (k := k) c_55 hM hz9.1 (of_decide_eq_true hz9.2)
                  rw [← (hq_71 c_101).1, ← (hq_71 c_101).2] at hs9
                  have hj3 := tE_gt bt (i := (itT bt bl T1 P1 (tE bt bl i)).2.1) (by rw [of_decide_eq_true hz9.2]; decide)
                  refine lv_iinc (v := (nI (k + 1))) (lv' := [(2, .int (nI (k + 1))), (3, .int (ib ((itT bt bl T1 P1 (tE bt bl i)).1 && decide (tK bt bl (itT bt bl T1 P1 (tE bt bl i)).2.1 = 3)))), (0, .ref sc), (1, .ref (h 0))]) xh bh dX6_readInto_112 hl (k := 3) rfl (by exact xn_inc _ _) (by decide) rfl (fun ls hl => ?_)
                  refine lv_goto (tgt := 39) xh bh dX6_readInto_115 (by decide) ?_
                  exact ih_39 (k + 1) (tE bt bl (itT bt bl T1 P1 (tE bt bl i)).2.1) T_71 P_71 (nI (tS bt bl (itT bt bl T1 P1 (tE bt bl i)).2.1)) (nI (tK bt bl (itT bt bl T1 P1 (tE bt bl i)).2.1)) n_71 (by omega) (by omega) (by exact tE_le bt hj2) (by first | exact hk_71 | exact hk_88) (by rw [hr, show bl + 1 - k = (bl + 1 - (k + 1)) + 1 by omega]; exact hs9) (by omega) _ _ ls hP hD hS (lv_sub hl [2, 3, 0] rfl)
                · have h9 := hr.trans (rdL_x (by omega) c_55 hM (fun q => by rw [q.1, decide_eq_true q.2] at c_101; exact absurd c_101 (by decide)))
                  refine lv_bipush (v := (-10)) xh bh dX6_readInto_104 (by decide) ?_
                  refine lv_aload_n xh bh dX6_readInto_106 rfl (lv_at hl 1 rfl) ?_
                  refine va_get (D := D) (ci := 4) (v := .int (nI (tS bt bl (itT bt bl T1 P1 (tE bt bl i)).2.1))) (C := RX6) (T := TX6) (N := 6) xh bh hts (fun _ h => List.mem_cons_of_mem _ (List.mem_append_left _ (List.mem_append_right _ (h)))) hown hK.1 hP 0 rfl rfl 2 (by decide) (hts _ (List.mem_of_getElem? (i := 2) rfl)) (fun _ h9 => h9) rfl dX6_readInto_107 ?_
                  refine lv_isub xh bh dX6_readInto_110 ?_
                  exact hend ((-10) - (nI (tS bt bl (itT bt bl T1 P1 (tE bt bl i)).2.1))) ((nI (tS bt bl (itT bt bl T1 P1 (tE bt bl i)).2.1)), (nI (tE bt bl (itT bt bl T1 P1 (tE bt bl i)).2.1)), (nI (tK bt bl (itT bt bl T1 P1 (tE bt bl i)).2.1)), n_71, T_71, P_71) _ _ _ _ (congrArg (fun z => some (Value.int z)) (by rw [h9])) (by rw [h9]; first | exact And.intro hok (fun _ => And.intro rfl rfl) | exact And.intro hT0 (fun q => absurd q Bool.false_ne_true) | exact And.intro hok (fun q => absurd q Bool.false_ne_true) | exact And.intro hk_71 (fun q => absurd q Bool.false_ne_true) | exact And.intro hk_88 (fun q => absurd q Bool.false_ne_true)) rfl dX6_readInto_111 (by exact hP) (by exact hD) hS
            · have h9 := hr.trans (rdL_e (by omega) c_55)
              refine lv_iload_n xh bh dX6_readInto_58 rfl (lv_at hl 2 rfl) ?_
              exact hend (nI k) ((nI (tS bt bl i)), (nI (tE bt bl i)), (nI (tK bt bl i)), u_48, T1, P1) _ _ _ _ (congrArg (fun z => some (Value.int z)) (by rw [h9])) (by rw [h9]; first | exact And.intro hok (fun _ => And.intro rfl rfl) | exact And.intro hT0 (fun q => absurd q Bool.false_ne_true) | exact And.intro hok (fun q => absurd q Bool.false_ne_true) | exact And.intro hk_71 (fun q => absurd q Bool.false_ne_true) | exact And.intro hk_88 (fun q => absurd q Bool.false_ne_true)) rfl dX6_readInto_59 (by exact (hP.sub [3, 4, 0, 1, 2] rfl)) (by exact (hD.sub [3, 4, 0, 1, 2] (by decide) rfl)) hS
      exact cut_39 (bl + 1 - 1 + 1) 1 (tE bt bl (tE bt bl 0)) (flT T [] 8) (flI P (-1) 8) (nI (tS bt bl (tE bt bl 0))) (nI (tK bt bl (tE bt bl 0))) u_23 (by exact Nat.le_refl 1) (by exact Nat.lt_of_le_of_lt (Nat.zero_le _) (tE_gt bt (by rw [of_decide_eq_true c_26]; decide))) (by exact l2) (by exact hT0) (by rw [show bl + 1 - 1 = bl by omega]; exact rdA_3 c_19 (of_decide_eq_true c_26)) (Nat.lt_succ_self _) _ _ ls (hP.sub [3, 4, 0, 1, 2] rfl) (hD.sub [3, 4, 0, 1, 2] (by decide) rfl) hS (lv_sub hl [1, 2, 0] rfl)
    · have h9 := rdA_2 (T := flT T [] 8) (P := flI P (-1) 8) c_19 (of_decide_eq_false c_26)
      refine lv_bipush (v := (-10)) xh bh dX6_readInto_29 (by decide) ?_
      refine lv_aload_n xh bh dX6_readInto_31 rfl (lv_at hl 0 rfl) ?_
      refine va_get (D := D) (ci := 4) (v := .int (nI (tS bt bl (tE bt bl 0)))) (C := RX6) (T := TX6) (N := 6) xh bh hts (fun _ h => List.mem_cons_of_mem _ (List.mem_append_left _ (List.mem_append_right _ (h)))) hown hK.1 hP 3 rfl rfl 2 (by decide) (hts _ (List.mem_of_getElem? (i := 2) rfl)) (fun _ h9 => h9) rfl dX6_readInto_32 ?_
      refine lv_isub xh bh dX6_readInto_35 ?_
      exact hend ((-10) - (nI (tS bt bl (tE bt bl 0)))) ((nI (tS bt bl (tE bt bl 0))), (nI (tE bt bl (tE bt bl 0))), (nI (tK bt bl (tE bt bl 0))), u_23, (flT T [] 8), (flI P (-1) 8)) _ _ _ _ (congrArg (fun z => some (Value.int z)) (by rw [h9])) (by rw [h9]; first | exact And.intro hok (fun _ => And.intro rfl rfl) | exact And.intro hT0 (fun q => absurd q Bool.false_ne_true) | exact And.intro hok (fun q => absurd q Bool.false_ne_true) | exact And.intro hk_71 (fun q => absurd q Bool.false_ne_true) | exact And.intro hk_88 (fun q => absurd q Bool.false_ne_true)) rfl dX6_readInto_36 (by exact (hP.sub [3, 4, 0, 1, 2] rfl)) (by exact (hD.sub [3, 4, 0, 1, 2] (by decide) rfl)) hS
