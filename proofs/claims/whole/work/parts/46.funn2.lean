-- rows laid by wip/whole/gen.py
theorem fz_up {fz : Nat → Nat} (h : ∀ k, fz k < 2) {j : Nat} : ∀ k, va_up fz j 1 k < 2 := fun k => by
  unfold va_up
  by_cases q : k = j
  · rw [if_pos q]; decide
  · rw [if_neg q]; exact h k
theorem ff_up {fz : Nat → Nat} {fr : Nat → List Nat} (h : ∀ k, fz k = 1 → fr k = bsR k) {j : Nat} {t : List Nat} (ht : t = bsR j) : ∀ k, va_up fz j 1 k = 1 → va_up fr j t k = bsR k := fun k => by
  unfold va_up
  by_cases q : k = j
  · rw [if_pos q, if_pos q, q]; exact fun _ => ht
  · rw [if_neg q, if_neg q]; exact h k
theorem neg1_lt {k : Nat} (h : k ≤ 4) : (-1 : Int32) < nI k := (show ∀ k, k < 5 → (-1 : Int32) < nI k by decide +kernel) k (by omega)
set_option maxHeartbeats 1000000 in
set_option maxRecDepth 100000 in
theorem ct_X2_keepFunnier (l : Launch) (D : va_G) (cI cJ cB cZ cA : ClassId) (fu : Nat) (fa0 : Nat) (fz0 : Nat) (b : List Nat) (m : Int32) (y : Bool) (t : List Nat) (v : Int32) (hv : v = funT t) : Ct l yX2_keepFunnier wsX2_keepFunnier ({ frames := 0, cells := 0, slots := 0, locals := 0 }) D (tysG cI cJ cB cZ cA) [.ref fu, .long (eC t), .int v] [(fu, .inr (1, [.ref fa0, .ref fz0, .long (eC b), .int m, .int (ib y)]))] (fun (_ : Unit) => True) (fun _ => none) (fun _ => [(fu, .inr (1, [.ref fa0, .ref fz0, .long (eC ((kf (y, b, m) t).2.1)), .int ((kf (y, b, m) t).2.2), .int (ib ((kf (y, b, m) t).1))]))]) := by
  refine Ct.ofV (cc := cX2_keepFunnier) (maxL := 4) (by decide) rfl (Nat.le_of_ble_eq_true rfl) ?_
  intro pG eG sG mG aG bG tG cG AG QG ls xh bh hml hown hts hK hP hD hS hA hend hl
  have hl : lv_has ls 4 [(0, .ref fu), (1, .long (eC t)), (3, .int v)] := hl
  refine lv_aload_n xh bh dX2_keepFunnier_0 rfl (lv_at hl 0 rfl) ?_
  refine va_get (D := D) (ci := 1) (v := .int (ib y)) (C := RX2) (T := TX2) (N := 5) xh bh hts (fun _ h => List.mem_cons_of_mem _ (List.mem_append_right _ (h))) hown hK.1 hP 0 rfl rfl 4 (by decide) (hts _ (List.mem_of_getElem? (i := 1) rfl)) (fun _ h9 => h9) rfl dX2_keepFunnier_1 ?_
  refine xb_if_eq (tgt := 15) xh bh dX2_keepFunnier_4 (by decide) (fun c_4 => ?_) (fun c_4 => ?_)
  · have h9 : kf (y, b, m) t = (true, t, funT t) := if_neg (fun q => by rw [c_4] at q; exact absurd q.1 (by decide))
    refine lv_aload_n xh bh dX2_keepFunnier_15 rfl (lv_at hl 0 rfl) ?_
    refine lv_lload_n xh bh dX2_keepFunnier_16 rfl (lv_at hl 1 rfl) ?_
    refine va_put (D := D) (ci := 1) (v := .long (eC t)) (ty := .long) (C := RX2) (T := TX2) (N := 5) xh bh hts (fun _ h => List.mem_cons_of_mem _ (List.mem_append_right _ (h))) tyX2 tyX2_ok nmX2 hown hK.1 hP hD hS 0 rfl rfl 2 (by decide) (hts _ (List.mem_of_getElem? (i := 3) rfl)) (fun _ h9 => h9) rfl (by decide +kernel) (by rfl) (by rfl) (Nat.le_of_ble_eq_true rfl) dX2_keepFunnier_17 (fun H locs hP hD hS => ?_)
    have hP : va_P D vwCl [(fu, .inr (1, [.ref fa0, .ref fz0, .long (eC t), .int m, .int (ib y)]))] H := hP
    have hD : va_D AG [(fu, .inr (1, [.ref fa0, .ref fz0, .long (eC t), .int m, .int (ib y)]))] := hD
    refine lv_aload_n xh bh dX2_keepFunnier_20 rfl (lv_at hl 0 rfl) ?_
    refine lv_iload_n xh bh dX2_keepFunnier_21 rfl (lv_at hl 2 rfl) ?_
    refine va_put (D := D) (ci := 1) (v := .int v) (ty := .int) (C := RX2) (T := TX2) (N := 5) xh bh hts (fun _ h => List.mem_cons_of_mem _ (List.mem_append_right _ (h))) tyX2 tyX2_ok nmX2 hown hK.1 hP hD hS 0 rfl rfl 3 (by decide) (hts _ (List.mem_of_getElem? (i := 2) rfl)) (fun _ h9 => h9) rfl (by decide +kernel) (by rfl) (by rfl) (Nat.le_of_ble_eq_true rfl) dX2_keepFunnier_22 (fun H locs hP hD hS => ?_)
    have hP : va_P D vwCl [(fu, .inr (1, [.ref fa0, .ref fz0, .long (eC t), .int v, .int (ib y)]))] H := hP
    have hD : va_D AG [(fu, .inr (1, [.ref fa0, .ref fz0, .long (eC t), .int v, .int (ib y)]))] := hD
    refine lv_aload_n xh bh dX2_keepFunnier_25 rfl (lv_at hl 0 rfl) ?_
    refine lv_iconst (v := (nI 1)) xh bh dX2_keepFunnier_26 (by decide) ?_
    refine va_put (D := D) (ci := 1) (v := .int (nI 1)) (ty := .boolean) (C := RX2) (T := TX2) (N := 5) xh bh hts (fun _ h => List.mem_cons_of_mem _ (List.mem_append_right _ (h))) tyX2 tyX2_ok nmX2 hown hK.1 hP hD hS 0 rfl rfl 4 (by decide) (hts _ (List.mem_of_getElem? (i := 1) rfl)) (fun _ h9 => h9) rfl (by decide +kernel) (by exact vz_bool (by decide)) (by rfl) (Nat.le_of_ble_eq_true rfl) dX2_keepFunnier_27 (fun H locs hP hD hS => ?_)
    have hP : va_P D vwCl [(fu, .inr (1, [.ref fa0, .ref fz0, .long (eC t), .int v, .int (nI 1)]))] H := hP
    have hD : va_D AG [(fu, .inr (1, [.ref fa0, .ref fz0, .long (eC t), .int v, .int (nI 1)]))] := hD
    exact hend () _ _ _ _ rfl trivial dX2_keepFunnier_30 (by rw [h9]; first | exact hP | (rw [← hv]; exact hP)) (by rw [h9]; first | exact hD | (rw [← hv]; exact hD)) hS
  · refine lv_iload_n xh bh dX2_keepFunnier_7 rfl (lv_at hl 2 rfl) ?_
    refine lv_aload_n xh bh dX2_keepFunnier_8 rfl (lv_at hl 0 rfl) ?_
    refine va_get (D := D) (ci := 1) (v := .int m) (C := RX2) (T := TX2) (N := 5) xh bh hts (fun _ h => List.mem_cons_of_mem _ (List.mem_append_right _ (h))) hown hK.1 hP 0 rfl rfl 3 (by decide) (hts _ (List.mem_of_getElem? (i := 2) rfl)) (fun _ h9 => h9) rfl dX2_keepFunnier_9 ?_
    refine lv_icmp_le (tgt := 30) xh bh dX2_keepFunnier_12 (by decide) (fun c_12 => ?_) (fun c_12 => ?_)
    · have h9 : kf (y, b, m) t = (y, b, m) := if_pos (And.intro c_4 (by rw [← hv]; exact c_12))
      exact hend () _ _ _ _ rfl trivial dX2_keepFunnier_30 (by rw [h9]; first | exact hP | (rw [← hv]; exact hP)) (by rw [h9]; first | exact hD | (rw [← hv]; exact hD)) hS
    · have h9 : kf (y, b, m) t = (true, t, funT t) := if_neg (fun q => c_12 (by rw [hv]; exact q.2))
      refine lv_aload_n xh bh dX2_keepFunnier_15 rfl (lv_at hl 0 rfl) ?_
      refine lv_lload_n xh bh dX2_keepFunnier_16 rfl (lv_at hl 1 rfl) ?_
      refine va_put (D := D) (ci := 1) (v := .long (eC t)) (ty := .long) (C := RX2) (T := TX2) (N := 5) xh bh hts (fun _ h => List.mem_cons_of_mem _ (List.mem_append_right _ (h))) tyX2 tyX2_ok nmX2 hown hK.1 hP hD hS 0 rfl rfl 2 (by decide) (hts _ (List.mem_of_getElem? (i := 3) rfl)) (fun _ h9 => h9) rfl (by decide +kernel) (by rfl) (by rfl) (Nat.le_of_ble_eq_true rfl) dX2_keepFunnier_17 (fun H locs hP hD hS => ?_)
      have hP : va_P D vwCl [(fu, .inr (1, [.ref fa0, .ref fz0, .long (eC t), .int m, .int (ib y)]))] H := hP
      have hD : va_D AG [(fu, .inr (1, [.ref fa0, .ref fz0, .long (eC t), .int m, .int (ib y)]))] := hD
      refine lv_aload_n xh bh dX2_keepFunnier_20 rfl (lv_at hl 0 rfl) ?_
      refine lv_iload_n xh bh dX2_keepFunnier_21 rfl (lv_at hl 2 rfl) ?_
      refine va_put (D := D) (ci := 1) (v := .int v) (ty := .int) (C := RX2) (T := TX2) (N := 5) xh bh hts (fun _ h => List.mem_cons_of_mem _ (List.mem_append_right _ (h))) tyX2 tyX2_ok nmX2 hown hK.1 hP hD hS 0 rfl rfl 3 (by decide) (hts _ (List.mem_of_getElem? (i := 2) rfl)) (fun _ h9 => h9) rfl (by decide +kernel) (by rfl) (by rfl) (Nat.le_of_ble_eq_true rfl) dX2_keepFunnier_22 (fun H locs hP hD hS => ?_)
      have hP : va_P D vwCl [(fu, .inr (1, [.ref fa0, .ref fz0, .long (eC t), .int v, .int (ib y)]))] H := hP
      have hD : va_D AG [(fu, .inr (1, [.ref fa0, .ref fz0, .long (eC t), .int v, .int (ib y)]))] := hD
      refine lv_aload_n xh bh dX2_keepFunnier_25 rfl (lv_at hl 0 rfl) ?_
      refine lv_iconst (v := (nI 1)) xh bh dX2_keepFunnier_26 (by decide) ?_
      refine va_put (D := D) (ci := 1) (v := .int (nI 1)) (ty := .boolean) (C := RX2) (T := TX2) (N := 5) xh bh hts (fun _ h => List.mem_cons_of_mem _ (List.mem_append_right _ (h))) tyX2 tyX2_ok nmX2 hown hK.1 hP hD hS 0 rfl rfl 4 (by decide) (hts _ (List.mem_of_getElem? (i := 1) rfl)) (fun _ h9 => h9) rfl (by decide +kernel) (by exact vz_bool (by decide)) (by rfl) (Nat.le_of_ble_eq_true rfl) dX2_keepFunnier_27 (fun H locs hP hD hS => ?_)
      have hP : va_P D vwCl [(fu, .inr (1, [.ref fa0, .ref fz0, .long (eC t), .int v, .int (nI 1)]))] H := hP
      have hD : va_D AG [(fu, .inr (1, [.ref fa0, .ref fz0, .long (eC t), .int v, .int (nI 1)]))] := hD
      exact hend () _ _ _ _ rfl trivial dX2_keepFunnier_30 (by rw [h9]; first | exact hP | (rw [← hv]; exact hP)) (by rw [h9]; first | exact hD | (rw [← hv]; exact hD)) hS

set_option maxHeartbeats 1000000 in
set_option maxRecDepth 100000 in
theorem ct_X2_search0 (l : Launch) (D : va_G) (cI cJ cB cZ cA : ClassId) (fu : Nat) (fa0 : Nat) (fz0 : Nat) (b : List Nat) (m : Int32) (y : Bool) (t : List Nat) (a : Int32) (f : Int32) (ht : okT t) (hl : t.length + 0 ≤ 4) (ha : a = ahI t t.length) (hf : f = fnI t t.length) (hb : okT b) : Ct l yX2_search wsX2_search ({ frames := 1, cells := 0, slots := 0, locals := 23 }) D (tysG cI cJ cB cZ cA) [.ref fu, .long (eC t), .int a, .int f, .int (nI 0)] [(fu, .inr (1, [.ref fa0, .ref fz0, .long (eC b), .int m, .int (ib y)]))] (fun (_ : Unit) => True) (fun _ => none) (fun _ => [(fu, .inr (1, [.ref fa0, .ref fz0, .long (eC ((sch 0 t (y, b, m)).2.1)), .int ((sch 0 t (y, b, m)).2.2), .int (ib ((sch 0 t (y, b, m)).1))]))]) := by
  refine Ct.ofV (cc := cX2_search) (maxL := 8) (by decide) rfl (Nat.le_of_ble_eq_true rfl) ?_
  intro pG eG sG mG aG bG tG cG AG QG ls xh bh hml hown hts hK hP hD hS hA hend hl
  have hl : lv_has ls 8 [(0, .ref fu), (1, .long (eC t)), (3, .int a), (4, .int f), (5, .int (nI 0))] := hl
  refine lv_iload xh bh dX2_search_0 (lv_at hl 4 rfl) ?_
  refine xn_if_gt (tgt := 18) xh bh dX2_search_2 (by decide) (by omega) (fun c_2 => ?_) (fun c_2 => ?_)
  · exact absurd c_2 (by decide)
  · refine lv_aload_n xh bh dX2_search_5 rfl (lv_at hl 0 rfl) ?_
    refine lv_lload_n xh bh dX2_search_6 rfl (lv_at hl 1 rfl) ?_
    refine lv_iload xh bh dX2_search_7 (lv_at hl 3 rfl) ?_
    refine lv_iload_n xh bh dX2_search_9 rfl (lv_at hl 2 rfl) ?_
    refine Ct.callS0 (rest := [.int f, .long (eC t), .ref fu]) xh bh hml hown hts hK hP hS hA (ct_X4_funOfEnd l D cI cJ cB cZ cA a ) (va_cwS 1 hts gX2_search_X4_funOfEnd rfl rfl rfl (by decide +kernel) ⟨Nat.le_of_ble_eq_true rfl, Nat.le_of_ble_eq_true rfl⟩) rfl rfl hl.1 (Nat.le_of_ble_eq_true rfl) dX2_search_10 ⟨Nat.le_refl _, Nat.le_refl _⟩ (fun _ H locs _ hP hS => ?_)
    refine W.eq (g2 := F0 mG 13 ls [.int (if a = nI 9 then nI 3 else nI 0), .int f, .long (eC t), .ref fu]) rfl ?_
    refine lv_iadd xh bh dX2_search_13 ?_
    refine Ct.callV (As := [.long (eC t), .int (f + (if a = nI 9 then nI 3 else nI 0))]) (rest := []) (wr := []) xh bh hml hown hts hK hP hD hS hA (ct_X2_keepFunnier l D cI cJ cB cZ cA fu fa0 fz0 b m y t (f + (if a = nI 9 then nI 3 else nI 0)) (by rw [hf, ha]; exact (funT_end ht).symm)) (cwV 2 hts gX2_search_X2_keepFunnier rfl rfl rfl (by decide +kernel) ⟨Nat.le_of_ble_eq_true rfl, Nat.le_of_ble_eq_true rfl⟩) rfl rfl hl.1 (Nat.le_of_ble_eq_true rfl) dX2_search_14 ⟨Nat.le_refl _, Nat.le_refl _⟩ 0 1 rfl rfl rfl [0] [] rfl (by decide) rfl rfl (by decide) (by decide) (fun _ H locs _ hP hD hS => ?_)
    have hP : va_P D vwCl [(fu, .inr (1, [.ref fa0, .ref fz0, .long (eC ((kf (y, b, m) t).2.1)), .int ((kf (y, b, m) t).2.2), .int (ib ((kf (y, b, m) t).1))]))] H := hP
    have hD : va_D AG [(fu, .inr (1, [.ref fa0, .ref fz0, .long (eC ((kf (y, b, m) t).2.1)), .int ((kf (y, b, m) t).2.2), .int (ib ((kf (y, b, m) t).1))]))] := hD
    refine W.eq (g2 := F0 mG 17 ls []) rfl ?_
    exact hend () _ _ _ _ rfl trivial dX2_search_17 (by exact hP) (by exact hD) hS

set_option maxHeartbeats 1000000 in
set_option maxRecDepth 100000 in
theorem ct_X2_search1 (l : Launch) (D : va_G) (cI cJ cB cZ cA : ClassId) (fu : Nat) (fa0 : Nat) (fz0 : Nat) (b : List Nat) (m : Int32) (y : Bool) (t : List Nat) (a : Int32) (f : Int32) (ht : okT t) (hl : t.length + 1 ≤ 4) (ha : a = ahI t t.length) (hf : f = fnI t t.length) (hb : okT b) : Ct l yX2_search wsX2_search ({ frames := 2, cells := 0, slots := 0, locals := 50 }) D (tysG cI cJ cB cZ cA) [.ref fu, .long (eC t), .int a, .int f, .int (nI 1)] [(fu, .inr (1, [.ref fa0, .ref fz0, .long (eC b), .int m, .int (ib y)]))] (fun (_ : Unit) => True) (fun _ => none) (fun _ => [(fu, .inr (1, [.ref fa0, .ref fz0, .long (eC ((sch 1 t (y, b, m)).2.1)), .int ((sch 1 t (y, b, m)).2.2), .int (ib ((sch 1 t (y, b, m)).1))]))]) := by
  refine Ct.ofV (cc := cX2_search) (maxL := 8) (by decide) rfl (Nat.le_of_ble_eq_true rfl) ?_
  intro pG eG sG mG aG bG tG cG AG QG ls xh bh hml hown hts hK hP hD hS hA hend hl
  have hl : lv_has ls 8 [(0, .ref fu), (1, .long (eC t)), (3, .int a), (4, .int f), (5, .int (nI 1))] := hl
  refine lv_iload xh bh dX2_search_0 (lv_at hl 4 rfl) ?_
  refine xn_if_gt (tgt := 18) xh bh dX2_search_2 (by decide) (by decide) (fun c_2 => ?_) (fun c_2 => ?_)
  · refine lv_iconst (v := (nI 0)) xh bh dX2_search_18 (by decide) ?_
    refine lv_istore (lv' := [(6, .int (nI 0)), (0, .ref fu), (1, .long (eC t)), (3, .int a), (4, .int f), (5, .int (nI 1))]) xh bh dX2_search_19 hl (by decide) rfl (fun ls hl => ?_)
    have cut_21 : ∀ (n_21 : Nat), ∀ (x : Nat), ∀ (b1 : List Nat), ∀ (m1 : Int32), ∀ (y1 : Bool), (x ≤ 10) → (okT b1) → (((y1, b1, m1) : FS) = schX (fun x s => sch 0 (t ++ [x]) s) x (y, b, m)) → (10 - x) < n_21 → ∀ (H : Heap) (locs : List Loc) (ls : Array Slot), va_P D vwCl [(fu, .inr (1, [.ref fa0, .ref fz0, .long (eC b1), .int m1, .int (ib y1)]))] H → va_D AG [(fu, .inr (1, [.ref fa0, .ref fz0, .long (eC b1), .int m1, .int (ib y1)]))] → va_S AG sG.heap H locs → lv_has ls 8 [(0, .ref fu), (1, .long (eC t)), (3, .int a), (4, .int f), (5, .int (nI 1)), (6, .int (nI x))] → W pG l eG ({ frames := 2, cells := 0, slots := 0, locals := 50 }) sG mG aG bG tG cG H locs 0 0 QG (F0 mG 21 ls []) := by
      intro n_21
      induction n_21 with
      | zero =>
        intro x b1 m1 y1 hx9 hb1 hs9 hmu
        exact absurd hmu (Nat.not_lt_zero _)
      | succ n_21 ih_21 =>
        intro x b1 m1 y1 hx9 hb1 hs9 hmu H locs ls hP hD hS hl
        refine lv_iload xh bh dX2_search_21 (lv_at hl 5 rfl) ?_
        refine lv_bipush (v := (nI 10)) xh bh dX2_search_23 (by decide) ?_
        refine xn_icmp_ge (tgt := 69) xh bh dX2_search_25 (by decide) (by omega) (by omega) (fun c_25 => ?_) (fun c_25 => ?_)
        · exact hend () _ _ _ _ rfl trivial dX2_search_69 (by rw [show sch 1 t (y, b, m) = ((y1, b1, m1) : FS) by rw [hs9, show x = 10 by omega]; rfl]; exact hP) (by rw [show sch 1 t (y, b, m) = ((y1, b1, m1) : FS) by rw [hs9, show x = 10 by omega]; rfl]; exact hD) hS
        · refine lv_iload_n xh bh dX2_search_28 rfl (lv_at hl 2 rfl) ?_
          refine lv_iload xh bh dX2_search_29 (lv_at hl 5 rfl) ?_
          refine lv_lload_n xh bh dX2_search_31 rfl (lv_at hl 1 rfl) ?_
          refine lv_iload xh bh dX2_search_32 (lv_at hl 5 rfl) ?_
          refine Ct.callS0 (rest := [.int (nI x), .int a]) xh bh hml hown hts hK hP hS hA (ct_X7_timesIn l D cI cJ cB cZ cA t x (by first | assumption | exact okT_nil) (by first | omega | assumption)) (va_cwS 2 hts gX2_search_X7_timesIn rfl rfl rfl (by decide +kernel) ⟨Nat.le_of_ble_eq_true rfl, Nat.le_of_ble_eq_true rfl⟩) rfl rfl hl.1 (Nat.le_of_ble_eq_true rfl) dX2_search_34 ⟨Nat.le_refl _, Nat.le_refl _⟩ (fun _ H locs _ hP hS => ?_)
          refine W.eq (g2 := F0 mG 37 ls [.int (nI (cntN t x t.length)), .int (nI x), .int a]) rfl ?_
          refine Ct.callS0 (rest := []) xh bh hml hown hts hK hP hS hA (ct_X4_funOfNext l D cI cJ cB cZ cA a x (cntN t x t.length) (by omega) (by have := cntN_le t x t.length; omega)) (va_cwS 3 hts gX2_search_X4_funOfNext rfl rfl rfl (by decide +kernel) ⟨Nat.le_of_ble_eq_true rfl, Nat.le_of_ble_eq_true rfl⟩) rfl rfl hl.1 (Nat.le_of_ble_eq_true rfl) dX2_search_37 ⟨Nat.le_refl _, Nat.le_refl _⟩ (fun _ H locs _ hP hS => ?_)
          refine W.eq (g2 := F0 mG 40 ls [.int (fxI a x (cntN t x t.length))]) rfl ?_
          refine lv_istore (lv' := [(7, .int (fxI a x (cntN t x t.length))), (0, .ref fu), (1, .long (eC t)), (3, .int a), (4, .int f), (5, .int (nI 1)), (6, .int (nI x))]) xh bh dX2_search_40 hl (by decide) rfl (fun ls hl => ?_)
          refine lv_aload_n xh bh dX2_search_42 rfl (lv_at hl 1 rfl) ?_
          refine lv_lload_n xh bh dX2_search_43 rfl (lv_at hl 2 rfl) ?_
          refine lv_iload xh bh dX2_search_44 (lv_at hl 6 rfl) ?_
          refine Ct.callS0 (rest := [.ref fu]) xh bh hml hown hts hK hP hS hA (ct_X7_added l D cI cJ cB cZ cA t x (by first | assumption | exact okT_nil) (by first | omega | assumption)) (va_cwS 2 hts gX2_search_X7_added rfl rfl rfl (by decide +kernel) ⟨Nat.le_of_ble_eq_true rfl, Nat.le_of_ble_eq_true rfl⟩) rfl rfl hl.1 (Nat.le_of_ble_eq_true rfl) dX2_search_46 ⟨Nat.le_refl _, Nat.le_refl _⟩ (fun _ H locs _ hP hS => ?_)
          refine W.eq (g2 := F0 mG 49 ls [.long (eC (addT t x)), .ref fu]) rfl ?_
          refine xw_topl (x := (eC (addT t x))) (y := (eC (t ++ [x]))) (by rw [addT_lt (by omega)]) ?_
          refine lv_iload xh bh dX2_search_49 (lv_at hl 6 rfl) ?_
          refine lv_iload xh bh dX2_search_51 (lv_at hl 4 rfl) ?_
          refine lv_iload xh bh dX2_search_53 (lv_at hl 0 rfl) ?_
          refine lv_iadd xh bh dX2_search_55 ?_
          refine lv_iload xh bh dX2_search_56 (lv_at hl 5 rfl) ?_
          refine lv_iconst (v := (nI 1)) xh bh dX2_search_58 (by decide) ?_
          refine xn_isub xh bh dX2_search_59 (by decide) ?_
          refine xw_topi (x := (nI (1 - 1))) (y := (nI 0)) (by rfl) ?_
          refine Ct.callV (As := [.long (eC (t ++ [x])), .int (nI x), .int (f + (fxI a x (cntN t x t.length))), .int (nI 0)]) (rest := []) (wr := []) xh bh hml hown hts hK hP hD hS hA (ct_X2_search0 l D cI cJ cB cZ cA fu fa0 fz0 b1 m1 y1 (t ++ [x]) (nI x) (f + (fxI a x (cntN t x t.length))) (by exact ht.app (by omega) (by omega)) (by rw [List.length_append]; show t.length + 1 + 0 ≤ 4; omega) (by exact ahI_last _ _) (by exact fnI_last ha hf) (by exact hb1)) (cwV 4 hts gX2_search_X2_search rfl rfl rfl (by decide +kernel) ⟨Nat.le_of_ble_eq_true rfl, Nat.le_of_ble_eq_true rfl⟩) rfl rfl hl.1 (Nat.le_of_ble_eq_true rfl) dX2_search_60 ⟨Nat.le_refl _, Nat.le_refl _⟩ 0 1 rfl rfl rfl [0] [] rfl (by decide) rfl rfl (by decide) (by decide) (fun _ H locs _ hP hD hS => ?_)
          have hP : va_P D vwCl [(fu, .inr (1, [.ref fa0, .ref fz0, .long (eC ((sch 0 (t ++ [x]) (y1, b1, m1)).2.1)), .int ((sch 0 (t ++ [x]) (y1, b1, m1)).2.2), .int (ib ((sch 0 (t ++ [x]) (y1, b1, m1)).1))]))] H := hP
          have hD : va_D AG [(fu, .inr (1, [.ref fa0, .ref fz0, .long (eC ((sch 0 (t ++ [x]) (y1, b1, m1)).2.1)), .int ((sch 0 (t ++ [x]) (y1, b1, m1)).2.2), .int (ib ((sch 0 (t ++ [x]) (y1, b1, m1)).1))]))] := hD
          refine W.eq (g2 := F0 mG 63 ls []) rfl ?_
          refine lv_iinc (v := (nI (x + 1))) (lv' := [(6, .int (nI (x + 1))), (7, .int (fxI a x (cntN t x t.length))), (0, .ref fu), (1, .long (eC t)), (3, .int a), (4, .int f), (5, .int (nI 1))]) xh bh dX2_search_63 hl (k := 6) rfl (by exact xn_inc _ _) (by decide) rfl (fun ls hl => ?_)
          refine lv_goto (tgt := 21) xh bh dX2_search_66 (by decide) ?_
          exact ih_21 (x + 1) ((sch 0 (t ++ [x]) (y1, b1, m1)).2.1) ((sch 0 (t ++ [x]) (y1, b1, m1)).2.2) ((sch 0 (t ++ [x]) (y1, b1, m1)).1) (by omega) (by exact sch_ok 0 (t ++ [x]) _ (ht.app (by omega) (by omega)) (by rw [List.length_append]; show t.length + 1 + 0 ≤ 10; omega) hb1) (by show _ = sch 0 (t ++ [x]) (schX (fun x s => sch 0 (t ++ [x]) s) x (y, b, m)); rw [← hs9]) (by omega) _ _ ls hP hD hS (lv_sub hl [2, 3, 4, 5, 6, 0] rfl)
    exact cut_21 (10 - 0 + 1) 0 b m y (by exact Nat.zero_le _) (by exact hb) (by rfl) (Nat.lt_succ_self _) _ _ ls hP hD hS (lv_sub hl [1, 2, 3, 4, 5, 0] rfl)
  · exact absurd c_2 (by decide)

set_option maxHeartbeats 1000000 in
set_option maxRecDepth 100000 in
theorem ct_X2_search2 (l : Launch) (D : va_G) (cI cJ cB cZ cA : ClassId) (fu : Nat) (fa0 : Nat) (fz0 : Nat) (b : List Nat) (m : Int32) (y : Bool) (t : List Nat) (a : Int32) (f : Int32) (ht : okT t) (hl : t.length + 2 ≤ 4) (ha : a = ahI t t.length) (hf : f = fnI t t.length) (hb : okT b) : Ct l yX2_search wsX2_search ({ frames := 3, cells := 0, slots := 0, locals := 77 }) D (tysG cI cJ cB cZ cA) [.ref fu, .long (eC t), .int a, .int f, .int (nI 2)] [(fu, .inr (1, [.ref fa0, .ref fz0, .long (eC b), .int m, .int (ib y)]))] (fun (_ : Unit) => True) (fun _ => none) (fun _ => [(fu, .inr (1, [.ref fa0, .ref fz0, .long (eC ((sch 2 t (y, b, m)).2.1)), .int ((sch 2 t (y, b, m)).2.2), .int (ib ((sch 2 t (y, b, m)).1))]))]) := by
  refine Ct.ofV (cc := cX2_search) (maxL := 8) (by decide) rfl (Nat.le_of_ble_eq_true rfl) ?_
  intro pG eG sG mG aG bG tG cG AG QG ls xh bh hml hown hts hK hP hD hS hA hend hl
  have hl : lv_has ls 8 [(0, .ref fu), (1, .long (eC t)), (3, .int a), (4, .int f), (5, .int (nI 2))] := hl
  refine lv_iload xh bh dX2_search_0 (lv_at hl 4 rfl) ?_
  refine xn_if_gt (tgt := 18) xh bh dX2_search_2 (by decide) (by decide) (fun c_2 => ?_) (fun c_2 => ?_)
  · refine lv_iconst (v := (nI 0)) xh bh dX2_search_18 (by decide) ?_
    refine lv_istore (lv' := [(6, .int (nI 0)), (0, .ref fu), (1, .long (eC t)), (3, .int a), (4, .int f), (5, .int (nI 2))]) xh bh dX2_search_19 hl (by decide) rfl (fun ls hl => ?_)
    have cut_21 : ∀ (n_21 : Nat), ∀ (x : Nat), ∀ (b1 : List Nat), ∀ (m1 : Int32), ∀ (y1 : Bool), (x ≤ 10) → (okT b1) → (((y1, b1, m1) : FS) = schX (fun x s => sch 1 (t ++ [x]) s) x (y, b, m)) → (10 - x) < n_21 → ∀ (H : Heap) (locs : List Loc) (ls : Array Slot), va_P D vwCl [(fu, .inr (1, [.ref fa0, .ref fz0, .long (eC b1), .int m1, .int (ib y1)]))] H → va_D AG [(fu, .inr (1, [.ref fa0, .ref fz0, .long (eC b1), .int m1, .int (ib y1)]))] → va_S AG sG.heap H locs → lv_has ls 8 [(0, .ref fu), (1, .long (eC t)), (3, .int a), (4, .int f), (5, .int (nI 2)), (6, .int (nI x))] → W pG l eG ({ frames := 3, cells := 0, slots := 0, locals := 77 }) sG mG aG bG tG cG H locs 0 0 QG (F0 mG 21 ls []) := by
      intro n_21
      induction n_21 with
      | zero =>
        intro x b1 m1 y1 hx9 hb1 hs9 hmu
        exact absurd hmu (Nat.not_lt_zero _)
      | succ n_21 ih_21 =>
        intro x b1 m1 y1 hx9 hb1 hs9 hmu H locs ls hP hD hS hl
        refine lv_iload xh bh dX2_search_21 (lv_at hl 5 rfl) ?_
        refine lv_bipush (v := (nI 10)) xh bh dX2_search_23 (by decide) ?_
        refine xn_icmp_ge (tgt := 69) xh bh dX2_search_25 (by decide) (by omega) (by omega) (fun c_25 => ?_) (fun c_25 => ?_)
        · exact hend () _ _ _ _ rfl trivial dX2_search_69 (by rw [show sch 2 t (y, b, m) = ((y1, b1, m1) : FS) by rw [hs9, show x = 10 by omega]; rfl]; exact hP) (by rw [show sch 2 t (y, b, m) = ((y1, b1, m1) : FS) by rw [hs9, show x = 10 by omega]; rfl]; exact hD) hS
        · refine lv_iload_n xh bh dX2_search_28 rfl (lv_at hl 2 rfl) ?_
          refine lv_iload xh bh dX2_search_29 (lv_at hl 5 rfl) ?_
          refine lv_lload_n xh bh dX2_search_31 rfl (lv_at hl 1 rfl) ?_
          refine lv_iload xh bh dX2_search_32 (lv_at hl 5 rfl) ?_
          refine Ct.callS0 (rest := [.int (nI x), .int a]) xh bh hml hown hts hK hP hS hA (ct_X7_timesIn l D cI cJ cB cZ cA t x (by first | assumption | exact okT_nil) (by first | omega | assumption)) (va_cwS 2 hts gX2_search_X7_timesIn rfl rfl rfl (by decide +kernel) ⟨Nat.le_of_ble_eq_true rfl, Nat.le_of_ble_eq_true rfl⟩) rfl rfl hl.1 (Nat.le_of_ble_eq_true rfl) dX2_search_34 ⟨Nat.le_refl _, Nat.le_refl _⟩ (fun _ H locs _ hP hS => ?_)
          refine W.eq (g2 := F0 mG 37 ls [.int (nI (cntN t x t.length)), .int (nI x), .int a]) rfl ?_
          refine Ct.callS0 (rest := []) xh bh hml hown hts hK hP hS hA (ct_X4_funOfNext l D cI cJ cB cZ cA a x (cntN t x t.length) (by omega) (by have := cntN_le t x t.length; omega)) (va_cwS 3 hts gX2_search_X4_funOfNext rfl rfl rfl (by decide +kernel) ⟨Nat.le_of_ble_eq_true rfl, Nat.le_of_ble_eq_true rfl⟩) rfl rfl hl.1 (Nat.le_of_ble_eq_true rfl) dX2_search_37 ⟨Nat.le_refl _, Nat.le_refl _⟩ (fun _ H locs _ hP hS => ?_)
          refine W.eq (g2 := F0 mG 40 ls [.int (fxI a x (cntN t x t.length))]) rfl ?_
          refine lv_istore (lv' := [(7, .int (fxI a x (cntN t x t.length))), (0, .ref fu), (1, .long (eC t)), (3, .int a), (4, .int f), (5, .int (nI 2)), (6, .int (nI x))]) xh bh dX2_search_40 hl (by decide) rfl (fun ls hl => ?_)
          refine lv_aload_n xh bh dX2_search_42 rfl (lv_at hl 1 rfl) ?_
          refine lv_lload_n xh bh dX2_search_43 rfl (lv_at hl 2 rfl) ?_
          refine lv_iload xh bh dX2_search_44 (lv_at hl 6 rfl) ?_
          refine Ct.callS0 (rest := [.ref fu]) xh bh hml hown hts hK hP hS hA (ct_X7_added l D cI cJ cB cZ cA t x (by first | assumption | exact okT_nil) (by first | omega | assumption)) (va_cwS 2 hts gX2_search_X7_added rfl rfl rfl (by decide +kernel) ⟨Nat.le_of_ble_eq_true rfl, Nat.le_of_ble_eq_true rfl⟩) rfl rfl hl.1 (Nat.le_of_ble_eq_true rfl) dX2_search_46 ⟨Nat.le_refl _, Nat.le_refl _⟩ (fun _ H locs _ hP hS => ?_)
          refine W.eq (g2 := F0 mG 49 ls [.long (eC (addT t x)), .ref fu]) rfl ?_
          refine xw_topl (x := (eC (addT t x))) (y := (eC (t ++ [x]))) (by rw [addT_lt (by omega)]) ?_
          refine lv_iload xh bh dX2_search_49 (lv_at hl 6 rfl) ?_
          refine lv_iload xh bh dX2_search_51 (lv_at hl 4 rfl) ?_
          refine lv_iload xh bh dX2_search_53 (lv_at hl 0 rfl) ?_
          refine lv_iadd xh bh dX2_search_55 ?_
          refine lv_iload xh bh dX2_search_56 (lv_at hl 5 rfl) ?_
          refine lv_iconst (v := (nI 1)) xh bh dX2_search_58 (by decide) ?_
          refine xn_isub xh bh dX2_search_59 (by decide) ?_
          refine xw_topi (x := (nI (2 - 1))) (y := (nI 1)) (by rfl) ?_
          refine Ct.callV (As := [.long (eC (t ++ [x])), .int (nI x), .int (f + (fxI a x (cntN t x t.length))), .int (nI 1)]) (rest := []) (wr := []) xh bh hml hown hts hK hP hD hS hA (ct_X2_search1 l D cI cJ cB cZ cA fu fa0 fz0 b1 m1 y1 (t ++ [x]) (nI x) (f + (fxI a x (cntN t x t.length))) (by exact ht.app (by omega) (by omega)) (by rw [List.length_append]; show t.length + 1 + 1 ≤ 4; omega) (by exact ahI_last _ _) (by exact fnI_last ha hf) (by exact hb1)) (cwV 4 hts gX2_search_X2_search rfl rfl rfl (by decide +kernel) ⟨Nat.le_of_ble_eq_true rfl, Nat.le_of_ble_eq_true rfl⟩) rfl rfl hl.1 (Nat.le_of_ble_eq_true rfl) dX2_search_60 ⟨Nat.le_refl _, Nat.le_refl _⟩ 0 1 rfl rfl rfl [0] [] rfl (by decide) rfl rfl (by decide) (by decide) (fun _ H locs _ hP hD hS => ?_)
          have hP : va_P D vwCl [(fu, .inr (1, [.ref fa0, .ref fz0, .long (eC ((sch 1 (t ++ [x]) (y1, b1, m1)).2.1)), .int ((sch 1 (t ++ [x]) (y1, b1, m1)).2.2), .int (ib ((sch 1 (t ++ [x]) (y1, b1, m1)).1))]))] H := hP
          have hD : va_D AG [(fu, .inr (1, [.ref fa0, .ref fz0, .long (eC ((sch 1 (t ++ [x]) (y1, b1, m1)).2.1)), .int ((sch 1 (t ++ [x]) (y1, b1, m1)).2.2), .int (ib ((sch 1 (t ++ [x]) (y1, b1, m1)).1))]))] := hD
          refine W.eq (g2 := F0 mG 63 ls []) rfl ?_
          refine lv_iinc (v := (nI (x + 1))) (lv' := [(6, .int (nI (x + 1))), (7, .int (fxI a x (cntN t x t.length))), (0, .ref fu), (1, .long (eC t)), (3, .int a), (4, .int f), (5, .int (nI 2))]) xh bh dX2_search_63 hl (k := 6) rfl (by exact xn_inc _ _) (by decide) rfl (fun ls hl => ?_)
          refine lv_goto (tgt := 21) xh bh dX2_search_66 (by decide) ?_
          exact ih_21 (x + 1) ((sch 1 (t ++ [x]) (y1, b1, m1)).2.1) ((sch 1 (t ++ [x]) (y1, b1, m1)).2.2) ((sch 1 (t ++ [x]) (y1, b1, m1)).1) (by omega) (by exact sch_ok 1 (t ++ [x]) _ (ht.app (by omega) (by omega)) (by rw [List.length_append]; show t.length + 1 + 1 ≤ 10; omega) hb1) (by show _ = sch 1 (t ++ [x]) (schX (fun x s => sch 1 (t ++ [x]) s) x (y, b, m)); rw [← hs9]) (by omega) _ _ ls hP hD hS (lv_sub hl [2, 3, 4, 5, 6, 0] rfl)
    exact cut_21 (10 - 0 + 1) 0 b m y (by exact Nat.zero_le _) (by exact hb) (by rfl) (Nat.lt_succ_self _) _ _ ls hP hD hS (lv_sub hl [1, 2, 3, 4, 5, 0] rfl)
  · exact absurd c_2 (by decide)

set_option maxHeartbeats 1000000 in
set_option maxRecDepth 100000 in
theorem ct_X2_search3 (l : Launch) (D : va_G) (cI cJ cB cZ cA : ClassId) (fu : Nat) (fa0 : Nat) (fz0 : Nat) (b : List Nat) (m : Int32) (y : Bool) (t : List Nat) (a : Int32) (f : Int32) (ht : okT t) (hl : t.length + 3 ≤ 4) (ha : a = ahI t t.length) (hf : f = fnI t t.length) (hb : okT b) : Ct l yX2_search wsX2_search ({ frames := 4, cells := 0, slots := 0, locals := 104 }) D (tysG cI cJ cB cZ cA) [.ref fu, .long (eC t), .int a, .int f, .int (nI 3)] [(fu, .inr (1, [.ref fa0, .ref fz0, .long (eC b), .int m, .int (ib y)]))] (fun (_ : Unit) => True) (fun _ => none) (fun _ => [(fu, .inr (1, [.ref fa0, .ref fz0, .long (eC ((sch 3 t (y, b, m)).2.1)), .int ((sch 3 t (y, b, m)).2.2), .int (ib ((sch 3 t (y, b, m)).1))]))]) := by
  refine Ct.ofV (cc := cX2_search) (maxL := 8) (by decide) rfl (Nat.le_of_ble_eq_true rfl) ?_
  intro pG eG sG mG aG bG tG cG AG QG ls xh bh hml hown hts hK hP hD hS hA hend hl
  have hl : lv_has ls 8 [(0, .ref fu), (1, .long (eC t)), (3, .int a), (4, .int f), (5, .int (nI 3))] := hl
  refine lv_iload xh bh dX2_search_0 (lv_at hl 4 rfl) ?_
  refine xn_if_gt (tgt := 18) xh bh dX2_search_2 (by decide) (by decide) (fun c_2 => ?_) (fun c_2 => ?_)
  · refine lv_iconst (v := (nI 0)) xh bh dX2_search_18 (by decide) ?_
    refine lv_istore (lv' := [(6, .int (nI 0)), (0, .ref fu), (1, .long (eC t)), (3, .int a), (4, .int f), (5, .int (nI 3))]) xh bh dX2_search_19 hl (by decide) rfl (fun ls hl => ?_)
    have cut_21 : ∀ (n_21 : Nat), ∀ (x : Nat), ∀ (b1 : List Nat), ∀ (m1 : Int32), ∀ (y1 : Bool), (x ≤ 10) → (okT b1) → (((y1, b1, m1) : FS) = schX (fun x s => sch 2 (t ++ [x]) s) x (y, b, m)) → (10 - x) < n_21 → ∀ (H : Heap) (locs : List Loc) (ls : Array Slot), va_P D vwCl [(fu, .inr (1, [.ref fa0, .ref fz0, .long (eC b1), .int m1, .int (ib y1)]))] H → va_D AG [(fu, .inr (1, [.ref fa0, .ref fz0, .long (eC b1), .int m1, .int (ib y1)]))] → va_S AG sG.heap H locs → lv_has ls 8 [(0, .ref fu), (1, .long (eC t)), (3, .int a), (4, .int f), (5, .int (nI 3)), (6, .int (nI x))] → W pG l eG ({ frames := 4, cells := 0, slots := 0, locals := 104 }) sG mG aG bG tG cG H locs 0 0 QG (F0 mG 21 ls []) := by
      intro n_21
      induction n_21 with
      | zero =>
        intro x b1 m1 y1 hx9 hb1 hs9 hmu
        exact absurd hmu (Nat.not_lt_zero _)
      | succ n_21 ih_21 =>
        intro x b1 m1 y1 hx9 hb1 hs9 hmu H locs ls hP hD hS hl
        refine lv_iload xh bh dX2_search_21 (lv_at hl 5 rfl) ?_
        refine lv_bipush (v := (nI 10)) xh bh dX2_search_23 (by decide) ?_
        refine xn_icmp_ge (tgt := 69) xh bh dX2_search_25 (by decide) (by omega) (by omega) (fun c_25 => ?_) (fun c_25 => ?_)
        · exact hend () _ _ _ _ rfl trivial dX2_search_69 (by rw [show sch 3 t (y, b, m) = ((y1, b1, m1) : FS) by rw [hs9, show x = 10 by omega]; rfl]; exact hP) (by rw [show sch 3 t (y, b, m) = ((y1, b1, m1) : FS) by rw [hs9, show x = 10 by omega]; rfl]; exact hD) hS
        · refine lv_iload_n xh bh dX2_search_28 rfl (lv_at hl 2 rfl) ?_
          refine lv_iload xh bh dX2_search_29 (lv_at hl 5 rfl) ?_
          refine lv_lload_n xh bh dX2_search_31 rfl (lv_at hl 1 rfl) ?_
          refine lv_iload xh bh dX2_search_32 (lv_at hl 5 rfl) ?_
          refine Ct.callS0 (rest := [.int (nI x), .int a]) xh bh hml hown hts hK hP hS hA (ct_X7_timesIn l D cI cJ cB cZ cA t x (by first | assumption | exact okT_nil) (by first | omega | assumption)) (va_cwS 2 hts gX2_search_X7_timesIn rfl rfl rfl (by decide +kernel) ⟨Nat.le_of_ble_eq_true rfl, Nat.le_of_ble_eq_true rfl⟩) rfl rfl hl.1 (Nat.le_of_ble_eq_true rfl) dX2_search_34 ⟨Nat.le_refl _, Nat.le_refl _⟩ (fun _ H locs _ hP hS => ?_)
          refine W.eq (g2 := F0 mG 37 ls [.int (nI (cntN t x t.length)), .int (nI x), .int a]) rfl ?_
          refine Ct.callS0 (rest := []) xh bh hml hown hts hK hP hS hA (ct_X4_funOfNext l D cI cJ cB cZ cA a x (cntN t x t.length) (by omega) (by have := cntN_le t x t.length; omega)) (va_cwS 3 hts gX2_search_X4_funOfNext rfl rfl rfl (by decide +kernel) ⟨Nat.le_of_ble_eq_true rfl, Nat.le_of_ble_eq_true rfl⟩) rfl rfl hl.1 (Nat.le_of_ble_eq_true rfl) dX2_search_37 ⟨Nat.le_refl _, Nat.le_refl _⟩ (fun _ H locs _ hP hS => ?_)
          refine W.eq (g2 := F0 mG 40 ls [.int (fxI a x (cntN t x t.length))]) rfl ?_
          refine lv_istore (lv' := [(7, .int (fxI a x (cntN t x t.length))), (0, .ref fu), (1, .long (eC t)), (3, .int a), (4, .int f), (5, .int (nI 3)), (6, .int (nI x))]) xh bh dX2_search_40 hl (by decide) rfl (fun ls hl => ?_)
          refine lv_aload_n xh bh dX2_search_42 rfl (lv_at hl 1 rfl) ?_
          refine lv_lload_n xh bh dX2_search_43 rfl (lv_at hl 2 rfl) ?_
          refine lv_iload xh bh dX2_search_44 (lv_at hl 6 rfl) ?_
          refine Ct.callS0 (rest := [.ref fu]) xh bh hml hown hts hK hP hS hA (ct_X7_added l D cI cJ cB cZ cA t x (by first | assumption | exact okT_nil) (by first | omega | assumption)) (va_cwS 2 hts gX2_search_X7_added rfl rfl rfl (by decide +kernel) ⟨Nat.le_of_ble_eq_true rfl, Nat.le_of_ble_eq_true rfl⟩) rfl rfl hl.1 (Nat.le_of_ble_eq_true rfl) dX2_search_46 ⟨Nat.le_refl _, Nat.le_refl _⟩ (fun _ H locs _ hP hS => ?_)
          refine W.eq (g2 := F0 mG 49 ls [.long (eC (addT t x)), .ref fu]) rfl ?_
          refine xw_topl (x := (eC (addT t x))) (y := (eC (t ++ [x]))) (by rw [addT_lt (by omega)]) ?_
          refine lv_iload xh bh dX2_search_49 (lv_at hl 6 rfl) ?_
          refine lv_iload xh bh dX2_search_51 (lv_at hl 4 rfl) ?_
          refine lv_iload xh bh dX2_search_53 (lv_at hl 0 rfl) ?_
          refine lv_iadd xh bh dX2_search_55 ?_
          refine lv_iload xh bh dX2_search_56 (lv_at hl 5 rfl) ?_
          refine lv_iconst (v := (nI 1)) xh bh dX2_search_58 (by decide) ?_
          refine xn_isub xh bh dX2_search_59 (by decide) ?_
          refine xw_topi (x := (nI (3 - 1))) (y := (nI 2)) (by rfl) ?_
          refine Ct.callV (As := [.long (eC (t ++ [x])), .int (nI x), .int (f + (fxI a x (cntN t x t.length))), .int (nI 2)]) (rest := []) (wr := []) xh bh hml hown hts hK hP hD hS hA (ct_X2_search2 l D cI cJ cB cZ cA fu fa0 fz0 b1 m1 y1 (t ++ [x]) (nI x) (f + (fxI a x (cntN t x t.length))) (by exact ht.app (by omega) (by omega)) (by rw [List.length_append]; show t.length + 1 + 2 ≤ 4; omega) (by exact ahI_last _ _) (by exact fnI_last ha hf) (by exact hb1)) (cwV 4 hts gX2_search_X2_search rfl rfl rfl (by decide +kernel) ⟨Nat.le_of_ble_eq_true rfl, Nat.le_of_ble_eq_true rfl⟩) rfl rfl hl.1 (Nat.le_of_ble_eq_true rfl) dX2_search_60 ⟨Nat.le_refl _, Nat.le_refl _⟩ 0 1 rfl rfl rfl [0] [] rfl (by decide) rfl rfl (by decide) (by decide) (fun _ H locs _ hP hD hS => ?_)
          have hP : va_P D vwCl [(fu, .inr (1, [.ref fa0, .ref fz0, .long (eC ((sch 2 (t ++ [x]) (y1, b1, m1)).2.1)), .int ((sch 2 (t ++ [x]) (y1, b1, m1)).2.2), .int (ib ((sch 2 (t ++ [x]) (y1, b1, m1)).1))]))] H := hP
          have hD : va_D AG [(fu, .inr (1, [.ref fa0, .ref fz0, .long (eC ((sch 2 (t ++ [x]) (y1, b1, m1)).2.1)), .int ((sch 2 (t ++ [x]) (y1, b1, m1)).2.2), .int (ib ((sch 2 (t ++ [x]) (y1, b1, m1)).1))]))] := hD
          refine W.eq (g2 := F0 mG 63 ls []) rfl ?_
          refine lv_iinc (v := (nI (x + 1))) (lv' := [(6, .int (nI (x + 1))), (7, .int (fxI a x (cntN t x t.length))), (0, .ref fu), (1, .long (eC t)), (3, .int a), (4, .int f), (5, .int (nI 3))]) xh bh dX2_search_63 hl (k := 6) rfl (by exact xn_inc _ _) (by decide) rfl (fun ls hl => ?_)
          refine lv_goto (tgt := 21) xh bh dX2_search_66 (by decide) ?_
          exact ih_21 (x + 1) ((sch 2 (t ++ [x]) (y1, b1, m1)).2.1) ((sch 2 (t ++ [x]) (y1, b1, m1)).2.2) ((sch 2 (t ++ [x]) (y1, b1, m1)).1) (by omega) (by exact sch_ok 2 (t ++ [x]) _ (ht.app (by omega) (by omega)) (by rw [List.length_append]; show t.length + 1 + 2 ≤ 10; omega) hb1) (by show _ = sch 2 (t ++ [x]) (schX (fun x s => sch 2 (t ++ [x]) s) x (y, b, m)); rw [← hs9]) (by omega) _ _ ls hP hD hS (lv_sub hl [2, 3, 4, 5, 6, 0] rfl)
    exact cut_21 (10 - 0 + 1) 0 b m y (by exact Nat.zero_le _) (by exact hb) (by rfl) (Nat.lt_succ_self _) _ _ ls hP hD hS (lv_sub hl [1, 2, 3, 4, 5, 0] rfl)
  · exact absurd c_2 (by decide)

set_option maxHeartbeats 1000000 in
set_option maxRecDepth 100000 in
theorem ct_X2_search4 (l : Launch) (D : va_G) (cI cJ cB cZ cA : ClassId) (fu : Nat) (fa0 : Nat) (fz0 : Nat) (b : List Nat) (m : Int32) (y : Bool) (t : List Nat) (a : Int32) (f : Int32) (ht : okT t) (hl : t.length + 4 ≤ 4) (ha : a = ahI t t.length) (hf : f = fnI t t.length) (hb : okT b) : Ct l yX2_search wsX2_search ({ frames := 5, cells := 0, slots := 0, locals := 131 }) D (tysG cI cJ cB cZ cA) [.ref fu, .long (eC t), .int a, .int f, .int (nI 4)] [(fu, .inr (1, [.ref fa0, .ref fz0, .long (eC b), .int m, .int (ib y)]))] (fun (_ : Unit) => True) (fun _ => none) (fun _ => [(fu, .inr (1, [.ref fa0, .ref fz0, .long (eC ((sch 4 t (y, b, m)).2.1)), .int ((sch 4 t (y, b, m)).2.2), .int (ib ((sch 4 t (y, b, m)).1))]))]) := by
  refine Ct.ofV (cc := cX2_search) (maxL := 8) (by decide) rfl (Nat.le_of_ble_eq_true rfl) ?_
  intro pG eG sG mG aG bG tG cG AG QG ls xh bh hml hown hts hK hP hD hS hA hend hl
  have hl : lv_has ls 8 [(0, .ref fu), (1, .long (eC t)), (3, .int a), (4, .int f), (5, .int (nI 4))] := hl
  refine lv_iload xh bh dX2_search_0 (lv_at hl 4 rfl) ?_
  refine xn_if_gt (tgt := 18) xh bh dX2_search_2 (by decide) (by decide) (fun c_2 => ?_) (fun c_2 => ?_)
  · refine lv_iconst (v := (nI 0)) xh bh dX2_search_18 (by decide) ?_
    refine lv_istore (lv' := [(6, .int (nI 0)), (0, .ref fu), (1, .long (eC t)), (3, .int a), (4, .int f), (5, .int (nI 4))]) xh bh dX2_search_19 hl (by decide) rfl (fun ls hl => ?_)
    have cut_21 : ∀ (n_21 : Nat), ∀ (x : Nat), ∀ (b1 : List Nat), ∀ (m1 : Int32), ∀ (y1 : Bool), (x ≤ 10) → (okT b1) → (((y1, b1, m1) : FS) = schX (fun x s => sch 3 (t ++ [x]) s) x (y, b, m)) → (10 - x) < n_21 → ∀ (H : Heap) (locs : List Loc) (ls : Array Slot), va_P D vwCl [(fu, .inr (1, [.ref fa0, .ref fz0, .long (eC b1), .int m1, .int (ib y1)]))] H → va_D AG [(fu, .inr (1, [.ref fa0, .ref fz0, .long (eC b1), .int m1, .int (ib y1)]))] → va_S AG sG.heap H locs → lv_has ls 8 [(0, .ref fu), (1, .long (eC t)), (3, .int a), (4, .int f), (5, .int (nI 4)), (6, .int (nI x))] → W pG l eG ({ frames := 5, cells := 0, slots := 0, locals := 131 }) sG mG aG bG tG cG H locs 0 0 QG (F0 mG 21 ls []) := by
      intro n_21
      induction n_21 with
      | zero =>
        intro x b1 m1 y1 hx9 hb1 hs9 hmu
        exact absurd hmu (Nat.not_lt_zero _)
      | succ n_21 ih_21 =>
        intro x b1 m1 y1 hx9 hb1 hs9 hmu H locs ls hP hD hS hl
        refine lv_iload xh bh dX2_search_21 (lv_at hl 5 rfl) ?_
        refine lv_bipush (v := (nI 10)) xh bh dX2_search_23 (by decide) ?_
        refine xn_icmp_ge (tgt := 69) xh bh dX2_search_25 (by decide) (by omega) (by omega) (fun c_25 => ?_) (fun c_25 => ?_)
        · exact hend () _ _ _ _ rfl trivial dX2_search_69 (by rw [show sch 4 t (y, b, m) = ((y1, b1, m1) : FS) by rw [hs9, show x = 10 by omega]; rfl]; exact hP) (by rw [show sch 4 t (y, b, m) = ((y1, b1, m1) : FS) by rw [hs9, show x = 10 by omega]; rfl]; exact hD) hS
        · refine lv_iload_n xh bh dX2_search_28 rfl (lv_at hl 2 rfl) ?_
          refine lv_iload xh bh dX2_search_29 (lv_at hl 5 rfl) ?_
          refine lv_lload_n xh bh dX2_search_31 rfl (lv_at hl 1 rfl) ?_
          refine lv_iload xh bh dX2_search_32 (lv_at hl 5 rfl) ?_
          refine Ct.callS0 (rest := [.int (nI x), .int a]) xh bh hml hown hts hK hP hS hA (ct_X7_timesIn l D cI cJ cB cZ cA t x (by first | assumption | exact okT_nil) (by first | omega | assumption)) (va_cwS 2 hts gX2_search_X7_timesIn rfl rfl rfl (by decide +kernel) ⟨Nat.le_of_ble_eq_true rfl, Nat.le_of_ble_eq_true rfl⟩) rfl rfl hl.1 (Nat.le_of_ble_eq_true rfl) dX2_search_34 ⟨Nat.le_refl _, Nat.le_refl _⟩ (fun _ H locs _ hP hS => ?_)
          refine W.eq (g2 := F0 mG 37 ls [.int (nI (cntN t x t.length)), .int (nI x), .int a]) rfl ?_
          refine Ct.callS0 (rest := []) xh bh hml hown hts hK hP hS hA (ct_X4_funOfNext l D cI cJ cB cZ cA a x (cntN t x t.length) (by omega) (by have := cntN_le t x t.length; omega)) (va_cwS 3 hts gX2_search_X4_funOfNext rfl rfl rfl (by decide +kernel) ⟨Nat.le_of_ble_eq_true rfl, Nat.le_of_ble_eq_true rfl⟩) rfl rfl hl.1 (Nat.le_of_ble_eq_true rfl) dX2_search_37 ⟨Nat.le_refl _, Nat.le_refl _⟩ (fun _ H locs _ hP hS => ?_)
          refine W.eq (g2 := F0 mG 40 ls [.int (fxI a x (cntN t x t.length))]) rfl ?_
          refine lv_istore (lv' := [(7, .int (fxI a x (cntN t x t.length))), (0, .ref fu), (1, .long (eC t)), (3, .int a), (4, .int f), (5, .int (nI 4)), (6, .int (nI x))]) xh bh dX2_search_40 hl (by decide) rfl (fun ls hl => ?_)
          refine lv_aload_n xh bh dX2_search_42 rfl (lv_at hl 1 rfl) ?_
          refine lv_lload_n xh bh dX2_search_43 rfl (lv_at hl 2 rfl) ?_
          refine lv_iload xh bh dX2_search_44 (lv_at hl 6 rfl) ?_
          refine Ct.callS0 (rest := [.ref fu]) xh bh hml hown hts hK hP hS hA (ct_X7_added l D cI cJ cB cZ cA t x (by first | assumption | exact okT_nil) (by first | omega | assumption)) (va_cwS 2 hts gX2_search_X7_added rfl rfl rfl (by decide +kernel) ⟨Nat.le_of_ble_eq_true rfl, Nat.le_of_ble_eq_true rfl⟩) rfl rfl hl.1 (Nat.le_of_ble_eq_true rfl) dX2_search_46 ⟨Nat.le_refl _, Nat.le_refl _⟩ (fun _ H locs _ hP hS => ?_)
          refine W.eq (g2 := F0 mG 49 ls [.long (eC (addT t x)), .ref fu]) rfl ?_
          refine xw_topl (x := (eC (addT t x))) (y := (eC (t ++ [x]))) (by rw [addT_lt (by omega)]) ?_
          refine lv_iload xh bh dX2_search_49 (lv_at hl 6 rfl) ?_
          refine lv_iload xh bh dX2_search_51 (lv_at hl 4 rfl) ?_
          refine lv_iload xh bh dX2_search_53 (lv_at hl 0 rfl) ?_
          refine lv_iadd xh bh dX2_search_55 ?_
          refine lv_iload xh bh dX2_search_56 (lv_at hl 5 rfl) ?_
          refine lv_iconst (v := (nI 1)) xh bh dX2_search_58 (by decide) ?_
          refine xn_isub xh bh dX2_search_59 (by decide) ?_
          refine xw_topi (x := (nI (4 - 1))) (y := (nI 3)) (by rfl) ?_
          refine Ct.callV (As := [.long (eC (t ++ [x])), .int (nI x), .int (f + (fxI a x (cntN t x t.length))), .int (nI 3)]) (rest := []) (wr := []) xh bh hml hown hts hK hP hD hS hA (ct_X2_search3 l D cI cJ cB cZ cA fu fa0 fz0 b1 m1 y1 (t ++ [x]) (nI x) (f + (fxI a x (cntN t x t.length))) (by exact ht.app (by omega) (by omega)) (by rw [List.length_append]; show t.length + 1 + 3 ≤ 4; omega) (by exact ahI_last _ _) (by exact fnI_last ha hf) (by exact hb1)) (cwV 4 hts gX2_search_X2_search rfl rfl rfl (by decide +kernel) ⟨Nat.le_of_ble_eq_true rfl, Nat.le_of_ble_eq_true rfl⟩) rfl rfl hl.1 (Nat.le_of_ble_eq_true rfl) dX2_search_60 ⟨Nat.le_refl _, Nat.le_refl _⟩ 0 1 rfl rfl rfl [0] [] rfl (by decide) rfl rfl (by decide) (by decide) (fun _ H locs _ hP hD hS => ?_)
          have hP : va_P D vwCl [(fu, .inr (1, [.ref fa0, .ref fz0, .long (eC ((sch 3 (t ++ [x]) (y1, b1, m1)).2.1)), .int ((sch 3 (t ++ [x]) (y1, b1, m1)).2.2), .int (ib ((sch 3 (t ++ [x]) (y1, b1, m1)).1))]))] H := hP
          have hD : va_D AG [(fu, .inr (1, [.ref fa0, .ref fz0, .long (eC ((sch 3 (t ++ [x]) (y1, b1, m1)).2.1)), .int ((sch 3 (t ++ [x]) (y1, b1, m1)).2.2), .int (ib ((sch 3 (t ++ [x]) (y1, b1, m1)).1))]))] := hD
          refine W.eq (g2 := F0 mG 63 ls []) rfl ?_
          refine lv_iinc (v := (nI (x + 1))) (lv' := [(6, .int (nI (x + 1))), (7, .int (fxI a x (cntN t x t.length))), (0, .ref fu), (1, .long (eC t)), (3, .int a), (4, .int f), (5, .int (nI 4))]) xh bh dX2_search_63 hl (k := 6) rfl (by exact xn_inc _ _) (by decide) rfl (fun ls hl => ?_)
          refine lv_goto (tgt := 21) xh bh dX2_search_66 (by decide) ?_
          exact ih_21 (x + 1) ((sch 3 (t ++ [x]) (y1, b1, m1)).2.1) ((sch 3 (t ++ [x]) (y1, b1, m1)).2.2) ((sch 3 (t ++ [x]) (y1, b1, m1)).1) (by omega) (by exact sch_ok 3 (t ++ [x]) _ (ht.app (by omega) (by omega)) (by rw [List.length_append]; show t.length + 1 + 3 ≤ 10; omega) hb1) (by show _ = sch 3 (t ++ [x]) (schX (fun x s => sch 3 (t ++ [x]) s) x (y, b, m)); rw [← hs9]) (by omega) _ _ ls hP hD hS (lv_sub hl [2, 3, 4, 5, 6, 0] rfl)
    exact cut_21 (10 - 0 + 1) 0 b m y (by exact Nat.zero_le _) (by exact hb) (by rfl) (Nat.lt_succ_self _) _ _ ls hP hD hS (lv_sub hl [1, 2, 3, 4, 5, 0] rfl)
  · exact absurd c_2 (by decide)

set_option maxHeartbeats 1000000 in
set_option maxRecDepth 100000 in
theorem ct_X2_rowOf (l : Launch) (D : va_G) (cI cJ cB cZ cA : ClassId) (fu : Nat) (fa0 : Nat) (fz0 : Nat) (b : List Nat) (m : Int32) (y : Bool) (fr : Nat → List Nat) (fz : Nat → Nat) (k : Nat) (hb : okT b) (hfr : ∀ k, okT (fr k)) (hfz : ∀ k, fz k < 2) (hff : ∀ k, fz k = 1 → fr k = bsR k) (hk : k ≤ 4) : Ct l yX2_rowOf wsX2_rowOf ({ frames := 6, cells := 0, slots := 0, locals := 158 }) D (tysG cI cJ cB cZ cA) [.ref fu, .int (nI k)] [(fu, .inr (1, [.ref fa0, .ref fz0, .long (eC b), .int m, .int (ib y)])), (fa0, .inl (cJ, 5, .inr (.inl (fC fr)))), (fz0, .inl (cZ, 5, .inl (fN fz)))] (fun (u : FS × (Nat → List Nat) × (Nat → Nat)) => okT u.1.2.1 ∧ (∀ k, okT (u.2.1 k)) ∧ (∀ k, u.2.2 k < 2) ∧ (∀ k, u.2.2 k = 1 → u.2.1 k = bsR k)) (fun u => some (.long (eC (bsR k)))) (fun u => [(fu, .inr (1, [.ref fa0, .ref fz0, .long (eC u.1.2.1), .int u.1.2.2, .int (ib u.1.1)])), (fa0, .inl (cJ, 5, .inr (.inl (fC u.2.1)))), (fz0, .inl (cZ, 5, .inl (fN u.2.2)))]) := by
  refine Ct.ofL (cc := cX2_rowOf) (maxL := 2) (by decide) rfl (Nat.le_of_ble_eq_true rfl) ?_
  intro pG eG sG mG aG bG tG cG AG QG ls xh bh hml hown hts hK hP hD hS hA hend hl
  have hl : lv_has ls 2 [(0, .ref fu), (1, .int (nI k))] := hl
  refine lv_iload_n xh bh dX2_rowOf_0 rfl (lv_at hl 1 rfl) ?_
  refine lv_iconst (v := (nI 4)) xh bh dX2_rowOf_1 (by decide) ?_
  refine Ct.callN0 (rest := []) xh bh hml hown hts hK hP hS hA (ct_X8_isUpTo l D cI cJ cB cZ cA (nI k) 4 (by first | omega | assumption)) ⟨va_cnB 2 hts gX2_rowOf_X8_isUpTo_n19 rfl rfl rfl (hK.2.at 0 rfl) (hts _ (List.mem_of_getElem? (i := 6) rfl)) (by decide +kernel) ⟨Nat.le_of_ble_eq_true rfl, Nat.le_of_ble_eq_true rfl⟩, hts _ (List.mem_of_getElem? (i := 5) rfl), trivial⟩ rfl rfl hl.1 (Nat.le_of_ble_eq_true rfl) dX2_rowOf_2 ⟨Nat.le_refl _, Nat.le_refl _⟩ (fun _ H locs _ hP hS => ?_)
  refine W.eq (g2 := F0 mG 5 ls [.int (ib (upB (nI k) 4))]) rfl ?_
  refine xb_if_ne (tgt := 10) xh bh dX2_rowOf_5 (by decide) (fun c_5 => ?_) (fun c_5 => ?_)
  · refine lv_aload_n xh bh dX2_rowOf_10 rfl (lv_at hl 0 rfl) ?_
    refine va_get (D := D) (ci := 1) (v := .ref fz0) (C := RX2) (T := TX2) (N := 5) xh bh hts (fun _ h => List.mem_cons_of_mem _ (List.mem_append_right _ (h))) hown hK.1 hP 0 rfl rfl 1 (by decide) (hts _ (List.mem_of_getElem? (i := 1) rfl)) (fun _ h9 => h9) rfl dX2_rowOf_11 ?_
    refine lv_iload_n xh bh dX2_rowOf_14 rfl (lv_at hl 1 rfl) ?_
    refine xa_zald xh bh hK.1 hP 2 3 rfl rfl (by omega) (by omega) dX2_rowOf_15 ?_
    refine W.eq (g2 := F0 mG 16 ls [.int (nI (fz k))]) rfl ?_
    refine xn_if_ne (tgt := 49) xh bh dX2_rowOf_16 (by decide) (by have := hfz k; omega) (fun c_16 => ?_) (fun c_16 => ?_)
    · refine lv_aload_n xh bh dX2_rowOf_49 rfl (lv_at hl 0 rfl) ?_
      refine va_get (D := D) (ci := 1) (v := .ref fa0) (C := RX2) (T := TX2) (N := 5) xh bh hts (fun _ h => List.mem_cons_of_mem _ (List.mem_append_right _ (h))) hown hK.1 hP 0 rfl rfl 0 (by decide) (hts _ (List.mem_of_getElem? (i := 3) rfl)) (fun _ h9 => h9) rfl dX2_rowOf_50 ?_
      refine lv_iload_n xh bh dX2_rowOf_53 rfl (lv_at hl 1 rfl) ?_
      refine xa_lald xh bh hK.1 hP 1 1 rfl rfl (by omega) (by omega) dX2_rowOf_54 ?_
      refine W.eq (g2 := F0 mG 55 ls [.long (eC (fr k))]) rfl ?_
      exact hend (eC (fr k)) ((y, b, m), fr, fz) _ _ _ _ (congrArg (fun z => some (Value.long (eC z))) (by first | exact (hff k (by have := hfz k; omega)).symm | (show bsR _ = (va_up _ _ _) _; rw [va_up_self]; exact congrArg (fun z => z.2.1) (sch_ind _ [] (false, [], 0) (false, b, m) rfl rfl)))) (by first | exact And.intro hb (And.intro hfr (And.intro hfz hff)) | exact And.intro (sch_ok _ [] _ okT_nil (by decide) hb) (And.intro (okT_up hfr (sch_ok _ [] _ okT_nil (by decide) hb) _) (And.intro (fz_up hfz) (ff_up hff (congrArg (fun z => z.2.1) (sch_ind _ [] (false, b, m) (false, [], 0) rfl rfl)))))) dX2_rowOf_55 (by exact hP) (by exact hD) hS
    · refine lv_aload_n xh bh dX2_rowOf_19 rfl (lv_at hl 0 rfl) ?_
      refine lv_iconst (v := (nI 0)) xh bh dX2_rowOf_20 (by decide) ?_
      refine va_put (D := D) (ci := 1) (v := .int (nI 0)) (ty := .boolean) (C := RX2) (T := TX2) (N := 5) xh bh hts (fun _ h => List.mem_cons_of_mem _ (List.mem_append_right _ (h))) tyX2 tyX2_ok nmX2 hown hK.1 hP hD hS 0 rfl rfl 4 (by decide) (hts _ (List.mem_of_getElem? (i := 2) rfl)) (fun _ h9 => h9) rfl (by decide +kernel) (by exact vz_bool (by decide)) (by rfl) (Nat.le_of_ble_eq_true rfl) dX2_rowOf_21 (fun H locs hP hD hS => ?_)
      have hP : va_P D vwCl [(fu, .inr (1, [.ref fa0, .ref fz0, .long (eC b), .int m, .int (nI 0)])), (fa0, .inl (cJ, 5, .inr (.inl (fC fr)))), (fz0, .inl (cZ, 5, .inl (fN fz)))] H := hP
      have hD : va_D AG [(fu, .inr (1, [.ref fa0, .ref fz0, .long (eC b), .int m, .int (nI 0)])), (fa0, .inl (cJ, 5, .inr (.inl (fC fr)))), (fz0, .inl (cZ, 5, .inl (fN fz)))] := hD
      have hP : va_P D vwCl [(fu, .inr (1, [.ref fa0, .ref fz0, .long (eC b), .int m, .int (ib false)])), (fa0, .inl (cJ, 5, .inr (.inl (fC fr)))), (fz0, .inl (cZ, 5, .inl (fN fz)))] H := hP
      have hD : va_D AG [(fu, .inr (1, [.ref fa0, .ref fz0, .long (eC b), .int m, .int (ib false)])), (fa0, .inl (cJ, 5, .inr (.inl (fC fr)))), (fz0, .inl (cZ, 5, .inl (fN fz)))] := hD
      refine lv_aload_n xh bh dX2_rowOf_24 rfl (lv_at hl 0 rfl) ?_
      refine lv_lconst (v := lN 0) xh bh dX2_rowOf_25 (by decide) ?_
      refine lv_iconst (v := (-1)) xh bh dX2_rowOf_26 (by decide) ?_
      refine lv_iconst (v := (nI 0)) xh bh dX2_rowOf_27 (by decide) ?_
      refine lv_iload_n xh bh dX2_rowOf_28 rfl (lv_at hl 1 rfl) ?_
      rcases (show k = 0 ∨ k = 1 ∨ k = 2 ∨ k = 3 ∨ k = 4 by omega) with rfl | rfl | rfl | rfl | rfl
      · refine Ct.callV (As := [.long (lN 0), .int (-1), .int (nI 0), .int (nI 0)]) (rest := []) (wr := [(fa0, .inl (cJ, 5, .inr (.inl (fC fr)))), (fz0, .inl (cZ, 5, .inl (fN fz)))]) xh bh hml hown hts hK hP hD hS hA (ct_X2_search0 l D cI cJ cB cZ cA fu fa0 fz0 b m false ([]) (-1) (nI 0) (by exact okT_nil) (by decide) (by rfl) (by rfl) (by exact hb)) (cwV 4 hts gX2_rowOf_X2_search rfl rfl rfl (by decide +kernel) ⟨Nat.le_of_ble_eq_true rfl, Nat.le_of_ble_eq_true rfl⟩) rfl rfl hl.1 (Nat.le_of_ble_eq_true rfl) dX2_rowOf_29 ⟨Nat.le_refl _, Nat.le_refl _⟩ 0 1 rfl rfl rfl [0] [1, 2] rfl (by decide) rfl rfl (by decide) (by decide) (fun _ H locs _ hP hD hS => ?_)
        have hP : va_P D vwCl [(fa0, .inl (cJ, 5, .inr (.inl (fC fr)))), (fz0, .inl (cZ, 5, .inl (fN fz))), (fu, .inr (1, [.ref fa0, .ref fz0, .long (eC ((sch 0 ([]) (false, b, m)).2.1)), .int ((sch 0 ([]) (false, b, m)).2.2), .int (ib ((sch 0 ([]) (false, b, m)).1))]))] H := hP
        have hD : va_D AG [(fa0, .inl (cJ, 5, .inr (.inl (fC fr)))), (fz0, .inl (cZ, 5, .inl (fN fz))), (fu, .inr (1, [.ref fa0, .ref fz0, .long (eC ((sch 0 ([]) (false, b, m)).2.1)), .int ((sch 0 ([]) (false, b, m)).2.2), .int (ib ((sch 0 ([]) (false, b, m)).1))]))] := hD
        refine W.eq (g2 := F0 mG 32 ls []) rfl ?_
        refine lv_aload_n xh bh dX2_rowOf_32 rfl (lv_at hl 0 rfl) ?_
        refine va_get (D := D) (ci := 1) (v := .ref fa0) (C := RX2) (T := TX2) (N := 5) xh bh hts (fun _ h => List.mem_cons_of_mem _ (List.mem_append_right _ (h))) hown hK.1 hP 2 rfl rfl 0 (by decide) (hts _ (List.mem_of_getElem? (i := 3) rfl)) (fun _ h9 => h9) rfl dX2_rowOf_33 ?_
        refine lv_iload_n xh bh dX2_rowOf_36 rfl (lv_at hl 1 rfl) ?_
        refine lv_aload_n xh bh dX2_rowOf_37 rfl (lv_at hl 0 rfl) ?_
        refine va_get (D := D) (ci := 1) (v := .long (eC ((sch 0 ([]) (false, b, m)).2.1))) (C := RX2) (T := TX2) (N := 5) xh bh hts (fun _ h => List.mem_cons_of_mem _ (List.mem_append_right _ (h))) hown hK.1 hP 2 rfl rfl 2 (by decide) (hts _ (List.mem_of_getElem? (i := 4) rfl)) (fun _ h9 => h9) rfl dX2_rowOf_38 ?_
        refine xc_last xh bh hK.1 hP hD hS 0 1 rfl rfl (by omega) (by omega) dX2_rowOf_41 (fun H locs hP hD hS => ?_)
        have hP : va_P D vwCl [(fa0, .inl (cJ, 5, .inr (.inl (fC (va_up fr 0 ((sch 0 ([]) (false, b, m)).2.1)))))), (fz0, .inl (cZ, 5, .inl (fN fz))), (fu, .inr (1, [.ref fa0, .ref fz0, .long (eC ((sch 0 ([]) (false, b, m)).2.1)), .int ((sch 0 ([]) (false, b, m)).2.2), .int (ib ((sch 0 ([]) (false, b, m)).1))]))] H := hP
        have hD : va_D AG [(fa0, .inl (cJ, 5, .inr (.inl (fC (va_up fr 0 ((sch 0 ([]) (false, b, m)).2.1)))))), (fz0, .inl (cZ, 5, .inl (fN fz))), (fu, .inr (1, [.ref fa0, .ref fz0, .long (eC ((sch 0 ([]) (false, b, m)).2.1)), .int ((sch 0 ([]) (false, b, m)).2.2), .int (ib ((sch 0 ([]) (false, b, m)).1))]))] := hD
        refine lv_aload_n xh bh dX2_rowOf_42 rfl (lv_at hl 0 rfl) ?_
        refine va_get (D := D) (ci := 1) (v := .ref fz0) (C := RX2) (T := TX2) (N := 5) xh bh hts (fun _ h => List.mem_cons_of_mem _ (List.mem_append_right _ (h))) hown hK.1 hP 2 rfl rfl 1 (by decide) (hts _ (List.mem_of_getElem? (i := 1) rfl)) (fun _ h9 => h9) rfl dX2_rowOf_43 ?_
        refine lv_iload_n xh bh dX2_rowOf_46 rfl (lv_at hl 1 rfl) ?_
        refine lv_iconst (v := (nI 1)) xh bh dX2_rowOf_47 (by decide) ?_
        refine xN_zast xh bh hK.1 hP hD hS 1 3 rfl rfl (by omega) (by omega) (by decide) dX2_rowOf_48 (fun H locs hP hD hS => ?_)
        have hP : va_P D vwCl [(fa0, .inl (cJ, 5, .inr (.inl (fC (va_up fr 0 ((sch 0 ([]) (false, b, m)).2.1)))))), (fz0, .inl (cZ, 5, .inl (fN (va_up fz 0 1)))), (fu, .inr (1, [.ref fa0, .ref fz0, .long (eC ((sch 0 ([]) (false, b, m)).2.1)), .int ((sch 0 ([]) (false, b, m)).2.2), .int (ib ((sch 0 ([]) (false, b, m)).1))]))] H := hP
        have hD : va_D AG [(fa0, .inl (cJ, 5, .inr (.inl (fC (va_up fr 0 ((sch 0 ([]) (false, b, m)).2.1)))))), (fz0, .inl (cZ, 5, .inl (fN (va_up fz 0 1)))), (fu, .inr (1, [.ref fa0, .ref fz0, .long (eC ((sch 0 ([]) (false, b, m)).2.1)), .int ((sch 0 ([]) (false, b, m)).2.2), .int (ib ((sch 0 ([]) (false, b, m)).1))]))] := hD
        refine lv_aload_n xh bh dX2_rowOf_49 rfl (lv_at hl 0 rfl) ?_
        refine va_get (D := D) (ci := 1) (v := .ref fa0) (C := RX2) (T := TX2) (N := 5) xh bh hts (fun _ h => List.mem_cons_of_mem _ (List.mem_append_right _ (h))) hown hK.1 hP 2 rfl rfl 0 (by decide) (hts _ (List.mem_of_getElem? (i := 3) rfl)) (fun _ h9 => h9) rfl dX2_rowOf_50 ?_
        refine lv_iload_n xh bh dX2_rowOf_53 rfl (lv_at hl 1 rfl) ?_
        refine xa_lald xh bh hK.1 hP 0 1 rfl rfl (by omega) (by omega) dX2_rowOf_54 ?_
        refine W.eq (g2 := F0 mG 55 ls [.long (eC ((va_up fr 0 ((sch 0 ([]) (false, b, m)).2.1)) 0))]) rfl ?_
        exact hend (eC ((va_up fr 0 ((sch 0 ([]) (false, b, m)).2.1)) 0)) (((sch 0 ([]) (false, b, m)).1, (sch 0 ([]) (false, b, m)).2.1, ((sch 0 ([]) (false, b, m)).2.2)), (va_up fr 0 ((sch 0 ([]) (false, b, m)).2.1)), (va_up fz 0 1)) _ _ _ _ (congrArg (fun z => some (Value.long (eC z))) (by first | exact (hff k (by have := hfz k; omega)).symm | (show bsR _ = (va_up _ _ _) _; rw [va_up_self]; exact congrArg (fun z => z.2.1) (sch_ind _ [] (false, [], 0) (false, b, m) rfl rfl)))) (by first | exact And.intro hb (And.intro hfr (And.intro hfz hff)) | exact And.intro (sch_ok _ [] _ okT_nil (by decide) hb) (And.intro (okT_up hfr (sch_ok _ [] _ okT_nil (by decide) hb) _) (And.intro (fz_up hfz) (ff_up hff (congrArg (fun z => z.2.1) (sch_ind _ [] (false, b, m) (false, [], 0) rfl rfl)))))) dX2_rowOf_55 (by exact (hP.sub [2, 0, 1] rfl)) (by exact (hD.sub [2, 0, 1] (by decide) rfl)) hS
      · refine Ct.callV (As := [.long (lN 0), .int (-1), .int (nI 0), .int (nI 1)]) (rest := []) (wr := [(fa0, .inl (cJ, 5, .inr (.inl (fC fr)))), (fz0, .inl (cZ, 5, .inl (fN fz)))]) xh bh hml hown hts hK hP hD hS hA (ct_X2_search1 l D cI cJ cB cZ cA fu fa0 fz0 b m false ([]) (-1) (nI 0) (by exact okT_nil) (by decide) (by rfl) (by rfl) (by exact hb)) (cwV 4 hts gX2_rowOf_X2_search rfl rfl rfl (by decide +kernel) ⟨Nat.le_of_ble_eq_true rfl, Nat.le_of_ble_eq_true rfl⟩) rfl rfl hl.1 (Nat.le_of_ble_eq_true rfl) dX2_rowOf_29 ⟨Nat.le_refl _, Nat.le_refl _⟩ 0 1 rfl rfl rfl [0] [1, 2] rfl (by decide) rfl rfl (by decide) (by decide) (fun _ H locs _ hP hD hS => ?_)
        have hP : va_P D vwCl [(fa0, .inl (cJ, 5, .inr (.inl (fC fr)))), (fz0, .inl (cZ, 5, .inl (fN fz))), (fu, .inr (1, [.ref fa0, .ref fz0, .long (eC ((sch 1 ([]) (false, b, m)).2.1)), .int ((sch 1 ([]) (false, b, m)).2.2), .int (ib ((sch 1 ([]) (false, b, m)).1))]))] H := hP
        have hD : va_D AG [(fa0, .inl (cJ, 5, .inr (.inl (fC fr)))), (fz0, .inl (cZ, 5, .inl (fN fz))), (fu, .inr (1, [.ref fa0, .ref fz0, .long (eC ((sch 1 ([]) (false, b, m)).2.1)), .int ((sch 1 ([]) (false, b, m)).2.2), .int (ib ((sch 1 ([]) (false, b, m)).1))]))] := hD
        refine W.eq (g2 := F0 mG 32 ls []) rfl ?_
        refine lv_aload_n xh bh dX2_rowOf_32 rfl (lv_at hl 0 rfl) ?_
        refine va_get (D := D) (ci := 1) (v := .ref fa0) (C := RX2) (T := TX2) (N := 5) xh bh hts (fun _ h => List.mem_cons_of_mem _ (List.mem_append_right _ (h))) hown hK.1 hP 2 rfl rfl 0 (by decide) (hts _ (List.mem_of_getElem? (i := 3) rfl)) (fun _ h9 => h9) rfl dX2_rowOf_33 ?_
        refine lv_iload_n xh bh dX2_rowOf_36 rfl (lv_at hl 1 rfl) ?_
        refine lv_aload_n xh bh dX2_rowOf_37 rfl (lv_at hl 0 rfl) ?_
        refine va_get (D := D) (ci := 1) (v := .long (eC ((sch 1 ([]) (false, b, m)).2.1))) (C := RX2) (T := TX2) (N := 5) xh bh hts (fun _ h => List.mem_cons_of_mem _ (List.mem_append_right _ (h))) hown hK.1 hP 2 rfl rfl 2 (by decide) (hts _ (List.mem_of_getElem? (i := 4) rfl)) (fun _ h9 => h9) rfl dX2_rowOf_38 ?_
        refine xc_last xh bh hK.1 hP hD hS 0 1 rfl rfl (by omega) (by omega) dX2_rowOf_41 (fun H locs hP hD hS => ?_)
        have hP : va_P D vwCl [(fa0, .inl (cJ, 5, .inr (.inl (fC (va_up fr 1 ((sch 1 ([]) (false, b, m)).2.1)))))), (fz0, .inl (cZ, 5, .inl (fN fz))), (fu, .inr (1, [.ref fa0, .ref fz0, .long (eC ((sch 1 ([]) (false, b, m)).2.1)), .int ((sch 1 ([]) (false, b, m)).2.2), .int (ib ((sch 1 ([]) (false, b, m)).1))]))] H := hP
        have hD : va_D AG [(fa0, .inl (cJ, 5, .inr (.inl (fC (va_up fr 1 ((sch 1 ([]) (false, b, m)).2.1)))))), (fz0, .inl (cZ, 5, .inl (fN fz))), (fu, .inr (1, [.ref fa0, .ref fz0, .long (eC ((sch 1 ([]) (false, b, m)).2.1)), .int ((sch 1 ([]) (false, b, m)).2.2), .int (ib ((sch 1 ([]) (false, b, m)).1))]))] := hD
        refine lv_aload_n xh bh dX2_rowOf_42 rfl (lv_at hl 0 rfl) ?_
        refine va_get (D := D) (ci := 1) (v := .ref fz0) (C := RX2) (T := TX2) (N := 5) xh bh hts (fun _ h => List.mem_cons_of_mem _ (List.mem_append_right _ (h))) hown hK.1 hP 2 rfl rfl 1 (by decide) (hts _ (List.mem_of_getElem? (i := 1) rfl)) (fun _ h9 => h9) rfl dX2_rowOf_43 ?_
        refine lv_iload_n xh bh dX2_rowOf_46 rfl (lv_at hl 1 rfl) ?_
        refine lv_iconst (v := (nI 1)) xh bh dX2_rowOf_47 (by decide) ?_
        refine xN_zast xh bh hK.1 hP hD hS 1 3 rfl rfl (by omega) (by omega) (by decide) dX2_rowOf_48 (fun H locs hP hD hS => ?_)
        have hP : va_P D vwCl [(fa0, .inl (cJ, 5, .inr (.inl (fC (va_up fr 1 ((sch 1 ([]) (false, b, m)).2.1)))))), (fz0, .inl (cZ, 5, .inl (fN (va_up fz 1 1)))), (fu, .inr (1, [.ref fa0, .ref fz0, .long (eC ((sch 1 ([]) (false, b, m)).2.1)), .int ((sch 1 ([]) (false, b, m)).2.2), .int (ib ((sch 1 ([]) (false, b, m)).1))]))] H := hP
        have hD : va_D AG [(fa0, .inl (cJ, 5, .inr (.inl (fC (va_up fr 1 ((sch 1 ([]) (false, b, m)).2.1)))))), (fz0, .inl (cZ, 5, .inl (fN (va_up fz 1 1)))), (fu, .inr (1, [.ref fa0, .ref fz0, .long (eC ((sch 1 ([]) (false, b, m)).2.1)), .int ((sch 1 ([]) (false, b, m)).2.2), .int (ib ((sch 1 ([]) (false, b, m)).1))]))] := hD
        refine lv_aload_n xh bh dX2_rowOf_49 rfl (lv_at hl 0 rfl) ?_
        refine va_get (D := D) (ci := 1) (v := .ref fa0) (C := RX2) (T := TX2) (N := 5) xh bh hts (fun _ h => List.mem_cons_of_mem _ (List.mem_append_right _ (h))) hown hK.1 hP 2 rfl rfl 0 (by decide) (hts _ (List.mem_of_getElem? (i := 3) rfl)) (fun _ h9 => h9) rfl dX2_rowOf_50 ?_
        refine lv_iload_n xh bh dX2_rowOf_53 rfl (lv_at hl 1 rfl) ?_
        refine xa_lald xh bh hK.1 hP 0 1 rfl rfl (by omega) (by omega) dX2_rowOf_54 ?_
        refine W.eq (g2 := F0 mG 55 ls [.long (eC ((va_up fr 1 ((sch 1 ([]) (false, b, m)).2.1)) 1))]) rfl ?_
        exact hend (eC ((va_up fr 1 ((sch 1 ([]) (false, b, m)).2.1)) 1)) (((sch 1 ([]) (false, b, m)).1, (sch 1 ([]) (false, b, m)).2.1, ((sch 1 ([]) (false, b, m)).2.2)), (va_up fr 1 ((sch 1 ([]) (false, b, m)).2.1)), (va_up fz 1 1)) _ _ _ _ (congrArg (fun z => some (Value.long (eC z))) (by first | exact (hff k (by have := hfz k; omega)).symm | (show bsR _ = (va_up _ _ _) _; rw [va_up_self]; exact congrArg (fun z => z.2.1) (sch_ind _ [] (false, [], 0) (false, b, m) rfl rfl)))) (by first | exact And.intro hb (And.intro hfr (And.intro hfz hff)) | exact And.intro (sch_ok _ [] _ okT_nil (by decide) hb) (And.intro (okT_up hfr (sch_ok _ [] _ okT_nil (by decide) hb) _) (And.intro (fz_up hfz) (ff_up hff (congrArg (fun z => z.2.1) (sch_ind _ [] (false, b, m) (false, [], 0) rfl rfl)))))) dX2_rowOf_55 (by exact (hP.sub [2, 0, 1] rfl)) (by exact (hD.sub [2, 0, 1] (by decide) rfl)) hS
      · refine Ct.callV (As := [.long (lN 0), .int (-1), .int (nI 0), .int (nI 2)]) (rest := []) (wr := [(fa0, .inl (cJ, 5, .inr (.inl (fC fr)))), (fz0, .inl (cZ, 5, .inl (fN fz)))]) xh bh hml hown hts hK hP hD hS hA (ct_X2_search2 l D cI cJ cB cZ cA fu fa0 fz0 b m false ([]) (-1) (nI 0) (by exact okT_nil) (by decide) (by rfl) (by rfl) (by exact hb)) (cwV 4 hts gX2_rowOf_X2_search rfl rfl rfl (by decide +kernel) ⟨Nat.le_of_ble_eq_true rfl, Nat.le_of_ble_eq_true rfl⟩) rfl rfl hl.1 (Nat.le_of_ble_eq_true rfl) dX2_rowOf_29 ⟨Nat.le_refl _, Nat.le_refl _⟩ 0 1 rfl rfl rfl [0] [1, 2] rfl (by decide) rfl rfl (by decide) (by decide) (fun _ H locs _ hP hD hS => ?_)
        have hP : va_P D vwCl [(fa0, .inl (cJ, 5, .inr (.inl (fC fr)))), (fz0, .inl (cZ, 5, .inl (fN fz))), (fu, .inr (1, [.ref fa0, .ref fz0, .long (eC ((sch 2 ([]) (false, b, m)).2.1)), .int ((sch 2 ([]) (false, b, m)).2.2), .int (ib ((sch 2 ([]) (false, b, m)).1))]))] H := hP
        have hD : va_D AG [(fa0, .inl (cJ, 5, .inr (.inl (fC fr)))), (fz0, .inl (cZ, 5, .inl (fN fz))), (fu, .inr (1, [.ref fa0, .ref fz0, .long (eC ((sch 2 ([]) (false, b, m)).2.1)), .int ((sch 2 ([]) (false, b, m)).2.2), .int (ib ((sch 2 ([]) (false, b, m)).1))]))] := hD
        refine W.eq (g2 := F0 mG 32 ls []) rfl ?_
        refine lv_aload_n xh bh dX2_rowOf_32 rfl (lv_at hl 0 rfl) ?_
        refine va_get (D := D) (ci := 1) (v := .ref fa0) (C := RX2) (T := TX2) (N := 5) xh bh hts (fun _ h => List.mem_cons_of_mem _ (List.mem_append_right _ (h))) hown hK.1 hP 2 rfl rfl 0 (by decide) (hts _ (List.mem_of_getElem? (i := 3) rfl)) (fun _ h9 => h9) rfl dX2_rowOf_33 ?_
        refine lv_iload_n xh bh dX2_rowOf_36 rfl (lv_at hl 1 rfl) ?_
        refine lv_aload_n xh bh dX2_rowOf_37 rfl (lv_at hl 0 rfl) ?_
        refine va_get (D := D) (ci := 1) (v := .long (eC ((sch 2 ([]) (false, b, m)).2.1))) (C := RX2) (T := TX2) (N := 5) xh bh hts (fun _ h => List.mem_cons_of_mem _ (List.mem_append_right _ (h))) hown hK.1 hP 2 rfl rfl 2 (by decide) (hts _ (List.mem_of_getElem? (i := 4) rfl)) (fun _ h9 => h9) rfl dX2_rowOf_38 ?_
        refine xc_last xh bh hK.1 hP hD hS 0 1 rfl rfl (by omega) (by omega) dX2_rowOf_41 (fun H locs hP hD hS => ?_)
        have hP : va_P D vwCl [(fa0, .inl (cJ, 5, .inr (.inl (fC (va_up fr 2 ((sch 2 ([]) (false, b, m)).2.1)))))), (fz0, .inl (cZ, 5, .inl (fN fz))), (fu, .inr (1, [.ref fa0, .ref fz0, .long (eC ((sch 2 ([]) (false, b, m)).2.1)), .int ((sch 2 ([]) (false, b, m)).2.2), .int (ib ((sch 2 ([]) (false, b, m)).1))]))] H := hP
        have hD : va_D AG [(fa0, .inl (cJ, 5, .inr (.inl (fC (va_up fr 2 ((sch 2 ([]) (false, b, m)).2.1)))))), (fz0, .inl (cZ, 5, .inl (fN fz))), (fu, .inr (1, [.ref fa0, .ref fz0, .long (eC ((sch 2 ([]) (false, b, m)).2.1)), .int ((sch 2 ([]) (false, b, m)).2.2), .int (ib ((sch 2 ([]) (false, b, m)).1))]))] := hD
        refine lv_aload_n xh bh dX2_rowOf_42 rfl (lv_at hl 0 rfl) ?_
        refine va_get (D := D) (ci := 1) (v := .ref fz0) (C := RX2) (T := TX2) (N := 5) xh bh hts (fun _ h => List.mem_cons_of_mem _ (List.mem_append_right _ (h))) hown hK.1 hP 2 rfl rfl 1 (by decide) (hts _ (List.mem_of_getElem? (i := 1) rfl)) (fun _ h9 => h9) rfl dX2_rowOf_43 ?_
        refine lv_iload_n xh bh dX2_rowOf_46 rfl (lv_at hl 1 rfl) ?_
        refine lv_iconst (v := (nI 1)) xh bh dX2_rowOf_47 (by decide) ?_
        refine xN_zast xh bh hK.1 hP hD hS 1 3 rfl rfl (by omega) (by omega) (by decide) dX2_rowOf_48 (fun H locs hP hD hS => ?_)
        have hP : va_P D vwCl [(fa0, .inl (cJ, 5, .inr (.inl (fC (va_up fr 2 ((sch 2 ([]) (false, b, m)).2.1)))))), (fz0, .inl (cZ, 5, .inl (fN (va_up fz 2 1)))), (fu, .inr (1, [.ref fa0, .ref fz0, .long (eC ((sch 2 ([]) (false, b, m)).2.1)), .int ((sch 2 ([]) (false, b, m)).2.2), .int (ib ((sch 2 ([]) (false, b, m)).1))]))] H := hP
        have hD : va_D AG [(fa0, .inl (cJ, 5, .inr (.inl (fC (va_up fr 2 ((sch 2 ([]) (false, b, m)).2.1)))))), (fz0, .inl (cZ, 5, .inl (fN (va_up fz 2 1)))), (fu, .inr (1, [.ref fa0, .ref fz0, .long (eC ((sch 2 ([]) (false, b, m)).2.1)), .int ((sch 2 ([]) (false, b, m)).2.2), .int (ib ((sch 2 ([]) (false, b, m)).1))]))] := hD
        refine lv_aload_n xh bh dX2_rowOf_49 rfl (lv_at hl 0 rfl) ?_
        refine va_get (D := D) (ci := 1) (v := .ref fa0) (C := RX2) (T := TX2) (N := 5) xh bh hts (fun _ h => List.mem_cons_of_mem _ (List.mem_append_right _ (h))) hown hK.1 hP 2 rfl rfl 0 (by decide) (hts _ (List.mem_of_getElem? (i := 3) rfl)) (fun _ h9 => h9) rfl dX2_rowOf_50 ?_
        refine lv_iload_n xh bh dX2_rowOf_53 rfl (lv_at hl 1 rfl) ?_
        refine xa_lald xh bh hK.1 hP 0 1 rfl rfl (by omega) (by omega) dX2_rowOf_54 ?_
        refine W.eq (g2 := F0 mG 55 ls [.long (eC ((va_up fr 2 ((sch 2 ([]) (false, b, m)).2.1)) 2))]) rfl ?_
        exact hend (eC ((va_up fr 2 ((sch 2 ([]) (false, b, m)).2.1)) 2)) (((sch 2 ([]) (false, b, m)).1, (sch 2 ([]) (false, b, m)).2.1, ((sch 2 ([]) (false, b, m)).2.2)), (va_up fr 2 ((sch 2 ([]) (false, b, m)).2.1)), (va_up fz 2 1)) _ _ _ _ (congrArg (fun z => some (Value.long (eC z))) (by first | exact (hff k (by have := hfz k; omega)).symm | (show bsR _ = (va_up _ _ _) _; rw [va_up_self]; exact congrArg (fun z => z.2.1) (sch_ind _ [] (false, [], 0) (false, b, m) rfl rfl)))) (by first | exact And.intro hb (And.intro hfr (And.intro hfz hff)) | exact And.intro (sch_ok _ [] _ okT_nil (by decide) hb) (And.intro (okT_up hfr (sch_ok _ [] _ okT_nil (by decide) hb) _) (And.intro (fz_up hfz) (ff_up hff (congrArg (fun z => z.2.1) (sch_ind _ [] (false, b, m) (false, [], 0) rfl rfl)))))) dX2_rowOf_55 (by exact (hP.sub [2, 0, 1] rfl)) (by exact (hD.sub [2, 0, 1] (by decide) rfl)) hS
      · refine Ct.callV (As := [.long (lN 0), .int (-1), .int (nI 0), .int (nI 3)]) (rest := []) (wr := [(fa0, .inl (cJ, 5, .inr (.inl (fC fr)))), (fz0, .inl (cZ, 5, .inl (fN fz)))]) xh bh hml hown hts hK hP hD hS hA (ct_X2_search3 l D cI cJ cB cZ cA fu fa0 fz0 b m false ([]) (-1) (nI 0) (by exact okT_nil) (by decide) (by rfl) (by rfl) (by exact hb)) (cwV 4 hts gX2_rowOf_X2_search rfl rfl rfl (by decide +kernel) ⟨Nat.le_of_ble_eq_true rfl, Nat.le_of_ble_eq_true rfl⟩) rfl rfl hl.1 (Nat.le_of_ble_eq_true rfl) dX2_rowOf_29 ⟨Nat.le_refl _, Nat.le_refl _⟩ 0 1 rfl rfl rfl [0] [1, 2] rfl (by decide) rfl rfl (by decide) (by decide) (fun _ H locs _ hP hD hS => ?_)
        have hP : va_P D vwCl [(fa0, .inl (cJ, 5, .inr (.inl (fC fr)))), (fz0, .inl (cZ, 5, .inl (fN fz))), (fu, .inr (1, [.ref fa0, .ref fz0, .long (eC ((sch 3 ([]) (false, b, m)).2.1)), .int ((sch 3 ([]) (false, b, m)).2.2), .int (ib ((sch 3 ([]) (false, b, m)).1))]))] H := hP
        have hD : va_D AG [(fa0, .inl (cJ, 5, .inr (.inl (fC fr)))), (fz0, .inl (cZ, 5, .inl (fN fz))), (fu, .inr (1, [.ref fa0, .ref fz0, .long (eC ((sch 3 ([]) (false, b, m)).2.1)), .int ((sch 3 ([]) (false, b, m)).2.2), .int (ib ((sch 3 ([]) (false, b, m)).1))]))] := hD
        refine W.eq (g2 := F0 mG 32 ls []) rfl ?_
        refine lv_aload_n xh bh dX2_rowOf_32 rfl (lv_at hl 0 rfl) ?_
        refine va_get (D := D) (ci := 1) (v := .ref fa0) (C := RX2) (T := TX2) (N := 5) xh bh hts (fun _ h => List.mem_cons_of_mem _ (List.mem_append_right _ (h))) hown hK.1 hP 2 rfl rfl 0 (by decide) (hts _ (List.mem_of_getElem? (i := 3) rfl)) (fun _ h9 => h9) rfl dX2_rowOf_33 ?_
        refine lv_iload_n xh bh dX2_rowOf_36 rfl (lv_at hl 1 rfl) ?_
        refine lv_aload_n xh bh dX2_rowOf_37 rfl (lv_at hl 0 rfl) ?_
        refine va_get (D := D) (ci := 1) (v := .long (eC ((sch 3 ([]) (false, b, m)).2.1))) (C := RX2) (T := TX2) (N := 5) xh bh hts (fun _ h => List.mem_cons_of_mem _ (List.mem_append_right _ (h))) hown hK.1 hP 2 rfl rfl 2 (by decide) (hts _ (List.mem_of_getElem? (i := 4) rfl)) (fun _ h9 => h9) rfl dX2_rowOf_38 ?_
        refine xc_last xh bh hK.1 hP hD hS 0 1 rfl rfl (by omega) (by omega) dX2_rowOf_41 (fun H locs hP hD hS => ?_)
        have hP : va_P D vwCl [(fa0, .inl (cJ, 5, .inr (.inl (fC (va_up fr 3 ((sch 3 ([]) (false, b, m)).2.1)))))), (fz0, .inl (cZ, 5, .inl (fN fz))), (fu, .inr (1, [.ref fa0, .ref fz0, .long (eC ((sch 3 ([]) (false, b, m)).2.1)), .int ((sch 3 ([]) (false, b, m)).2.2), .int (ib ((sch 3 ([]) (false, b, m)).1))]))] H := hP
        have hD : va_D AG [(fa0, .inl (cJ, 5, .inr (.inl (fC (va_up fr 3 ((sch 3 ([]) (false, b, m)).2.1)))))), (fz0, .inl (cZ, 5, .inl (fN fz))), (fu, .inr (1, [.ref fa0, .ref fz0, .long (eC ((sch 3 ([]) (false, b, m)).2.1)), .int ((sch 3 ([]) (false, b, m)).2.2), .int (ib ((sch 3 ([]) (false, b, m)).1))]))] := hD
        refine lv_aload_n xh bh dX2_rowOf_42 rfl (lv_at hl 0 rfl) ?_
        refine va_get (D := D) (ci := 1) (v := .ref fz0) (C := RX2) (T := TX2) (N := 5) xh bh hts (fun _ h => List.mem_cons_of_mem _ (List.mem_append_right _ (h))) hown hK.1 hP 2 rfl rfl 1 (by decide) (hts _ (List.mem_of_getElem? (i := 1) rfl)) (fun _ h9 => h9) rfl dX2_rowOf_43 ?_
        refine lv_iload_n xh bh dX2_rowOf_46 rfl (lv_at hl 1 rfl) ?_
        refine lv_iconst (v := (nI 1)) xh bh dX2_rowOf_47 (by decide) ?_
        refine xN_zast xh bh hK.1 hP hD hS 1 3 rfl rfl (by omega) (by omega) (by decide) dX2_rowOf_48 (fun H locs hP hD hS => ?_)
        have hP : va_P D vwCl [(fa0, .inl (cJ, 5, .inr (.inl (fC (va_up fr 3 ((sch 3 ([]) (false, b, m)).2.1)))))), (fz0, .inl (cZ, 5, .inl (fN (va_up fz 3 1)))), (fu, .inr (1, [.ref fa0, .ref fz0, .long (eC ((sch 3 ([]) (false, b, m)).2.1)), .int ((sch 3 ([]) (false, b, m)).2.2), .int (ib ((sch 3 ([]) (false, b, m)).1))]))] H := hP
        have hD : va_D AG [(fa0, .inl (cJ, 5, .inr (.inl (fC (va_up fr 3 ((sch 3 ([]) (false, b, m)).2.1)))))), (fz0, .inl (cZ, 5, .inl (fN (va_up fz 3 1)))), (fu, .inr (1, [.ref fa0, .ref fz0, .long (eC ((sch 3 ([]) (false, b, m)).2.1)), .int ((sch 3 ([]) (false, b, m)).2.2), .int (ib ((sch 3 ([]) (false, b, m)).1))]))] := hD
        refine lv_aload_n xh bh dX2_rowOf_49 rfl (lv_at hl 0 rfl) ?_
        refine va_get (D := D) (ci := 1) (v := .ref fa0) (C := RX2) (T := TX2) (N := 5) xh bh hts (fun _ h => List.mem_cons_of_mem _ (List.mem_append_right _ (h))) hown hK.1 hP 2 rfl rfl 0 (by decide) (hts _ (List.mem_of_getElem? (i := 3) rfl)) (fun _ h9 => h9) rfl dX2_rowOf_50 ?_
        refine lv_iload_n xh bh dX2_rowOf_53 rfl (lv_at hl 1 rfl) ?_
        refine xa_lald xh bh hK.1 hP 0 1 rfl rfl (by omega) (by omega) dX2_rowOf_54 ?_
        refine W.eq (g2 := F0 mG 55 ls [.long (eC ((va_up fr 3 ((sch 3 ([]) (false, b, m)).2.1)) 3))]) rfl ?_
        exact hend (eC ((va_up fr 3 ((sch 3 ([]) (false, b, m)).2.1)) 3)) (((sch 3 ([]) (false, b, m)).1, (sch 3 ([]) (false, b, m)).2.1, ((sch 3 ([]) (false, b, m)).2.2)), (va_up fr 3 ((sch 3 ([]) (false, b, m)).2.1)), (va_up fz 3 1)) _ _ _ _ (congrArg (fun z => some (Value.long (eC z))) (by first | exact (hff k (by have := hfz k; omega)).symm | (show bsR _ = (va_up _ _ _) _; rw [va_up_self]; exact congrArg (fun z => z.2.1) (sch_ind _ [] (false, [], 0) (false, b, m) rfl rfl)))) (by first | exact And.intro hb (And.intro hfr (And.intro hfz hff)) | exact And.intro (sch_ok _ [] _ okT_nil (by decide) hb) (And.intro (okT_up hfr (sch_ok _ [] _ okT_nil (by decide) hb) _) (And.intro (fz_up hfz) (ff_up hff (congrArg (fun z => z.2.1) (sch_ind _ [] (false, b, m) (false, [], 0) rfl rfl)))))) dX2_rowOf_55 (by exact (hP.sub [2, 0, 1] rfl)) (by exact (hD.sub [2, 0, 1] (by decide) rfl)) hS
      · refine Ct.callV (As := [.long (lN 0), .int (-1), .int (nI 0), .int (nI 4)]) (rest := []) (wr := [(fa0, .inl (cJ, 5, .inr (.inl (fC fr)))), (fz0, .inl (cZ, 5, .inl (fN fz)))]) xh bh hml hown hts hK hP hD hS hA (ct_X2_search4 l D cI cJ cB cZ cA fu fa0 fz0 b m false ([]) (-1) (nI 0) (by exact okT_nil) (by decide) (by rfl) (by rfl) (by exact hb)) (cwV 4 hts gX2_rowOf_X2_search rfl rfl rfl (by decide +kernel) ⟨Nat.le_of_ble_eq_true rfl, Nat.le_of_ble_eq_true rfl⟩) rfl rfl hl.1 (Nat.le_of_ble_eq_true rfl) dX2_rowOf_29 ⟨Nat.le_refl _, Nat.le_refl _⟩ 0 1 rfl rfl rfl [0] [1, 2] rfl (by decide) rfl rfl (by decide) (by decide) (fun _ H locs _ hP hD hS => ?_)
        have hP : va_P D vwCl [(fa0, .inl (cJ, 5, .inr (.inl (fC fr)))), (fz0, .inl (cZ, 5, .inl (fN fz))), (fu, .inr (1, [.ref fa0, .ref fz0, .long (eC ((sch 4 ([]) (false, b, m)).2.1)), .int ((sch 4 ([]) (false, b, m)).2.2), .int (ib ((sch 4 ([]) (false, b, m)).1))]))] H := hP
        have hD : va_D AG [(fa0, .inl (cJ, 5, .inr (.inl (fC fr)))), (fz0, .inl (cZ, 5, .inl (fN fz))), (fu, .inr (1, [.ref fa0, .ref fz0, .long (eC ((sch 4 ([]) (false, b, m)).2.1)), .int ((sch 4 ([]) (false, b, m)).2.2), .int (ib ((sch 4 ([]) (false, b, m)).1))]))] := hD
        refine W.eq (g2 := F0 mG 32 ls []) rfl ?_
        refine lv_aload_n xh bh dX2_rowOf_32 rfl (lv_at hl 0 rfl) ?_
        refine va_get (D := D) (ci := 1) (v := .ref fa0) (C := RX2) (T := TX2) (N := 5) xh bh hts (fun _ h => List.mem_cons_of_mem _ (List.mem_append_right _ (h))) hown hK.1 hP 2 rfl rfl 0 (by decide) (hts _ (List.mem_of_getElem? (i := 3) rfl)) (fun _ h9 => h9) rfl dX2_rowOf_33 ?_
        refine lv_iload_n xh bh dX2_rowOf_36 rfl (lv_at hl 1 rfl) ?_
        refine lv_aload_n xh bh dX2_rowOf_37 rfl (lv_at hl 0 rfl) ?_
        refine va_get (D := D) (ci := 1) (v := .long (eC ((sch 4 ([]) (false, b, m)).2.1))) (C := RX2) (T := TX2) (N := 5) xh bh hts (fun _ h => List.mem_cons_of_mem _ (List.mem_append_right _ (h))) hown hK.1 hP 2 rfl rfl 2 (by decide) (hts _ (List.mem_of_getElem? (i := 4) rfl)) (fun _ h9 => h9) rfl dX2_rowOf_38 ?_
        refine xc_last xh bh hK.1 hP hD hS 0 1 rfl rfl (by omega) (by omega) dX2_rowOf_41 (fun H locs hP hD hS => ?_)
        have hP : va_P D vwCl [(fa0, .inl (cJ, 5, .inr (.inl (fC (va_up fr 4 ((sch 4 ([]) (false, b, m)).2.1)))))), (fz0, .inl (cZ, 5, .inl (fN fz))), (fu, .inr (1, [.ref fa0, .ref fz0, .long (eC ((sch 4 ([]) (false, b, m)).2.1)), .int ((sch 4 ([]) (false, b, m)).2.2), .int (ib ((sch 4 ([]) (false, b, m)).1))]))] H := hP
        have hD : va_D AG [(fa0, .inl (cJ, 5, .inr (.inl (fC (va_up fr 4 ((sch 4 ([]) (false, b, m)).2.1)))))), (fz0, .inl (cZ, 5, .inl (fN fz))), (fu, .inr (1, [.ref fa0, .ref fz0, .long (eC ((sch 4 ([]) (false, b, m)).2.1)), .int ((sch 4 ([]) (false, b, m)).2.2), .int (ib ((sch 4 ([]) (false, b, m)).1))]))] := hD
        refine lv_aload_n xh bh dX2_rowOf_42 rfl (lv_at hl 0 rfl) ?_
        refine va_get (D := D) (ci := 1) (v := .ref fz0) (C := RX2) (T := TX2) (N := 5) xh bh hts (fun _ h => List.mem_cons_of_mem _ (List.mem_append_right _ (h))) hown hK.1 hP 2 rfl rfl 1 (by decide) (hts _ (List.mem_of_getElem? (i := 1) rfl)) (fun _ h9 => h9) rfl dX2_rowOf_43 ?_
        refine lv_iload_n xh bh dX2_rowOf_46 rfl (lv_at hl 1 rfl) ?_
        refine lv_iconst (v := (nI 1)) xh bh dX2_rowOf_47 (by decide) ?_
        refine xN_zast xh bh hK.1 hP hD hS 1 3 rfl rfl (by omega) (by omega) (by decide) dX2_rowOf_48 (fun H locs hP hD hS => ?_)
        have hP : va_P D vwCl [(fa0, .inl (cJ, 5, .inr (.inl (fC (va_up fr 4 ((sch 4 ([]) (false, b, m)).2.1)))))), (fz0, .inl (cZ, 5, .inl (fN (va_up fz 4 1)))), (fu, .inr (1, [.ref fa0, .ref fz0, .long (eC ((sch 4 ([]) (false, b, m)).2.1)), .int ((sch 4 ([]) (false, b, m)).2.2), .int (ib ((sch 4 ([]) (false, b, m)).1))]))] H := hP
        have hD : va_D AG [(fa0, .inl (cJ, 5, .inr (.inl (fC (va_up fr 4 ((sch 4 ([]) (false, b, m)).2.1)))))), (fz0, .inl (cZ, 5, .inl (fN (va_up fz 4 1)))), (fu, .inr (1, [.ref fa0, .ref fz0, .long (eC ((sch 4 ([]) (false, b, m)).2.1)), .int ((sch 4 ([]) (false, b, m)).2.2), .int (ib ((sch 4 ([]) (false, b, m)).1))]))] := hD
        refine lv_aload_n xh bh dX2_rowOf_49 rfl (lv_at hl 0 rfl) ?_
        refine va_get (D := D) (ci := 1) (v := .ref fa0) (C := RX2) (T := TX2) (N := 5) xh bh hts (fun _ h => List.mem_cons_of_mem _ (List.mem_append_right _ (h))) hown hK.1 hP 2 rfl rfl 0 (by decide) (hts _ (List.mem_of_getElem? (i := 3) rfl)) (fun _ h9 => h9) rfl dX2_rowOf_50 ?_
        refine lv_iload_n xh bh dX2_rowOf_53 rfl (lv_at hl 1 rfl) ?_
        refine xa_lald xh bh hK.1 hP 0 1 rfl rfl (by omega) (by omega) dX2_rowOf_54 ?_
        refine W.eq (g2 := F0 mG 55 ls [.long (eC ((va_up fr 4 ((sch 4 ([]) (false, b, m)).2.1)) 4))]) rfl ?_
        exact hend (eC ((va_up fr 4 ((sch 4 ([]) (false, b, m)).2.1)) 4)) (((sch 4 ([]) (false, b, m)).1, (sch 4 ([]) (false, b, m)).2.1, ((sch 4 ([]) (false, b, m)).2.2)), (va_up fr 4 ((sch 4 ([]) (false, b, m)).2.1)), (va_up fz 4 1)) _ _ _ _ (congrArg (fun z => some (Value.long (eC z))) (by first | exact (hff k (by have := hfz k; omega)).symm | (show bsR _ = (va_up _ _ _) _; rw [va_up_self]; exact congrArg (fun z => z.2.1) (sch_ind _ [] (false, [], 0) (false, b, m) rfl rfl)))) (by first | exact And.intro hb (And.intro hfr (And.intro hfz hff)) | exact And.intro (sch_ok _ [] _ okT_nil (by decide) hb) (And.intro (okT_up hfr (sch_ok _ [] _ okT_nil (by decide) hb) _) (And.intro (fz_up hfz) (ff_up hff (congrArg (fun z => z.2.1) (sch_ind _ [] (false, b, m) (false, [], 0) rfl rfl)))))) dX2_rowOf_55 (by exact (hP.sub [2, 0, 1] rfl)) (by exact (hD.sub [2, 0, 1] (by decide) rfl)) hS
  · exact absurd c_5 (by rw [upB_nI (by omega) (by decide), decide_eq_true (show _ by omega)]; decide)

set_option maxHeartbeats 1000000 in
set_option maxRecDepth 100000 in
theorem ct_X8_funniest (l : Launch) (D : va_G) (cI cJ cB cZ cA : ClassId) (e0 : Nat) (h : Nat → Nat) (y : Nat → Nat) (z : Nat → Nat) (d : Nat → Nat) (sc : Nat) (ru : Nat) (fu : Nat) (f0 : Nat) (ra : Nat) (k0 : Bool) (k1 : Bool) (fa0 : Nat) (fz0 : Nat) (b : List Nat) (m : Int32) (y : Bool) (fr : Nat → List Nat) (fz : Nat → Nat) (rf : Nat → Int32) (v : Int32) (i : Int32) (hb : okT b) (hfr : ∀ k, okT (fr k)) (hfz : ∀ k, fz k < 2) (hff : ∀ k, fz k = 1 → fr k = bsR k) : Ct l yX8_funniest wsX8_funniest ({ frames := 7, cells := 0, slots := 0, locals := 179 }) D (tysG cI cJ cB cZ cA) [.ref e0, .int v, .int i] [(e0, .inr (5, [.ref (h 0), .ref (y 0), .ref (z 0), .ref (d 0), .ref sc, .ref ru, .ref fu, .ref f0, .ref ra, .int (ib k0), .int (ib k1)])), (ra, .inl (cI, 3, .inl rf)), (fu, .inr (1, [.ref fa0, .ref fz0, .long (eC b), .int m, .int (ib y)])), (fa0, .inl (cJ, 5, .inr (.inl (fC fr)))), (fz0, .inl (cZ, 5, .inl (fN fz)))] (fun (u : FS × (Nat → List Nat) × (Nat → Nat)) => okT u.1.2.1 ∧ (∀ k, okT (u.2.1 k)) ∧ (∀ k, u.2.2 k < 2) ∧ (∀ k, u.2.2 k = 1 → u.2.1 k = bsR k)) (fun u => some (.int (eFn (kFn v i) (xN v) i (funT (bsR (xN v)), bsR (xN v))))) (fun u => [(e0, .inr (5, [.ref (h 0), .ref (y 0), .ref (z 0), .ref (d 0), .ref sc, .ref ru, .ref fu, .ref f0, .ref ra, .int (ib k0), .int (ib k1)])), (ra, .inl (cI, 3, .inl (rfU (kFn v i) rf))), (fu, .inr (1, [.ref fa0, .ref fz0, .long (eC u.1.2.1), .int u.1.2.2, .int (ib u.1.1)])), (fa0, .inl (cJ, 5, .inr (.inl (fC u.2.1)))), (fz0, .inl (cZ, 5, .inl (fN u.2.2)))]) := by
  refine Ct.ofI (cc := cX8_funniest) (maxL := 5) (by decide) rfl (Nat.le_of_ble_eq_true rfl) ?_
  intro pG eG sG mG aG bG tG cG AG QG ls xh bh hml hown hts hK hP hD hS hA hend hl
  have hl : lv_has ls 5 [(0, .ref e0), (1, .int v), (2, .int i)] := hl
  refine lv_iload_n xh bh dX8_funniest_0 rfl (lv_at hl 1 rfl) ?_
  refine lv_iconst (v := (nI 4)) xh bh dX8_funniest_1 (by decide) ?_
  refine Ct.callS0 (rest := []) xh bh hml hown hts hK hP hS hA (ct_X8_isUpTo l D cI cJ cB cZ cA v 4 (by first | omega | assumption)) (va_cwS 2 hts gX8_funniest_X8_isUpTo rfl rfl rfl (by decide +kernel) ⟨Nat.le_of_ble_eq_true rfl, Nat.le_of_ble_eq_true rfl⟩) rfl rfl hl.1 (Nat.le_of_ble_eq_true rfl) dX8_funniest_2 ⟨Nat.le_refl _, Nat.le_refl _⟩ (fun _ H locs _ hP hS => ?_)
  refine W.eq (g2 := F0 mG 5 ls [.int (ib (upB v 4))]) rfl ?_
  refine xb_if_eq (tgt := 13) xh bh dX8_funniest_5 (by decide) (fun c_5 => ?_) (fun c_5 => ?_)
  · have hk : kFn v i = 0 := if_neg (fun q => by rw [c_5] at q; exact absurd q.1 (by decide))
    refine lv_aload_n xh bh dX8_funniest_13 rfl (lv_at hl 0 rfl) ?_
    refine lv_bipush (v := (-2)) xh bh dX8_funniest_14 (by decide) ?_
    refine lv_sipush (v := (-1000)) xh bh dX8_funniest_16 (by decide) ?_
    refine Ct.callV (As := [.int (-2), .int (-1000)]) (rest := []) (wr := [(fu, .inr (1, [.ref fa0, .ref fz0, .long (eC b), .int m, .int (ib y)])), (fa0, .inl (cJ, 5, .inr (.inl (fC fr)))), (fz0, .inl (cZ, 5, .inl (fN fz)))]) xh bh hml hown hts hK hP hD hS hA (ct_X8_refuse_0 l D cI cJ cB cZ cA e0 h y z d sc ru fu f0 ra k0 k1 rf (-1000) ) (cwV 2 hts gX8_funniest_X8_refuse_ rfl rfl rfl (by decide +kernel) ⟨Nat.le_of_ble_eq_true rfl, Nat.le_of_ble_eq_true rfl⟩) rfl rfl hl.1 (Nat.le_of_ble_eq_true rfl) dX8_funniest_19 ⟨Nat.le_refl _, Nat.le_refl _⟩ 0 5 rfl rfl rfl [0, 1] [2, 3, 4] rfl (by decide) rfl rfl (by decide) (by decide) (fun _ H locs _ hP hD hS => ?_)
    have hP : va_P D vwCl [(fu, .inr (1, [.ref fa0, .ref fz0, .long (eC b), .int m, .int (ib y)])), (fa0, .inl (cJ, 5, .inr (.inl (fC fr)))), (fz0, .inl (cZ, 5, .inl (fN fz))), (e0, .inr (5, [.ref (h 0), .ref (y 0), .ref (z 0), .ref (d 0), .ref sc, .ref ru, .ref fu, .ref f0, .ref ra, .int (ib k0), .int (ib k1)])), (ra, .inl (cI, 3, .inl (upd rf 0 ((rf 0) + nI 1))))] H := hP
    have hD : va_D AG [(fu, .inr (1, [.ref fa0, .ref fz0, .long (eC b), .int m, .int (ib y)])), (fa0, .inl (cJ, 5, .inr (.inl (fC fr)))), (fz0, .inl (cZ, 5, .inl (fN fz))), (e0, .inr (5, [.ref (h 0), .ref (y 0), .ref (z 0), .ref (d 0), .ref sc, .ref ru, .ref fu, .ref f0, .ref ra, .int (ib k0), .int (ib k1)])), (ra, .inl (cI, 3, .inl (upd rf 0 ((rf 0) + nI 1))))] := hD
    refine W.eq (g2 := F0 mG 22 ls [.int (-1000)]) rfl ?_
    exact hend (-1000) ((y, b, m), fr, fz) _ _ _ _ (congrArg (fun z => some (Value.int z)) (by rw [hk]; rfl)) (by exact And.intro hb (And.intro hfr (And.intro hfz hff))) rfl dX8_funniest_22 (by rw [hk]; exact (hP.sub [3, 4, 0, 1, 2] rfl)) (by rw [hk]; exact (hD.sub [3, 4, 0, 1, 2] (by decide) rfl)) hS
  · refine lv_iload_n xh bh dX8_funniest_8 rfl (lv_at hl 2 rfl) ?_
    refine lv_iconst (v := (-1)) xh bh dX8_funniest_9 (by decide) ?_
    refine lv_icmp_ge (tgt := 23) xh bh dX8_funniest_10 (by decide) (fun c_10 => ?_) (fun c_10 => ?_)
    · have hk : kFn v i = 3 := if_pos (And.intro c_5 c_10)
      obtain ⟨k, hk9, rfl⟩ := upB_of (by decide) c_5
      refine lv_iload_n xh bh dX8_funniest_23 rfl (lv_at hl 2 rfl) ?_
      refine lv_iload_n xh bh dX8_funniest_24 rfl (lv_at hl 1 rfl) ?_
      refine lv_icmp_lt (tgt := 31) xh bh dX8_funniest_25 (by decide) (fun c_25 => ?_) (fun c_25 => ?_)
      · refine lv_aload_n xh bh dX8_funniest_31 rfl (lv_at hl 0 rfl) ?_
        refine va_get (D := D) (ci := 5) (v := .ref fu) (C := RX8) (T := TX8) (N := 11) xh bh hts (fun _ h => List.mem_cons_of_mem _ (List.mem_append_left _ (List.mem_append_right _ (h)))) hown hK.1 hP 0 rfl rfl 6 (by decide) (hts _ (List.mem_of_getElem? (i := 1) rfl)) (fun _ h9 => h9) rfl dX8_funniest_32 ?_
        refine lv_iload_n xh bh dX8_funniest_35 rfl (lv_at hl 1 rfl) ?_
        refine Ct.callV (As := [.int (nI k)]) (rest := []) (wr := [(e0, .inr (5, [.ref (h 0), .ref (y 0), .ref (z 0), .ref (d 0), .ref sc, .ref ru, .ref fu, .ref f0, .ref ra, .int (ib k0), .int (ib k1)])), (ra, .inl (cI, 3, .inl rf))]) xh bh hml hown hts hK hP hD hS hA (ct_X2_rowOf l D cI cJ cB cZ cA fu fa0 fz0 b m y fr fz k (by first | assumption | exact okT_nil) (by first | assumption) (by first | assumption) (by first | assumption) (by first | omega | assumption)) (cwV 1 hts gX8_funniest_X2_rowOf rfl rfl rfl (by decide +kernel) ⟨Nat.le_of_ble_eq_true rfl, Nat.le_of_ble_eq_true rfl⟩) rfl rfl hl.1 (Nat.le_of_ble_eq_true rfl) dX8_funniest_36 ⟨Nat.le_refl _, Nat.le_refl _⟩ 0 1 rfl rfl rfl [2, 3, 4] [0, 1] rfl (by decide) rfl rfl (by decide) (by decide) (fun u_36 H locs hu_36 hP hD hS => ?_)
        have hP : va_P D vwCl [(e0, .inr (5, [.ref (h 0), .ref (y 0), .ref (z 0), .ref (d 0), .ref sc, .ref ru, .ref fu, .ref f0, .ref ra, .int (ib k0), .int (ib k1)])), (ra, .inl (cI, 3, .inl rf)), (fu, .inr (1, [.ref fa0, .ref fz0, .long (eC u_36.1.2.1), .int u_36.1.2.2, .int (ib u_36.1.1)])), (fa0, .inl (cJ, 5, .inr (.inl (fC u_36.2.1)))), (fz0, .inl (cZ, 5, .inl (fN u_36.2.2)))] H := hP
        have hD : va_D AG [(e0, .inr (5, [.ref (h 0), .ref (y 0), .ref (z 0), .ref (d 0), .ref sc, .ref ru, .ref fu, .ref f0, .ref ra, .int (ib k0), .int (ib k1)])), (ra, .inl (cI, 3, .inl rf)), (fu, .inr (1, [.ref fa0, .ref fz0, .long (eC u_36.1.2.1), .int u_36.1.2.2, .int (ib u_36.1.1)])), (fa0, .inl (cJ, 5, .inr (.inl (fC u_36.2.1)))), (fz0, .inl (cZ, 5, .inl (fN u_36.2.2)))] := hD
        refine W.eq (g2 := F0 mG 39 ls [.long (eC (bsR k))]) rfl ?_
        refine lv_lstore_n (lv' := [(3, .long (eC (bsR k))), (0, .ref e0), (1, .int (nI k)), (2, .int i)]) xh bh dX8_funniest_39 rfl hl (by decide) rfl (fun ls hl => ?_)
        refine lv_iload_n xh bh dX8_funniest_40 rfl (lv_at hl 3 rfl) ?_
        refine lv_iconst (v := (-1)) xh bh dX8_funniest_41 (by decide) ?_
        refine lv_icmp_ne (tgt := 52) xh bh dX8_funniest_42 (by decide) (fun c_42 => ?_) (fun c_42 => ?_)
        · obtain ⟨j, hj, rfl⟩ := nn_of c_10 c_42
          refine lv_lload_n xh bh dX8_funniest_52 rfl (lv_at hl 0 rfl) ?_
          refine lv_iload_n xh bh dX8_funniest_53 rfl (lv_at hl 3 rfl) ?_
          refine Ct.callS0 (rest := []) xh bh hml hown hts hK hP hS hA (ct_X7_partIn l D cI cJ cB cZ cA (bsR k) j (by exact bsR_ok (by omega)) (by have := (nI_ltI hj (by omega)).mp c_25; omega)) (va_cwS 2 hts gX8_funniest_X7_partIn rfl rfl rfl (by decide +kernel) ⟨Nat.le_of_ble_eq_true rfl, Nat.le_of_ble_eq_true rfl⟩) rfl rfl hl.1 (Nat.le_of_ble_eq_true rfl) dX8_funniest_54 ⟨Nat.le_refl _, Nat.le_refl _⟩ (fun _ H locs _ hP hS => ?_)
          refine W.eq (g2 := F0 mG 57 ls [.int (nI ((bsR k).getD j 0))]) rfl ?_
          exact hend (nI ((bsR k).getD j 0)) u_36 _ _ _ _ (congrArg (fun z => some (Value.int z)) (by rw [hk, xN_nI (by omega)]; first | exact if_pos c_42 | (show (if _ then _ else _) = _; rw [if_neg c_42, if_pos c_25, xN_nI hj]))) (by exact hu_36) rfl dX8_funniest_57 (by rw [hk]; exact hP) (by rw [hk]; exact hD) hS
        · refine lv_lload_n xh bh dX8_funniest_45 rfl (lv_at hl 0 rfl) ?_
          refine Ct.callS0 (rest := []) xh bh hml hown hts hK hP hS hA (ct_X4_funOf l D cI cJ cB cZ cA (bsR k) (by exact bsR_ok (by omega))) (va_cwS 1 hts gX8_funniest_X4_funOf rfl rfl rfl (by decide +kernel) ⟨Nat.le_of_ble_eq_true rfl, Nat.le_of_ble_eq_true rfl⟩) rfl rfl hl.1 (Nat.le_of_ble_eq_true rfl) dX8_funniest_46 ⟨Nat.le_refl _, Nat.le_refl _⟩ (fun _ H locs _ hP hS => ?_)
          refine W.eq (g2 := F0 mG 49 ls [.int (funT (bsR k))]) rfl ?_
          refine lv_goto (tgt := 57) xh bh dX8_funniest_49 (by decide) ?_
          exact hend (funT (bsR k)) u_36 _ _ _ _ (congrArg (fun z => some (Value.int z)) (by rw [hk, xN_nI (by omega)]; first | exact if_pos c_42 | (show (if _ then _ else _) = _; rw [if_neg c_42, if_pos c_25, xN_nI hj]))) (by exact hu_36) rfl dX8_funniest_57 (by rw [hk]; exact hP) (by rw [hk]; exact hD) hS
      · refine lv_bipush (v := (-5)) xh bh dX8_funniest_28 (by decide) ?_
        exact hend (-5) ((y, b, m), fr, fz) _ _ _ _ (congrArg (fun z => some (Value.int z)) (by rw [hk, xN_nI (by omega)]; exact (if_neg (fun q => c_25 (by rw [q]; exact neg1_lt (by omega)))).trans (if_neg c_25))) (by exact And.intro hb (And.intro hfr (And.intro hfz hff))) rfl dX8_funniest_30 (by rw [hk]; exact hP) (by rw [hk]; exact hD) hS
    · have hk : kFn v i = 0 := if_neg (fun q => c_10 q.2)
      refine lv_aload_n xh bh dX8_funniest_13 rfl (lv_at hl 0 rfl) ?_
      refine lv_bipush (v := (-2)) xh bh dX8_funniest_14 (by decide) ?_
      refine lv_sipush (v := (-1000)) xh bh dX8_funniest_16 (by decide) ?_
      refine Ct.callV (As := [.int (-2), .int (-1000)]) (rest := []) (wr := [(fu, .inr (1, [.ref fa0, .ref fz0, .long (eC b), .int m, .int (ib y)])), (fa0, .inl (cJ, 5, .inr (.inl (fC fr)))), (fz0, .inl (cZ, 5, .inl (fN fz)))]) xh bh hml hown hts hK hP hD hS hA (ct_X8_refuse_0 l D cI cJ cB cZ cA e0 h y z d sc ru fu f0 ra k0 k1 rf (-1000) ) (cwV 2 hts gX8_funniest_X8_refuse_ rfl rfl rfl (by decide +kernel) ⟨Nat.le_of_ble_eq_true rfl, Nat.le_of_ble_eq_true rfl⟩) rfl rfl hl.1 (Nat.le_of_ble_eq_true rfl) dX8_funniest_19 ⟨Nat.le_refl _, Nat.le_refl _⟩ 0 5 rfl rfl rfl [0, 1] [2, 3, 4] rfl (by decide) rfl rfl (by decide) (by decide) (fun _ H locs _ hP hD hS => ?_)
      have hP : va_P D vwCl [(fu, .inr (1, [.ref fa0, .ref fz0, .long (eC b), .int m, .int (ib y)])), (fa0, .inl (cJ, 5, .inr (.inl (fC fr)))), (fz0, .inl (cZ, 5, .inl (fN fz))), (e0, .inr (5, [.ref (h 0), .ref (y 0), .ref (z 0), .ref (d 0), .ref sc, .ref ru, .ref fu, .ref f0, .ref ra, .int (ib k0), .int (ib k1)])), (ra, .inl (cI, 3, .inl (upd rf 0 ((rf 0) + nI 1))))] H := hP
      have hD : va_D AG [(fu, .inr (1, [.ref fa0, .ref fz0, .long (eC b), .int m, .int (ib y)])), (fa0, .inl (cJ, 5, .inr (.inl (fC fr)))), (fz0, .inl (cZ, 5, .inl (fN fz))), (e0, .inr (5, [.ref (h 0), .ref (y 0), .ref (z 0), .ref (d 0), .ref sc, .ref ru, .ref fu, .ref f0, .ref ra, .int (ib k0), .int (ib k1)])), (ra, .inl (cI, 3, .inl (upd rf 0 ((rf 0) + nI 1))))] := hD
      refine W.eq (g2 := F0 mG 22 ls [.int (-1000)]) rfl ?_
      exact hend (-1000) ((y, b, m), fr, fz) _ _ _ _ (congrArg (fun z => some (Value.int z)) (by rw [hk]; rfl)) (by exact And.intro hb (And.intro hfr (And.intro hfz hff))) rfl dX8_funniest_22 (by rw [hk]; exact (hP.sub [3, 4, 0, 1, 2] rfl)) (by rw [hk]; exact (hD.sub [3, 4, 0, 1, 2] (by decide) rfl)) hS

set_option maxHeartbeats 1000000 in
set_option maxRecDepth 100000 in
theorem ct_X8_read (l : Launch) (D : va_G) (cI cJ cB cZ cA : ClassId) (adK adV : Nat → Nat) (e0 : Nat) (h : Nat → Nat) (y : Nat → Nat) (z : Nat → Nat) (d : Nat → Nat) (sc : Nat) (ru : Nat) (fu : Nat) (f0 : Nat) (ra : Nat) (k0 : Bool) (k1 : Bool) (sb : Nat) (bl : Nat) (bt : Nat → Nat) (st : Int32) (be : Int32) (tk : Int32) (nu : Int32) (T : Nat → List Nat) (P : Nat → Int32) (hp : Nat → Nat) (hi : Nat → Nat) (ub : Nat → Nat) (ut : Nat → List Nat) (up : Nat → Int32) (row : List Nat) (hc : Nat) (un : Nat) (TD : Nat → List Nat) (PD : Nat → Int32) (hpD : Nat → Nat) (hiD : Nat → Nat) (ubD : Nat → Nat) (utD : Nat → List Nat) (upD : Nat → Int32) (rowD : List Nat) (hcD : Nat) (unD : Nat) (hbl : bl ≤ 150) (hbt : ∀ k, bt k < 128) (hTD : ∀ k, okT (TD k)) : CtS l yX8_read wsX8_read ({ frames := 7, cells := 0, slots := 0, locals := 166 }) D (tysG cI cJ cB cZ cA) adK adV [.ref e0] [(e0, .inr (5, [.ref (h 0), .ref (y 0), .ref (z 0), .ref (d 0), .ref sc, .ref ru, .ref fu, .ref f0, .ref ra, .int (ib k0), .int (ib k1)])), (sc, .inr (4, [.ref sb, .int (nI bl), .int st, .int be, .int tk, .int nu])), (sb, .inl (cB, 150, .inl (fN bt))), (h 0, .inr (2, [.ref (h 1), .ref (h 2), .ref (h 3), .ref (h 4), .ref (h 5), .ref (h 6), .ref (h 7), .long (eC row), .int (nI hc), .int (nI un)])), (h 1, .inl (cJ, 8, .inr (.inl (fC T)))), (h 2, .inl (cI, 8, .inl P)), (h 3, .inl (cI, 6, .inl (fN hp))), (h 4, .inl (cI, 6, .inl (fN hi))), (h 5, .inl (cI, 8, .inl (fN ub))), (h 6, .inl (cJ, 8, .inr (.inl (fC ut)))), (h 7, .inl (cI, 8, .inl up)), (d 0, .inr (2, [.ref (d 1), .ref (d 2), .ref (d 3), .ref (d 4), .ref (d 5), .ref (d 6), .ref (d 7), .long (eC rowD), .int (nI hcD), .int (nI unD)])), (d 1, .inl (cJ, 8, .inr (.inl (fC TD)))), (d 2, .inl (cI, 8, .inl PD)), (d 3, .inl (cI, 6, .inl (fN hpD))), (d 4, .inl (cI, 6, .inl (fN hiD))), (d 5, .inl (cI, 8, .inl (fN ubD))), (d 6, .inl (cJ, 8, .inr (.inl (fC utD)))), (d 7, .inl (cI, 8, .inl upD))] (fun (u : Int32 × Int32 × Int32 × Int32 × (Nat → List Nat) × (Nat → Int32)) => (∀ k, okT (u.2.2.2.2.1 k)) ∧ ((rdA bt bl (flT TD [] 8) (flI PD (-1) 8)).1 = true → u.2.2.2.2.1 = (rdA bt bl (flT TD [] 8) (flI PD (-1) 8)).2.2.1 ∧ u.2.2.2.2.2 = (rdA bt bl (flT TD [] 8) (flI PD (-1) 8)).2.2.2)) (fun u => some (.int ((rdA bt bl (flT TD [] 8) (flI PD (-1) 8)).2.1))) (fun u => [(e0, .inr (5, [.ref (h 0), .ref (y 0), .ref (z 0), .ref (d 0), .ref sc, .ref ru, .ref fu, .ref f0, .ref ra, .int (ib k0), .int (ib k1)])), (sc, .inr (4, [.ref sb, .int (nI bl), .int u.1, .int u.2.1, .int u.2.2.1, .int u.2.2.2.1])), (sb, .inl (cB, 150, .inl (fN bt))), (h 0, .inr (2, [.ref (h 1), .ref (h 2), .ref (h 3), .ref (h 4), .ref (h 5), .ref (h 6), .ref (h 7), .long (eC (k3 (kRd (rdA bt bl (flT TD [] 8) (flI PD (-1) 8)).1) row [])), .int (nI (k3 (kRd (rdA bt bl (flT TD [] 8) (flI PD (-1) 8)).1) hc 0)), .int (nI (k3 (kRd (rdA bt bl (flT TD [] 8) (flI PD (-1) 8)).1) un 0))])), (h 1, .inl (cJ, 8, .inr (.inl (fC (k3 (kRd (rdA bt bl (flT TD [] 8) (flI PD (-1) 8)).1) T (va_cpy u.2.2.2.2.1 T 0 0 8)))))), (h 2, .inl (cI, 8, .inl (k3 (kRd (rdA bt bl (flT TD [] 8) (flI PD (-1) 8)).1) P (va_cpy u.2.2.2.2.2 P 0 0 8)))), (h 3, .inl (cI, 6, .inl (fN (k3 (kRd (rdA bt bl (flT TD [] 8) (flI PD (-1) 8)).1) hp (va_cpy hpD hp 0 0 6))))), (h 4, .inl (cI, 6, .inl (fN (k3 (kRd (rdA bt bl (flT TD [] 8) (flI PD (-1) 8)).1) hi (va_cpy hiD hi 0 0 6))))), (h 5, .inl (cI, 8, .inl (fN (k3 (kRd (rdA bt bl (flT TD [] 8) (flI PD (-1) 8)).1) ub (va_cpy ubD ub 0 0 8))))), (h 6, .inl (cJ, 8, .inr (.inl (fC (k3 (kRd (rdA bt bl (flT TD [] 8) (flI PD (-1) 8)).1) ut (va_cpy utD ut 0 0 8)))))), (h 7, .inl (cI, 8, .inl (k3 (kRd (rdA bt bl (flT TD [] 8) (flI PD (-1) 8)).1) up (va_cpy upD up 0 0 8)))), (d 0, .inr (2, [.ref (d 1), .ref (d 2), .ref (d 3), .ref (d 4), .ref (d 5), .ref (d 6), .ref (d 7), .long (eC ([])), .int (nI 0), .int (nI 0)])), (d 1, .inl (cJ, 8, .inr (.inl (fC u.2.2.2.2.1)))), (d 2, .inl (cI, 8, .inl u.2.2.2.2.2)), (d 3, .inl (cI, 6, .inl (fN hpD))), (d 4, .inl (cI, 6, .inl (fN hiD))), (d 5, .inl (cI, 8, .inl (fN ubD))), (d 6, .inl (cJ, 8, .inr (.inl (fC utD)))), (d 7, .inl (cI, 8, .inl upD))]) := by
  refine CtS.ofI (cc := cX8_read) (maxL := 2) (by decide) rfl (Nat.le_of_ble_eq_true rfl) ?_
  intro pG eG sG mG aG bG tG cG AG QG ls xh bh hml hown hts hK hSS hP hD hS hA hend hl
  have hl : lv_has ls 2 [(0, .ref e0)] := hl
  have hT0 : ∀ k, okT (flT TD [] 8 k) := fun k => by
    unfold flT
    by_cases q : k < 8
    · rw [if_pos q]; exact okT_nil
    · rw [if_neg q]; exact hTD k
  have h8 := (rdA_8 (b := bt) hbl (T := flT TD [] 8) (T' := flT TD [] 8) (P := flI PD (-1) 8) (P' := flI PD (-1) 8) (fun _ _ => And.intro rfl rfl) hT0 hT0).2.2.2.2
  refine lv_aload_n xh bh dX8_read_0 rfl (lv_at hl 0 rfl) ?_
  refine va_get (D := D) (ci := 5) (v := .ref sc) (C := RX8) (T := TX8) (N := 11) xh bh hts (fun _ h => List.mem_cons_of_mem _ (List.mem_append_left _ (List.mem_append_left _ (List.mem_append_right _ (h))))) hown hK.1 hP 0 rfl rfl 4 (by decide) (hts _ (List.mem_of_getElem? (i := 1) rfl)) (fun _ h9 => h9) rfl dX8_read_1 ?_
  refine lv_aload_n xh bh dX8_read_4 rfl (lv_at hl 0 rfl) ?_
  refine va_get (D := D) (ci := 5) (v := .ref (d 0)) (C := RX8) (T := TX8) (N := 11) xh bh hts (fun _ h => List.mem_cons_of_mem _ (List.mem_append_left _ (List.mem_append_left _ (List.mem_append_right _ (h))))) hown hK.1 hP 0 rfl rfl 3 (by decide) (hts _ (List.mem_of_getElem? (i := 2) rfl)) (fun _ h9 => h9) rfl dX8_read_5 ?_
  refine CtS.callV (As := [.ref (d 0)]) (rest := []) (wr := [(e0, .inr (5, [.ref (h 0), .ref (y 0), .ref (z 0), .ref (d 0), .ref sc, .ref ru, .ref fu, .ref f0, .ref ra, .int (ib k0), .int (ib k1)])), (h 0, .inr (2, [.ref (h 1), .ref (h 2), .ref (h 3), .ref (h 4), .ref (h 5), .ref (h 6), .ref (h 7), .long (eC row), .int (nI hc), .int (nI un)])), (h 1, .inl (cJ, 8, .inr (.inl (fC T)))), (h 2, .inl (cI, 8, .inl P)), (h 3, .inl (cI, 6, .inl (fN hp))), (h 4, .inl (cI, 6, .inl (fN hi))), (h 5, .inl (cI, 8, .inl (fN ub))), (h 6, .inl (cJ, 8, .inr (.inl (fC ut)))), (h 7, .inl (cI, 8, .inl up)), (d 3, .inl (cI, 6, .inl (fN hpD))), (d 4, .inl (cI, 6, .inl (fN hiD))), (d 5, .inl (cI, 8, .inl (fN ubD))), (d 6, .inl (cJ, 8, .inr (.inl (fC utD)))), (d 7, .inl (cI, 8, .inl upD))]) xh bh hml hown hts hK hSS hP hD hS hA (ct_X6_readInto l D cI cJ cB cZ cA adK adV sc sb bl bt st be tk nu d TD PD rowD hcD unD (by first | omega | assumption) (by first | assumption) (by exact hTD)) (cwV 1 hts gX8_read_X6_readInto rfl rfl rfl (by decide +kernel) ⟨Nat.le_of_ble_eq_true rfl, Nat.le_of_ble_eq_true rfl⟩) rfl rfl hl.1 (Nat.le_of_ble_eq_true rfl) dX8_read_8 ⟨Nat.le_refl _, Nat.le_refl _⟩ 0 4 rfl rfl rfl [1, 2, 11, 12, 13] [0, 3, 4, 5, 6, 7, 8, 9, 10, 14, 15, 16, 17, 18] rfl (by decide) rfl rfl (by decide) (by decide) (fun u_8 H locs hu_8 hP hD hS => ?_)
  have hP : va_P D vwCl [(e0, .inr (5, [.ref (h 0), .ref (y 0), .ref (z 0), .ref (d 0), .ref sc, .ref ru, .ref fu, .ref f0, .ref ra, .int (ib k0), .int (ib k1)])), (h 0, .inr (2, [.ref (h 1), .ref (h 2), .ref (h 3), .ref (h 4), .ref (h 5), .ref (h 6), .ref (h 7), .long (eC row), .int (nI hc), .int (nI un)])), (h 1, .inl (cJ, 8, .inr (.inl (fC T)))), (h 2, .inl (cI, 8, .inl P)), (h 3, .inl (cI, 6, .inl (fN hp))), (h 4, .inl (cI, 6, .inl (fN hi))), (h 5, .inl (cI, 8, .inl (fN ub))), (h 6, .inl (cJ, 8, .inr (.inl (fC ut)))), (h 7, .inl (cI, 8, .inl up)), (d 3, .inl (cI, 6, .inl (fN hpD))), (d 4, .inl (cI, 6, .inl (fN hiD))), (d 5, .inl (cI, 8, .inl (fN ubD))), (d 6, .inl (cJ, 8, .inr (.inl (fC utD)))), (d 7, .inl (cI, 8, .inl upD)), (sc, .inr (4, [.ref sb, .int (nI bl), .int u_8.1, .int u_8.2.1, .int u_8.2.2.1, .int u_8.2.2.2.1])), (sb, .inl (cB, 150, .inl (fN bt))), (d 0, .inr (2, [.ref (d 1), .ref (d 2), .ref (d 3), .ref (d 4), .ref (d 5), .ref (d 6), .ref (d 7), .long (eC ([])), .int (nI 0), .int (nI 0)])), (d 1, .inl (cJ, 8, .inr (.inl (fC u_8.2.2.2.2.1)))), (d 2, .inl (cI, 8, .inl u_8.2.2.2.2.2))] H := hP
  have hD : va_D AG [(e0, .inr (5, [.ref (h 0), .ref (y 0), .ref (z 0), .ref (d 0), .ref sc, .ref ru, .ref fu, .ref f0, .ref ra, .int (ib k0), .int (ib k1)])), (h 0, .inr (2, [.ref (h 1), .ref (h 2), .ref (h 3), .ref (h 4), .ref (h 5), .ref (h 6), .ref (h 7), .long (eC row), .int (nI hc), .int (nI un)])), (h 1, .inl (cJ, 8, .inr (.inl (fC T)))), (h 2, .inl (cI, 8, .inl P)), (h 3, .inl (cI, 6, .inl (fN hp))), (h 4, .inl (cI, 6, .inl (fN hi))), (h 5, .inl (cI, 8, .inl (fN ub))), (h 6, .inl (cJ, 8, .inr (.inl (fC ut)))), (h 7, .inl (cI, 8, .inl up)), (d 3, .inl (cI, 6, .inl (fN hpD))), (d 4, .inl (cI, 6, .inl (fN hiD))), (d 5, .inl (cI, 8, .inl (fN ubD))), (d 6, .inl (cJ, 8, .inr (.inl (fC utD)))), (d 7, .inl (cI, 8, .inl upD)), (sc, .inr (4, [.ref sb, .int (nI bl), .int u_8.1, .int u_8.2.1, .int u_8.2.2.1, .int u_8.2.2.2.1])), (sb, .inl (cB, 150, .inl (fN bt))), (d 0, .inr (2, [.ref (d 1), .ref (d 2), .ref (d 3), .ref (d 4), .ref (d 5), .ref (d 6), .ref (d 7), .long (eC ([])), .int (nI 0), .int (nI 0)])), (d 1, .inl (cJ, 8, .inr (.inl (fC u_8.2.2.2.2.1)))), (d 2, .inl (cI, 8, .inl u_8.2.2.2.2.2))] := hD
  refine W.eq (g2 := F0 mG 11 ls [.int ((rdA bt bl (flT TD [] 8) (flI PD (-1) 8)).2.1)]) rfl ?_
  refine lv_istore_n (lv' := [(1, .int ((rdA bt bl (flT TD [] 8) (flI PD (-1) 8)).2.1)), (0, .ref e0)]) xh bh dX8_read_11 rfl hl (by decide) rfl (fun ls hl => ?_)
  refine lv_iload_n xh bh dX8_read_12 rfl (lv_at hl 0 rfl) ?_
  refine lv_if_lt (tgt := 27) xh bh dX8_read_13 (by decide) (fun c_13 => ?_) (fun c_13 => ?_)
  · have hk : (rdA bt bl (flT TD [] 8) (flI PD (-1) 8)).1 = false := by
      cases q : (rdA bt bl (flT TD [] 8) (flI PD (-1) 8)).1 with
      | false => rfl
      | true => exact absurd c_13 (Int32.not_lt.mpr (h8.mp q))
    refine lv_iload_n xh bh dX8_read_27 rfl (lv_at hl 0 rfl) ?_
    exact hend ((rdA bt bl (flT TD [] 8) (flI PD (-1) 8)).2.1) u_8 _ _ _ _ (congrArg (fun z => some (Value.int z)) (by rfl)) (by exact hu_8) rfl dX8_read_28 (by rw [hk]; exact (hP.sub [0, 14, 15, 1, 2, 3, 4, 5, 6, 7, 8, 16, 17, 18, 9, 10, 11, 12, 13] rfl)) (by rw [hk]; exact (hD.sub [0, 14, 15, 1, 2, 3, 4, 5, 6, 7, 8, 16, 17, 18, 9, 10, 11, 12, 13] (by decide) rfl)) hS
  · have hk : (rdA bt bl (flT TD [] 8) (flI PD (-1) 8)).1 = true := h8.mpr (Int32.not_lt.mp c_13)
    refine lv_aload_n xh bh dX8_read_16 rfl (lv_at hl 1 rfl) ?_
    refine va_get (D := D) (ci := 5) (v := .ref (h 0)) (C := RX8) (T := TX8) (N := 11) xh bh hts (fun _ h => List.mem_cons_of_mem _ (List.mem_append_left _ (List.mem_append_left _ (List.mem_append_right _ (h))))) hown hK.1 hP 0 rfl rfl 0 (by decide) (hts _ (List.mem_of_getElem? (i := 3) rfl)) (fun _ h9 => h9) rfl dX8_read_17 ?_
    refine lv_aload_n xh bh dX8_read_20 rfl (lv_at hl 1 rfl) ?_
    refine va_get (D := D) (ci := 5) (v := .ref (d 0)) (C := RX8) (T := TX8) (N := 11) xh bh hts (fun _ h => List.mem_cons_of_mem _ (List.mem_append_left _ (List.mem_append_left _ (List.mem_append_right _ (h))))) hown hK.1 hP 0 rfl rfl 3 (by decide) (hts _ (List.mem_of_getElem? (i := 2) rfl)) (fun _ h9 => h9) rfl dX8_read_21 ?_
    refine Ct.callV (As := [.ref (d 0)]) (rest := []) (wr := [(e0, .inr (5, [.ref (h 0), .ref (y 0), .ref (z 0), .ref (d 0), .ref sc, .ref ru, .ref fu, .ref f0, .ref ra, .int (ib k0), .int (ib k1)])), (sc, .inr (4, [.ref sb, .int (nI bl), .int u_8.1, .int u_8.2.1, .int u_8.2.2.1, .int u_8.2.2.2.1])), (sb, .inl (cB, 150, .inl (fN bt)))]) xh bh hml hown hts hK hP hD hS hA (ct_X3_becomeLike l D cI cJ cB cZ cA h T P hp hi ub ut up row hc un d u_8.2.2.2.2.1 u_8.2.2.2.2.2 hpD hiD ubD utD upD ([]) 0 0 ) (cwV 1 hts gX8_read_X3_becomeLike rfl rfl rfl (by decide +kernel) ⟨Nat.le_of_ble_eq_true rfl, Nat.le_of_ble_eq_true rfl⟩) rfl rfl hl.1 (Nat.le_of_ble_eq_true rfl) dX8_read_24 ⟨Nat.le_refl _, Nat.le_refl _⟩ 0 2 rfl rfl rfl [1, 2, 3, 4, 5, 6, 7, 8, 16, 17, 18, 9, 10, 11, 12, 13] [0, 14, 15] rfl (by decide) rfl rfl (by decide) (by decide) (fun _ H locs _ hP hD hS => ?_)
    have hP : va_P D vwCl [(e0, .inr (5, [.ref (h 0), .ref (y 0), .ref (z 0), .ref (d 0), .ref sc, .ref ru, .ref fu, .ref f0, .ref ra, .int (ib k0), .int (ib k1)])), (sc, .inr (4, [.ref sb, .int (nI bl), .int u_8.1, .int u_8.2.1, .int u_8.2.2.1, .int u_8.2.2.2.1])), (sb, .inl (cB, 150, .inl (fN bt))), (h 0, .inr (2, [.ref (h 1), .ref (h 2), .ref (h 3), .ref (h 4), .ref (h 5), .ref (h 6), .ref (h 7), .long (eC ([])), .int (nI 0), .int (nI 0)])), (h 1, .inl (cJ, 8, .inr (.inl (fC (va_cpy u_8.2.2.2.2.1 T 0 0 8))))), (h 2, .inl (cI, 8, .inl (va_cpy u_8.2.2.2.2.2 P 0 0 8))), (h 3, .inl (cI, 6, .inl (fN (va_cpy hpD hp 0 0 6)))), (h 4, .inl (cI, 6, .inl (fN (va_cpy hiD hi 0 0 6)))), (h 5, .inl (cI, 8, .inl (fN (va_cpy ubD ub 0 0 8)))), (h 6, .inl (cJ, 8, .inr (.inl (fC (va_cpy utD ut 0 0 8))))), (h 7, .inl (cI, 8, .inl (va_cpy upD up 0 0 8))), (d 0, .inr (2, [.ref (d 1), .ref (d 2), .ref (d 3), .ref (d 4), .ref (d 5), .ref (d 6), .ref (d 7), .long (eC ([])), .int (nI 0), .int (nI 0)])), (d 1, .inl (cJ, 8, .inr (.inl (fC u_8.2.2.2.2.1)))), (d 2, .inl (cI, 8, .inl u_8.2.2.2.2.2)), (d 3, .inl (cI, 6, .inl (fN hpD))), (d 4, .inl (cI, 6, .inl (fN hiD))), (d 5, .inl (cI, 8, .inl (fN ubD))), (d 6, .inl (cJ, 8, .inr (.inl (fC utD)))), (d 7, .inl (cI, 8, .inl upD))] H := hP
    have hD : va_D AG [(e0, .inr (5, [.ref (h 0), .ref (y 0), .ref (z 0), .ref (d 0), .ref sc, .ref ru, .ref fu, .ref f0, .ref ra, .int (ib k0), .int (ib k1)])), (sc, .inr (4, [.ref sb, .int (nI bl), .int u_8.1, .int u_8.2.1, .int u_8.2.2.1, .int u_8.2.2.2.1])), (sb, .inl (cB, 150, .inl (fN bt))), (h 0, .inr (2, [.ref (h 1), .ref (h 2), .ref (h 3), .ref (h 4), .ref (h 5), .ref (h 6), .ref (h 7), .long (eC ([])), .int (nI 0), .int (nI 0)])), (h 1, .inl (cJ, 8, .inr (.inl (fC (va_cpy u_8.2.2.2.2.1 T 0 0 8))))), (h 2, .inl (cI, 8, .inl (va_cpy u_8.2.2.2.2.2 P 0 0 8))), (h 3, .inl (cI, 6, .inl (fN (va_cpy hpD hp 0 0 6)))), (h 4, .inl (cI, 6, .inl (fN (va_cpy hiD hi 0 0 6)))), (h 5, .inl (cI, 8, .inl (fN (va_cpy ubD ub 0 0 8)))), (h 6, .inl (cJ, 8, .inr (.inl (fC (va_cpy utD ut 0 0 8))))), (h 7, .inl (cI, 8, .inl (va_cpy upD up 0 0 8))), (d 0, .inr (2, [.ref (d 1), .ref (d 2), .ref (d 3), .ref (d 4), .ref (d 5), .ref (d 6), .ref (d 7), .long (eC ([])), .int (nI 0), .int (nI 0)])), (d 1, .inl (cJ, 8, .inr (.inl (fC u_8.2.2.2.2.1)))), (d 2, .inl (cI, 8, .inl u_8.2.2.2.2.2)), (d 3, .inl (cI, 6, .inl (fN hpD))), (d 4, .inl (cI, 6, .inl (fN hiD))), (d 5, .inl (cI, 8, .inl (fN ubD))), (d 6, .inl (cJ, 8, .inr (.inl (fC utD)))), (d 7, .inl (cI, 8, .inl upD))] := hD
    refine W.eq (g2 := F0 mG 27 ls []) rfl ?_
    refine lv_iload_n xh bh dX8_read_27 rfl (lv_at hl 0 rfl) ?_
    exact hend ((rdA bt bl (flT TD [] 8) (flI PD (-1) 8)).2.1) u_8 _ _ _ _ (congrArg (fun z => some (Value.int z)) (by rfl)) (by exact hu_8) rfl dX8_read_28 (by rw [hk]; exact hP) (by rw [hk]; exact hD) hS
