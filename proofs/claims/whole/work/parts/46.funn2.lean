-- rows laid by wip/whole/gen.py
theorem schX_s (g : Nat → FS → FS) (x : Nat) (s : FS) : schX g (x + 1) s = g x (schX g x s) := rfl
theorem sch_s (r : Nat) (t : List Nat) (s : FS) : sch (r + 1) t s = schX (fun x s => sch r (t ++ [x]) s) 10 s := rfl
theorem bsR_of {m : Nat} {y : Bool} {b b0 : List Nat} {k m0 : Int32} (h : ((y, b, k) : FS) = sch m [] (false, b0, m0)) : b = bsR m :=
  (congrArg (fun z : FS => z.2.1) h).trans (congrArg (fun z : FS => z.2.1) (sch_ind m [] (false, b0, m0) (false, [], 0) rfl rfl))
theorem fz_up {fz : Nat → Nat} (h : ∀ k, fz k < 2) {j : Nat} : ∀ k, va_up fz j 1 k < 2 := fun k => by
  unfold va_up
  by_cases q : k = j
  · rw [if_pos q]; decide
  · rw [if_neg q]; exact h k
theorem ff_up {fz : Nat → Nat} {fr : Nat → List Nat} (h : ∀ k, fz k = 1 → fr k = bsR k) {j : Nat} {t : List Nat} (ht : t = bsR j) : ∀ k, va_up fz j 1 k = 1 → va_up fr j t k = bsR k := fun k => by
  unfold va_up
  by_cases q : k = j
  · rw [if_pos q, if_pos q, q]; exact fun _ => ht
  · rw [if_neg q, if_neg q]; exact h k
theorem neg1_lt {k : Nat} (h : k ≤ 4) : (-1 : Int32) < nI k := (show ∀ k, k < 5 → (-1 : Int32) < nI k by decide +kernel) k (by omega)
set_option maxHeartbeats 1000000 in
set_option maxRecDepth 100000 in
theorem ct_X2_keepFunnier (l : Launch) (D : va_G) (cI cJ cB cZ cA : ClassId) (fu : Nat) (fa0 : Nat) (fz0 : Nat) (b0 : List Nat) (m0 : Int32) (y0 : Bool) (t : List Nat) (v : Int32) (hv : v = funT t) : Ct l yX2_keepFunnier wsX2_keepFunnier ({ frames := 0, cells := 0, slots := 0, locals := 0 }) D (tysG cI cJ cB cZ cA) [.ref fu, .long (eC t), .int v] [(fu, .inr (1, [.ref fa0, .ref fz0, .long (eC b0), .int m0, .int (ib y0)]))] (fun (u : FS) => u = kf ((y0, b0, m0) : FS) t) (fun u => none) (fun u => [(fu, .inr (1, [.ref fa0, .ref fz0, .long (eC u.2.1), .int u.2.2, .int (ib u.1)]))]) := by
  refine Ct.ofV (cc := cX2_keepFunnier) (maxL := 4) (by decide) rfl (Nat.le_of_ble_eq_true rfl) ?_
  intro pG eG sG mG aG bG tG cG AG QG ls xh bh hml hown hts hK hP hD hS hA hend hl
  have hl : lv_has ls 4 [(0, .ref fu), (1, .long (eC t)), (3, .int v)] := hl
  refine lv_aload_n xh bh dX2_keepFunnier_0 rfl (lv_at hl 0 rfl) ?_
  refine va_get (D := D) (ci := 1) (v := .int (ib y0)) (C := RX2) (T := TX2) (N := 5) xh bh hts (fun _ h => List.mem_cons_of_mem _ (List.mem_append_right _ (h))) hown hK.1 hP 0 rfl rfl 4 (by decide) (hts _ (List.mem_of_getElem? (i := 1) rfl)) (fun _ h9 => h9) rfl dX2_keepFunnier_1 ?_
  refine xb_if_eq (tgt := 15) xh bh dX2_keepFunnier_4 (by decide) (fun c_4 => ?_) (fun c_4 => ?_)
  · have h9 : kf ((y0, b0, m0) : FS) t = (true, t, funT t) := if_neg (fun q => by rw [c_4] at q; exact absurd q.1 Bool.false_ne_true)
    refine lv_aload_n xh bh dX2_keepFunnier_15 rfl (lv_at hl 0 rfl) ?_
    refine lv_lload_n xh bh dX2_keepFunnier_16 rfl (lv_at hl 1 rfl) ?_
    refine va_put (D := D) (ci := 1) (v := .long (eC t)) (ty := .long) (C := RX2) (T := TX2) (N := 5) xh bh hts (fun _ h => List.mem_cons_of_mem _ (List.mem_append_right _ (h))) tyX2 tyX2_ok nmX2 hown hK.1 hP hD hS 0 rfl rfl 2 (by decide) (hts _ (List.mem_of_getElem? (i := 3) rfl)) (fun _ h9 => h9) rfl (by decide +kernel) (by rfl) (by rfl) (Nat.le_of_ble_eq_true rfl) dX2_keepFunnier_17 (fun H locs hP hD hS => ?_)
    have hP : va_P D vwCl [(fu, .inr (1, [.ref fa0, .ref fz0, .long (eC t), .int m0, .int (ib y0)]))] H := hP
    have hD : va_D AG [(fu, .inr (1, [.ref fa0, .ref fz0, .long (eC t), .int m0, .int (ib y0)]))] := hD
    refine lv_aload_n xh bh dX2_keepFunnier_20 rfl (lv_at hl 0 rfl) ?_
    refine lv_iload_n xh bh dX2_keepFunnier_21 rfl (lv_at hl 2 rfl) ?_
    refine va_put (D := D) (ci := 1) (v := .int v) (ty := .int) (C := RX2) (T := TX2) (N := 5) xh bh hts (fun _ h => List.mem_cons_of_mem _ (List.mem_append_right _ (h))) tyX2 tyX2_ok nmX2 hown hK.1 hP hD hS 0 rfl rfl 3 (by decide) (hts _ (List.mem_of_getElem? (i := 2) rfl)) (fun _ h9 => h9) rfl (by decide +kernel) (by rfl) (by rfl) (Nat.le_of_ble_eq_true rfl) dX2_keepFunnier_22 (fun H locs hP hD hS => ?_)
    have hP : va_P D vwCl [(fu, .inr (1, [.ref fa0, .ref fz0, .long (eC t), .int v, .int (ib y0)]))] H := hP
    have hD : va_D AG [(fu, .inr (1, [.ref fa0, .ref fz0, .long (eC t), .int v, .int (ib y0)]))] := hD
    refine lv_aload_n xh bh dX2_keepFunnier_25 rfl (lv_at hl 0 rfl) ?_
    refine lv_iconst (v := (nI 1)) xh bh dX2_keepFunnier_26 (by decide) ?_
    refine va_put (D := D) (ci := 1) (v := .int (nI 1)) (ty := .boolean) (C := RX2) (T := TX2) (N := 5) xh bh hts (fun _ h => List.mem_cons_of_mem _ (List.mem_append_right _ (h))) tyX2 tyX2_ok nmX2 hown hK.1 hP hD hS 0 rfl rfl 4 (by decide) (hts _ (List.mem_of_getElem? (i := 1) rfl)) (fun _ h9 => h9) rfl (by decide +kernel) (by exact vz_bool (by decide)) (by rfl) (Nat.le_of_ble_eq_true rfl) dX2_keepFunnier_27 (fun H locs hP hD hS => ?_)
    have hP : va_P D vwCl [(fu, .inr (1, [.ref fa0, .ref fz0, .long (eC t), .int v, .int (nI 1)]))] H := hP
    have hD : va_D AG [(fu, .inr (1, [.ref fa0, .ref fz0, .long (eC t), .int v, .int (nI 1)]))] := hD
    exact hend (true, t, v) _ _ _ _ rfl (by first | exact h9.symm | rw [h9, hv]) dX2_keepFunnier_30 (by exact hP) (by exact hD) hS
  · refine lv_iload_n xh bh dX2_keepFunnier_7 rfl (lv_at hl 2 rfl) ?_
    refine lv_aload_n xh bh dX2_keepFunnier_8 rfl (lv_at hl 0 rfl) ?_
    refine va_get (D := D) (ci := 1) (v := .int m0) (C := RX2) (T := TX2) (N := 5) xh bh hts (fun _ h => List.mem_cons_of_mem _ (List.mem_append_right _ (h))) hown hK.1 hP 0 rfl rfl 3 (by decide) (hts _ (List.mem_of_getElem? (i := 2) rfl)) (fun _ h9 => h9) rfl dX2_keepFunnier_9 ?_
    refine lv_icmp_le (tgt := 30) xh bh dX2_keepFunnier_12 (by decide) (fun c_12 => ?_) (fun c_12 => ?_)
    · have h9 : kf ((y0, b0, m0) : FS) t = (y0, b0, m0) := if_pos (And.intro c_4 (by rw [← hv]; exact c_12))
      exact hend (y0, b0, m0) _ _ _ _ rfl (by first | exact h9.symm | rw [h9, hv]) dX2_keepFunnier_30 (by exact hP) (by exact hD) hS
    · have h9 : kf ((y0, b0, m0) : FS) t = (true, t, funT t) := if_neg (fun q => c_12 (by rw [hv]; exact q.2))
      refine lv_aload_n xh bh dX2_keepFunnier_15 rfl (lv_at hl 0 rfl) ?_
      refine lv_lload_n xh bh dX2_keepFunnier_16 rfl (lv_at hl 1 rfl) ?_
      refine va_put (D := D) (ci := 1) (v := .long (eC t)) (ty := .long) (C := RX2) (T := TX2) (N := 5) xh bh hts (fun _ h => List.mem_cons_of_mem _ (List.mem_append_right _ (h))) tyX2 tyX2_ok nmX2 hown hK.1 hP hD hS 0 rfl rfl 2 (by decide) (hts _ (List.mem_of_getElem? (i := 3) rfl)) (fun _ h9 => h9) rfl (by decide +kernel) (by rfl) (by rfl) (Nat.le_of_ble_eq_true rfl) dX2_keepFunnier_17 (fun H locs hP hD hS => ?_)
      have hP : va_P D vwCl [(fu, .inr (1, [.ref fa0, .ref fz0, .long (eC t), .int m0, .int (ib y0)]))] H := hP
      have hD : va_D AG [(fu, .inr (1, [.ref fa0, .ref fz0, .long (eC t), .int m0, .int (ib y0)]))] := hD
      refine lv_aload_n xh bh dX2_keepFunnier_20 rfl (lv_at hl 0 rfl) ?_
      refine lv_iload_n xh bh dX2_keepFunnier_21 rfl (lv_at hl 2 rfl) ?_
      refine va_put (D := D) (ci := 1) (v := .int v) (ty := .int) (C := RX2) (T := TX2) (N := 5) xh bh hts (fun _ h => List.mem_cons_of_mem _ (List.mem_append_right _ (h))) tyX2 tyX2_ok nmX2 hown hK.1 hP hD hS 0 rfl rfl 3 (by decide) (hts _ (List.mem_of_getElem? (i := 2) rfl)) (fun _ h9 => h9) rfl (by decide +kernel) (by rfl) (by rfl) (Nat.le_of_ble_eq_true rfl) dX2_keepFunnier_22 (fun H locs hP hD hS => ?_)
      have hP : va_P D vwCl [(fu, .inr (1, [.ref fa0, .ref fz0, .long (eC t), .int v, .int (ib y0)]))] H := hP
      have hD : va_D AG [(fu, .inr (1, [.ref fa0, .ref fz0, .long (eC t), .int v, .int (ib y0)]))] := hD
      refine lv_aload_n xh bh dX2_keepFunnier_25 rfl (lv_at hl 0 rfl) ?_
      refine lv_iconst (v := (nI 1)) xh bh dX2_keepFunnier_26 (by decide) ?_
      refine va_put (D := D) (ci := 1) (v := .int (nI 1)) (ty := .boolean) (C := RX2) (T := TX2) (N := 5) xh bh hts (fun _ h => List.mem_cons_of_mem _ (List.mem_append_right _ (h))) tyX2 tyX2_ok nmX2 hown hK.1 hP hD hS 0 rfl rfl 4 (by decide) (hts _ (List.mem_of_getElem? (i := 1) rfl)) (fun _ h9 => h9) rfl (by decide +kernel) (by exact vz_bool (by decide)) (by rfl) (Nat.le_of_ble_eq_true rfl) dX2_keepFunnier_27 (fun H locs hP hD hS => ?_)
      have hP : va_P D vwCl [(fu, .inr (1, [.ref fa0, .ref fz0, .long (eC t), .int v, .int (nI 1)]))] H := hP
      have hD : va_D AG [(fu, .inr (1, [.ref fa0, .ref fz0, .long (eC t), .int v, .int (nI 1)]))] := hD
      exact hend (true, t, v) _ _ _ _ rfl (by first | exact h9.symm | rw [h9, hv]) dX2_keepFunnier_30 (by exact hP) (by exact hD) hS

set_option maxHeartbeats 1000000 in
set_option maxRecDepth 100000 in
theorem ct_X2_search0 (l : Launch) (D : va_G) (cI cJ cB cZ cA : ClassId) (fu : Nat) (fa0 : Nat) (fz0 : Nat) (b0 : List Nat) (m0 : Int32) (y0 : Bool) (t : List Nat) (a : Int32) (f : Int32) (ht : okT t) (hl : t.length + 0 ≤ 4) (ha : a = ahI t t.length) (hf : f = fnI t t.length) (hb : okT b0) : Ct l yX2_search wsX2_search ({ frames := 1, cells := 0, slots := 0, locals := 23 }) D (tysG cI cJ cB cZ cA) [.ref fu, .long (eC t), .int a, .int f, .int (nI 0)] [(fu, .inr (1, [.ref fa0, .ref fz0, .long (eC b0), .int m0, .int (ib y0)]))] (fun (u : FS) => u = sch 0 t ((y0, b0, m0) : FS) ∧ okT u.2.1) (fun u => none) (fun u => [(fu, .inr (1, [.ref fa0, .ref fz0, .long (eC u.2.1), .int u.2.2, .int (ib u.1)]))]) := by
  refine Ct.ofV (cc := cX2_search) (maxL := 8) (by decide) rfl (Nat.le_of_ble_eq_true rfl) ?_
  intro pG eG sG mG aG bG tG cG AG QG ls xh bh hml hown hts hK hP hD hS hA hend hl
  have hl : lv_has ls 8 [(0, .ref fu), (1, .long (eC t)), (3, .int a), (4, .int f), (5, .int (nI 0))] := hl
  refine lv_iload xh bh dX2_search_0 (lv_at hl 4 rfl) ?_
  refine xn_if_gt (tgt := 18) xh bh dX2_search_2 (by decide) (by omega) (fun c_2 => ?_) (fun c_2 => ?_)
  · exact absurd c_2 (by decide)
  · refine lv_aload_n xh bh dX2_search_5 rfl (lv_at hl 0 rfl) ?_
    refine lv_lload_n xh bh dX2_search_6 rfl (lv_at hl 1 rfl) ?_
    refine lv_iload xh bh dX2_search_7 (lv_at hl 3 rfl) ?_
    refine lv_iload_n xh bh dX2_search_9 rfl (lv_at hl 2 rfl) ?_
    refine Ct.callS0 (rest := [.int f, .long (eC t), .ref fu]) xh bh hml hown hts hK hP hS hA (ct_X4_funOfEnd l D cI cJ cB cZ cA a ) (va_cwS 1 hts gX2_search_X4_funOfEnd rfl rfl rfl (by decide +kernel) ⟨Nat.le_of_ble_eq_true rfl, Nat.le_of_ble_eq_true rfl⟩) rfl rfl hl.1 (Nat.le_of_ble_eq_true rfl) dX2_search_10 ⟨Nat.le_refl _, Nat.le_refl _⟩ (fun _ H locs _ hP hS => ?_)
    refine W.eq (g2 := F0 mG 13 ls [.int (if a = nI 9 then nI 3 else nI 0), .int f, .long (eC t), .ref fu]) rfl ?_
    refine lv_iadd xh bh dX2_search_13 ?_
    refine Ct.callV (As := [.long (eC t), .int (f + (if a = nI 9 then nI 3 else nI 0))]) (rest := []) (wr := []) xh bh hml hown hts hK hP hD hS hA (ct_X2_keepFunnier l D cI cJ cB cZ cA fu fa0 fz0 b0 m0 y0 t (f + (if a = nI 9 then nI 3 else nI 0)) (by rw [hf, ha]; exact (funT_end ht).symm)) (cwV 2 hts gX2_search_X2_keepFunnier rfl rfl rfl (by decide +kernel) ⟨Nat.le_of_ble_eq_true rfl, Nat.le_of_ble_eq_true rfl⟩) rfl rfl hl.1 (Nat.le_of_ble_eq_true rfl) dX2_search_14 ⟨Nat.le_refl _, Nat.le_refl _⟩ 0 1 rfl rfl rfl [0] [] rfl (by decide) rfl rfl (by decide) (by decide) (fun u_14 H locs hu_14 hP hD hS => ?_)
    have hP : va_P D vwCl [(fu, .inr (1, [.ref fa0, .ref fz0, .long (eC u_14.2.1), .int u_14.2.2, .int (ib u_14.1)]))] H := hP
    have hD : va_D AG [(fu, .inr (1, [.ref fa0, .ref fz0, .long (eC u_14.2.1), .int u_14.2.2, .int (ib u_14.1)]))] := hD
    refine W.eq (g2 := F0 mG 17 ls []) rfl ?_
    exact hend u_14 _ _ _ _ rfl (by exact And.intro hu_14 (by rw [hu_14]; exact kf_ok hb ht)) dX2_search_17 (by exact hP) (by exact hD) hS

set_option maxHeartbeats 1000000 in
set_option maxRecDepth 100000 in
theorem ct_X2_search1 (l : Launch) (D : va_G) (cI cJ cB cZ cA : ClassId) (fu : Nat) (fa0 : Nat) (fz0 : Nat) (b0 : List Nat) (m0 : Int32) (y0 : Bool) (t : List Nat) (a : Int32) (f : Int32) (ht : okT t) (hl : t.length + 1 ≤ 4) (ha : a = ahI t t.length) (hf : f = fnI t t.length) (hb : okT b0) : Ct l yX2_search wsX2_search ({ frames := 2, cells := 0, slots := 0, locals := 50 }) D (tysG cI cJ cB cZ cA) [.ref fu, .long (eC t), .int a, .int f, .int (nI 1)] [(fu, .inr (1, [.ref fa0, .ref fz0, .long (eC b0), .int m0, .int (ib y0)]))] (fun (u : FS) => u = sch 1 t ((y0, b0, m0) : FS) ∧ okT u.2.1) (fun u => none) (fun u => [(fu, .inr (1, [.ref fa0, .ref fz0, .long (eC u.2.1), .int u.2.2, .int (ib u.1)]))]) := by
  refine Ct.ofV (cc := cX2_search) (maxL := 8) (by decide) rfl (Nat.le_of_ble_eq_true rfl) ?_
  intro pG eG sG mG aG bG tG cG AG QG ls xh bh hml hown hts hK hP hD hS hA hend hl
  have hl : lv_has ls 8 [(0, .ref fu), (1, .long (eC t)), (3, .int a), (4, .int f), (5, .int (nI 1))] := hl
  refine lv_iload xh bh dX2_search_0 (lv_at hl 4 rfl) ?_
  refine xn_if_gt (tgt := 18) xh bh dX2_search_2 (by decide) (by decide) (fun c_2 => ?_) (fun c_2 => ?_)
  · refine lv_iconst (v := (nI 0)) xh bh dX2_search_18 (by decide) ?_
    refine lv_istore (lv' := [(6, .int (nI 0)), (0, .ref fu), (1, .long (eC t)), (3, .int a), (4, .int f), (5, .int (nI 1))]) xh bh dX2_search_19 hl (by decide) rfl (fun ls hl => ?_)
    have cut_21 : ∀ (n_21 : Nat), ∀ (x : Nat), ∀ (b1 : List Nat), ∀ (m1 : Int32), ∀ (y1 : Bool), (x ≤ 10) → (okT b1) → (((y1, b1, m1) : FS) = schX (fun x s => sch 0 (t ++ [x]) s) x ((y0, b0, m0) : FS)) → (10 - x) < n_21 → ∀ (H : Heap) (locs : List Loc) (ls : Array Slot), va_P D vwCl [(fu, .inr (1, [.ref fa0, .ref fz0, .long (eC b1), .int m1, .int (ib y1)]))] H → va_D AG [(fu, .inr (1, [.ref fa0, .ref fz0, .long (eC b1), .int m1, .int (ib y1)]))] → va_S AG sG.heap H locs → lv_has ls 8 [(0, .ref fu), (1, .long (eC t)), (3, .int a), (4, .int f), (5, .int (nI 1)), (6, .int (nI x))] → W pG l eG ({ frames := 2, cells := 0, slots := 0, locals := 50 }) sG mG aG bG tG cG H locs 0 0 QG (F0 mG 21 ls []) := by
      intro n_21
      induction n_21 with
      | zero =>
        intro x b1 m1 y1 hx9 hb1 hs9 hmu
        exact absurd hmu (Nat.not_lt_zero _)
      | succ n_21 ih_21 =>
        intro x b1 m1 y1 hx9 hb1 hs9 hmu H locs ls hP hD hS hl
        refine lv_iload xh bh dX2_search_21 (lv_at hl 5 rfl) ?_
        refine lv_bipush (v := (nI 10)) xh bh dX2_search_23 (by decide) ?_
        refine xn_icmp_ge (tgt := 69) xh bh dX2_search_25 (by decide) (by omega) (by omega) (fun c_25 => ?_) (fun c_25 => ?_)
        · exact hend (y1, b1, m1) _ _ _ _ rfl (by exact And.intro (by rw [hs9, show x = 10 by omega]; exact (sch_s 0 t _).symm) hb1) dX2_search_69 (by exact hP) (by exact hD) hS
        · refine lv_iload_n xh bh dX2_search_28 rfl (lv_at hl 2 rfl) ?_
          refine lv_iload xh bh dX2_search_29 (lv_at hl 5 rfl) ?_
          refine lv_lload_n xh bh dX2_search_31 rfl (lv_at hl 1 rfl) ?_
          refine lv_iload xh bh dX2_search_32 (lv_at hl 5 rfl) ?_
          refine Ct.callS0 (rest := [.int (nI x), .int a]) xh bh hml hown hts hK hP hS hA (ct_X7_timesIn l D cI cJ cB cZ cA t x (by first | assumption | exact okT_nil) (by first | omega | assumption)) (va_cwS 2 hts gX2_search_X7_timesIn rfl rfl rfl (by decide +kernel) ⟨Nat.le_of_ble_eq_true rfl, Nat.le_of_ble_eq_true rfl⟩) rfl rfl hl.1 (Nat.le_of_ble_eq_true rfl) dX2_search_34 ⟨Nat.le_refl _, Nat.le_refl _⟩ (fun _ H locs _ hP hS => ?_)
          refine W.eq (g2 := F0 mG 37 ls [.int (nI (cntN t x t.length)), .int (nI x), .int a]) rfl ?_
          refine Ct.callS0 (rest := []) xh bh hml hown hts hK hP hS hA (ct_X4_funOfNext l D cI cJ cB cZ cA a x (cntN t x t.length) (by omega) (by have := cntN_le t x t.length; omega)) (va_cwS 3 hts gX2_search_X4_funOfNext rfl rfl rfl (by decide +kernel) ⟨Nat.le_of_ble_eq_true rfl, Nat.le_of_ble_eq_true rfl⟩) rfl rfl hl.1 (Nat.le_of_ble_eq_true rfl) dX2_search_37 ⟨Nat.le_refl _, Nat.le_refl _⟩ (fun _ H locs _ hP hS => ?_)
          refine W.eq (g2 := F0 mG 40 ls [.int (fxI a x (cntN t x t.length))]) rfl ?_
          refine lv_istore (lv' := [(7, .int (fxI a x (cntN t x t.length))), (0, .ref fu), (1, .long (eC t)), (3, .int a), (4, .int f), (5, .int (nI 1)), (6, .int (nI x))]) xh bh dX2_search_40 hl (by decide) rfl (fun ls hl => ?_)
          refine lv_aload_n xh bh dX2_search_42 rfl (lv_at hl 1 rfl) ?_
          refine lv_lload_n xh bh dX2_search_43 rfl (lv_at hl 2 rfl) ?_
          refine lv_iload xh bh dX2_search_44 (lv_at hl 6 rfl) ?_
          refine Ct.callS0 (rest := [.ref fu]) xh bh hml hown hts hK hP hS hA (ct_X7_added l D cI cJ cB cZ cA t x (by first | assumption | exact okT_nil) (by first | omega | assumption)) (va_cwS 2 hts gX2_search_X7_added rfl rfl rfl (by decide +kernel) ⟨Nat.le_of_ble_eq_true rfl, Nat.le_of_ble_eq_true rfl⟩) rfl rfl hl.1 (Nat.le_of_ble_eq_true rfl) dX2_search_46 ⟨Nat.le_refl _, Nat.le_refl _⟩ (fun _ H locs _ hP hS => ?_)
          refine W.eq (g2 := F0 mG 49 ls [.long (eC (addT t x)), .ref fu]) rfl ?_
          refine xw_topl (x := (eC (addT t x))) (y := (eC (t ++ [x]))) (by rw [addT_lt (by omega)]) ?_
          refine lv_iload xh bh dX2_search_49 (lv_at hl 6 rfl) ?_
          refine lv_iload xh bh dX2_search_51 (lv_at hl 4 rfl) ?_
          refine lv_iload xh bh dX2_search_53 (lv_at hl 0 rfl) ?_
          refine lv_iadd xh bh dX2_search_55 ?_
          refine lv_iload xh bh dX2_search_56 (lv_at hl 5 rfl) ?_
          refine lv_iconst (v := (nI 1)) xh bh dX2_search_58 (by decide) ?_
          refine xn_isub xh bh dX2_search_59 (by decide) ?_
          refine xw_topi (x := (nI (1 - 1))) (y := (nI 0)) (by rfl) ?_
          refine Ct.callV (As := [.long (eC (t ++ [x])), .int (nI x), .int (f + (fxI a x (cntN t x t.length))), .int (nI 0)]) (rest := []) (wr := []) xh bh hml hown hts hK hP hD hS hA (ct_X2_search0 l D cI cJ cB cZ cA fu fa0 fz0 b1 m1 y1 (t ++ [x]) (nI x) (f + (fxI a x (cntN t x t.length))) (by exact ht.app (by omega) (by omega)) (by rw [List.length_append]; show t.length + 1 + 0 ≤ 4; omega) (by exact ahI_last _ _) (by exact fnI_last ha hf) (by exact hb1)) (cwV 4 hts gX2_search_X2_search rfl rfl rfl (by decide +kernel) ⟨Nat.le_of_ble_eq_true rfl, Nat.le_of_ble_eq_true rfl⟩) rfl rfl hl.1 (Nat.le_of_ble_eq_true rfl) dX2_search_60 ⟨Nat.le_refl _, Nat.le_refl _⟩ 0 1 rfl rfl rfl [0] [] rfl (by decide) rfl rfl (by decide) (by decide) (fun u_60 H locs hu_60 hP hD hS => ?_)
          have hP : va_P D vwCl [(fu, .inr (1, [.ref fa0, .ref fz0, .long (eC u_60.2.1), .int u_60.2.2, .int (ib u_60.1)]))] H := hP
          have hD : va_D AG [(fu, .inr (1, [.ref fa0, .ref fz0, .long (eC u_60.2.1), .int u_60.2.2, .int (ib u_60.1)]))] := hD
          refine W.eq (g2 := F0 mG 63 ls []) rfl ?_
          obtain ⟨y_60, b_60, m_60⟩ := u_60
          have hP : va_P D vwCl [(fu, .inr (1, [.ref fa0, .ref fz0, .long (eC b_60), .int m_60, .int (ib y_60)]))] H := hP
          have hD : va_D AG [(fu, .inr (1, [.ref fa0, .ref fz0, .long (eC b_60), .int m_60, .int (ib y_60)]))] := hD
          refine lv_iinc (v := (nI (x + 1))) (lv' := [(6, .int (nI (x + 1))), (7, .int (fxI a x (cntN t x t.length))), (0, .ref fu), (1, .long (eC t)), (3, .int a), (4, .int f), (5, .int (nI 1))]) xh bh dX2_search_63 hl (k := 6) rfl (by exact xn_inc _ _) (by decide) rfl (fun ls hl => ?_)
          refine lv_goto (tgt := 21) xh bh dX2_search_66 (by decide) ?_
          exact ih_21 (x + 1) b_60 m_60 y_60 (by omega) (by exact hu_60.2) (by exact hu_60.1.trans ((congrArg (sch 0 (t ++ [x])) hs9).trans (schX_s (fun x s => sch 0 (t ++ [x]) s) x ((y0, b0, m0) : FS)).symm)) (by omega) _ _ ls hP hD hS (lv_sub hl [2, 3, 4, 5, 6, 0] rfl)
    exact cut_21 (10 - 0 + 1) 0 b0 m0 y0 (by exact Nat.zero_le _) (by exact hb) (by rfl) (Nat.lt_succ_self _) _ _ ls hP hD hS (lv_sub hl [1, 2, 3, 4, 5, 0] rfl)
  · exact absurd c_2 (by decide)

set_option maxHeartbeats 1000000 in
set_option maxRecDepth 100000 in
theorem ct_X2_search2 (l : Launch) (D : va_G) (cI cJ cB cZ cA : ClassId) (fu : Nat) (fa0 : Nat) (fz0 : Nat) (b0 : List Nat) (m0 : Int32) (y0 : Bool) (t : List Nat) (a : Int32) (f : Int32) (ht : okT t) (hl : t.length + 2 ≤ 4) (ha : a = ahI t t.length) (hf : f = fnI t t.length) (hb : okT b0) : Ct l yX2_search wsX2_search ({ frames := 3, cells := 0, slots := 0, locals := 77 }) D (tysG cI cJ cB cZ cA) [.ref fu, .long (eC t), .int a, .int f, .int (nI 2)] [(fu, .inr (1, [.ref fa0, .ref fz0, .long (eC b0), .int m0, .int (ib y0)]))] (fun (u : FS) => u = sch 2 t ((y0, b0, m0) : FS) ∧ okT u.2.1) (fun u => none) (fun u => [(fu, .inr (1, [.ref fa0, .ref fz0, .long (eC u.2.1), .int u.2.2, .int (ib u.1)]))]) := by
  refine Ct.ofV (cc := cX2_search) (maxL := 8) (by decide) rfl (Nat.le_of_ble_eq_true rfl) ?_
  intro pG eG sG mG aG bG tG cG AG QG ls xh bh hml hown hts hK hP hD hS hA hend hl
  have hl : lv_has ls 8 [(0, .ref fu), (1, .long (eC t)), (3, .int a), (4, .int f), (5, .int (nI 2))] := hl
  refine lv_iload xh bh dX2_search_0 (lv_at hl 4 rfl) ?_
  refine xn_if_gt (tgt := 18) xh bh dX2_search_2 (by decide) (by decide) (fun c_2 => ?_) (fun c_2 => ?_)
  · refine lv_iconst (v := (nI 0)) xh bh dX2_search_18 (by decide) ?_
    refine lv_istore (lv' := [(6, .int (nI 0)), (0, .ref fu), (1, .long (eC t)), (3, .int a), (4, .int f), (5, .int (nI 2))]) xh bh dX2_search_19 hl (by decide) rfl (fun ls hl => ?_)
    have cut_21 : ∀ (n_21 : Nat), ∀ (x : Nat), ∀ (b1 : List Nat), ∀ (m1 : Int32), ∀ (y1 : Bool), (x ≤ 10) → (okT b1) → (((y1, b1, m1) : FS) = schX (fun x s => sch 1 (t ++ [x]) s) x ((y0, b0, m0) : FS)) → (10 - x) < n_21 → ∀ (H : Heap) (locs : List Loc) (ls : Array Slot), va_P D vwCl [(fu, .inr (1, [.ref fa0, .ref fz0, .long (eC b1), .int m1, .int (ib y1)]))] H → va_D AG [(fu, .inr (1, [.ref fa0, .ref fz0, .long (eC b1), .int m1, .int (ib y1)]))] → va_S AG sG.heap H locs → lv_has ls 8 [(0, .ref fu), (1, .long (eC t)), (3, .int a), (4, .int f), (5, .int (nI 2)), (6, .int (nI x))] → W pG l eG ({ frames := 3, cells := 0, slots := 0, locals := 77 }) sG mG aG bG tG cG H locs 0 0 QG (F0 mG 21 ls []) := by
      intro n_21
      induction n_21 with
      | zero =>
        intro x b1 m1 y1 hx9 hb1 hs9 hmu
        exact absurd hmu (Nat.not_lt_zero _)
      | succ n_21 ih_21 =>
        intro x b1 m1 y1 hx9 hb1 hs9 hmu H locs ls hP hD hS hl
        refine lv_iload xh bh dX2_search_21 (lv_at hl 5 rfl) ?_
        refine lv_bipush (v := (nI 10)) xh bh dX2_search_23 (by decide) ?_
        refine xn_icmp_ge (tgt := 69) xh bh dX2_search_25 (by decide) (by omega) (by omega) (fun c_25 => ?_) (fun c_25 => ?_)
        · exact hend (y1, b1, m1) _ _ _ _ rfl (by exact And.intro (by rw [hs9, show x = 10 by omega]; exact (sch_s 1 t _).symm) hb1) dX2_search_69 (by exact hP) (by exact hD) hS
        · refine lv_iload_n xh bh dX2_search_28 rfl (lv_at hl 2 rfl) ?_
          refine lv_iload xh bh dX2_search_29 (lv_at hl 5 rfl) ?_
          refine lv_lload_n xh bh dX2_search_31 rfl (lv_at hl 1 rfl) ?_
          refine lv_iload xh bh dX2_search_32 (lv_at hl 5 rfl) ?_
          refine Ct.callS0 (rest := [.int (nI x), .int a]) xh bh hml hown hts hK hP hS hA (ct_X7_timesIn l D cI cJ cB cZ cA t x (by first | assumption | exact okT_nil) (by first | omega | assumption)) (va_cwS 2 hts gX2_search_X7_timesIn rfl rfl rfl (by decide +kernel) ⟨Nat.le_of_ble_eq_true rfl, Nat.le_of_ble_eq_true rfl⟩) rfl rfl hl.1 (Nat.le_of_ble_eq_true rfl) dX2_search_34 ⟨Nat.le_refl _, Nat.le_refl _⟩ (fun _ H locs _ hP hS => ?_)
          refine W.eq (g2 := F0 mG 37 ls [.int (nI (cntN t x t.length)), .int (nI x), .int a]) rfl ?_
          refine Ct.callS0 (rest := []) xh bh hml hown hts hK hP hS hA (ct_X4_funOfNext l D cI cJ cB cZ cA a x (cntN t x t.length) (by omega) (by have := cntN_le t x t.length; omega)) (va_cwS 3 hts gX2_search_X4_funOfNext rfl rfl rfl (by decide +kernel) ⟨Nat.le_of_ble_eq_true rfl, Nat.le_of_ble_eq_true rfl⟩) rfl rfl hl.1 (Nat.le_of_ble_eq_true rfl) dX2_search_37 ⟨Nat.le_refl _, Nat.le_refl _⟩ (fun _ H locs _ hP hS => ?_)
          refine W.eq (g2 := F0 mG 40 ls [.int (fxI a x (cntN t x t.length))]) rfl ?_
          refine lv_istore (lv' := [(7, .int (fxI a x (cntN t x t.length))), (0, .ref fu), (1, .long (eC t)), (3, .int a), (4, .int f), (5, .int (nI 2)), (6, .int (nI x))]) xh bh dX2_search_40 hl (by decide) rfl (fun ls hl => ?_)
          refine lv_aload_n xh bh dX2_search_42 rfl (lv_at hl 1 rfl) ?_
          refine lv_lload_n xh bh dX2_search_43 rfl (lv_at hl 2 rfl) ?_
          refine lv_iload xh bh dX2_search_44 (lv_at hl 6 rfl) ?_
          refine Ct.callS0 (rest := [.ref fu]) xh bh hml hown hts hK hP hS hA (ct_X7_added l D cI cJ cB cZ cA t x (by first | assumption | exact okT_nil) (by first | omega | assumption)) (va_cwS 2 hts gX2_search_X7_added rfl rfl rfl (by decide +kernel) ⟨Nat.le_of_ble_eq_true rfl, Nat.le_of_ble_eq_true rfl⟩) rfl rfl hl.1 (Nat.le_of_ble_eq_true rfl) dX2_search_46 ⟨Nat.le_refl _, Nat.le_refl _⟩ (fun _ H locs _ hP hS => ?_)
          refine W.eq (g2 := F0 mG 49 ls [.long (eC (addT t x)), .ref fu]) rfl ?_
          refine xw_topl (x := (eC (addT t x))) (y := (eC (t ++ [x]))) (by rw [addT_lt (by omega)]) ?_
          refine lv_iload xh bh dX2_search_49 (lv_at hl 6 rfl) ?_
          refine lv_iload xh bh dX2_search_51 (lv_at hl 4 rfl) ?_
          refine lv_iload xh bh dX2_search_53 (lv_at hl 0 rfl) ?_
          refine lv_iadd xh bh dX2_search_55 ?_
          refine lv_iload xh bh dX2_search_56 (lv_at hl 5 rfl) ?_
          refine lv_iconst (v := (nI 1)) xh bh dX2_search_58 (by decide) ?_
          refine xn_isub xh bh dX2_search_59 (by decide) ?_
          refine xw_topi (x := (nI (2 - 1))) (y := (nI 1)) (by rfl) ?_
          refine Ct.callV (As := [.long (eC (t ++ [x])), .int (nI x), .int (f + (fxI a x (cntN t x t.length))), .int (nI 1)]) (rest := []) (wr := []) xh bh hml hown hts hK hP hD hS hA (ct_X2_search1 l D cI cJ cB cZ cA fu fa0 fz0 b1 m1 y1 (t ++ [x]) (nI x) (f + (fxI a x (cntN t x t.length))) (by exact ht.app (by omega) (by omega)) (by rw [List.length_append]; show t.length + 1 + 1 ≤ 4; omega) (by exact ahI_last _ _) (by exact fnI_last ha hf) (by exact hb1)) (cwV 4 hts gX2_search_X2_search rfl rfl rfl (by decide +kernel) ⟨Nat.le_of_ble_eq_true rfl, Nat.le_of_ble_eq_true rfl⟩) rfl rfl hl.1 (Nat.le_of_ble_eq_true rfl) dX2_search_60 ⟨Nat.le_refl _, Nat.le_refl _⟩ 0 1 rfl rfl rfl [0] [] rfl (by decide) rfl rfl (by decide) (by decide) (fun u_60 H locs hu_60 hP hD hS => ?_)
          have hP : va_P D vwCl [(fu, .inr (1, [.ref fa0, .ref fz0, .long (eC u_60.2.1), .int u_60.2.2, .int (ib u_60.1)]))] H := hP
          have hD : va_D AG [(fu, .inr (1, [.ref fa0, .ref fz0, .long (eC u_60.2.1), .int u_60.2.2, .int (ib u_60.1)]))] := hD
          refine W.eq (g2 := F0 mG 63 ls []) rfl ?_
          obtain ⟨y_60, b_60, m_60⟩ := u_60
          have hP : va_P D vwCl [(fu, .inr (1, [.ref fa0, .ref fz0, .long (eC b_60), .int m_60, .int (ib y_60)]))] H := hP
          have hD : va_D AG [(fu, .inr (1, [.ref fa0, .ref fz0, .long (eC b_60), .int m_60, .int (ib y_60)]))] := hD
          refine lv_iinc (v := (nI (x + 1))) (lv' := [(6, .int (nI (x + 1))), (7, .int (fxI a x (cntN t x t.length))), (0, .ref fu), (1, .long (eC t)), (3, .int a), (4, .int f), (5, .int (nI 2))]) xh bh dX2_search_63 hl (k := 6) rfl (by exact xn_inc _ _) (by decide) rfl (fun ls hl => ?_)
          refine lv_goto (tgt := 21) xh bh dX2_search_66 (by decide) ?_
          exact ih_21 (x + 1) b_60 m_60 y_60 (by omega) (by exact hu_60.2) (by exact hu_60.1.trans ((congrArg (sch 1 (t ++ [x])) hs9).trans (schX_s (fun x s => sch 1 (t ++ [x]) s) x ((y0, b0, m0) : FS)).symm)) (by omega) _ _ ls hP hD hS (lv_sub hl [2, 3, 4, 5, 6, 0] rfl)
    exact cut_21 (10 - 0 + 1) 0 b0 m0 y0 (by exact Nat.zero_le _) (by exact hb) (by rfl) (Nat.lt_succ_self _) _ _ ls hP hD hS (lv_sub hl [1, 2, 3, 4, 5, 0] rfl)
  · exact absurd c_2 (by decide)

set_option maxHeartbeats 1000000 in
set_option maxRecDepth 100000 in
theorem ct_X2_search3 (l : Launch) (D : va_G) (cI cJ cB cZ cA : ClassId) (fu : Nat) (fa0 : Nat) (fz0 : Nat) (b0 : List Nat) (m0 : Int32) (y0 : Bool) (t : List Nat) (a : Int32) (f : Int32) (ht : okT t) (hl : t.length + 3 ≤ 4) (ha : a = ahI t t.length) (hf : f = fnI t t.length) (hb : okT b0) : Ct l yX2_search wsX2_search ({ frames := 4, cells := 0, slots := 0, locals := 104 }) D (tysG cI cJ cB cZ cA) [.ref fu, .long (eC t), .int a, .int f, .int (nI 3)] [(fu, .inr (1, [.ref fa0, .ref fz0, .long (eC b0), .int m0, .int (ib y0)]))] (fun (u : FS) => u = sch 3 t ((y0, b0, m0) : FS) ∧ okT u.2.1) (fun u => none) (fun u => [(fu, .inr (1, [.ref fa0, .ref fz0, .long (eC u.2.1), .int u.2.2, .int (ib u.1)]))]) := by
  refine Ct.ofV (cc := cX2_search) (maxL := 8) (by decide) rfl (Nat.le_of_ble_eq_true rfl) ?_
  intro pG eG sG mG aG bG tG cG AG QG ls xh bh hml hown hts hK hP hD hS hA hend hl
  have hl : lv_has ls 8 [(0, .ref fu), (1, .long (eC t)), (3, .int a), (4, .int f), (5, .int (nI 3))] := hl
  refine lv_iload xh bh dX2_search_0 (lv_at hl 4 rfl) ?_
  refine xn_if_gt (tgt := 18) xh bh dX2_search_2 (by decide) (by decide) (fun c_2 => ?_) (fun c_2 => ?_)
  · refine lv_iconst (v := (nI 0)) xh bh dX2_search_18 (by decide) ?_
    refine lv_istore (lv' := [(6, .int (nI 0)), (0, .ref fu), (1, .long (eC t)), (3, .int a), (4, .int f), (5, .int (nI 3))]) xh bh dX2_search_19 hl (by decide) rfl (fun ls hl => ?_)
    have cut_21 : ∀ (n_21 : Nat), ∀ (x : Nat), ∀ (b1 : List Nat), ∀ (m1 : Int32), ∀ (y1 : Bool), (x ≤ 10) → (okT b1) → (((y1, b1, m1) : FS) = schX (fun x s => sch 2 (t ++ [x]) s) x ((y0, b0, m0) : FS)) → (10 - x) < n_21 → ∀ (H : Heap) (locs : List Loc) (ls : Array Slot), va_P D vwCl [(fu, .inr (1, [.ref fa0, .ref fz0, .long (eC b1), .int m1, .int (ib y1)]))] H → va_D AG [(fu, .inr (1, [.ref fa0, .ref fz0, .long (eC b1), .int m1, .int (ib y1)]))] → va_S AG sG.heap H locs → lv_has ls 8 [(0, .ref fu), (1, .long (eC t)), (3, .int a), (4, .int f), (5, .int (nI 3)), (6, .int (nI x))] → W pG l eG ({ frames := 4, cells := 0, slots := 0, locals := 104 }) sG mG aG bG tG cG H locs 0 0 QG (F0 mG 21 ls []) := by
      intro n_21
      induction n_21 with
      | zero =>
        intro x b1 m1 y1 hx9 hb1 hs9 hmu
        exact absurd hmu (Nat.not_lt_zero _)
      | succ n_21 ih_21 =>
        intro x b1 m1 y1 hx9 hb1 hs9 hmu H locs ls hP hD hS hl
        refine lv_iload xh bh dX2_search_21 (lv_at hl 5 rfl) ?_
        refine lv_bipush (v := (nI 10)) xh bh dX2_search_23 (by decide) ?_
        refine xn_icmp_ge (tgt := 69) xh bh dX2_search_25 (by decide) (by omega) (by omega) (fun c_25 => ?_) (fun c_25 => ?_)
        · exact hend (y1, b1, m1) _ _ _ _ rfl (by exact And.intro (by rw [hs9, show x = 10 by omega]; exact (sch_s 2 t _).symm) hb1) dX2_search_69 (by exact hP) (by exact hD) hS
        · refine lv_iload_n xh bh dX2_search_28 rfl (lv_at hl 2 rfl) ?_
          refine lv_iload xh bh dX2_search_29 (lv_at hl 5 rfl) ?_
          refine lv_lload_n xh bh dX2_search_31 rfl (lv_at hl 1 rfl) ?_
          refine lv_iload xh bh dX2_search_32 (lv_at hl 5 rfl) ?_
          refine Ct.callS0 (rest := [.int (nI x), .int a]) xh bh hml hown hts hK hP hS hA (ct_X7_timesIn l D cI cJ cB cZ cA t x (by first | assumption | exact okT_nil) (by first | omega | assumption)) (va_cwS 2 hts gX2_search_X7_timesIn rfl rfl rfl (by decide +kernel) ⟨Nat.le_of_ble_eq_true rfl, Nat.le_of_ble_eq_true rfl⟩) rfl rfl hl.1 (Nat.le_of_ble_eq_true rfl) dX2_search_34 ⟨Nat.le_refl _, Nat.le_refl _⟩ (fun _ H locs _ hP hS => ?_)
          refine W.eq (g2 := F0 mG 37 ls [.int (nI (cntN t x t.length)), .int (nI x), .int a]) rfl ?_
          refine Ct.callS0 (rest := []) xh bh hml hown hts hK hP hS hA (ct_X4_funOfNext l D cI cJ cB cZ cA a x (cntN t x t.length) (by omega) (by have := cntN_le t x t.length; omega)) (va_cwS 3 hts gX2_search_X4_funOfNext rfl rfl rfl (by decide +kernel) ⟨Nat.le_of_ble_eq_true rfl, Nat.le_of_ble_eq_true rfl⟩) rfl rfl hl.1 (Nat.le_of_ble_eq_true rfl) dX2_search_37 ⟨Nat.le_refl _, Nat.le_refl _⟩ (fun _ H locs _ hP hS => ?_)
          refine W.eq (g2 := F0 mG 40 ls [.int (fxI a x (cntN t x t.length))]) rfl ?_
          refine lv_istore (lv' := [(7, .int (fxI a x (cntN t x t.length))), (0, .ref fu), (1, .long (eC t)), (3, .int a), (4, .int f), (5, .int (nI 3)), (6, .int (nI x))]) xh bh dX2_search_40 hl (by decide) rfl (fun ls hl => ?_)
          refine lv_aload_n xh bh dX2_search_42 rfl (lv_at hl 1 rfl) ?_
          refine lv_lload_n xh bh dX2_search_43 rfl (lv_at hl 2 rfl) ?_
          refine lv_iload xh bh dX2_search_44 (lv_at hl 6 rfl) ?_
          refine Ct.callS0 (rest := [.ref fu]) xh bh hml hown hts hK hP hS hA (ct_X7_added l D cI cJ cB cZ cA t x (by first | assumption | exact okT_nil) (by first | omega | assumption)) (va_cwS 2 hts gX2_search_X7_added rfl rfl rfl (by decide +kernel) ⟨Nat.le_of_ble_eq_true rfl, Nat.le_of_ble_eq_true rfl⟩) rfl rfl hl.1 (Nat.le_of_ble_eq_true rfl) dX2_search_46 ⟨Nat.le_refl _, Nat.le_refl _⟩ (fun _ H locs _ hP hS => ?_)
          refine W.eq (g2 := F0 mG 49 ls [.long (eC (addT t x)), .ref fu]) rfl ?_
          refine xw_topl (x := (eC (addT t x))) (y := (eC (t ++ [x]))) (by rw [addT_lt (by omega)]) ?_
          refine lv_iload xh bh dX2_search_49 (lv_at hl 6 rfl) ?_
          refine lv_iload xh bh dX2_search_51 (lv_at hl 4 rfl) ?_
          refine lv_iload xh bh dX2_search_53 (lv_at hl 0 rfl) ?_
          refine lv_iadd xh bh dX2_search_55 ?_
          refine lv_iload xh bh dX2_search_56 (lv_at hl 5 rfl) ?_
          refine lv_iconst (v := (nI 1)) xh bh dX2_search_58 (by decide) ?_
          refine xn_isub xh bh dX2_search_59 (by decide) ?_
          refine xw_topi (x := (nI (3 - 1))) (y := (nI 2)) (by rfl) ?_
          refine Ct.callV (As := [.long (eC (t ++ [x])), .int (nI x), .int (f + (fxI a x (cntN t x t.length))), .int (nI 2)]) (rest := []) (wr := []) xh bh hml hown hts hK hP hD hS hA (ct_X2_search2 l D cI cJ cB cZ cA fu fa0 fz0 b1 m1 y1 (t ++ [x]) (nI x) (f + (fxI a x (cntN t x t.length))) (by exact ht.app (by omega) (by omega)) (by rw [List.length_append]; show t.length + 1 + 2 ≤ 4; omega) (by exact ahI_last _ _) (by exact fnI_last ha hf) (by exact hb1)) (cwV 4 hts gX2_search_X2_search rfl rfl rfl (by decide +kernel) ⟨Nat.le_of_ble_eq_true rfl, Nat.le_of_ble_eq_true rfl⟩) rfl rfl hl.1 (Nat.le_of_ble_eq_true rfl) dX2_search_60 ⟨Nat.le_refl _, Nat.le_refl _⟩ 0 1 rfl rfl rfl [0] [] rfl (by decide) rfl rfl (by decide) (by decide) (fun u_60 H locs hu_60 hP hD hS => ?_)
          have hP : va_P D vwCl [(fu, .inr (1, [.ref fa0, .ref fz0, .long (eC u_60.2.1), .int u_60.2.2, .int (ib u_60.1)]))] H := hP
          have hD : va_D AG [(fu, .inr (1, [.ref fa0, .ref fz0, .long (eC u_60.2.1), .int u_60.2.2, .int (ib u_60.1)]))] := hD
          refine W.eq (g2 := F0 mG 63 ls []) rfl ?_
          obtain ⟨y_60, b_60, m_60⟩ := u_60
          have hP : va_P D vwCl [(fu, .inr (1, [.ref fa0, .ref fz0, .long (eC b_60), .int m_60, .int (ib y_60)]))] H := hP
          have hD : va_D AG [(fu, .inr (1, [.ref fa0, .ref fz0, .long (eC b_60), .int m_60, .int (ib y_60)]))] := hD
          refine lv_iinc (v := (nI (x + 1))) (lv' := [(6, .int (nI (x + 1))), (7, .int (fxI a x (cntN t x t.length))), (0, .ref fu), (1, .long (eC t)), (3, .int a), (4, .int f), (5, .int (nI 3))]) xh bh dX2_search_63 hl (k := 6) rfl (by exact xn_inc _ _) (by decide) rfl (fun ls hl => ?_)
          refine lv_goto (tgt := 21) xh bh dX2_search_66 (by decide) ?_
          exact ih_21 (x + 1) b_60 m_60 y_60 (by omega) (by exact hu_60.2) (by exact hu_60.1.trans ((congrArg (sch 2 (t ++ [x])) hs9).trans (schX_s (fun x s => sch 2 (t ++ [x]) s) x ((y0, b0, m0) : FS)).symm)) (by omega) _ _ ls hP hD hS (lv_sub hl [2, 3, 4, 5, 6, 0] rfl)
    exact cut_21 (10 - 0 + 1) 0 b0 m0 y0 (by exact Nat.zero_le _) (by exact hb) (by rfl) (Nat.lt_succ_self _) _ _ ls hP hD hS (lv_sub hl [1, 2, 3, 4, 5, 0] rfl)
  · exact absurd c_2 (by decide)

set_option maxHeartbeats 1000000 in
set_option maxRecDepth 100000 in
theorem ct_X2_search4 (l : Launch) (D : va_G) (cI cJ cB cZ cA : ClassId) (fu : Nat) (fa0 : Nat) (fz0 : Nat) (b0 : List Nat) (m0 : Int32) (y0 : Bool) (t : List Nat) (a : Int32) (f : Int32) (ht : okT t) (hl : t.length + 4 ≤ 4) (ha : a = ahI t t.length) (hf : f = fnI t t.length) (hb : okT b0) : Ct l yX2_search wsX2_search ({ frames := 5, cells := 0, slots := 0, locals := 131 }) D (tysG cI cJ cB cZ cA) [.ref fu, .long (eC t), .int a, .int f, .int (nI 4)] [(fu, .inr (1, [.ref fa0, .ref fz0, .long (eC b0), .int m0, .int (ib y0)]))] (fun (u : FS) => u = sch 4 t ((y0, b0, m0) : FS) ∧ okT u.2.1) (fun u => none) (fun u => [(fu, .inr (1, [.ref fa0, .ref fz0, .long (eC u.2.1), .int u.2.2, .int (ib u.1)]))]) := by
  refine Ct.ofV (cc := cX2_search) (maxL := 8) (by decide) rfl (Nat.le_of_ble_eq_true rfl) ?_
  intro pG eG sG mG aG bG tG cG AG QG ls xh bh hml hown hts hK hP hD hS hA hend hl
  have hl : lv_has ls 8 [(0, .ref fu), (1, .long (eC t)), (3, .int a), (4, .int f), (5, .int (nI 4))] := hl
  refine lv_iload xh bh dX2_search_0 (lv_at hl 4 rfl) ?_
  refine xn_if_gt (tgt := 18) xh bh dX2_search_2 (by decide) (by decide) (fun c_2 => ?_) (fun c_2 => ?_)
  · refine lv_iconst (v := (nI 0)) xh bh dX2_search_18 (by decide) ?_
    refine lv_istore (lv' := [(6, .int (nI 0)), (0, .ref fu), (1, .long (eC t)), (3, .int a), (4, .int f), (5, .int (nI 4))]) xh bh dX2_search_19 hl (by decide) rfl (fun ls hl => ?_)
    have cut_21 : ∀ (n_21 : Nat), ∀ (x : Nat), ∀ (b1 : List Nat), ∀ (m1 : Int32), ∀ (y1 : Bool), (x ≤ 10) → (okT b1) → (((y1, b1, m1) : FS) = schX (fun x s => sch 3 (t ++ [x]) s) x ((y0, b0, m0) : FS)) → (10 - x) < n_21 → ∀ (H : Heap) (locs : List Loc) (ls : Array Slot), va_P D vwCl [(fu, .inr (1, [.ref fa0, .ref fz0, .long (eC b1), .int m1, .int (ib y1)]))] H → va_D AG [(fu, .inr (1, [.ref fa0, .ref fz0, .long (eC b1), .int m1, .int (ib y1)]))] → va_S AG sG.heap H locs → lv_has ls 8 [(0, .ref fu), (1, .long (eC t)), (3, .int a), (4, .int f), (5, .int (nI 4)), (6, .int (nI x))] → W pG l eG ({ frames := 5, cells := 0, slots := 0, locals := 131 }) sG mG aG bG tG cG H locs 0 0 QG (F0 mG 21 ls []) := by
      intro n_21
      induction n_21 with
      | zero =>
        intro x b1 m1 y1 hx9 hb1 hs9 hmu
        exact absurd hmu (Nat.not_lt_zero _)
      | succ n_21 ih_21 =>
        intro x b1 m1 y1 hx9 hb1 hs9 hmu H locs ls hP hD hS hl
        refine lv_iload xh bh dX2_search_21 (lv_at hl 5 rfl) ?_
        refine lv_bipush (v := (nI 10)) xh bh dX2_search_23 (by decide) ?_
        refine xn_icmp_ge (tgt := 69) xh bh dX2_search_25 (by decide) (by omega) (by omega) (fun c_25 => ?_) (fun c_25 => ?_)
        · exact hend (y1, b1, m1) _ _ _ _ rfl (by exact And.intro (by rw [hs9, show x = 10 by omega]; exact (sch_s 3 t _).symm) hb1) dX2_search_69 (by exact hP) (by exact hD) hS
        · refine lv_iload_n xh bh dX2_search_28 rfl (lv_at hl 2 rfl) ?_
          refine lv_iload xh bh dX2_search_29 (lv_at hl 5 rfl) ?_
          refine lv_lload_n xh bh dX2_search_31 rfl (lv_at hl 1 rfl) ?_
          refine lv_iload xh bh dX2_search_32 (lv_at hl 5 rfl) ?_
          refine Ct.callS0 (rest := [.int (nI x), .int a]) xh bh hml hown hts hK hP hS hA (ct_X7_timesIn l D cI cJ cB cZ cA t x (by first | assumption | exact okT_nil) (by first | omega | assumption)) (va_cwS 2 hts gX2_search_X7_timesIn rfl rfl rfl (by decide +kernel) ⟨Nat.le_of_ble_eq_true rfl, Nat.le_of_ble_eq_true rfl⟩) rfl rfl hl.1 (Nat.le_of_ble_eq_true rfl) dX2_search_34 ⟨Nat.le_refl _, Nat.le_refl _⟩ (fun _ H locs _ hP hS => ?_)
          refine W.eq (g2 := F0 mG 37 ls [.int (nI (cntN t x t.length)), .int (nI x), .int a]) rfl ?_
          refine Ct.callS0 (rest := []) xh bh hml hown hts hK hP hS hA (ct_X4_funOfNext l D cI cJ cB cZ cA a x (cntN t x t.length) (by omega) (by have := cntN_le t x t.length; omega)) (va_cwS 3 hts gX2_search_X4_funOfNext rfl rfl rfl (by decide +kernel) ⟨Nat.le_of_ble_eq_true rfl, Nat.le_of_ble_eq_true rfl⟩) rfl rfl hl.1 (Nat.le_of_ble_eq_true rfl) dX2_search_37 ⟨Nat.le_refl _, Nat.le_refl _⟩ (fun _ H locs _ hP hS => ?_)
          refine W.eq (g2 := F0 mG 40 ls [.int (fxI a x (cntN t x t.length))]) rfl ?_
          refine lv_istore (lv' := [(7, .int (fxI a x (cntN t x t.length))), (0, .ref fu), (1, .long (eC t)), (3, .int a), (4, .int f), (5, .int (nI 4)), (6, .int (nI x))]) xh bh dX2_search_40 hl (by decide) rfl (fun ls hl => ?_)
          refine lv_aload_n xh bh dX2_search_42 rfl (lv_at hl 1 rfl) ?_
          refine lv_lload_n xh bh dX2_search_43 rfl (lv_at hl 2 rfl) ?_
          refine lv_iload xh bh dX2_search_44 (lv_at hl 6 rfl) ?_
          refine Ct.callS0 (rest := [.ref fu]) xh bh hml hown hts hK hP hS hA (ct_X7_added l D cI cJ cB cZ cA t x (by first | assumption | exact okT_nil) (by first | omega | assumption)) (va_cwS 2 hts gX2_search_X7_added rfl rfl rfl (by decide +kernel) ⟨Nat.le_of_ble_eq_true rfl, Nat.le_of_ble_eq_true rfl⟩) rfl rfl hl.1 (Nat.le_of_ble_eq_true rfl) dX2_search_46 ⟨Nat.le_refl _, Nat.le_refl _⟩ (fun _ H locs _ hP hS => ?_)
          refine W.eq (g2 := F0 mG 49 ls [.long (eC (addT t x)), .ref fu]) rfl ?_
          refine xw_topl (x := (eC (addT t x))) (y := (eC (t ++ [x]))) (by rw [addT_lt (by omega)]) ?_
          refine lv_iload xh bh dX2_search_49 (lv_at hl 6 rfl) ?_
          refine lv_iload xh bh dX2_search_51 (lv_at hl 4 rfl) ?_
          refine lv_iload xh bh dX2_search_53 (lv_at hl 0 rfl) ?_
          refine lv_iadd xh bh dX2_search_55 ?_
          refine lv_iload xh bh dX2_search_56 (lv_at hl 5 rfl) ?_
          refine lv_iconst (v := (nI 1)) xh bh dX2_search_58 (by decide) ?_
          refine xn_isub xh bh dX2_search_59 (by decide) ?_
          refine xw_topi (x := (nI (4 - 1))) (y := (nI 3)) (by rfl) ?_
          refine Ct.callV (As := [.long (eC (t ++ [x])), .int (nI x), .int (f + (fxI a x (cntN t x t.length))), .int (nI 3)]) (rest := []) (wr := []) xh bh hml hown hts hK hP hD hS hA (ct_X2_search3 l D cI cJ cB cZ cA fu fa0 fz0 b1 m1 y1 (t ++ [x]) (nI x) (f + (fxI a x (cntN t x t.length))) (by exact ht.app (by omega) (by omega)) (by rw [List.length_append]; show t.length + 1 + 3 ≤ 4; omega) (by exact ahI_last _ _) (by exact fnI_last ha hf) (by exact hb1)) (cwV 4 hts gX2_search_X2_search rfl rfl rfl (by decide +kernel) ⟨Nat.le_of_ble_eq_true rfl, Nat.le_of_ble_eq_true rfl⟩) rfl rfl hl.1 (Nat.le_of_ble_eq_true rfl) dX2_search_60 ⟨Nat.le_refl _, Nat.le_refl _⟩ 0 1 rfl rfl rfl [0] [] rfl (by decide) rfl rfl (by decide) (by decide) (fun u_60 H locs hu_60 hP hD hS => ?_)
          have hP : va_P D vwCl [(fu, .inr (1, [.ref fa0, .ref fz0, .long (eC u_60.2.1), .int u_60.2.2, .int (ib u_60.1)]))] H := hP
          have hD : va_D AG [(fu, .inr (1, [.ref fa0, .ref fz0, .long (eC u_60.2.1), .int u_60.2.2, .int (ib u_60.1)]))] := hD
          refine W.eq (g2 := F0 mG 63 ls []) rfl ?_
          obtain ⟨y_60, b_60, m_60⟩ := u_60
          have hP : va_P D vwCl [(fu, .inr (1, [.ref fa0, .ref fz0, .long (eC b_60), .int m_60, .int (ib y_60)]))] H := hP
          have hD : va_D AG [(fu, .inr (1, [.ref fa0, .ref fz0, .long (eC b_60), .int m_60, .int (ib y_60)]))] := hD
          refine lv_iinc (v := (nI (x + 1))) (lv' := [(6, .int (nI (x + 1))), (7, .int (fxI a x (cntN t x t.length))), (0, .ref fu), (1, .long (eC t)), (3, .int a), (4, .int f), (5, .int (nI 4))]) xh bh dX2_search_63 hl (k := 6) rfl (by exact xn_inc _ _) (by decide) rfl (fun ls hl => ?_)
          refine lv_goto (tgt := 21) xh bh dX2_search_66 (by decide) ?_
          exact ih_21 (x + 1) b_60 m_60 y_60 (by omega) (by exact hu_60.2) (by exact hu_60.1.trans ((congrArg (sch 3 (t ++ [x])) hs9).trans (schX_s (fun x s => sch 3 (t ++ [x]) s) x ((y0, b0, m0) : FS)).symm)) (by omega) _ _ ls hP hD hS (lv_sub hl [2, 3, 4, 5, 6, 0] rfl)
    exact cut_21 (10 - 0 + 1) 0 b0 m0 y0 (by exact Nat.zero_le _) (by exact hb) (by rfl) (Nat.lt_succ_self _) _ _ ls hP hD hS (lv_sub hl [1, 2, 3, 4, 5, 0] rfl)
  · exact absurd c_2 (by decide)

set_option maxHeartbeats 1000000 in
set_option maxRecDepth 100000 in
theorem ct_X2_rowOf (l : Launch) (D : va_G) (cI cJ cB cZ cA : ClassId) (fu : Nat) (fa0 : Nat) (fz0 : Nat) (b0 : List Nat) (m0 : Int32) (y0 : Bool) (fr : Nat → List Nat) (fz : Nat → Nat) (k : Nat) (hb : okT b0) (hfr : ∀ k, okT (fr k)) (hfz : ∀ k, fz k < 2) (hff : ∀ k, fz k = 1 → fr k = bsR k) (hk : k ≤ 4) : Ct l yX2_rowOf wsX2_rowOf ({ frames := 6, cells := 0, slots := 0, locals := 158 }) D (tysG cI cJ cB cZ cA) [.ref fu, .int (nI k)] [(fu, .inr (1, [.ref fa0, .ref fz0, .long (eC b0), .int m0, .int (ib y0)])), (fa0, .inl (cJ, 5, .inr (.inl (fC fr)))), (fz0, .inl (cZ, 5, .inl (fN fz)))] (fun (u : FS × (Nat → List Nat) × (Nat → Nat)) => okT u.1.2.1 ∧ (∀ k, okT (u.2.1 k)) ∧ (∀ k, u.2.2 k < 2) ∧ (∀ k, u.2.2 k = 1 → u.2.1 k = bsR k)) (fun u => some (.long (eC (bsR k)))) (fun u => [(fu, .inr (1, [.ref fa0, .ref fz0, .long (eC u.1.2.1), .int u.1.2.2, .int (ib u.1.1)])), (fa0, .inl (cJ, 5, .inr (.inl (fC u.2.1)))), (fz0, .inl (cZ, 5, .inl (fN u.2.2)))]) := by
  refine Ct.ofL (cc := cX2_rowOf) (maxL := 2) (by decide) rfl (Nat.le_of_ble_eq_true rfl) ?_
  intro pG eG sG mG aG bG tG cG AG QG ls xh bh hml hown hts hK hP hD hS hA hend hl
  have hl : lv_has ls 2 [(0, .ref fu), (1, .int (nI k))] := hl
  refine lv_iload_n xh bh dX2_rowOf_0 rfl (lv_at hl 1 rfl) ?_
  refine lv_iconst (v := (nI 4)) xh bh dX2_rowOf_1 (by decide) ?_
  refine Ct.callN0 (rest := []) xh bh hml hown hts hK hP hS hA (ct_X8_isUpTo l D cI cJ cB cZ cA (nI k) 4 (by first | omega | assumption)) ⟨va_cnB 2 hts gX2_rowOf_X8_isUpTo_n19 rfl rfl rfl (hK.2.at 0 rfl) (hts _ (List.mem_of_getElem? (i := 6) rfl)) (by decide +kernel) ⟨Nat.le_of_ble_eq_true rfl, Nat.le_of_ble_eq_true rfl⟩, hts _ (List.mem_of_getElem? (i := 5) rfl), trivial⟩ rfl rfl hl.1 (Nat.le_of_ble_eq_true rfl) dX2_rowOf_2 ⟨Nat.le_refl _, Nat.le_refl _⟩ (fun _ H locs _ hP hS => ?_)
  refine W.eq (g2 := F0 mG 5 ls [.int (ib (upB (nI k) 4))]) rfl ?_
  refine xb_if_ne (tgt := 10) xh bh dX2_rowOf_5 (by decide) (fun c_5 => ?_) (fun c_5 => ?_)
  · refine lv_aload_n xh bh dX2_rowOf_10 rfl (lv_at hl 0 rfl) ?_
    refine va_get (D := D) (ci := 1) (v := .ref fz0) (C := RX2) (T := TX2) (N := 5) xh bh hts (fun _ h => List.mem_cons_of_mem _ (List.mem_append_right _ (h))) hown hK.1 hP 0 rfl rfl 1 (by decide) (hts _ (List.mem_of_getElem? (i := 1) rfl)) (fun _ h9 => h9) rfl dX2_rowOf_11 ?_
    refine lv_iload_n xh bh dX2_rowOf_14 rfl (lv_at hl 1 rfl) ?_
    refine xa_zald xh bh hK.1 hP 2 3 rfl rfl (by omega) (by omega) dX2_rowOf_15 ?_
    refine W.eq (g2 := F0 mG 16 ls [.int (nI (fz k))]) rfl ?_
    refine xn_if_ne (tgt := 49) xh bh dX2_rowOf_16 (by decide) (by have := hfz k; omega) (fun c_16 => ?_) (fun c_16 => ?_)
    · refine lv_aload_n xh bh dX2_rowOf_49 rfl (lv_at hl 0 rfl) ?_
      refine va_get (D := D) (ci := 1) (v := .ref fa0) (C := RX2) (T := TX2) (N := 5) xh bh hts (fun _ h => List.mem_cons_of_mem _ (List.mem_append_right _ (h))) hown hK.1 hP 0 rfl rfl 0 (by decide) (hts _ (List.mem_of_getElem? (i := 3) rfl)) (fun _ h9 => h9) rfl dX2_rowOf_50 ?_
      refine lv_iload_n xh bh dX2_rowOf_53 rfl (lv_at hl 1 rfl) ?_
      refine xa_lald xh bh hK.1 hP 1 1 rfl rfl (by omega) (by omega) dX2_rowOf_54 ?_
      refine W.eq (g2 := F0 mG 55 ls [.long (eC (fr k))]) rfl ?_
      exact hend (eC (fr k)) ((y0, b0, m0), fr, fz) _ _ _ _ (congrArg (fun z => some (Value.long (eC z))) (by first | exact (hff k (by have := hfz k; omega)).symm | exact hz9.symm.trans (va_up_self fr _ b_29).symm)) (by first | exact And.intro hb (And.intro hfr (And.intro hfz hff)) | exact And.intro hu_29.2 (And.intro (okT_up hfr hu_29.2 _) (And.intro (fz_up hfz) (ff_up hff hz9)))) dX2_rowOf_55 (by exact hP) (by exact hD) hS
    · refine lv_aload_n xh bh dX2_rowOf_19 rfl (lv_at hl 0 rfl) ?_
      refine lv_iconst (v := (nI 0)) xh bh dX2_rowOf_20 (by decide) ?_
      refine va_put (D := D) (ci := 1) (v := .int (nI 0)) (ty := .boolean) (C := RX2) (T := TX2) (N := 5) xh bh hts (fun _ h => List.mem_cons_of_mem _ (List.mem_append_right _ (h))) tyX2 tyX2_ok nmX2 hown hK.1 hP hD hS 0 rfl rfl 4 (by decide) (hts _ (List.mem_of_getElem? (i := 2) rfl)) (fun _ h9 => h9) rfl (by decide +kernel) (by exact vz_bool (by decide)) (by rfl) (Nat.le_of_ble_eq_true rfl) dX2_rowOf_21 (fun H locs hP hD hS => ?_)
      have hP : va_P D vwCl [(fu, .inr (1, [.ref fa0, .ref fz0, .long (eC b0), .int m0, .int (nI 0)])), (fa0, .inl (cJ, 5, .inr (.inl (fC fr)))), (fz0, .inl (cZ, 5, .inl (fN fz)))] H := hP
      have hD : va_D AG [(fu, .inr (1, [.ref fa0, .ref fz0, .long (eC b0), .int m0, .int (nI 0)])), (fa0, .inl (cJ, 5, .inr (.inl (fC fr)))), (fz0, .inl (cZ, 5, .inl (fN fz)))] := hD
      have hP : va_P D vwCl [(fu, .inr (1, [.ref fa0, .ref fz0, .long (eC b0), .int m0, .int (ib false)])), (fa0, .inl (cJ, 5, .inr (.inl (fC fr)))), (fz0, .inl (cZ, 5, .inl (fN fz)))] H := hP
      have hD : va_D AG [(fu, .inr (1, [.ref fa0, .ref fz0, .long (eC b0), .int m0, .int (ib false)])), (fa0, .inl (cJ, 5, .inr (.inl (fC fr)))), (fz0, .inl (cZ, 5, .inl (fN fz)))] := hD
      refine lv_aload_n xh bh dX2_rowOf_24 rfl (lv_at hl 0 rfl) ?_
      refine lv_lconst (v := lN 0) xh bh dX2_rowOf_25 (by decide) ?_
      refine lv_iconst (v := (-1)) xh bh dX2_rowOf_26 (by decide) ?_
      refine lv_iconst (v := (nI 0)) xh bh dX2_rowOf_27 (by decide) ?_
      refine lv_iload_n xh bh dX2_rowOf_28 rfl (lv_at hl 1 rfl) ?_
      rcases (show k = 0 ∨ k = 1 ∨ k = 2 ∨ k = 3 ∨ k = 4 by omega) with rfl | rfl | rfl | rfl | rfl
      · refine Ct.callV (As := [.long (lN 0), .int (-1), .int (nI 0), .int (nI 0)]) (rest := []) (wr := [(fa0, .inl (cJ, 5, .inr (.inl (fC fr)))), (fz0, .inl (cZ, 5, .inl (fN fz)))]) xh bh hml hown hts hK hP hD hS hA (ct_X2_search0 l D cI cJ cB cZ cA fu fa0 fz0 b0 m0 false ([]) (-1) (nI 0) (by exact okT_nil) (by decide) (by rfl) (by rfl) (by exact hb)) (cwV 4 hts gX2_rowOf_X2_search rfl rfl rfl (by decide +kernel) ⟨Nat.le_of_ble_eq_true rfl, Nat.le_of_ble_eq_true rfl⟩) rfl rfl hl.1 (Nat.le_of_ble_eq_true rfl) dX2_rowOf_29 ⟨Nat.le_refl _, Nat.le_refl _⟩ 0 1 rfl rfl rfl [0] [1, 2] rfl (by decide) rfl rfl (by decide) (by decide) (fun u_29 H locs hu_29 hP hD hS => ?_)
        have hP : va_P D vwCl [(fa0, .inl (cJ, 5, .inr (.inl (fC fr)))), (fz0, .inl (cZ, 5, .inl (fN fz))), (fu, .inr (1, [.ref fa0, .ref fz0, .long (eC u_29.2.1), .int u_29.2.2, .int (ib u_29.1)]))] H := hP
        have hD : va_D AG [(fa0, .inl (cJ, 5, .inr (.inl (fC fr)))), (fz0, .inl (cZ, 5, .inl (fN fz))), (fu, .inr (1, [.ref fa0, .ref fz0, .long (eC u_29.2.1), .int u_29.2.2, .int (ib u_29.1)]))] := hD
        refine W.eq (g2 := F0 mG 32 ls []) rfl ?_
        obtain ⟨y_29, b_29, m_29⟩ := u_29
        have hP : va_P D vwCl [(fa0, .inl (cJ, 5, .inr (.inl (fC fr)))), (fz0, .inl (cZ, 5, .inl (fN fz))), (fu, .inr (1, [.ref fa0, .ref fz0, .long (eC b_29), .int m_29, .int (ib y_29)]))] H := hP
        have hD : va_D AG [(fa0, .inl (cJ, 5, .inr (.inl (fC fr)))), (fz0, .inl (cZ, 5, .inl (fN fz))), (fu, .inr (1, [.ref fa0, .ref fz0, .long (eC b_29), .int m_29, .int (ib y_29)]))] := hD
        have hz9 := bsR_of hu_29.1
        refine lv_aload_n xh bh dX2_rowOf_32 rfl (lv_at hl 0 rfl) ?_
        refine va_get (D := D) (ci := 1) (v := .ref fa0) (C := RX2) (T := TX2) (N := 5) xh bh hts (fun _ h => List.mem_cons_of_mem _ (List.mem_append_right _ (h))) hown hK.1 hP 2 rfl rfl 0 (by decide) (hts _ (List.mem_of_getElem? (i := 3) rfl)) (fun _ h9 => h9) rfl dX2_rowOf_33 ?_
        refine lv_iload_n xh bh dX2_rowOf_36 rfl (lv_at hl 1 rfl) ?_
        refine lv_aload_n xh bh dX2_rowOf_37 rfl (lv_at hl 0 rfl) ?_
        refine va_get (D := D) (ci := 1) (v := .long (eC b_29)) (C := RX2) (T := TX2) (N := 5) xh bh hts (fun _ h => List.mem_cons_of_mem _ (List.mem_append_right _ (h))) hown hK.1 hP 2 rfl rfl 2 (by decide) (hts _ (List.mem_of_getElem? (i := 4) rfl)) (fun _ h9 => h9) rfl dX2_rowOf_38 ?_
        refine xc_last xh bh hK.1 hP hD hS 0 1 rfl rfl (by omega) (by omega) dX2_rowOf_41 (fun H locs hP hD hS => ?_)
        have hP : va_P D vwCl [(fa0, .inl (cJ, 5, .inr (.inl (fC (va_up fr 0 b_29))))), (fz0, .inl (cZ, 5, .inl (fN fz))), (fu, .inr (1, [.ref fa0, .ref fz0, .long (eC b_29), .int m_29, .int (ib y_29)]))] H := hP
        have hD : va_D AG [(fa0, .inl (cJ, 5, .inr (.inl (fC (va_up fr 0 b_29))))), (fz0, .inl (cZ, 5, .inl (fN fz))), (fu, .inr (1, [.ref fa0, .ref fz0, .long (eC b_29), .int m_29, .int (ib y_29)]))] := hD
        refine lv_aload_n xh bh dX2_rowOf_42 rfl (lv_at hl 0 rfl) ?_
        refine va_get (D := D) (ci := 1) (v := .ref fz0) (C := RX2) (T := TX2) (N := 5) xh bh hts (fun _ h => List.mem_cons_of_mem _ (List.mem_append_right _ (h))) hown hK.1 hP 2 rfl rfl 1 (by decide) (hts _ (List.mem_of_getElem? (i := 1) rfl)) (fun _ h9 => h9) rfl dX2_rowOf_43 ?_
        refine lv_iload_n xh bh dX2_rowOf_46 rfl (lv_at hl 1 rfl) ?_
        refine lv_iconst (v := (nI 1)) xh bh dX2_rowOf_47 (by decide) ?_
        refine xN_zast xh bh hK.1 hP hD hS 1 3 rfl rfl (by omega) (by omega) (by decide) dX2_rowOf_48 (fun H locs hP hD hS => ?_)
        have hP : va_P D vwCl [(fa0, .inl (cJ, 5, .inr (.inl (fC (va_up fr 0 b_29))))), (fz0, .inl (cZ, 5, .inl (fN (va_up fz 0 1)))), (fu, .inr (1, [.ref fa0, .ref fz0, .long (eC b_29), .int m_29, .int (ib y_29)]))] H := hP
        have hD : va_D AG [(fa0, .inl (cJ, 5, .inr (.inl (fC (va_up fr 0 b_29))))), (fz0, .inl (cZ, 5, .inl (fN (va_up fz 0 1)))), (fu, .inr (1, [.ref fa0, .ref fz0, .long (eC b_29), .int m_29, .int (ib y_29)]))] := hD
        refine lv_aload_n xh bh dX2_rowOf_49 rfl (lv_at hl 0 rfl) ?_
        refine va_get (D := D) (ci := 1) (v := .ref fa0) (C := RX2) (T := TX2) (N := 5) xh bh hts (fun _ h => List.mem_cons_of_mem _ (List.mem_append_right _ (h))) hown hK.1 hP 2 rfl rfl 0 (by decide) (hts _ (List.mem_of_getElem? (i := 3) rfl)) (fun _ h9 => h9) rfl dX2_rowOf_50 ?_
        refine lv_iload_n xh bh dX2_rowOf_53 rfl (lv_at hl 1 rfl) ?_
        refine xa_lald xh bh hK.1 hP 0 1 rfl rfl (by omega) (by omega) dX2_rowOf_54 ?_
        refine W.eq (g2 := F0 mG 55 ls [.long (eC ((va_up fr 0 b_29) 0))]) rfl ?_
        exact hend (eC ((va_up fr 0 b_29) 0)) ((y_29, b_29, m_29), (va_up fr 0 b_29), (va_up fz 0 1)) _ _ _ _ (congrArg (fun z => some (Value.long (eC z))) (by first | exact (hff k (by have := hfz k; omega)).symm | exact hz9.symm.trans (va_up_self fr _ b_29).symm)) (by first | exact And.intro hb (And.intro hfr (And.intro hfz hff)) | exact And.intro hu_29.2 (And.intro (okT_up hfr hu_29.2 _) (And.intro (fz_up hfz) (ff_up hff hz9)))) dX2_rowOf_55 (by exact (hP.sub [2, 0, 1] rfl)) (by exact (hD.sub [2, 0, 1] (by decide) rfl)) hS
      · refine Ct.callV (As := [.long (lN 0), .int (-1), .int (nI 0), .int (nI 1)]) (rest := []) (wr := [(fa0, .inl (cJ, 5, .inr (.inl (fC fr)))), (fz0, .inl (cZ, 5, .inl (fN fz)))]) xh bh hml hown hts hK hP hD hS hA (ct_X2_search1 l D cI cJ cB cZ cA fu fa0 fz0 b0 m0 false ([]) (-1) (nI 0) (by exact okT_nil) (by decide) (by rfl) (by rfl) (by exact hb)) (cwV 4 hts gX2_rowOf_X2_search rfl rfl rfl (by decide +kernel) ⟨Nat.le_of_ble_eq_true rfl, Nat.le_of_ble_eq_true rfl⟩) rfl rfl hl.1 (Nat.le_of_ble_eq_true rfl) dX2_rowOf_29 ⟨Nat.le_refl _, Nat.le_refl _⟩ 0 1 rfl rfl rfl [0] [1, 2] rfl (by decide) rfl rfl (by decide) (by decide) (fun u_29 H locs hu_29 hP hD hS => ?_)
        have hP : va_P D vwCl [(fa0, .inl (cJ, 5, .inr (.inl (fC fr)))), (fz0, .inl (cZ, 5, .inl (fN fz))), (fu, .inr (1, [.ref fa0, .ref fz0, .long (eC u_29.2.1), .int u_29.2.2, .int (ib u_29.1)]))] H := hP
        have hD : va_D AG [(fa0, .inl (cJ, 5, .inr (.inl (fC fr)))), (fz0, .inl (cZ, 5, .inl (fN fz))), (fu, .inr (1, [.ref fa0, .ref fz0, .long (eC u_29.2.1), .int u_29.2.2, .int (ib u_29.1)]))] := hD
        refine W.eq (g2 := F0 mG 32 ls []) rfl ?_
        obtain ⟨y_29, b_29, m_29⟩ := u_29
        have hP : va_P D vwCl [(fa0, .inl (cJ, 5, .inr (.inl (fC fr)))), (fz0, .inl (cZ, 5, .inl (fN fz))), (fu, .inr (1, [.ref fa0, .ref fz0, .long (eC b_29), .int m_29, .int (ib y_29)]))] H := hP
        have hD : va_D AG [(fa0, .inl (cJ, 5, .inr (.inl (fC fr)))), (fz0, .inl (cZ, 5, .inl (fN fz))), (fu, .inr (1, [.ref fa0, .ref fz0, .long (eC b_29), .int m_29, .int (ib y_29)]))] := hD
        have hz9 := bsR_of hu_29.1
        refine lv_aload_n xh bh dX2_rowOf_32 rfl (lv_at hl 0 rfl) ?_
        refine va_get (D := D) (ci := 1) (v := .ref fa0) (C := RX2) (T := TX2) (N := 5) xh bh hts (fun _ h => List.mem_cons_of_mem _ (List.mem_append_right _ (h))) hown hK.1 hP 2 rfl rfl 0 (by decide) (hts _ (List.mem_of_getElem? (i := 3) rfl)) (fun _ h9 => h9) rfl dX2_rowOf_33 ?_
        refine lv_iload_n xh bh dX2_rowOf_36 rfl (lv_at hl 1 rfl) ?_
        refine lv_aload_n xh bh dX2_rowOf_37 rfl (lv_at hl 0 rfl) ?_
        refine va_get (D := D) (ci := 1) (v := .long (eC b_29)) (C := RX2) (T := TX2) (N := 5) xh bh hts (fun _ h => List.mem_cons_of_mem _ (List.mem_append_right _ (h))) hown hK.1 hP 2 rfl rfl 2 (by decide) (hts _ (List.mem_of_getElem? (i := 4) rfl)) (fun _ h9 => h9) rfl dX2_rowOf_38 ?_
        refine xc_last xh bh hK.1 hP hD hS 0 1 rfl rfl (by omega) (by omega) dX2_rowOf_41 (fun H locs hP hD hS => ?_)
        have hP : va_P D vwCl [(fa0, .inl (cJ, 5, .inr (.inl (fC (va_up fr 1 b_29))))), (fz0, .inl (cZ, 5, .inl (fN fz))), (fu, .inr (1, [.ref fa0, .ref fz0, .long (eC b_29), .int m_29, .int (ib y_29)]))] H := hP
        have hD : va_D AG [(fa0, .inl (cJ, 5, .inr (.inl (fC (va_up fr 1 b_29))))), (fz0, .inl (cZ, 5, .inl (fN fz))), (fu, .inr (1, [.ref fa0, .ref fz0, .long (eC b_29), .int m_29, .int (ib y_29)]))] := hD
        refine lv_aload_n xh bh dX2_rowOf_42 rfl (lv_at hl 0 rfl) ?_
        refine va_get (D := D) (ci := 1) (v := .ref fz0) (C := RX2) (T := TX2) (N := 5) xh bh hts (fun _ h => List.mem_cons_of_mem _ (List.mem_append_right _ (h))) hown hK.1 hP 2 rfl rfl 1 (by decide) (hts _ (List.mem_of_getElem? (i := 1) rfl)) (fun _ h9 => h9) rfl dX2_rowOf_43 ?_
        refine lv_iload_n xh bh dX2_rowOf_46 rfl (lv_at hl 1 rfl) ?_
        refine lv_iconst (v := (nI 1)) xh bh dX2_rowOf_47 (by decide) ?_
        refine xN_zast xh bh hK.1 hP hD hS 1 3 rfl rfl (by omega) (by omega) (by decide) dX2_rowOf_48 (fun H locs hP hD hS => ?_)
        have hP : va_P D vwCl [(fa0, .inl (cJ, 5, .inr (.inl (fC (va_up fr 1 b_29))))), (fz0, .inl (cZ, 5, .inl (fN (va_up fz 1 1)))), (fu, .inr (1, [.ref fa0, .ref fz0, .long (eC b_29), .int m_29, .int (ib y_29)]))] H := hP
        have hD : va_D AG [(fa0, .inl (cJ, 5, .inr (.inl (fC (va_up fr 1 b_29))))), (fz0, .inl (cZ, 5, .inl (fN (va_up fz 1 1)))), (fu, .inr (1, [.ref fa0, .ref fz0, .long (eC b_29), .int m_29, .int (ib y_29)]))] := hD
        refine lv_aload_n xh bh dX2_rowOf_49 rfl (lv_at hl 0 rfl) ?_
        refine va_get (D := D) (ci := 1) (v := .ref fa0) (C := RX2) (T := TX2) (N := 5) xh bh hts (fun _ h => List.mem_cons_of_mem _ (List.mem_append_right _ (h))) hown hK.1 hP 2 rfl rfl 0 (by decide) (hts _ (List.mem_of_getElem? (i := 3) rfl)) (fun _ h9 => h9) rfl dX2_rowOf_50 ?_
        refine lv_iload_n xh bh dX2_rowOf_53 rfl (lv_at hl 1 rfl) ?_
        refine xa_lald xh bh hK.1 hP 0 1 rfl rfl (by omega) (by omega) dX2_rowOf_54 ?_
        refine W.eq (g2 := F0 mG 55 ls [.long (eC ((va_up fr 1 b_29) 1))]) rfl ?_
        exact hend (eC ((va_up fr 1 b_29) 1)) ((y_29, b_29, m_29), (va_up fr 1 b_29), (va_up fz 1 1)) _ _ _ _ (congrArg (fun z => some (Value.long (eC z))) (by first | exact (hff k (by have := hfz k; omega)).symm | exact hz9.symm.trans (va_up_self fr _ b_29).symm)) (by first | exact And.intro hb (And.intro hfr (And.intro hfz hff)) | exact And.intro hu_29.2 (And.intro (okT_up hfr hu_29.2 _) (And.intro (fz_up hfz) (ff_up hff hz9)))) dX2_rowOf_55 (by exact (hP.sub [2, 0, 1] rfl)) (by exact (hD.sub [2, 0, 1] (by decide) rfl)) hS
      · refine Ct.callV (As := [.long (lN 0), .int (-1), .int (nI 0), .int (nI 2)]) (rest := []) (wr := [(fa0, .inl (cJ, 5, .inr (.inl (fC fr)))), (fz0, .inl (cZ, 5, .inl (fN fz)))]) xh bh hml hown hts hK hP hD hS hA (ct_X2_search2 l D cI cJ cB cZ cA fu fa0 fz0 b0 m0 false ([]) (-1) (nI 0) (by exact okT_nil) (by decide) (by rfl) (by rfl) (by exact hb)) (cwV 4 hts gX2_rowOf_X2_search rfl rfl rfl (by decide +kernel) ⟨Nat.le_of_ble_eq_true rfl, Nat.le_of_ble_eq_true rfl⟩) rfl rfl hl.1 (Nat.le_of_ble_eq_true rfl) dX2_rowOf_29 ⟨Nat.le_refl _, Nat.le_refl _⟩ 0 1 rfl rfl rfl [0] [1, 2] rfl (by decide) rfl rfl (by decide) (by decide) (fun u_29 H locs hu_29 hP hD hS => ?_)
        have hP : va_P D vwCl [(fa0, .inl (cJ, 5, .inr (.inl (fC fr)))), (fz0, .inl (cZ, 5, .inl (fN fz))), (fu, .inr (1, [.ref fa0, .ref fz0, .long (eC u_29.2.1), .int u_29.2.2, .int (ib u_29.1)]))] H := hP
        have hD : va_D AG [(fa0, .inl (cJ, 5, .inr (.inl (fC fr)))), (fz0, .inl (cZ, 5, .inl (fN fz))), (fu, .inr (1, [.ref fa0, .ref fz0, .long (eC u_29.2.1), .int u_29.2.2, .int (ib u_29.1)]))] := hD
        refine W.eq (g2 := F0 mG 32 ls []) rfl ?_
        obtain ⟨y_29, b_29, m_29⟩ := u_29
        have hP : va_P D vwCl [(fa0, .inl (cJ, 5, .inr (.inl (fC fr)))), (fz0, .inl (cZ, 5, .inl (fN fz))), (fu, .inr (1, [.ref fa0, .ref fz0, .long (eC b_29), .int m_29, .int (ib y_29)]))] H := hP
        have hD : va_D AG [(fa0, .inl (cJ, 5, .inr (.inl (fC fr)))), (fz0, .inl (cZ, 5, .inl (fN fz))), (fu, .inr (1, [.ref fa0, .ref fz0, .long (eC b_29), .int m_29, .int (ib y_29)]))] := hD
        have hz9 := bsR_of hu_29.1
        refine lv_aload_n xh bh dX2_rowOf_32 rfl (lv_at hl 0 rfl) ?_
        refine va_get (D := D) (ci := 1) (v := .ref fa0) (C := RX2) (T := TX2) (N := 5) xh bh hts (fun _ h => List.mem_cons_of_mem _ (List.mem_append_right _ (h))) hown hK.1 hP 2 rfl rfl 0 (by decide) (hts _ (List.mem_of_getElem? (i := 3) rfl)) (fun _ h9 => h9) rfl dX2_rowOf_33 ?_
        refine lv_iload_n xh bh dX2_rowOf_36 rfl (lv_at hl 1 rfl) ?_
        refine lv_aload_n xh bh dX2_rowOf_37 rfl (lv_at hl 0 rfl) ?_
        refine va_get (D := D) (ci := 1) (v := .long (eC b_29)) (C := RX2) (T := TX2) (N := 5) xh bh hts (fun _ h => List.mem_cons_of_mem _ (List.mem_append_right _ (h))) hown hK.1 hP 2 rfl rfl 2 (by decide) (hts _ (List.mem_of_getElem? (i := 4) rfl)) (fun _ h9 => h9) rfl dX2_rowOf_38 ?_
        refine xc_last xh bh hK.1 hP hD hS 0 1 rfl rfl (by omega) (by omega) dX2_rowOf_41 (fun H locs hP hD hS => ?_)
        have hP : va_P D vwCl [(fa0, .inl (cJ, 5, .inr (.inl (fC (va_up fr 2 b_29))))), (fz0, .inl (cZ, 5, .inl (fN fz))), (fu, .inr (1, [.ref fa0, .ref fz0, .long (eC b_29), .int m_29, .int (ib y_29)]))] H := hP
        have hD : va_D AG [(fa0, .inl (cJ, 5, .inr (.inl (fC (va_up fr 2 b_29))))), (fz0, .inl (cZ, 5, .inl (fN fz))), (fu, .inr (1, [.ref fa0, .ref fz0, .long (eC b_29), .int m_29, .int (ib y_29)]))] := hD
        refine lv_aload_n xh bh dX2_rowOf_42 rfl (lv_at hl 0 rfl) ?_
        refine va_get (D := D) (ci := 1) (v := .ref fz0) (C := RX2) (T := TX2) (N := 5) xh bh hts (fun _ h => List.mem_cons_of_mem _ (List.mem_append_right _ (h))) hown hK.1 hP 2 rfl rfl 1 (by decide) (hts _ (List.mem_of_getElem? (i := 1) rfl)) (fun _ h9 => h9) rfl dX2_rowOf_43 ?_
        refine lv_iload_n xh bh dX2_rowOf_46 rfl (lv_at hl 1 rfl) ?_
        refine lv_iconst (v := (nI 1)) xh bh dX2_rowOf_47 (by decide) ?_
        refine xN_zast xh bh hK.1 hP hD hS 1 3 rfl rfl (by omega) (by omega) (by decide) dX2_rowOf_48 (fun H locs hP hD hS => ?_)
        have hP : va_P D vwCl [(fa0, .inl (cJ, 5, .inr (.inl (fC (va_up fr 2 b_29))))), (fz0, .inl (cZ, 5, .inl (fN (va_up fz 2 1)))), (fu, .inr (1, [.ref fa0, .ref fz0, .long (eC b_29), .int m_29, .int (ib y_29)]))] H := hP
        have hD : va_D AG [(fa0, .inl (cJ, 5, .inr (.inl (fC (va_up fr 2 b_29))))), (fz0, .inl (cZ, 5, .inl (fN (va_up fz 2 1)))), (fu, .inr (1, [.ref fa0, .ref fz0, .long (eC b_29), .int m_29, .int (ib y_29)]))] := hD
        refine lv_aload_n xh bh dX2_rowOf_49 rfl (lv_at hl 0 rfl) ?_
        refine va_get (D := D) (ci := 1) (v := .ref fa0) (C := RX2) (T := TX2) (N := 5) xh bh hts (fun _ h => List.mem_cons_of_mem _ (List.mem_append_right _ (h))) hown hK.1 hP 2 rfl rfl 0 (by decide) (hts _ (List.mem_of_getElem? (i := 3) rfl)) (fun _ h9 => h9) rfl dX2_rowOf_50 ?_
        refine lv_iload_n xh bh dX2_rowOf_53 rfl (lv_at hl 1 rfl) ?_
        refine xa_lald xh bh hK.1 hP 0 1 rfl rfl (by omega) (by omega) dX2_rowOf_54 ?_
        refine W.eq (g2 := F0 mG 55 ls [.long (eC ((va_up fr 2 b_29) 2))]) rfl ?_
        exact hend (eC ((va_up fr 2 b_29) 2)) ((y_29, b_29, m_29), (va_up fr 2 b_29), (va_up fz 2 1)) _ _ _ _ (congrArg (fun z => some (Value.long (eC z))) (by first | exact (hff k (by have := hfz k; omega)).symm | exact hz9.symm.trans (va_up_self fr _ b_29).symm)) (by first | exact And.intro hb (And.intro hfr (And.intro hfz hff)) | exact And.intro hu_29.2 (And.intro (okT_up hfr hu_29.2 _) (And.intro (fz_up hfz) (ff_up hff hz9)))) dX2_rowOf_55 (by exact (hP.sub [2, 0, 1] rfl)) (by exact (hD.sub [2, 0, 1] (by decide) rfl)) hS
      · refine Ct.callV (As := [.long (lN 0), .int (-1), .int (nI 0), .int (nI 3)]) (rest := []) (wr := [(fa0, .inl (cJ, 5, .inr (.inl (fC fr)))), (fz0, .inl (cZ, 5, .inl (fN fz)))]) xh bh hml hown hts hK hP hD hS hA (ct_X2_search3 l D cI cJ cB cZ cA fu fa0 fz0 b0 m0 false ([]) (-1) (nI 0) (by exact okT_nil) (by decide) (by rfl) (by rfl) (by exact hb)) (cwV 4 hts gX2_rowOf_X2_search rfl rfl rfl (by decide +kernel) ⟨Nat.le_of_ble_eq_true rfl, Nat.le_of_ble_eq_true rfl⟩) rfl rfl hl.1 (Nat.le_of_ble_eq_true rfl) dX2_rowOf_29 ⟨Nat.le_refl _, Nat.le_refl _⟩ 0 1 rfl rfl rfl [0] [1, 2] rfl (by decide) rfl rfl (by decide) (by decide) (fun u_29 H locs hu_29 hP hD hS => ?_)
        have hP : va_P D vwCl [(fa0, .inl (cJ, 5, .inr (.inl (fC fr)))), (fz0, .inl (cZ, 5, .inl (fN fz))), (fu, .inr (1, [.ref fa0, .ref fz0, .long (eC u_29.2.1), .int u_29.2.2, .int (ib u_29.1)]))] H := hP
        have hD : va_D AG [(fa0, .inl (cJ, 5, .inr (.inl (fC fr)))), (fz0, .inl (cZ, 5, .inl (fN fz))), (fu, .inr (1, [.ref fa0, .ref fz0, .long (eC u_29.2.1), .int u_29.2.2, .int (ib u_29.1)]))] := hD
        refine W.eq (g2 := F0 mG 32 ls []) rfl ?_
        obtain ⟨y_29, b_29, m_29⟩ := u_29
        have hP : va_P D vwCl [(fa0, .inl (cJ, 5, .inr (.inl (fC fr)))), (fz0, .inl (cZ, 5, .inl (fN fz))), (fu, .inr (1, [.ref fa0, .ref fz0, .long (eC b_29), .int m_29, .int (ib y_29)]))] H := hP
        have hD : va_D AG [(fa0, .inl (cJ, 5, .inr (.inl (fC fr)))), (fz0, .inl (cZ, 5, .inl (fN fz))), (fu, .inr (1, [.ref fa0, .ref fz0, .long (eC b_29), .int m_29, .int (ib y_29)]))] := hD
        have hz9 := bsR_of hu_29.1
        refine lv_aload_n xh bh dX2_rowOf_32 rfl (lv_at hl 0 rfl) ?_
        refine va_get (D := D) (ci := 1) (v := .ref fa0) (C := RX2) (T := TX2) (N := 5) xh bh hts (fun _ h => List.mem_cons_of_mem _ (List.mem_append_right _ (h))) hown hK.1 hP 2 rfl rfl 0 (by decide) (hts _ (List.mem_of_getElem? (i := 3) rfl)) (fun _ h9 => h9) rfl dX2_rowOf_33 ?_
        refine lv_iload_n xh bh dX2_rowOf_36 rfl (lv_at hl 1 rfl) ?_
        refine lv_aload_n xh bh dX2_rowOf_37 rfl (lv_at hl 0 rfl) ?_
        refine va_get (D := D) (ci := 1) (v := .long (eC b_29)) (C := RX2) (T := TX2) (N := 5) xh bh hts (fun _ h => List.mem_cons_of_mem _ (List.mem_append_right _ (h))) hown hK.1 hP 2 rfl rfl 2 (by decide) (hts _ (List.mem_of_getElem? (i := 4) rfl)) (fun _ h9 => h9) rfl dX2_rowOf_38 ?_
        refine xc_last xh bh hK.1 hP hD hS 0 1 rfl rfl (by omega) (by omega) dX2_rowOf_41 (fun H locs hP hD hS => ?_)
        have hP : va_P D vwCl [(fa0, .inl (cJ, 5, .inr (.inl (fC (va_up fr 3 b_29))))), (fz0, .inl (cZ, 5, .inl (fN fz))), (fu, .inr (1, [.ref fa0, .ref fz0, .long (eC b_29), .int m_29, .int (ib y_29)]))] H := hP
        have hD : va_D AG [(fa0, .inl (cJ, 5, .inr (.inl (fC (va_up fr 3 b_29))))), (fz0, .inl (cZ, 5, .inl (fN fz))), (fu, .inr (1, [.ref fa0, .ref fz0, .long (eC b_29), .int m_29, .int (ib y_29)]))] := hD
        refine lv_aload_n xh bh dX2_rowOf_42 rfl (lv_at hl 0 rfl) ?_
        refine va_get (D := D) (ci := 1) (v := .ref fz0) (C := RX2) (T := TX2) (N := 5) xh bh hts (fun _ h => List.mem_cons_of_mem _ (List.mem_append_right _ (h))) hown hK.1 hP 2 rfl rfl 1 (by decide) (hts _ (List.mem_of_getElem? (i := 1) rfl)) (fun _ h9 => h9) rfl dX2_rowOf_43 ?_
        refine lv_iload_n xh bh dX2_rowOf_46 rfl (lv_at hl 1 rfl) ?_
        refine lv_iconst (v := (nI 1)) xh bh dX2_rowOf_47 (by decide) ?_
        refine xN_zast xh bh hK.1 hP hD hS 1 3 rfl rfl (by omega) (by omega) (by decide) dX2_rowOf_48 (fun H locs hP hD hS => ?_)
        have hP : va_P D vwCl [(fa0, .inl (cJ, 5, .inr (.inl (fC (va_up fr 3 b_29))))), (fz0, .inl (cZ, 5, .inl (fN (va_up fz 3 1)))), (fu, .inr (1, [.ref fa0, .ref fz0, .long (eC b_29), .int m_29, .int (ib y_29)]))] H := hP
        have hD : va_D AG [(fa0, .inl (cJ, 5, .inr (.inl (fC (va_up fr 3 b_29))))), (fz0, .inl (cZ, 5, .inl (fN (va_up fz 3 1)))), (fu, .inr (1, [.ref fa0, .ref fz0, .long (eC b_29), .int m_29, .int (ib y_29)]))] := hD
        refine lv_aload_n xh bh dX2_rowOf_49 rfl (lv_at hl 0 rfl) ?_
        refine va_get (D := D) (ci := 1) (v := .ref fa0) (C := RX2) (T := TX2) (N := 5) xh bh hts (fun _ h => List.mem_cons_of_mem _ (List.mem_append_right _ (h))) hown hK.1 hP 2 rfl rfl 0 (by decide) (hts _ (List.mem_of_getElem? (i := 3) rfl)) (fun _ h9 => h9) rfl dX2_rowOf_50 ?_
        refine lv_iload_n xh bh dX2_rowOf_53 rfl (lv_at hl 1 rfl) ?_
        refine xa_lald xh bh hK.1 hP 0 1 rfl rfl (by omega) (by omega) dX2_rowOf_54 ?_
        refine W.eq (g2 := F0 mG 55 ls [.long (eC ((va_up fr 3 b_29) 3))]) rfl ?_
        exact hend (eC ((va_up fr 3 b_29) 3)) ((y_29, b_29, m_29), (va_up fr 3 b_29), (va_up fz 3 1)) _ _ _ _ (congrArg (fun z => some (Value.long (eC z))) (by first | exact (hff k (by have := hfz k; omega)).symm | exact hz9.symm.trans (va_up_self fr _ b_29).symm)) (by first | exact And.intro hb (And.intro hfr (And.intro hfz hff)) | exact And.intro hu_29.2 (And.intro (okT_up hfr hu_29.2 _) (And.intro (fz_up hfz) (ff_up hff hz9)))) dX2_rowOf_55 (by exact (hP.sub [2, 0, 1] rfl)) (by exact (hD.sub [2, 0, 1] (by decide) rfl)) hS
      · refine Ct.callV (As := [.long (lN 0), .int (-1), .int (nI 0), .int (nI 4)]) (rest := []) (wr := [(fa0, .inl (cJ, 5, .inr (.inl (fC fr)))), (fz0, .inl (cZ, 5, .inl (fN fz)))]) xh bh hml hown hts hK hP hD hS hA (ct_X2_search4 l D cI cJ cB cZ cA fu fa0 fz0 b0 m0 false ([]) (-1) (nI 0) (by exact okT_nil) (by decide) (by rfl) (by rfl) (by exact hb)) (cwV 4 hts gX2_rowOf_X2_search rfl rfl rfl (by decide +kernel) ⟨Nat.le_of_ble_eq_true rfl, Nat.le_of_ble_eq_true rfl⟩) rfl rfl hl.1 (Nat.le_of_ble_eq_true rfl) dX2_rowOf_29 ⟨Nat.le_refl _, Nat.le_refl _⟩ 0 1 rfl rfl rfl [0] [1, 2] rfl (by decide) rfl rfl (by decide) (by decide) (fun u_29 H locs hu_29 hP hD hS => ?_)
        have hP : va_P D vwCl [(fa0, .inl (cJ, 5, .inr (.inl (fC fr)))), (fz0, .inl (cZ, 5, .inl (fN fz))), (fu, .inr (1, [.ref fa0, .ref fz0, .long (eC u_29.2.1), .int u_29.2.2, .int (ib u_29.1)]))] H := hP
        have hD : va_D AG [(fa0, .inl (cJ, 5, .inr (.inl (fC fr)))), (fz0, .inl (cZ, 5, .inl (fN fz))), (fu, .inr (1, [.ref fa0, .ref fz0, .long (eC u_29.2.1), .int u_29.2.2, .int (ib u_29.1)]))] := hD
        refine W.eq (g2 := F0 mG 32 ls []) rfl ?_
        obtain ⟨y_29, b_29, m_29⟩ := u_29
        have hP : va_P D vwCl [(fa0, .inl (cJ, 5, .inr (.inl (fC fr)))), (fz0, .inl (cZ, 5, .inl (fN fz))), (fu, .inr (1, [.ref fa0, .ref fz0, .long (eC b_29), .int m_29, .int (ib y_29)]))] H := hP
        have hD : va_D AG [(fa0, .inl (cJ, 5, .inr (.inl (fC fr)))), (fz0, .inl (cZ, 5, .inl (fN fz))), (fu, .inr (1, [.ref fa0, .ref fz0, .long (eC b_29), .int m_29, .int (ib y_29)]))] := hD
        have hz9 := bsR_of hu_29.1
        refine lv_aload_n xh bh dX2_rowOf_32 rfl (lv_at hl 0 rfl) ?_
        refine va_get (D := D) (ci := 1) (v := .ref fa0) (C := RX2) (T := TX2) (N := 5) xh bh hts (fun _ h => List.mem_cons_of_mem _ (List.mem_append_right _ (h))) hown hK.1 hP 2 rfl rfl 0 (by decide) (hts _ (List.mem_of_getElem? (i := 3) rfl)) (fun _ h9 => h9) rfl dX2_rowOf_33 ?_
        refine lv_iload_n xh bh dX2_rowOf_36 rfl (lv_at hl 1 rfl) ?_
        refine lv_aload_n xh bh dX2_rowOf_37 rfl (lv_at hl 0 rfl) ?_
        refine va_get (D := D) (ci := 1) (v := .long (eC b_29)) (C := RX2) (T := TX2) (N := 5) xh bh hts (fun _ h => List.mem_cons_of_mem _ (List.mem_append_right _ (h))) hown hK.1 hP 2 rfl rfl 2 (by decide) (hts _ (List.mem_of_getElem? (i := 4) rfl)) (fun _ h9 => h9) rfl dX2_rowOf_38 ?_
        refine xc_last xh bh hK.1 hP hD hS 0 1 rfl rfl (by omega) (by omega) dX2_rowOf_41 (fun H locs hP hD hS => ?_)
        have hP : va_P D vwCl [(fa0, .inl (cJ, 5, .inr (.inl (fC (va_up fr 4 b_29))))), (fz0, .inl (cZ, 5, .inl (fN fz))), (fu, .inr (1, [.ref fa0, .ref fz0, .long (eC b_29), .int m_29, .int (ib y_29)]))] H := hP
        have hD : va_D AG [(fa0, .inl (cJ, 5, .inr (.inl (fC (va_up fr 4 b_29))))), (fz0, .inl (cZ, 5, .inl (fN fz))), (fu, .inr (1, [.ref fa0, .ref fz0, .long (eC b_29), .int m_29, .int (ib y_29)]))] := hD
        refine lv_aload_n xh bh dX2_rowOf_42 rfl (lv_at hl 0 rfl) ?_
        refine va_get (D := D) (ci := 1) (v := .ref fz0) (C := RX2) (T := TX2) (N := 5) xh bh hts (fun _ h => List.mem_cons_of_mem _ (List.mem_append_right _ (h))) hown hK.1 hP 2 rfl rfl 1 (by decide) (hts _ (List.mem_of_getElem? (i := 1) rfl)) (fun _ h9 => h9) rfl dX2_rowOf_43 ?_
        refine lv_iload_n xh bh dX2_rowOf_46 rfl (lv_at hl 1 rfl) ?_
        refine lv_iconst (v := (nI 1)) xh bh dX2_rowOf_47 (by decide) ?_
        refine xN_zast xh bh hK.1 hP hD hS 1 3 rfl rfl (by omega) (by omega) (by decide) dX2_rowOf_48 (fun H locs hP hD hS => ?_)
        have hP : va_P D vwCl [(fa0, .inl (cJ, 5, .inr (.inl (fC (va_up fr 4 b_29))))), (fz0, .inl (cZ, 5, .inl (fN (va_up fz 4 1)))), (fu, .inr (1, [.ref fa0, .ref fz0, .long (eC b_29), .int m_29, .int (ib y_29)]))] H := hP
        have hD : va_D AG [(fa0, .inl (cJ, 5, .inr (.inl (fC (va_up fr 4 b_29))))), (fz0, .inl (cZ, 5, .inl (fN (va_up fz 4 1)))), (fu, .inr (1, [.ref fa0, .ref fz0, .long (eC b_29), .int m_29, .int (ib y_29)]))] := hD
        refine lv_aload_n xh bh dX2_rowOf_49 rfl (lv_at hl 0 rfl) ?_
        refine va_get (D := D) (ci := 1) (v := .ref fa0) (C := RX2) (T := TX2) (N := 5) xh bh hts (fun _ h => List.mem_cons_of_mem _ (List.mem_append_right _ (h))) hown hK.1 hP 2 rfl rfl 0 (by decide) (hts _ (List.mem_of_getElem? (i := 3) rfl)) (fun _ h9 => h9) rfl dX2_rowOf_50 ?_
        refine lv_iload_n xh bh dX2_rowOf_53 rfl (lv_at hl 1 rfl) ?_
        refine xa_lald xh bh hK.1 hP 0 1 rfl rfl (by omega) (by omega) dX2_rowOf_54 ?_
        refine W.eq (g2 := F0 mG 55 ls [.long (eC ((va_up fr 4 b_29) 4))]) rfl ?_
        exact hend (eC ((va_up fr 4 b_29) 4)) ((y_29, b_29, m_29), (va_up fr 4 b_29), (va_up fz 4 1)) _ _ _ _ (congrArg (fun z => some (Value.long (eC z))) (by first | exact (hff k (by have := hfz k; omega)).symm | exact hz9.symm.trans (va_up_self fr _ b_29).symm)) (by first | exact And.intro hb (And.intro hfr (And.intro hfz hff)) | exact And.intro hu_29.2 (And.intro (okT_up hfr hu_29.2 _) (And.intro (fz_up hfz) (ff_up hff hz9)))) dX2_rowOf_55 (by exact (hP.sub [2, 0, 1] rfl)) (by exact (hD.sub [2, 0, 1] (by decide) rfl)) hS
  · exact absurd c_5 (by rw [upB_nI (by omega) (by decide), decide_eq_true (show _ by omega)]; decide)
