-- rows laid by wip/whole/gen.py
set_option maxHeartbeats 1000000 in
set_option maxRecDepth 100000 in
theorem ct_X9_fraction (l : Launch) (D : va_G) (cI cJ cB cZ cA : ClassId) (a : Nat → Nat) (hm : Nat) (un : Nat) (fa : Int64) (fb : Int64) (lx : Nat) (bl : Nat) (ta : Nat) (tl : Nat) (tk : Nat) (va : Nat) (p : Nat) (q : Nat) (hp : p < 4611686018427387904) (hq : q < 4611686018427387904) (hq0 : 0 < q) : Ct l yX9_fraction wsX9_fraction ({ frames := 0, cells := 0, slots := 0, locals := 0 }) D (tysG cI cJ cB cZ cA) [.ref (a 0), .long (lN p), .long (lN q)] [(a 0, .inr (6, [.ref (a 1), .ref (a 2), .int (nI hm), .int (nI un), .ref (a 3), .ref (a 4), .ref (a 5), .ref (a 6), .ref (a 7), .ref (a 8), .ref (a 9), .ref (a 10), .ref (a 11), .ref (a 12), .long fa, .long fb, .ref (a 13), .long (lN lx), .ref (a 14), .int (nI bl), .int (nI ta), .int (nI tl), .int (nI tk), .int (nI va), .ref (a 15), .ref (a 16), .ref (a 17)]))] (fun (_ : Unit) => True) (fun _ => none) (fun _ => [(a 0, .inr (6, [.ref (a 1), .ref (a 2), .int (nI hm), .int (nI un), .ref (a 3), .ref (a 4), .ref (a 5), .ref (a 6), .ref (a 7), .ref (a 8), .ref (a 9), .ref (a 10), .ref (a 11), .ref (a 12), .long (lN (p / Nat.gcd p q)), .long (lN (q / Nat.gcd p q)), .ref (a 13), .long (lN lx), .ref (a 14), .int (nI bl), .int (nI ta), .int (nI tl), .int (nI tk), .int (nI va), .ref (a 15), .ref (a 16), .ref (a 17)]))]) := by
  refine Ct.ofV (cc := cX9_fraction) (maxL := 11) (by decide) rfl (Nat.le_of_ble_eq_true rfl) ?_
  intro pG eG sG mG aG bG tG cG AG QG ls xh bh hml hown hts hK hP hD hS hA hend hl
  have hl : lv_has ls 11 [(0, .ref (a 0)), (1, .long (lN p)), (3, .long (lN q))] := hl
  refine lv_lload_n xh bh dX9_fraction_0 rfl (lv_at hl 1 rfl) ?_
  refine lv_lstore (lv' := [(5, .long (lN p)), (0, .ref (a 0)), (1, .long (lN p)), (3, .long (lN q))]) xh bh dX9_fraction_1 hl (by decide) rfl (fun ls hl => ?_)
  refine lv_lload_n xh bh dX9_fraction_3 rfl (lv_at hl 3 rfl) ?_
  refine lv_lstore (lv' := [(7, .long (lN q)), (5, .long (lN p)), (0, .ref (a 0)), (1, .long (lN p)), (3, .long (lN q))]) xh bh dX9_fraction_4 hl (by decide) rfl (fun ls hl => ?_)
  have cut_6 : ∀ (n_6 : Nat), ∀ (x : Nat), ∀ (y : Nat), (Nat.gcd x y = Nat.gcd p q) → (x < 4611686018427387904) → (y < 4611686018427387904) → y < n_6 → ∀ (H : Heap) (locs : List Loc) (ls : Array Slot), va_P D vwCl [(a 0, .inr (6, [.ref (a 1), .ref (a 2), .int (nI hm), .int (nI un), .ref (a 3), .ref (a 4), .ref (a 5), .ref (a 6), .ref (a 7), .ref (a 8), .ref (a 9), .ref (a 10), .ref (a 11), .ref (a 12), .long fa, .long fb, .ref (a 13), .long (lN lx), .ref (a 14), .int (nI bl), .int (nI ta), .int (nI tl), .int (nI tk), .int (nI va), .ref (a 15), .ref (a 16), .ref (a 17)]))] H → va_D AG [(a 0, .inr (6, [.ref (a 1), .ref (a 2), .int (nI hm), .int (nI un), .ref (a 3), .ref (a 4), .ref (a 5), .ref (a 6), .ref (a 7), .ref (a 8), .ref (a 9), .ref (a 10), .ref (a 11), .ref (a 12), .long fa, .long fb, .ref (a 13), .long (lN lx), .ref (a 14), .int (nI bl), .int (nI ta), .int (nI tl), .int (nI tk), .int (nI va), .ref (a 15), .ref (a 16), .ref (a 17)]))] → va_S AG sG.heap H locs → lv_has ls 11 [(0, .ref (a 0)), (1, .long (lN p)), (3, .long (lN q)), (5, .long (lN x)), (7, .long (lN y))] → W pG l eG ({ frames := 0, cells := 0, slots := 0, locals := 0 }) sG mG aG bG tG cG H locs 0 0 QG (F0 mG 6 ls []) := by
    intro n_6
    induction n_6 with
    | zero =>
      intro x y hg hx hy hmu
      exact absurd hmu (Nat.not_lt_zero _)
    | succ n_6 ih_6 =>
      intro x y hg hx hy hmu H locs ls hP hD hS hl
      refine lv_lload xh bh dX9_fraction_6 (lv_at hl 4 rfl) ?_
      refine lv_lconst (v := lN 0) xh bh dX9_fraction_8 (by decide) ?_
      refine W.lcmp xh bh dX9_fraction_9 ?_
      refine xq_if_eq (tgt := 31) xh bh dX9_fraction_10 (by decide) (by omega) (by omega) (fun c_10 => ?_) (fun c_10 => ?_)
      · have hx2 : x = Nat.gcd p q := by rw [← hg, c_10, Nat.gcd_zero_right]
        have hx0 : 0 < x := by rw [hx2]; exact Nat.gcd_pos_of_pos_right _ hq0
        refine lv_aload_n xh bh dX9_fraction_31 rfl (lv_at hl 0 rfl) ?_
        refine lv_lload_n xh bh dX9_fraction_32 rfl (lv_at hl 1 rfl) ?_
        refine lv_lload xh bh dX9_fraction_33 (lv_at hl 3 rfl) ?_
        refine xq_ldiv xh bh dX9_fraction_35 (by omega) (by omega) (by omega) ?_
        refine va_put (D := D) (ci := 6) (v := .long (lN (p / x))) (ty := .long) (C := RX9) (T := TX9) (N := 27) xh bh hts (fun _ h => List.mem_cons_of_mem _ (List.mem_append_right _ (h))) tyX9 tyX9_ok nmX9 hown hK.1 hP hD hS 0 rfl rfl 14 (by decide) (hts _ (List.mem_of_getElem? (i := 1) rfl)) (fun _ h9 => h9) rfl (by decide +kernel) (by rfl) (by rfl) (Nat.le_of_ble_eq_true rfl) dX9_fraction_36 (fun H locs hP hD hS => ?_)
        have hP : va_P D vwCl [(a 0, .inr (6, [.ref (a 1), .ref (a 2), .int (nI hm), .int (nI un), .ref (a 3), .ref (a 4), .ref (a 5), .ref (a 6), .ref (a 7), .ref (a 8), .ref (a 9), .ref (a 10), .ref (a 11), .ref (a 12), .long (lN (p / x)), .long fb, .ref (a 13), .long (lN lx), .ref (a 14), .int (nI bl), .int (nI ta), .int (nI tl), .int (nI tk), .int (nI va), .ref (a 15), .ref (a 16), .ref (a 17)]))] H := hP
        have hD : va_D AG [(a 0, .inr (6, [.ref (a 1), .ref (a 2), .int (nI hm), .int (nI un), .ref (a 3), .ref (a 4), .ref (a 5), .ref (a 6), .ref (a 7), .ref (a 8), .ref (a 9), .ref (a 10), .ref (a 11), .ref (a 12), .long (lN (p / x)), .long fb, .ref (a 13), .long (lN lx), .ref (a 14), .int (nI bl), .int (nI ta), .int (nI tl), .int (nI tk), .int (nI va), .ref (a 15), .ref (a 16), .ref (a 17)]))] := hD
        refine lv_aload_n xh bh dX9_fraction_39 rfl (lv_at hl 0 rfl) ?_
        refine lv_lload_n xh bh dX9_fraction_40 rfl (lv_at hl 2 rfl) ?_
        refine lv_lload xh bh dX9_fraction_41 (lv_at hl 3 rfl) ?_
        refine xq_ldiv xh bh dX9_fraction_43 (by omega) (by omega) (by omega) ?_
        refine va_put (D := D) (ci := 6) (v := .long (lN (q / x))) (ty := .long) (C := RX9) (T := TX9) (N := 27) xh bh hts (fun _ h => List.mem_cons_of_mem _ (List.mem_append_right _ (h))) tyX9 tyX9_ok nmX9 hown hK.1 hP hD hS 0 rfl rfl 15 (by decide) (hts _ (List.mem_of_getElem? (i := 2) rfl)) (fun _ h9 => h9) rfl (by decide +kernel) (by rfl) (by rfl) (Nat.le_of_ble_eq_true rfl) dX9_fraction_44 (fun H locs hP hD hS => ?_)
        have hP : va_P D vwCl [(a 0, .inr (6, [.ref (a 1), .ref (a 2), .int (nI hm), .int (nI un), .ref (a 3), .ref (a 4), .ref (a 5), .ref (a 6), .ref (a 7), .ref (a 8), .ref (a 9), .ref (a 10), .ref (a 11), .ref (a 12), .long (lN (p / x)), .long (lN (q / x)), .ref (a 13), .long (lN lx), .ref (a 14), .int (nI bl), .int (nI ta), .int (nI tl), .int (nI tk), .int (nI va), .ref (a 15), .ref (a 16), .ref (a 17)]))] H := hP
        have hD : va_D AG [(a 0, .inr (6, [.ref (a 1), .ref (a 2), .int (nI hm), .int (nI un), .ref (a 3), .ref (a 4), .ref (a 5), .ref (a 6), .ref (a 7), .ref (a 8), .ref (a 9), .ref (a 10), .ref (a 11), .ref (a 12), .long (lN (p / x)), .long (lN (q / x)), .ref (a 13), .long (lN lx), .ref (a 14), .int (nI bl), .int (nI ta), .int (nI tl), .int (nI tk), .int (nI va), .ref (a 15), .ref (a 16), .ref (a 17)]))] := hD
        exact hend () _ _ _ _ rfl trivial dX9_fraction_47 (by rw [← hx2]; exact hP) (by rw [← hx2]; exact hD) hS
      · refine lv_lload xh bh dX9_fraction_13 (lv_at hl 3 rfl) ?_
        refine lv_lload xh bh dX9_fraction_15 (lv_at hl 4 rfl) ?_
        refine xq_lrem xh bh dX9_fraction_17 (by omega) (by omega) (by omega) ?_
        refine lv_lstore (lv' := [(9, .long (lN (x % y))), (0, .ref (a 0)), (1, .long (lN p)), (3, .long (lN q)), (5, .long (lN x)), (7, .long (lN y))]) xh bh dX9_fraction_18 hl (by decide) rfl (fun ls hl => ?_)
        refine lv_lload xh bh dX9_fraction_20 (lv_at hl 5 rfl) ?_
        refine lv_lstore (lv' := [(5, .long (lN y)), (9, .long (lN (x % y))), (0, .ref (a 0)), (1, .long (lN p)), (3, .long (lN q)), (7, .long (lN y))]) xh bh dX9_fraction_22 hl (by decide) rfl (fun ls hl => ?_)
        refine lv_lload xh bh dX9_fraction_24 (lv_at hl 1 rfl) ?_
        refine lv_lstore (lv' := [(7, .long (lN (x % y))), (5, .long (lN y)), (9, .long (lN (x % y))), (0, .ref (a 0)), (1, .long (lN p)), (3, .long (lN q))]) xh bh dX9_fraction_26 hl (by decide) rfl (fun ls hl => ?_)
        refine lv_goto (tgt := 6) xh bh dX9_fraction_28 (by decide) ?_
        exact ih_6 y (x % y) (by rw [← hg, Nat.gcd_comm y, ← Nat.gcd_rec, Nat.gcd_comm]) (by exact hy) (by exact Nat.lt_trans (Nat.mod_lt _ (by omega)) hy) (by have := Nat.mod_lt x (show 0 < y by omega); omega) _ _ ls hP hD hS (lv_sub hl [3, 4, 5, 1, 0] rfl)
  exact cut_6 (q + 1) p q (by rfl) (by exact hp) (by exact hq) (Nat.lt_succ_self _) _ _ ls hP hD hS (lv_sub hl [2, 3, 4, 1, 0] rfl)

set_option maxHeartbeats 1000000 in
set_option maxRecDepth 100000 in
theorem ct_X9_odds (l : Launch) (D : va_G) (cI cJ cB cZ cA : ClassId) (a : Nat → Nat) (T : Nat → List Nat) (rf : Nat → Int32) (hm : Nat) (un : Nat) (fa : Int64) (fb : Int64) (lx : Nat) (bl : Nat) (ta : Nat) (tl : Nat) (tk : Nat) (va : Nat) (b : Int32) (x : Int32) (n : Int32) (c1 : Int32) (hT : ∀ k, okT (T k)) : Ct l yX9_odds wsX9_odds ({ frames := 2, cells := 0, slots := 0, locals := 46 }) D (tysG cI cJ cB cZ cA) [.ref (a 0), .int b, .int x, .int n, .int c1] [(a 0, .inr (6, [.ref (a 1), .ref (a 2), .int (nI hm), .int (nI un), .ref (a 3), .ref (a 4), .ref (a 5), .ref (a 6), .ref (a 7), .ref (a 8), .ref (a 9), .ref (a 10), .ref (a 11), .ref (a 12), .long fa, .long fb, .ref (a 13), .long (lN lx), .ref (a 14), .int (nI bl), .int (nI ta), .int (nI tl), .int (nI tk), .int (nI va), .ref (a 15), .ref (a 16), .ref (a 17)])), (a 1, .inl (cJ, 9, .inr (.inl (fR T)))), (a 12, .inl (cI, 3, .inl rf))] (fun (_ : Unit) => True) (fun _ => some (.int (e1I (kOd b x n c1)))) (fun _ => [(a 0, .inr (6, [.ref (a 1), .ref (a 2), .int (nI hm), .int (nI un), .ref (a 3), .ref (a 4), .ref (a 5), .ref (a 6), .ref (a 7), .ref (a 8), .ref (a 9), .ref (a 10), .ref (a 11), .ref (a 12), .long (s3L (kOd b x n c1) fa (lN (frA (T (xN b)) (xN x) (xN n) (xN c1) / Nat.gcd (frA (T (xN b)) (xN x) (xN n) (xN c1)) (5040 * 10 ^ xN n)))), .long (s3L (kOd b x n c1) fb (lN (5040 * 10 ^ xN n / Nat.gcd (frA (T (xN b)) (xN x) (xN n) (xN c1)) (5040 * 10 ^ xN n)))), .ref (a 13), .long (lN lx), .ref (a 14), .int (nI bl), .int (nI ta), .int (nI tl), .int (nI tk), .int (nI va), .ref (a 15), .ref (a 16), .ref (a 17)])), (a 1, .inl (cJ, 9, .inr (.inl (fR T)))), (a 12, .inl (cI, 3, .inl (rfU (kOd b x n c1) rf)))]) := by
  refine Ct.ofI (cc := cX9_odds) (maxL := 15) (by decide) rfl (Nat.le_of_ble_eq_true rfl) ?_
  intro pG eG sG mG aG bG tG cG AG QG ls xh bh hml hown hts hK hP hD hS hA hend hl
  have hl : lv_has ls 15 [(0, .ref (a 0)), (1, .int b), (2, .int x), (3, .int n), (4, .int c1)] := hl
  refine lv_iload_n xh bh dX9_odds_0 rfl (lv_at hl 1 rfl) ?_
  refine Ct.callS0 (rest := []) xh bh hml hown hts hK hP hS hA (ct_X9_isBranch l D cI cJ cB cZ cA b ) (va_cwS 1 hts gX9_odds_X9_isBranch rfl rfl rfl (by decide +kernel) ⟨Nat.le_of_ble_eq_true rfl, Nat.le_of_ble_eq_true rfl⟩) rfl rfl hl.1 (Nat.le_of_ble_eq_true rfl) dX9_odds_1 ⟨Nat.le_refl _, Nat.le_refl _⟩ (fun _ H locs _ hP hS => ?_)
  refine W.eq (g2 := F0 mG 4 ls [.int (ib (upB b 7))]) rfl ?_
  refine xb_if_eq (tgt := 39) xh bh dX9_odds_4 (by decide) (fun c_4 => ?_) (fun c_4 => ?_)
  · have hk : kOd b x n c1 = 0 := if_neg (fun q => by rw [c_4] at q; exact absurd q.1 (by decide))
    refine lv_aload_n xh bh dX9_odds_39 rfl (lv_at hl 0 rfl) ?_
    refine lv_bipush (v := (-2)) xh bh dX9_odds_40 (by decide) ?_
    refine Ct.callV (As := [.int (-2)]) (rest := []) (wr := [(a 1, .inl (cJ, 9, .inr (.inl (fR T))))]) xh bh hml hown hts hK hP hD hS hA (ct_X9_bad l D cI cJ cB cZ cA a rf hm un fa fb lx bl ta tl tk va (-2) ) (cwV 1 hts gX9_odds_X9_bad rfl rfl rfl (by decide +kernel) ⟨Nat.le_of_ble_eq_true rfl, Nat.le_of_ble_eq_true rfl⟩) rfl rfl hl.1 (Nat.le_of_ble_eq_true rfl) dX9_odds_42 ⟨Nat.le_refl _, Nat.le_refl _⟩ 0 6 rfl rfl rfl [0, 2] [1] rfl (by decide) rfl rfl (by decide) (by decide) (fun _ H locs _ hP hD hS => ?_)
    have hP : va_P D vwCl [(a 1, .inl (cJ, 9, .inr (.inl (fR T)))), (a 0, .inr (6, [.ref (a 1), .ref (a 2), .int (nI hm), .int (nI un), .ref (a 3), .ref (a 4), .ref (a 5), .ref (a 6), .ref (a 7), .ref (a 8), .ref (a 9), .ref (a 10), .ref (a 11), .ref (a 12), .long fa, .long fb, .ref (a 13), .long (lN lx), .ref (a 14), .int (nI bl), .int (nI ta), .int (nI tl), .int (nI tk), .int (nI va), .ref (a 15), .ref (a 16), .ref (a 17)])), (a 12, .inl (cI, 3, .inl (upd rf 0 ((rf 0) + nI 1))))] H := hP
    have hD : va_D AG [(a 1, .inl (cJ, 9, .inr (.inl (fR T)))), (a 0, .inr (6, [.ref (a 1), .ref (a 2), .int (nI hm), .int (nI un), .ref (a 3), .ref (a 4), .ref (a 5), .ref (a 6), .ref (a 7), .ref (a 8), .ref (a 9), .ref (a 10), .ref (a 11), .ref (a 12), .long fa, .long fb, .ref (a 13), .long (lN lx), .ref (a 14), .int (nI bl), .int (nI ta), .int (nI tl), .int (nI tk), .int (nI va), .ref (a 15), .ref (a 16), .ref (a 17)])), (a 12, .inl (cI, 3, .inl (upd rf 0 ((rf 0) + nI 1))))] := hD
    refine W.eq (g2 := F0 mG 45 ls [.int (-2)]) rfl ?_
    exact hend (-2) () _ _ _ _ (congrArg (fun z => some (Value.int z)) (by rw [hk]; rfl)) trivial rfl dX9_odds_45 (by rw [hk]; exact (hP.sub [1, 0, 2] rfl)) (by rw [hk]; exact (hD.sub [1, 0, 2] (by decide) rfl)) hS
  · refine lv_iload_n xh bh dX9_odds_7 rfl (lv_at hl 2 rfl) ?_
    refine Ct.callS0 (rest := []) xh bh hml hown hts hK hP hS hA (ct_X9_isPart l D cI cJ cB cZ cA x ) (va_cwS 1 hts gX9_odds_X9_isPart rfl rfl rfl (by decide +kernel) ⟨Nat.le_of_ble_eq_true rfl, Nat.le_of_ble_eq_true rfl⟩) rfl rfl hl.1 (Nat.le_of_ble_eq_true rfl) dX9_odds_8 ⟨Nat.le_refl _, Nat.le_refl _⟩ (fun _ H locs _ hP hS => ?_)
    refine W.eq (g2 := F0 mG 11 ls [.int (ib (upB x 9))]) rfl ?_
    refine xb_if_eq (tgt := 39) xh bh dX9_odds_11 (by decide) (fun c_11 => ?_) (fun c_11 => ?_)
    · have hk : kOd b x n c1 = 0 := if_neg (fun q => by rw [c_11] at q; exact absurd q.2.1 (by decide))
      refine lv_aload_n xh bh dX9_odds_39 rfl (lv_at hl 0 rfl) ?_
      refine lv_bipush (v := (-2)) xh bh dX9_odds_40 (by decide) ?_
      refine Ct.callV (As := [.int (-2)]) (rest := []) (wr := [(a 1, .inl (cJ, 9, .inr (.inl (fR T))))]) xh bh hml hown hts hK hP hD hS hA (ct_X9_bad l D cI cJ cB cZ cA a rf hm un fa fb lx bl ta tl tk va (-2) ) (cwV 1 hts gX9_odds_X9_bad rfl rfl rfl (by decide +kernel) ⟨Nat.le_of_ble_eq_true rfl, Nat.le_of_ble_eq_true rfl⟩) rfl rfl hl.1 (Nat.le_of_ble_eq_true rfl) dX9_odds_42 ⟨Nat.le_refl _, Nat.le_refl _⟩ 0 6 rfl rfl rfl [0, 2] [1] rfl (by decide) rfl rfl (by decide) (by decide) (fun _ H locs _ hP hD hS => ?_)
      have hP : va_P D vwCl [(a 1, .inl (cJ, 9, .inr (.inl (fR T)))), (a 0, .inr (6, [.ref (a 1), .ref (a 2), .int (nI hm), .int (nI un), .ref (a 3), .ref (a 4), .ref (a 5), .ref (a 6), .ref (a 7), .ref (a 8), .ref (a 9), .ref (a 10), .ref (a 11), .ref (a 12), .long fa, .long fb, .ref (a 13), .long (lN lx), .ref (a 14), .int (nI bl), .int (nI ta), .int (nI tl), .int (nI tk), .int (nI va), .ref (a 15), .ref (a 16), .ref (a 17)])), (a 12, .inl (cI, 3, .inl (upd rf 0 ((rf 0) + nI 1))))] H := hP
      have hD : va_D AG [(a 1, .inl (cJ, 9, .inr (.inl (fR T)))), (a 0, .inr (6, [.ref (a 1), .ref (a 2), .int (nI hm), .int (nI un), .ref (a 3), .ref (a 4), .ref (a 5), .ref (a 6), .ref (a 7), .ref (a 8), .ref (a 9), .ref (a 10), .ref (a 11), .ref (a 12), .long fa, .long fb, .ref (a 13), .long (lN lx), .ref (a 14), .int (nI bl), .int (nI ta), .int (nI tl), .int (nI tk), .int (nI va), .ref (a 15), .ref (a 16), .ref (a 17)])), (a 12, .inl (cI, 3, .inl (upd rf 0 ((rf 0) + nI 1))))] := hD
      refine W.eq (g2 := F0 mG 45 ls [.int (-2)]) rfl ?_
      exact hend (-2) () _ _ _ _ (congrArg (fun z => some (Value.int z)) (by rw [hk]; rfl)) trivial rfl dX9_odds_45 (by rw [hk]; exact (hP.sub [1, 0, 2] rfl)) (by rw [hk]; exact (hD.sub [1, 0, 2] (by decide) rfl)) hS
    · refine lv_iload_n xh bh dX9_odds_14 rfl (lv_at hl 3 rfl) ?_
      refine lv_i2l xh bh dX9_odds_15 rfl ?_
      refine lv_lconst (v := lN 0) xh bh dX9_odds_16 (by decide) ?_
      refine lv_ldc2 (v := (lN 4)) xh bh hown (hts _ (List.mem_of_getElem? (i := 1) rfl)) dX9_odds_17 ?_
      refine Ct.callS0 (rest := []) xh bh hml hown hts hK hP hS hA (ct_X9_in l D cI cJ cB cZ cA n.toInt64 (lN 0) (lN 4) ) (va_cwS 3 hts gX9_odds_X9_in rfl rfl rfl (by decide +kernel) ⟨Nat.le_of_ble_eq_true rfl, Nat.le_of_ble_eq_true rfl⟩) rfl rfl hl.1 (Nat.le_of_ble_eq_true rfl) dX9_odds_20 ⟨Nat.le_refl _, Nat.le_refl _⟩ (fun _ H locs _ hP hS => ?_)
      refine W.eq (g2 := F0 mG 23 ls [.int (ib (decide (¬ n.toInt64 < (lN 0) ∧ ¬ (lN 4) < n.toInt64)))]) rfl ?_
      refine xw_topi (x := (ib (decide (¬ n.toInt64 < (lN 0) ∧ ¬ (lN 4) < n.toInt64)))) (y := (ib (upB n 4))) (by rw [upB_long (by decide)]) ?_
      refine xb_if_eq (tgt := 39) xh bh dX9_odds_23 (by decide) (fun c_23 => ?_) (fun c_23 => ?_)
      · have hk : kOd b x n c1 = 0 := if_neg (fun q => by rw [c_23] at q; exact absurd q.2.2.1 (by decide))
        refine lv_aload_n xh bh dX9_odds_39 rfl (lv_at hl 0 rfl) ?_
        refine lv_bipush (v := (-2)) xh bh dX9_odds_40 (by decide) ?_
        refine Ct.callV (As := [.int (-2)]) (rest := []) (wr := [(a 1, .inl (cJ, 9, .inr (.inl (fR T))))]) xh bh hml hown hts hK hP hD hS hA (ct_X9_bad l D cI cJ cB cZ cA a rf hm un fa fb lx bl ta tl tk va (-2) ) (cwV 1 hts gX9_odds_X9_bad rfl rfl rfl (by decide +kernel) ⟨Nat.le_of_ble_eq_true rfl, Nat.le_of_ble_eq_true rfl⟩) rfl rfl hl.1 (Nat.le_of_ble_eq_true rfl) dX9_odds_42 ⟨Nat.le_refl _, Nat.le_refl _⟩ 0 6 rfl rfl rfl [0, 2] [1] rfl (by decide) rfl rfl (by decide) (by decide) (fun _ H locs _ hP hD hS => ?_)
        have hP : va_P D vwCl [(a 1, .inl (cJ, 9, .inr (.inl (fR T)))), (a 0, .inr (6, [.ref (a 1), .ref (a 2), .int (nI hm), .int (nI un), .ref (a 3), .ref (a 4), .ref (a 5), .ref (a 6), .ref (a 7), .ref (a 8), .ref (a 9), .ref (a 10), .ref (a 11), .ref (a 12), .long fa, .long fb, .ref (a 13), .long (lN lx), .ref (a 14), .int (nI bl), .int (nI ta), .int (nI tl), .int (nI tk), .int (nI va), .ref (a 15), .ref (a 16), .ref (a 17)])), (a 12, .inl (cI, 3, .inl (upd rf 0 ((rf 0) + nI 1))))] H := hP
        have hD : va_D AG [(a 1, .inl (cJ, 9, .inr (.inl (fR T)))), (a 0, .inr (6, [.ref (a 1), .ref (a 2), .int (nI hm), .int (nI un), .ref (a 3), .ref (a 4), .ref (a 5), .ref (a 6), .ref (a 7), .ref (a 8), .ref (a 9), .ref (a 10), .ref (a 11), .ref (a 12), .long fa, .long fb, .ref (a 13), .long (lN lx), .ref (a 14), .int (nI bl), .int (nI ta), .int (nI tl), .int (nI tk), .int (nI va), .ref (a 15), .ref (a 16), .ref (a 17)])), (a 12, .inl (cI, 3, .inl (upd rf 0 ((rf 0) + nI 1))))] := hD
        refine W.eq (g2 := F0 mG 45 ls [.int (-2)]) rfl ?_
        exact hend (-2) () _ _ _ _ (congrArg (fun z => some (Value.int z)) (by rw [hk]; rfl)) trivial rfl dX9_odds_45 (by rw [hk]; exact (hP.sub [1, 0, 2] rfl)) (by rw [hk]; exact (hD.sub [1, 0, 2] (by decide) rfl)) hS
      · refine lv_iload xh bh dX9_odds_26 (lv_at hl 4 rfl) ?_
        refine lv_i2l xh bh dX9_odds_28 rfl ?_
        refine lv_lconst (v := lN 0) xh bh dX9_odds_29 (by decide) ?_
        refine lv_ldc2 (v := (lN 10)) xh bh hown (hts _ (List.mem_of_getElem? (i := 2) rfl)) dX9_odds_30 ?_
        refine Ct.callS0 (rest := []) xh bh hml hown hts hK hP hS hA (ct_X9_in l D cI cJ cB cZ cA c1.toInt64 (lN 0) (lN 10) ) (va_cwS 3 hts gX9_odds_X9_in rfl rfl rfl (by decide +kernel) ⟨Nat.le_of_ble_eq_true rfl, Nat.le_of_ble_eq_true rfl⟩) rfl rfl hl.1 (Nat.le_of_ble_eq_true rfl) dX9_odds_33 ⟨Nat.le_refl _, Nat.le_refl _⟩ (fun _ H locs _ hP hS => ?_)
        refine W.eq (g2 := F0 mG 36 ls [.int (ib (decide (¬ c1.toInt64 < (lN 0) ∧ ¬ (lN 10) < c1.toInt64)))]) rfl ?_
        refine xw_topi (x := (ib (decide (¬ c1.toInt64 < (lN 0) ∧ ¬ (lN 10) < c1.toInt64)))) (y := (ib (upB c1 10))) (by rw [upB_long (by decide)]) ?_
        refine xb_if_ne (tgt := 46) xh bh dX9_odds_36 (by decide) (fun c_36 => ?_) (fun c_36 => ?_)
        · have hk : kOd b x n c1 = 3 := if_pos ⟨c_4, c_11, c_23, c_36⟩
          obtain ⟨b2, hb9, rfl⟩ := upB_of (by decide) c_4
          obtain ⟨x2, hx9, rfl⟩ := upB_of (by decide) c_11
          obtain ⟨n2, hn9, rfl⟩ := upB_of (by decide) c_23
          obtain ⟨c2, hc9, rfl⟩ := upB_of (by decide) c_36
          have lt := (hT b2).1
          refine lv_aload_n xh bh dX9_odds_46 rfl (lv_at hl 0 rfl) ?_
          refine va_get (D := D) (ci := 6) (v := .ref (a 1)) (C := RX9) (T := TX9) (N := 27) xh bh hts (fun _ h => List.mem_cons_of_mem _ (List.mem_append_right _ (h))) hown hK.1 hP 0 rfl rfl 0 (by decide) (hts _ (List.mem_of_getElem? (i := 3) rfl)) (fun _ h9 => h9) rfl dX9_odds_47 ?_
          refine lv_iload_n xh bh dX9_odds_50 rfl (lv_at hl 1 rfl) ?_
          refine xa_lald xh bh hK.1 hP 1 1 rfl rfl (by omega) (by omega) dX9_odds_51 ?_
          refine W.eq (g2 := F0 mG 52 ls [.long (eR (T b2))]) rfl ?_
          refine Ct.callS0 (rest := []) xh bh hml hown hts hK hP hS hA (ct_X9_many l D cI cJ cB cZ cA (T b2) (by exact hT _)) (va_cwS 1 hts gX9_odds_X9_many rfl rfl rfl (by decide +kernel) ⟨Nat.le_of_ble_eq_true rfl, Nat.le_of_ble_eq_true rfl⟩) rfl rfl hl.1 (Nat.le_of_ble_eq_true rfl) dX9_odds_52 ⟨Nat.le_refl _, Nat.le_refl _⟩ (fun _ H locs _ hP hS => ?_)
          refine W.eq (g2 := F0 mG 55 ls [.int (nI ((T b2).length))]) rfl ?_
          refine lv_istore (lv' := [(5, .int (nI ((T b2).length))), (0, .ref (a 0)), (1, .int (nI b2)), (2, .int (nI x2)), (3, .int (nI n2)), (4, .int (nI c2))]) xh bh dX9_odds_55 hl (by decide) rfl (fun ls hl => ?_)
          refine lv_iconst (v := (nI 0)) xh bh dX9_odds_57 (by decide) ?_
          refine lv_istore (lv' := [(6, .int (nI 0)), (5, .int (nI ((T b2).length))), (0, .ref (a 0)), (1, .int (nI b2)), (2, .int (nI x2)), (3, .int (nI n2)), (4, .int (nI c2))]) xh bh dX9_odds_58 hl (by decide) rfl (fun ls hl => ?_)
          refine lv_iconst (v := (nI 0)) xh bh dX9_odds_60 (by decide) ?_
          refine lv_istore (lv' := [(7, .int (nI 0)), (6, .int (nI 0)), (5, .int (nI ((T b2).length))), (0, .ref (a 0)), (1, .int (nI b2)), (2, .int (nI x2)), (3, .int (nI n2)), (4, .int (nI c2))]) xh bh dX9_odds_61 hl (by decide) rfl (fun ls hl => ?_)
          have cut_63 : ∀ (n_63 : Nat), ∀ (i : Nat), ∀ (m : Nat), (i ≤ (T b2).length) → (m = cntN (T b2) x2 i) → ((T b2).length - i) < n_63 → ∀ (H : Heap) (locs : List Loc) (ls : Array Slot), va_P D vwCl [(a 0, .inr (6, [.ref (a 1), .ref (a 2), .int (nI hm), .int (nI un), .ref (a 3), .ref (a 4), .ref (a 5), .ref (a 6), .ref (a 7), .ref (a 8), .ref (a 9), .ref (a 10), .ref (a 11), .ref (a 12), .long fa, .long fb, .ref (a 13), .long (lN lx), .ref (a 14), .int (nI bl), .int (nI ta), .int (nI tl), .int (nI tk), .int (nI va), .ref (a 15), .ref (a 16), .ref (a 17)])), (a 1, .inl (cJ, 9, .inr (.inl (fR T)))), (a 12, .inl (cI, 3, .inl rf))] H → va_D AG [(a 0, .inr (6, [.ref (a 1), .ref (a 2), .int (nI hm), .int (nI un), .ref (a 3), .ref (a 4), .ref (a 5), .ref (a 6), .ref (a 7), .ref (a 8), .ref (a 9), .ref (a 10), .ref (a 11), .ref (a 12), .long fa, .long fb, .ref (a 13), .long (lN lx), .ref (a 14), .int (nI bl), .int (nI ta), .int (nI tl), .int (nI tk), .int (nI va), .ref (a 15), .ref (a 16), .ref (a 17)])), (a 1, .inl (cJ, 9, .inr (.inl (fR T)))), (a 12, .inl (cI, 3, .inl rf))] → va_S AG sG.heap H locs → lv_has ls 15 [(0, .ref (a 0)), (1, .int (nI b2)), (2, .int (nI x2)), (3, .int (nI n2)), (4, .int (nI c2)), (5, .int (nI ((T b2).length))), (6, .int (nI m)), (7, .int (nI i))] → W pG l eG ({ frames := 2, cells := 0, slots := 0, locals := 46 }) sG mG aG bG tG cG H locs 0 0 QG (F0 mG 63 ls []) := by
            intro n_63
            induction n_63 with
            | zero =>
              intro i m hi hm9 hmu
              exact absurd hmu (Nat.not_lt_zero _)
            | succ n_63 ih_63 =>
              intro i m hi hm9 hmu H locs ls hP hD hS hl
              refine lv_iload xh bh dX9_odds_63 (lv_at hl 7 rfl) ?_
              refine lv_iload xh bh dX9_odds_65 (lv_at hl 5 rfl) ?_
              refine xn_icmp_ge (tgt := 101) xh bh dX9_odds_67 (by decide) (by omega) (by omega) (fun c_67 => ?_) (fun c_67 => ?_)
              · have hm7 : m ≤ (T b2).length := by rw [hm9]; have := cntN_le (T b2) x2 i; omega
                refine lv_lconst (v := lN 0) xh bh dX9_odds_101 (by decide) ?_
                refine lv_lstore (lv' := [(7, .long (lN 0)), (0, .ref (a 0)), (1, .int (nI b2)), (2, .int (nI x2)), (3, .int (nI n2)), (4, .int (nI c2)), (5, .int (nI ((T b2).length))), (6, .int (nI m))]) xh bh dX9_odds_102 hl (by decide) rfl (fun ls hl => ?_)
                refine lv_ldc2 (v := (lN 5040)) xh bh hown (hts _ (List.mem_of_getElem? (i := 4) rfl)) dX9_odds_104 ?_
                refine lv_lstore (lv' := [(9, .long (lN 5040)), (7, .long (lN 0)), (0, .ref (a 0)), (1, .int (nI b2)), (2, .int (nI x2)), (3, .int (nI n2)), (4, .int (nI c2)), (5, .int (nI ((T b2).length))), (6, .int (nI m))]) xh bh dX9_odds_107 hl (by decide) rfl (fun ls hl => ?_)
                refine lv_iconst (v := (nI 0)) xh bh dX9_odds_109 (by decide) ?_
                refine lv_istore (lv' := [(11, .int (nI 0)), (9, .long (lN 5040)), (7, .long (lN 0)), (0, .ref (a 0)), (1, .int (nI b2)), (2, .int (nI x2)), (3, .int (nI n2)), (4, .int (nI c2)), (5, .int (nI ((T b2).length))), (6, .int (nI m))]) xh bh dX9_odds_110 hl (by decide) rfl (fun ls hl => ?_)
                have cut_112 : ∀ (n_112 : Nat), ∀ (k : Nat), ∀ (w : Nat), (k ≤ n2) → (w = 5040 * 10 ^ k) → (n2 - k) < n_112 → ∀ (H : Heap) (locs : List Loc) (ls : Array Slot), va_P D vwCl [(a 0, .inr (6, [.ref (a 1), .ref (a 2), .int (nI hm), .int (nI un), .ref (a 3), .ref (a 4), .ref (a 5), .ref (a 6), .ref (a 7), .ref (a 8), .ref (a 9), .ref (a 10), .ref (a 11), .ref (a 12), .long fa, .long fb, .ref (a 13), .long (lN lx), .ref (a 14), .int (nI bl), .int (nI ta), .int (nI tl), .int (nI tk), .int (nI va), .ref (a 15), .ref (a 16), .ref (a 17)])), (a 1, .inl (cJ, 9, .inr (.inl (fR T)))), (a 12, .inl (cI, 3, .inl rf))] H → va_D AG [(a 0, .inr (6, [.ref (a 1), .ref (a 2), .int (nI hm), .int (nI un), .ref (a 3), .ref (a 4), .ref (a 5), .ref (a 6), .ref (a 7), .ref (a 8), .ref (a 9), .ref (a 10), .ref (a 11), .ref (a 12), .long fa, .long fb, .ref (a 13), .long (lN lx), .ref (a 14), .int (nI bl), .int (nI ta), .int (nI tl), .int (nI tk), .int (nI va), .ref (a 15), .ref (a 16), .ref (a 17)])), (a 1, .inl (cJ, 9, .inr (.inl (fR T)))), (a 12, .inl (cI, 3, .inl rf))] → va_S AG sG.heap H locs → lv_has ls 15 [(0, .ref (a 0)), (1, .int (nI b2)), (2, .int (nI x2)), (3, .int (nI n2)), (4, .int (nI c2)), (5, .int (nI ((T b2).length))), (6, .int (nI m)), (7, .long (lN 0)), (9, .long (lN w)), (11, .int (nI k))] → W pG l eG ({ frames := 2, cells := 0, slots := 0, locals := 46 }) sG mG aG bG tG cG H locs 0 0 QG (F0 mG 112 ls []) := by
                  intro n_112
                  induction n_112 with
                  | zero =>
                    intro k w hk2 hw hmu
                    exact absurd hmu (Nat.not_lt_zero _)
                  | succ n_112 ih_112 =>
                    intro k w hk2 hw hmu H locs ls hP hD hS hl
                    refine lv_iload xh bh dX9_odds_112 (lv_at hl 9 rfl) ?_
                    refine lv_iload_n xh bh dX9_odds_114 rfl (lv_at hl 3 rfl) ?_
                    refine xn_icmp_ge (tgt := 132) xh bh dX9_odds_115 (by decide) (by omega) (by omega) (fun c_115 => ?_) (fun c_115 => ?_)
                    · refine lv_iconst (v := (nI 0)) xh bh dX9_odds_132 (by decide) ?_
                      refine lv_istore (lv' := [(11, .int (nI 0)), (0, .ref (a 0)), (1, .int (nI b2)), (2, .int (nI x2)), (3, .int (nI n2)), (4, .int (nI c2)), (5, .int (nI ((T b2).length))), (6, .int (nI m)), (7, .long (lN 0)), (9, .long (lN w))]) xh bh dX9_odds_133 hl (by decide) rfl (fun ls hl => ?_)
                      have cut_135 : ∀ (n_135 : Nat), ∀ (k2 : Nat), ∀ (s0 : Nat), (k2 ≤ n2 + 1) → (s0 = smN (T b2).length m n2 c2 k2) → (n2 + 1 - k2) < n_135 → ∀ (H : Heap) (locs : List Loc) (ls : Array Slot), va_P D vwCl [(a 0, .inr (6, [.ref (a 1), .ref (a 2), .int (nI hm), .int (nI un), .ref (a 3), .ref (a 4), .ref (a 5), .ref (a 6), .ref (a 7), .ref (a 8), .ref (a 9), .ref (a 10), .ref (a 11), .ref (a 12), .long fa, .long fb, .ref (a 13), .long (lN lx), .ref (a 14), .int (nI bl), .int (nI ta), .int (nI tl), .int (nI tk), .int (nI va), .ref (a 15), .ref (a 16), .ref (a 17)])), (a 1, .inl (cJ, 9, .inr (.inl (fR T)))), (a 12, .inl (cI, 3, .inl rf))] H → va_D AG [(a 0, .inr (6, [.ref (a 1), .ref (a 2), .int (nI hm), .int (nI un), .ref (a 3), .ref (a 4), .ref (a 5), .ref (a 6), .ref (a 7), .ref (a 8), .ref (a 9), .ref (a 10), .ref (a 11), .ref (a 12), .long fa, .long fb, .ref (a 13), .long (lN lx), .ref (a 14), .int (nI bl), .int (nI ta), .int (nI tl), .int (nI tk), .int (nI va), .ref (a 15), .ref (a 16), .ref (a 17)])), (a 1, .inl (cJ, 9, .inr (.inl (fR T)))), (a 12, .inl (cI, 3, .inl rf))] → va_S AG sG.heap H locs → lv_has ls 15 [(0, .ref (a 0)), (1, .int (nI b2)), (2, .int (nI x2)), (3, .int (nI n2)), (4, .int (nI c2)), (5, .int (nI ((T b2).length))), (6, .int (nI m)), (7, .long (lN s0)), (9, .long (lN w)), (11, .int (nI k2))] → W pG l eG ({ frames := 2, cells := 0, slots := 0, locals := 46 }) sG mG aG bG tG cG H locs 0 0 QG (F0 mG 135 ls []) := by
                        intro n_135
                        induction n_135 with
                        | zero =>
                          intro k2 s0 hk3 hs hmu
                          exact absurd hmu (Nat.not_lt_zero _)
                        | succ n_135 ih_135 =>
                          intro k2 s0 hk3 hs hmu H locs ls hP hD hS hl
                          refine lv_iload xh bh dX9_odds_135 (lv_at hl 9 rfl) ?_
                          refine lv_iload_n xh bh dX9_odds_137 rfl (lv_at hl 3 rfl) ?_
                          refine xn_icmp_gt (tgt := 225) xh bh dX9_odds_138 (by decide) (by omega) (by omega) (fun c_138 => ?_) (fun c_138 => ?_)
                          · have hs9 := smN_le (size := (T b2).length) (times := m) hn9 hc9 (n2 + 1) (by omega)
                            have hw9 : w = 5040 * 10 ^ n2 := by rw [hw, show k = n2 by omega]
                            have hp9 : 10 ^ n2 ≤ 10 ^ 4 := Nat.pow_le_pow_right (by decide) hn9
                            have hp8 : 0 < 10 ^ n2 := Nat.pow_pos (by decide)
                            have hs8 : s0 = smN (T b2).length m n2 c2 (n2 + 1) := by rw [hs, show k2 = n2 + 1 by omega]
                            have hm8 : m = cntN (T b2) x2 (T b2).length := by rw [hm9, show i = (T b2).length by omega]
                            refine lv_aload_n xh bh dX9_odds_225 rfl (lv_at hl 0 rfl) ?_
                            refine lv_lload xh bh dX9_odds_226 (lv_at hl 7 rfl) ?_
                            refine lv_lload xh bh dX9_odds_228 (lv_at hl 8 rfl) ?_
                            refine Ct.callV (As := [.long (lN s0), .long (lN w)]) (rest := []) (wr := [(a 1, .inl (cJ, 9, .inr (.inl (fR T)))), (a 12, .inl (cI, 3, .inl rf))]) xh bh hml hown hts hK hP hD hS hA (ct_X9_fraction l D cI cJ cB cZ cA a hm un fa fb lx bl ta tl tk va s0 w (by omega) (by omega) (by omega)) (cwV 2 hts gX9_odds_X9_fraction rfl rfl rfl (by decide +kernel) ⟨Nat.le_of_ble_eq_true rfl, Nat.le_of_ble_eq_true rfl⟩) rfl rfl hl.1 (Nat.le_of_ble_eq_true rfl) dX9_odds_230 ⟨Nat.le_refl _, Nat.le_refl _⟩ 0 6 rfl rfl rfl [0] [1, 2] rfl (by decide) rfl rfl (by decide) (by decide) (fun _ H locs _ hP hD hS => ?_)
                            have hP : va_P D vwCl [(a 1, .inl (cJ, 9, .inr (.inl (fR T)))), (a 12, .inl (cI, 3, .inl rf)), (a 0, .inr (6, [.ref (a 1), .ref (a 2), .int (nI hm), .int (nI un), .ref (a 3), .ref (a 4), .ref (a 5), .ref (a 6), .ref (a 7), .ref (a 8), .ref (a 9), .ref (a 10), .ref (a 11), .ref (a 12), .long (lN (s0 / Nat.gcd s0 w)), .long (lN (w / Nat.gcd s0 w)), .ref (a 13), .long (lN lx), .ref (a 14), .int (nI bl), .int (nI ta), .int (nI tl), .int (nI tk), .int (nI va), .ref (a 15), .ref (a 16), .ref (a 17)]))] H := hP
                            have hD : va_D AG [(a 1, .inl (cJ, 9, .inr (.inl (fR T)))), (a 12, .inl (cI, 3, .inl rf)), (a 0, .inr (6, [.ref (a 1), .ref (a 2), .int (nI hm), .int (nI un), .ref (a 3), .ref (a 4), .ref (a 5), .ref (a 6), .ref (a 7), .ref (a 8), .ref (a 9), .ref (a 10), .ref (a 11), .ref (a 12), .long (lN (s0 / Nat.gcd s0 w)), .long (lN (w / Nat.gcd s0 w)), .ref (a 13), .long (lN lx), .ref (a 14), .int (nI bl), .int (nI ta), .int (nI tl), .int (nI tk), .int (nI va), .ref (a 15), .ref (a 16), .ref (a 17)]))] := hD
                            refine W.eq (g2 := F0 mG 233 ls []) rfl ?_
                            refine lv_iconst (v := (nI 1)) xh bh dX9_odds_233 (by decide) ?_
                            exact hend (nI 1) () _ _ _ _ (congrArg (fun z => some (Value.int z)) (by rw [hk]; rfl)) trivial rfl dX9_odds_234 (by rw [hk, xN_nI (show b2 < 2147483648 by omega), xN_nI (show x2 < 2147483648 by omega), xN_nI (show n2 < 2147483648 by omega), xN_nI (show c2 < 2147483648 by omega)]; unfold frA; rw [← hm8, ← hs8, ← hw9]; exact (hP.sub [2, 0, 1] rfl)) (by rw [hk, xN_nI (show b2 < 2147483648 by omega), xN_nI (show x2 < 2147483648 by omega), xN_nI (show n2 < 2147483648 by omega), xN_nI (show c2 < 2147483648 by omega)]; unfold frA; rw [← hm8, ← hs8, ← hw9]; exact (hD.sub [2, 0, 1] (by decide) rfl)) hS
                          · refine lv_iload_n xh bh dX9_odds_141 rfl (lv_at hl 3 rfl) ?_
                            refine lv_iload xh bh dX9_odds_142 (lv_at hl 9 rfl) ?_
                            refine Ct.callS0 (rest := []) xh bh hml hown hts hK hP hS hA (ct_X9_choose l D cI cJ cB cZ cA n2 k2 (by first | assumption | omega) (by first | assumption | omega)) (va_cwS 2 hts gX9_odds_X9_choose rfl rfl rfl (by decide +kernel) ⟨Nat.le_of_ble_eq_true rfl, Nat.le_of_ble_eq_true rfl⟩) rfl rfl hl.1 (Nat.le_of_ble_eq_true rfl) dX9_odds_144 ⟨Nat.le_refl _, Nat.le_refl _⟩ (fun _ H locs _ hP hS => ?_)
                            refine W.eq (g2 := F0 mG 147 ls [.long (lN (chN n2 k2))]) rfl ?_
                            refine lv_lstore (lv' := [(12, .long (lN (chN n2 k2))), (0, .ref (a 0)), (1, .int (nI b2)), (2, .int (nI x2)), (3, .int (nI n2)), (4, .int (nI c2)), (5, .int (nI ((T b2).length))), (6, .int (nI m)), (7, .long (lN s0)), (9, .long (lN w)), (11, .int (nI k2))]) xh bh dX9_odds_147 hl (by decide) rfl (fun ls hl => ?_)
                            refine lv_iconst (v := (nI 0)) xh bh dX9_odds_149 (by decide) ?_
                            refine lv_istore (lv' := [(14, .int (nI 0)), (12, .long (lN (chN n2 k2))), (0, .ref (a 0)), (1, .int (nI b2)), (2, .int (nI x2)), (3, .int (nI n2)), (4, .int (nI c2)), (5, .int (nI ((T b2).length))), (6, .int (nI m)), (7, .long (lN s0)), (9, .long (lN w)), (11, .int (nI k2))]) xh bh dX9_odds_150 hl (by decide) rfl (fun ls hl => ?_)
                            have cut_152 : ∀ (n_152 : Nat), ∀ (j : Nat), ∀ (v : Nat), (j ≤ n2) → (v = csL c2 k2 (chN n2 k2) j) → (n2 - j) < n_152 → ∀ (H : Heap) (locs : List Loc) (ls : Array Slot), va_P D vwCl [(a 0, .inr (6, [.ref (a 1), .ref (a 2), .int (nI hm), .int (nI un), .ref (a 3), .ref (a 4), .ref (a 5), .ref (a 6), .ref (a 7), .ref (a 8), .ref (a 9), .ref (a 10), .ref (a 11), .ref (a 12), .long fa, .long fb, .ref (a 13), .long (lN lx), .ref (a 14), .int (nI bl), .int (nI ta), .int (nI tl), .int (nI tk), .int (nI va), .ref (a 15), .ref (a 16), .ref (a 17)])), (a 1, .inl (cJ, 9, .inr (.inl (fR T)))), (a 12, .inl (cI, 3, .inl rf))] H → va_D AG [(a 0, .inr (6, [.ref (a 1), .ref (a 2), .int (nI hm), .int (nI un), .ref (a 3), .ref (a 4), .ref (a 5), .ref (a 6), .ref (a 7), .ref (a 8), .ref (a 9), .ref (a 10), .ref (a 11), .ref (a 12), .long fa, .long fb, .ref (a 13), .long (lN lx), .ref (a 14), .int (nI bl), .int (nI ta), .int (nI tl), .int (nI tk), .int (nI va), .ref (a 15), .ref (a 16), .ref (a 17)])), (a 1, .inl (cJ, 9, .inr (.inl (fR T)))), (a 12, .inl (cI, 3, .inl rf))] → va_S AG sG.heap H locs → lv_has ls 15 [(0, .ref (a 0)), (1, .int (nI b2)), (2, .int (nI x2)), (3, .int (nI n2)), (4, .int (nI c2)), (5, .int (nI ((T b2).length))), (6, .int (nI m)), (7, .long (lN s0)), (9, .long (lN w)), (11, .int (nI k2)), (12, .long (lN v)), (14, .int (nI j))] → W pG l eG ({ frames := 2, cells := 0, slots := 0, locals := 46 }) sG mG aG bG tG cG H locs 0 0 QG (F0 mG 152 ls []) := by
                              intro n_152
                              induction n_152 with
                              | zero =>
                                intro j v hj hv hmu
                                exact absurd hmu (Nat.not_lt_zero _)
                              | succ n_152 ih_152 =>
                                intro j v hj hv hmu H locs ls hP hD hS hl
                                refine lv_iload xh bh dX9_odds_152 (lv_at hl 11 rfl) ?_
                                refine lv_iload_n xh bh dX9_odds_154 rfl (lv_at hl 3 rfl) ?_
                                refine xn_icmp_ge (tgt := 188) xh bh dX9_odds_155 (by decide) (by omega) (by omega) (fun c_155 => ?_) (fun c_155 => ?_)
                                · have hv8 : v = csL c2 k2 (chN n2 k2) n2 := by rw [hv, show j = n2 by omega]
                                  refine lv_lload xh bh dX9_odds_188 (lv_at hl 7 rfl) ?_
                                  refine lv_iload xh bh dX9_odds_190 (lv_at hl 6 rfl) ?_
                                  refine xn_if_ne (tgt := 199) xh bh dX9_odds_192 (by decide) (by omega) (fun c_192 => ?_) (fun c_192 => ?_)
                                  · refine lv_lload xh bh dX9_odds_199 (lv_at hl 10 rfl) ?_
                                    refine lv_iload xh bh dX9_odds_201 (lv_at hl 5 rfl) ?_
                                    refine lv_iload xh bh dX9_odds_203 (lv_at hl 6 rfl) ?_
                                    refine lv_iload xh bh dX9_odds_205 (lv_at hl 9 rfl) ?_
                                    refine lv_iload xh bh dX9_odds_207 (lv_at hl 5 rfl) ?_
                                    refine Ct.callS0 (rest := [.int (nI m), .int (nI ((T b2).length)), .long (lN v), .long (lN s0)]) xh bh hml hown hts hK hP hS hA (ct_X9_least l D cI cJ cB cZ cA k2 ((T b2).length) (by omega) (by omega)) (va_cwS 2 hts gX9_odds_X9_least rfl rfl rfl (by decide +kernel) ⟨Nat.le_of_ble_eq_true rfl, Nat.le_of_ble_eq_true rfl⟩) rfl rfl hl.1 (Nat.le_of_ble_eq_true rfl) dX9_odds_209 ⟨Nat.le_refl _, Nat.le_refl _⟩ (fun _ H locs _ hP hS => ?_)
                                    refine W.eq (g2 := F0 mG 212 ls [.int (nI (min k2 ((T b2).length))), .int (nI m), .int (nI ((T b2).length)), .long (lN v), .long (lN s0)]) rfl ?_
                                    refine Ct.callS0 (rest := [.long (lN v), .long (lN s0)]) xh bh hml hown hts hK hP hS hA (ct_X9_stays l D cI cJ cB cZ cA ((T b2).length) m (min k2 ((T b2).length)) (by omega) (by omega) (by omega)) (va_cwS 3 hts gX9_odds_X9_stays rfl rfl rfl (by decide +kernel) ⟨Nat.le_of_ble_eq_true rfl, Nat.le_of_ble_eq_true rfl⟩) rfl rfl hl.1 (Nat.le_of_ble_eq_true rfl) dX9_odds_212 ⟨Nat.le_refl _, Nat.le_refl _⟩ (fun _ H locs _ hP hS => ?_)
                                    refine W.eq (g2 := F0 mG 215 ls [.long (lN (stN ((T b2).length) m (min k2 ((T b2).length)))), .long (lN v), .long (lN s0)]) rfl ?_
                                    refine xq_lmul xh bh dX9_odds_215 ?_
                                    refine xq_ladd xh bh dX9_odds_216 ?_
                                    refine lv_lstore (lv' := [(7, .long (lN (s0 + (v * (stN ((T b2).length) m (min k2 ((T b2).length))))))), (0, .ref (a 0)), (1, .int (nI b2)), (2, .int (nI x2)), (3, .int (nI n2)), (4, .int (nI c2)), (5, .int (nI ((T b2).length))), (6, .int (nI m)), (9, .long (lN w)), (11, .int (nI k2)), (12, .long (lN v)), (14, .int (nI j))]) xh bh dX9_odds_217 hl (by decide) rfl (fun ls hl => ?_)
                                    refine lv_iinc (v := (nI (k2 + 1))) (lv' := [(11, .int (nI (k2 + 1))), (7, .long (lN (s0 + (v * (stN ((T b2).length) m (min k2 ((T b2).length))))))), (0, .ref (a 0)), (1, .int (nI b2)), (2, .int (nI x2)), (3, .int (nI n2)), (4, .int (nI c2)), (5, .int (nI ((T b2).length))), (6, .int (nI m)), (9, .long (lN w)), (12, .long (lN v)), (14, .int (nI j))]) xh bh dX9_odds_219 hl (k := 9) rfl (by exact xn_inc _ _) (by decide) rfl (fun ls hl => ?_)
                                    refine lv_goto (tgt := 135) xh bh dX9_odds_222 (by decide) ?_
                                    exact ih_135 (k2 + 1) (s0 + (v * (stN ((T b2).length) m (min k2 ((T b2).length))))) (by omega) (by show _ = smN (T b2).length m n2 c2 k2 + (if m = 0 then 0 else csL c2 k2 (chN n2 k2) n2 * stN (T b2).length m (min k2 (T b2).length)); rw [hs]; first | rw [if_pos c_192] | rw [if_neg c_192, ← hv8]) (by omega) _ _ ls hP hD hS (lv_sub hl [2, 3, 4, 5, 6, 7, 8, 1, 9, 0] rfl)
                                  · refine lv_lconst (v := lN 0) xh bh dX9_odds_195 (by decide) ?_
                                    refine lv_goto (tgt := 216) xh bh dX9_odds_196 (by decide) ?_
                                    refine xq_ladd xh bh dX9_odds_216 ?_
                                    refine lv_lstore (lv' := [(7, .long (lN (s0 + 0))), (0, .ref (a 0)), (1, .int (nI b2)), (2, .int (nI x2)), (3, .int (nI n2)), (4, .int (nI c2)), (5, .int (nI ((T b2).length))), (6, .int (nI m)), (9, .long (lN w)), (11, .int (nI k2)), (12, .long (lN v)), (14, .int (nI j))]) xh bh dX9_odds_217 hl (by decide) rfl (fun ls hl => ?_)
                                    refine lv_iinc (v := (nI (k2 + 1))) (lv' := [(11, .int (nI (k2 + 1))), (7, .long (lN (s0 + 0))), (0, .ref (a 0)), (1, .int (nI b2)), (2, .int (nI x2)), (3, .int (nI n2)), (4, .int (nI c2)), (5, .int (nI ((T b2).length))), (6, .int (nI m)), (9, .long (lN w)), (12, .long (lN v)), (14, .int (nI j))]) xh bh dX9_odds_219 hl (k := 9) rfl (by exact xn_inc _ _) (by decide) rfl (fun ls hl => ?_)
                                    refine lv_goto (tgt := 135) xh bh dX9_odds_222 (by decide) ?_
                                    exact ih_135 (k2 + 1) (s0 + 0) (by omega) (by show _ = smN (T b2).length m n2 c2 k2 + (if m = 0 then 0 else csL c2 k2 (chN n2 k2) n2 * stN (T b2).length m (min k2 (T b2).length)); rw [hs]; first | rw [if_pos c_192] | rw [if_neg c_192, ← hv8]) (by omega) _ _ ls hP hD hS (lv_sub hl [2, 3, 4, 5, 6, 7, 8, 1, 9, 0] rfl)
                                · refine lv_lload xh bh dX9_odds_158 (lv_at hl 10 rfl) ?_
                                  refine lv_iload xh bh dX9_odds_160 (lv_at hl 11 rfl) ?_
                                  refine lv_iload xh bh dX9_odds_162 (lv_at hl 9 rfl) ?_
                                  refine xn_icmp_ge (tgt := 173) xh bh dX9_odds_164 (by decide) (by omega) (by omega) (fun c_164 => ?_) (fun c_164 => ?_)
                                  · refine lv_bipush (v := (nI 10)) xh bh dX9_odds_173 (by decide) ?_
                                    refine lv_iload xh bh dX9_odds_175 (lv_at hl 4 rfl) ?_
                                    refine xn_isub xh bh dX9_odds_177 (by omega) ?_
                                    refine xn_i2l xh bh dX9_odds_178 (by omega) ?_
                                    refine xq_lmul xh bh dX9_odds_179 ?_
                                    refine lv_lstore (lv' := [(12, .long (lN (v * (10 - c2)))), (0, .ref (a 0)), (1, .int (nI b2)), (2, .int (nI x2)), (3, .int (nI n2)), (4, .int (nI c2)), (5, .int (nI ((T b2).length))), (6, .int (nI m)), (7, .long (lN s0)), (9, .long (lN w)), (11, .int (nI k2)), (14, .int (nI j))]) xh bh dX9_odds_180 hl (by decide) rfl (fun ls hl => ?_)
                                    refine lv_iinc (v := (nI (j + 1))) (lv' := [(14, .int (nI (j + 1))), (12, .long (lN (v * (10 - c2)))), (0, .ref (a 0)), (1, .int (nI b2)), (2, .int (nI x2)), (3, .int (nI n2)), (4, .int (nI c2)), (5, .int (nI ((T b2).length))), (6, .int (nI m)), (7, .long (lN s0)), (9, .long (lN w)), (11, .int (nI k2))]) xh bh dX9_odds_182 hl (k := 11) rfl (by exact xn_inc _ _) (by decide) rfl (fun ls hl => ?_)
                                    refine lv_goto (tgt := 152) xh bh dX9_odds_185 (by decide) ?_
                                    exact ih_152 (j + 1) (v * (10 - c2)) (by omega) (by rw [hv]; first | exact congrArg (fun z => csL c2 k2 (chN n2 k2) j * z) (if_pos c_164).symm | exact congrArg (fun z => csL c2 k2 (chN n2 k2) j * z) (if_neg (by omega)).symm) (by omega) _ _ ls hP hD hS (lv_sub hl [2, 3, 4, 5, 6, 7, 8, 9, 10, 11, 1, 0] rfl)
                                  · refine lv_iload xh bh dX9_odds_167 (lv_at hl 4 rfl) ?_
                                    refine xn_i2l xh bh dX9_odds_169 (by omega) ?_
                                    refine lv_goto (tgt := 179) xh bh dX9_odds_170 (by decide) ?_
                                    refine xq_lmul xh bh dX9_odds_179 ?_
                                    refine lv_lstore (lv' := [(12, .long (lN (v * c2))), (0, .ref (a 0)), (1, .int (nI b2)), (2, .int (nI x2)), (3, .int (nI n2)), (4, .int (nI c2)), (5, .int (nI ((T b2).length))), (6, .int (nI m)), (7, .long (lN s0)), (9, .long (lN w)), (11, .int (nI k2)), (14, .int (nI j))]) xh bh dX9_odds_180 hl (by decide) rfl (fun ls hl => ?_)
                                    refine lv_iinc (v := (nI (j + 1))) (lv' := [(14, .int (nI (j + 1))), (12, .long (lN (v * c2))), (0, .ref (a 0)), (1, .int (nI b2)), (2, .int (nI x2)), (3, .int (nI n2)), (4, .int (nI c2)), (5, .int (nI ((T b2).length))), (6, .int (nI m)), (7, .long (lN s0)), (9, .long (lN w)), (11, .int (nI k2))]) xh bh dX9_odds_182 hl (k := 11) rfl (by exact xn_inc _ _) (by decide) rfl (fun ls hl => ?_)
                                    refine lv_goto (tgt := 152) xh bh dX9_odds_185 (by decide) ?_
                                    exact ih_152 (j + 1) (v * c2) (by omega) (by rw [hv]; first | exact congrArg (fun z => csL c2 k2 (chN n2 k2) j * z) (if_pos c_164).symm | exact congrArg (fun z => csL c2 k2 (chN n2 k2) j * z) (if_neg (by omega)).symm) (by omega) _ _ ls hP hD hS (lv_sub hl [2, 3, 4, 5, 6, 7, 8, 9, 10, 11, 1, 0] rfl)
                            exact cut_152 (n2 - 0 + 1) 0 (chN n2 k2) (by exact Nat.zero_le _) (by rfl) (Nat.lt_succ_self _) _ _ ls hP hD hS (lv_sub hl [2, 3, 4, 5, 6, 7, 8, 9, 10, 11, 1, 0] rfl)
                      exact cut_135 (n2 + 1 - 0 + 1) 0 0 (by exact Nat.zero_le _) (by rfl) (Nat.lt_succ_self _) _ _ ls hP hD hS (lv_sub hl [1, 2, 3, 4, 5, 6, 7, 8, 9, 0] rfl)
                    · refine lv_lload xh bh dX9_odds_118 (lv_at hl 8 rfl) ?_
                      refine lv_ldc2 (v := (lN 10)) xh bh hown (hts _ (List.mem_of_getElem? (i := 2) rfl)) dX9_odds_120 ?_
                      refine xq_lmul xh bh dX9_odds_123 ?_
                      refine lv_lstore (lv' := [(9, .long (lN (w * 10))), (0, .ref (a 0)), (1, .int (nI b2)), (2, .int (nI x2)), (3, .int (nI n2)), (4, .int (nI c2)), (5, .int (nI ((T b2).length))), (6, .int (nI m)), (7, .long (lN 0)), (11, .int (nI k))]) xh bh dX9_odds_124 hl (by decide) rfl (fun ls hl => ?_)
                      refine lv_iinc (v := (nI (k + 1))) (lv' := [(11, .int (nI (k + 1))), (9, .long (lN (w * 10))), (0, .ref (a 0)), (1, .int (nI b2)), (2, .int (nI x2)), (3, .int (nI n2)), (4, .int (nI c2)), (5, .int (nI ((T b2).length))), (6, .int (nI m)), (7, .long (lN 0))]) xh bh dX9_odds_126 hl (k := 9) rfl (by exact xn_inc _ _) (by decide) rfl (fun ls hl => ?_)
                      refine lv_goto (tgt := 112) xh bh dX9_odds_129 (by decide) ?_
                      exact ih_112 (k + 1) (w * 10) (by omega) (by rw [hw, Nat.pow_succ, ← Nat.mul_assoc]) (by omega) _ _ ls hP hD hS (lv_sub hl [2, 3, 4, 5, 6, 7, 8, 9, 1, 0] rfl)
                exact cut_112 (n2 - 0 + 1) 0 5040 (by exact Nat.zero_le _) (by rfl) (Nat.lt_succ_self _) _ _ ls hP hD hS (lv_sub hl [3, 4, 5, 6, 7, 8, 9, 2, 1, 0] rfl)
              · refine lv_iload xh bh dX9_odds_70 (lv_at hl 6 rfl) ?_
                refine lv_aload_n xh bh dX9_odds_72 rfl (lv_at hl 0 rfl) ?_
                refine va_get (D := D) (ci := 6) (v := .ref (a 1)) (C := RX9) (T := TX9) (N := 27) xh bh hts (fun _ h => List.mem_cons_of_mem _ (List.mem_append_right _ (h))) hown hK.1 hP 0 rfl rfl 0 (by decide) (hts _ (List.mem_of_getElem? (i := 3) rfl)) (fun _ h9 => h9) rfl dX9_odds_73 ?_
                refine lv_iload_n xh bh dX9_odds_76 rfl (lv_at hl 1 rfl) ?_
                refine xa_lald xh bh hK.1 hP 1 1 rfl rfl (by omega) (by omega) dX9_odds_77 ?_
                refine W.eq (g2 := F0 mG 78 ls [.long (eR (T b2)), .int (nI m)]) rfl ?_
                refine lv_iload xh bh dX9_odds_78 (lv_at hl 7 rfl) ?_
                refine Ct.callS0 (rest := [.int (nI m)]) xh bh hml hown hts hK hP hS hA (ct_X9_partOf l D cI cJ cB cZ cA (T b2) i (by exact hT _) (by omega)) (va_cwS 2 hts gX9_odds_X9_partOf rfl rfl rfl (by decide +kernel) ⟨Nat.le_of_ble_eq_true rfl, Nat.le_of_ble_eq_true rfl⟩) rfl rfl hl.1 (Nat.le_of_ble_eq_true rfl) dX9_odds_80 ⟨Nat.le_refl _, Nat.le_refl _⟩ (fun _ H locs _ hP hS => ?_)
                refine W.eq (g2 := F0 mG 83 ls [.int (nI ((T b2).getD i 0)), .int (nI m)]) rfl ?_
                refine lv_iload_n xh bh dX9_odds_83 rfl (lv_at hl 2 rfl) ?_
                refine xn_icmp_ne (tgt := 91) xh bh dX9_odds_84 (by decide) (by have := (hT b2).getD i; omega) (by have := (hT b2).getD i; omega) (fun c_84 => ?_) (fun c_84 => ?_)
                · refine lv_iconst (v := (nI 0)) xh bh dX9_odds_91 (by decide) ?_
                  refine xn_iadd xh bh dX9_odds_92 ?_
                  refine lv_istore (lv' := [(6, .int (nI (m + 0))), (0, .ref (a 0)), (1, .int (nI b2)), (2, .int (nI x2)), (3, .int (nI n2)), (4, .int (nI c2)), (5, .int (nI ((T b2).length))), (7, .int (nI i))]) xh bh dX9_odds_93 hl (by decide) rfl (fun ls hl => ?_)
                  refine lv_iinc (v := (nI (i + 1))) (lv' := [(7, .int (nI (i + 1))), (6, .int (nI (m + 0))), (0, .ref (a 0)), (1, .int (nI b2)), (2, .int (nI x2)), (3, .int (nI n2)), (4, .int (nI c2)), (5, .int (nI ((T b2).length)))]) xh bh dX9_odds_95 hl (k := 7) rfl (by exact xn_inc _ _) (by decide) rfl (fun ls hl => ?_)
                  refine lv_goto (tgt := 63) xh bh dX9_odds_98 (by decide) ?_
                  exact ih_63 (i + 1) (m + 0) (by omega) (by first | (rw [hm9, cntN_y c_84]) | (rw [hm9, cntN_n c_84, Nat.add_zero])) (by omega) _ _ ls hP hD hS (lv_sub hl [2, 3, 4, 5, 6, 7, 1, 0] rfl)
                · refine lv_iconst (v := (nI 1)) xh bh dX9_odds_87 (by decide) ?_
                  refine lv_goto (tgt := 92) xh bh dX9_odds_88 (by decide) ?_
                  refine xn_iadd xh bh dX9_odds_92 ?_
                  refine lv_istore (lv' := [(6, .int (nI (m + 1))), (0, .ref (a 0)), (1, .int (nI b2)), (2, .int (nI x2)), (3, .int (nI n2)), (4, .int (nI c2)), (5, .int (nI ((T b2).length))), (7, .int (nI i))]) xh bh dX9_odds_93 hl (by decide) rfl (fun ls hl => ?_)
                  refine lv_iinc (v := (nI (i + 1))) (lv' := [(7, .int (nI (i + 1))), (6, .int (nI (m + 1))), (0, .ref (a 0)), (1, .int (nI b2)), (2, .int (nI x2)), (3, .int (nI n2)), (4, .int (nI c2)), (5, .int (nI ((T b2).length)))]) xh bh dX9_odds_95 hl (k := 7) rfl (by exact xn_inc _ _) (by decide) rfl (fun ls hl => ?_)
                  refine lv_goto (tgt := 63) xh bh dX9_odds_98 (by decide) ?_
                  exact ih_63 (i + 1) (m + 1) (by omega) (by first | (rw [hm9, cntN_y c_84]) | (rw [hm9, cntN_n c_84, Nat.add_zero])) (by omega) _ _ ls hP hD hS (lv_sub hl [2, 3, 4, 5, 6, 7, 1, 0] rfl)
          exact cut_63 ((T b2).length - 0 + 1) 0 0 (by exact Nat.zero_le _) (by rfl) (Nat.lt_succ_self _) _ _ ls hP hD hS (lv_sub hl [3, 4, 5, 6, 7, 2, 1, 0] rfl)
        · have hk : kOd b x n c1 = 0 := if_neg (fun q => by rw [c_36] at q; exact absurd q.2.2.2 (by decide))
          refine lv_aload_n xh bh dX9_odds_39 rfl (lv_at hl 0 rfl) ?_
          refine lv_bipush (v := (-2)) xh bh dX9_odds_40 (by decide) ?_
          refine Ct.callV (As := [.int (-2)]) (rest := []) (wr := [(a 1, .inl (cJ, 9, .inr (.inl (fR T))))]) xh bh hml hown hts hK hP hD hS hA (ct_X9_bad l D cI cJ cB cZ cA a rf hm un fa fb lx bl ta tl tk va (-2) ) (cwV 1 hts gX9_odds_X9_bad rfl rfl rfl (by decide +kernel) ⟨Nat.le_of_ble_eq_true rfl, Nat.le_of_ble_eq_true rfl⟩) rfl rfl hl.1 (Nat.le_of_ble_eq_true rfl) dX9_odds_42 ⟨Nat.le_refl _, Nat.le_refl _⟩ 0 6 rfl rfl rfl [0, 2] [1] rfl (by decide) rfl rfl (by decide) (by decide) (fun _ H locs _ hP hD hS => ?_)
          have hP : va_P D vwCl [(a 1, .inl (cJ, 9, .inr (.inl (fR T)))), (a 0, .inr (6, [.ref (a 1), .ref (a 2), .int (nI hm), .int (nI un), .ref (a 3), .ref (a 4), .ref (a 5), .ref (a 6), .ref (a 7), .ref (a 8), .ref (a 9), .ref (a 10), .ref (a 11), .ref (a 12), .long fa, .long fb, .ref (a 13), .long (lN lx), .ref (a 14), .int (nI bl), .int (nI ta), .int (nI tl), .int (nI tk), .int (nI va), .ref (a 15), .ref (a 16), .ref (a 17)])), (a 12, .inl (cI, 3, .inl (upd rf 0 ((rf 0) + nI 1))))] H := hP
          have hD : va_D AG [(a 1, .inl (cJ, 9, .inr (.inl (fR T)))), (a 0, .inr (6, [.ref (a 1), .ref (a 2), .int (nI hm), .int (nI un), .ref (a 3), .ref (a 4), .ref (a 5), .ref (a 6), .ref (a 7), .ref (a 8), .ref (a 9), .ref (a 10), .ref (a 11), .ref (a 12), .long fa, .long fb, .ref (a 13), .long (lN lx), .ref (a 14), .int (nI bl), .int (nI ta), .int (nI tl), .int (nI tk), .int (nI va), .ref (a 15), .ref (a 16), .ref (a 17)])), (a 12, .inl (cI, 3, .inl (upd rf 0 ((rf 0) + nI 1))))] := hD
          refine W.eq (g2 := F0 mG 45 ls [.int (-2)]) rfl ?_
          exact hend (-2) () _ _ _ _ (congrArg (fun z => some (Value.int z)) (by rw [hk]; rfl)) trivial rfl dX9_odds_45 (by rw [hk]; exact (hP.sub [1, 0, 2] rfl)) (by rw [hk]; exact (hD.sub [1, 0, 2] (by decide) rfl)) hS

set_option maxHeartbeats 1000000 in
set_option maxRecDepth 100000 in
theorem ct_X9_draw (l : Launch) (D : va_G) (cI cJ cB cZ cA : ClassId) (a : Nat → Nat) (hm : Nat) (un : Nat) (fa : Int64) (fb : Int64) (lx : Nat) (bl : Nat) (ta : Nat) (tl : Nat) (tk : Nat) (va : Nat) (n : Nat) (hx : lx < 2147483648) (hn : 0 < n ∧ n ≤ 10) : Ct l yX9_draw wsX9_draw ({ frames := 0, cells := 0, slots := 0, locals := 0 }) D (tysG cI cJ cB cZ cA) [.ref (a 0), .int (nI n)] [(a 0, .inr (6, [.ref (a 1), .ref (a 2), .int (nI hm), .int (nI un), .ref (a 3), .ref (a 4), .ref (a 5), .ref (a 6), .ref (a 7), .ref (a 8), .ref (a 9), .ref (a 10), .ref (a 11), .ref (a 12), .long fa, .long fb, .ref (a 13), .long (lN lx), .ref (a 14), .int (nI bl), .int (nI ta), .int (nI tl), .int (nI tk), .int (nI va), .ref (a 15), .ref (a 16), .ref (a 17)]))] (fun (_ : Unit) => True) (fun _ => some (.int (nI (lcg lx / 65536 % n)))) (fun _ => [(a 0, .inr (6, [.ref (a 1), .ref (a 2), .int (nI hm), .int (nI un), .ref (a 3), .ref (a 4), .ref (a 5), .ref (a 6), .ref (a 7), .ref (a 8), .ref (a 9), .ref (a 10), .ref (a 11), .ref (a 12), .long fa, .long fb, .ref (a 13), .long (lN (lcg lx)), .ref (a 14), .int (nI bl), .int (nI ta), .int (nI tl), .int (nI tk), .int (nI va), .ref (a 15), .ref (a 16), .ref (a 17)]))]) := by
  refine Ct.ofI (cc := cX9_draw) (maxL := 2) (by decide) rfl (Nat.le_of_ble_eq_true rfl) ?_
  intro pG eG sG mG aG bG tG cG AG QG ls xh bh hml hown hts hK hP hD hS hA hend hl
  have hl : lv_has ls 2 [(0, .ref (a 0)), (1, .int (nI n))] := hl
  refine lv_aload_n xh bh dX9_draw_0 rfl (lv_at hl 0 rfl) ?_
  refine lv_aload_n xh bh dX9_draw_1 rfl (lv_at hl 0 rfl) ?_
  refine va_get (D := D) (ci := 6) (v := .long (lN lx)) (C := RX9) (T := TX9) (N := 27) xh bh hts (fun _ h => List.mem_cons_of_mem _ (List.mem_append_right _ (h))) hown hK.1 hP 0 rfl rfl 17 (by decide) (hts _ (List.mem_of_getElem? (i := 1) rfl)) (fun _ h9 => h9) rfl dX9_draw_2 ?_
  refine lv_ldc2 (v := (lN 1103515245)) xh bh hown (hts _ (List.mem_of_getElem? (i := 2) rfl)) dX9_draw_5 ?_
  refine xq_lmul xh bh dX9_draw_8 ?_
  refine lv_ldc2 (v := (lN 12345)) xh bh hown (hts _ (List.mem_of_getElem? (i := 3) rfl)) dX9_draw_9 ?_
  refine xq_ladd xh bh dX9_draw_12 ?_
  refine lv_ldc2 (v := (lN 2147483648)) xh bh hown (hts _ (List.mem_of_getElem? (i := 4) rfl)) dX9_draw_13 ?_
  refine xq_lrem xh bh dX9_draw_16 (by omega) (by omega) (by omega) ?_
  refine va_put (D := D) (ci := 6) (v := .long (lN (((lx * 1103515245) + 12345) % 2147483648))) (ty := .long) (C := RX9) (T := TX9) (N := 27) xh bh hts (fun _ h => List.mem_cons_of_mem _ (List.mem_append_right _ (h))) tyX9 tyX9_ok nmX9 hown hK.1 hP hD hS 0 rfl rfl 17 (by decide) (hts _ (List.mem_of_getElem? (i := 1) rfl)) (fun _ h9 => h9) rfl (by decide +kernel) (by rfl) (by rfl) (Nat.le_of_ble_eq_true rfl) dX9_draw_17 (fun H locs hP hD hS => ?_)
  have hP : va_P D vwCl [(a 0, .inr (6, [.ref (a 1), .ref (a 2), .int (nI hm), .int (nI un), .ref (a 3), .ref (a 4), .ref (a 5), .ref (a 6), .ref (a 7), .ref (a 8), .ref (a 9), .ref (a 10), .ref (a 11), .ref (a 12), .long fa, .long fb, .ref (a 13), .long (lN (((lx * 1103515245) + 12345) % 2147483648)), .ref (a 14), .int (nI bl), .int (nI ta), .int (nI tl), .int (nI tk), .int (nI va), .ref (a 15), .ref (a 16), .ref (a 17)]))] H := hP
  have hD : va_D AG [(a 0, .inr (6, [.ref (a 1), .ref (a 2), .int (nI hm), .int (nI un), .ref (a 3), .ref (a 4), .ref (a 5), .ref (a 6), .ref (a 7), .ref (a 8), .ref (a 9), .ref (a 10), .ref (a 11), .ref (a 12), .long fa, .long fb, .ref (a 13), .long (lN (((lx * 1103515245) + 12345) % 2147483648)), .ref (a 14), .int (nI bl), .int (nI ta), .int (nI tl), .int (nI tk), .int (nI va), .ref (a 15), .ref (a 16), .ref (a 17)]))] := hD
  refine lv_aload_n xh bh dX9_draw_20 rfl (lv_at hl 0 rfl) ?_
  refine va_get (D := D) (ci := 6) (v := .long (lN (((lx * 1103515245) + 12345) % 2147483648))) (C := RX9) (T := TX9) (N := 27) xh bh hts (fun _ h => List.mem_cons_of_mem _ (List.mem_append_right _ (h))) hown hK.1 hP 0 rfl rfl 17 (by decide) (hts _ (List.mem_of_getElem? (i := 1) rfl)) (fun _ h9 => h9) rfl dX9_draw_21 ?_
  refine lv_ldc2 (v := (lN 65536)) xh bh hown (hts _ (List.mem_of_getElem? (i := 5) rfl)) dX9_draw_24 ?_
  refine xq_ldiv xh bh dX9_draw_27 (by omega) (by omega) (by omega) ?_
  refine lv_iload_n xh bh dX9_draw_28 rfl (lv_at hl 1 rfl) ?_
  refine xn_i2l xh bh dX9_draw_29 (by omega) ?_
  refine xq_lrem xh bh dX9_draw_30 (by have : (lx * 1103515245 + 12345) % 2147483648 / 65536 ≤ (lx * 1103515245 + 12345) % 2147483648 := Nat.div_le_self _ _; omega) (by omega) (by omega) ?_
  refine xq_l2i xh bh dX9_draw_31 ?_
  exact hend (nI (((((lx * 1103515245) + 12345) % 2147483648) / 65536) % n)) () _ _ _ _ (congrArg (fun z => some (Value.int (nI z))) (by rfl)) trivial rfl dX9_draw_32 hP hD hS

set_option maxHeartbeats 1000000 in
set_option maxRecDepth 100000 in
theorem ct_X9_centuries (l : Launch) (D : va_G) (cI cJ cB cZ cA : ClassId) (a : Nat → Nat) (T : Nat → List Nat) (rf : Nat → Int32) (hm : Nat) (un : Nat) (fa : Int64) (fb : Int64) (lx : Nat) (bl : Nat) (ta : Nat) (tl : Nat) (tk : Nat) (va : Nat) (b : Int32) (s0 : Int32) (n : Int32) (hT : ∀ k, okT (T k)) : Ct l yX9_centuries wsX9_centuries ({ frames := 5, cells := 0, slots := 0, locals := 119 }) D (tysG cI cJ cB cZ cA) [.ref (a 0), .int b, .int s0, .int n] [(a 0, .inr (6, [.ref (a 1), .ref (a 2), .int (nI hm), .int (nI un), .ref (a 3), .ref (a 4), .ref (a 5), .ref (a 6), .ref (a 7), .ref (a 8), .ref (a 9), .ref (a 10), .ref (a 11), .ref (a 12), .long fa, .long fb, .ref (a 13), .long (lN lx), .ref (a 14), .int (nI bl), .int (nI ta), .int (nI tl), .int (nI tk), .int (nI va), .ref (a 15), .ref (a 16), .ref (a 17)])), (a 1, .inl (cJ, 9, .inr (.inl (fR T)))), (a 12, .inl (cI, 3, .inl rf))] (fun (u : Nat) => True) (fun u => some (.int (eCe (kCe b s0 n) (ceI (T (xN b)) (xN s0) 0 (xN n + 1))))) (fun u => [(a 0, .inr (6, [.ref (a 1), .ref (a 2), .int (nI hm), .int (nI un), .ref (a 3), .ref (a 4), .ref (a 5), .ref (a 6), .ref (a 7), .ref (a 8), .ref (a 9), .ref (a 10), .ref (a 11), .ref (a 12), .long fa, .long fb, .ref (a 13), .long (lN u), .ref (a 14), .int (nI bl), .int (nI ta), .int (nI tl), .int (nI tk), .int (nI va), .ref (a 15), .ref (a 16), .ref (a 17)])), (a 1, .inl (cJ, 9, .inr (.inl (fR T)))), (a 12, .inl (cI, 3, .inl (rfU (kCe b s0 n) rf)))]) := by
  refine Ct.ofI (cc := cX9_centuries) (maxL := 10) (by decide) rfl (Nat.le_of_ble_eq_true rfl) ?_
  intro pG eG sG mG aG bG tG cG AG QG ls xh bh hml hown hts hK hP hD hS hA hend hl
  have hl : lv_has ls 10 [(0, .ref (a 0)), (1, .int b), (2, .int s0), (3, .int n)] := hl
  refine lv_iload_n xh bh dX9_centuries_0 rfl (lv_at hl 1 rfl) ?_
  refine Ct.callS0 (rest := []) xh bh hml hown hts hK hP hS hA (ct_X9_isBranch l D cI cJ cB cZ cA b ) (va_cwS 1 hts gX9_centuries_X9_isBranch rfl rfl rfl (by decide +kernel) ⟨Nat.le_of_ble_eq_true rfl, Nat.le_of_ble_eq_true rfl⟩) rfl rfl hl.1 (Nat.le_of_ble_eq_true rfl) dX9_centuries_1 ⟨Nat.le_refl _, Nat.le_refl _⟩ (fun _ H locs _ hP hS => ?_)
  refine W.eq (g2 := F0 mG 4 ls [.int (ib (upB b 7))]) rfl ?_
  refine xb_if_eq (tgt := 31) xh bh dX9_centuries_4 (by decide) (fun c_4 => ?_) (fun c_4 => ?_)
  · have hk : kCe b s0 n = 0 := if_neg (fun q => by rw [c_4] at q; exact absurd q.1 (by decide))
    refine lv_aload_n xh bh dX9_centuries_31 rfl (lv_at hl 0 rfl) ?_
    refine lv_bipush (v := (-2)) xh bh dX9_centuries_32 (by decide) ?_
    refine Ct.callV (As := [.int (-2)]) (rest := []) (wr := [(a 1, .inl (cJ, 9, .inr (.inl (fR T))))]) xh bh hml hown hts hK hP hD hS hA (ct_X9_bad l D cI cJ cB cZ cA a rf hm un fa fb lx bl ta tl tk va (-2) ) (cwV 1 hts gX9_centuries_X9_bad rfl rfl rfl (by decide +kernel) ⟨Nat.le_of_ble_eq_true rfl, Nat.le_of_ble_eq_true rfl⟩) rfl rfl hl.1 (Nat.le_of_ble_eq_true rfl) dX9_centuries_34 ⟨Nat.le_refl _, Nat.le_refl _⟩ 0 6 rfl rfl rfl [0, 2] [1] rfl (by decide) rfl rfl (by decide) (by decide) (fun _ H locs _ hP hD hS => ?_)
    have hP : va_P D vwCl [(a 1, .inl (cJ, 9, .inr (.inl (fR T)))), (a 0, .inr (6, [.ref (a 1), .ref (a 2), .int (nI hm), .int (nI un), .ref (a 3), .ref (a 4), .ref (a 5), .ref (a 6), .ref (a 7), .ref (a 8), .ref (a 9), .ref (a 10), .ref (a 11), .ref (a 12), .long fa, .long fb, .ref (a 13), .long (lN lx), .ref (a 14), .int (nI bl), .int (nI ta), .int (nI tl), .int (nI tk), .int (nI va), .ref (a 15), .ref (a 16), .ref (a 17)])), (a 12, .inl (cI, 3, .inl (upd rf 0 ((rf 0) + nI 1))))] H := hP
    have hD : va_D AG [(a 1, .inl (cJ, 9, .inr (.inl (fR T)))), (a 0, .inr (6, [.ref (a 1), .ref (a 2), .int (nI hm), .int (nI un), .ref (a 3), .ref (a 4), .ref (a 5), .ref (a 6), .ref (a 7), .ref (a 8), .ref (a 9), .ref (a 10), .ref (a 11), .ref (a 12), .long fa, .long fb, .ref (a 13), .long (lN lx), .ref (a 14), .int (nI bl), .int (nI ta), .int (nI tl), .int (nI tk), .int (nI va), .ref (a 15), .ref (a 16), .ref (a 17)])), (a 12, .inl (cI, 3, .inl (upd rf 0 ((rf 0) + nI 1))))] := hD
    refine W.eq (g2 := F0 mG 37 ls [.int (-2)]) rfl ?_
    exact hend (-2) lx _ _ _ _ (congrArg (fun z => some (Value.int z)) (by rw [hk]; rfl)) trivial rfl dX9_centuries_37 (by rw [hk]; exact (hP.sub [1, 0, 2] rfl)) (by rw [hk]; exact (hD.sub [1, 0, 2] (by decide) rfl)) hS
  · refine lv_iload_n xh bh dX9_centuries_7 rfl (lv_at hl 2 rfl) ?_
    refine lv_i2l xh bh dX9_centuries_8 rfl ?_
    refine lv_lconst (v := lN 0) xh bh dX9_centuries_9 (by decide) ?_
    refine lv_ldc2 (v := (lN 999999)) xh bh hown (hts _ (List.mem_of_getElem? (i := 1) rfl)) dX9_centuries_10 ?_
    refine Ct.callS0 (rest := []) xh bh hml hown hts hK hP hS hA (ct_X9_in l D cI cJ cB cZ cA s0.toInt64 (lN 0) (lN 999999) ) (va_cwS 3 hts gX9_centuries_X9_in rfl rfl rfl (by decide +kernel) ⟨Nat.le_of_ble_eq_true rfl, Nat.le_of_ble_eq_true rfl⟩) rfl rfl hl.1 (Nat.le_of_ble_eq_true rfl) dX9_centuries_13 ⟨Nat.le_refl _, Nat.le_refl _⟩ (fun _ H locs _ hP hS => ?_)
    refine W.eq (g2 := F0 mG 16 ls [.int (ib (decide (¬ s0.toInt64 < (lN 0) ∧ ¬ (lN 999999) < s0.toInt64)))]) rfl ?_
    refine xw_topi (x := (ib (decide (¬ s0.toInt64 < (lN 0) ∧ ¬ (lN 999999) < s0.toInt64)))) (y := (ib (upB s0 999999))) (by rw [upB_long (by decide)]) ?_
    refine xb_if_eq (tgt := 31) xh bh dX9_centuries_16 (by decide) (fun c_16 => ?_) (fun c_16 => ?_)
    · have hk : kCe b s0 n = 0 := if_neg (fun q => by rw [c_16] at q; exact absurd q.2.1 (by decide))
      refine lv_aload_n xh bh dX9_centuries_31 rfl (lv_at hl 0 rfl) ?_
      refine lv_bipush (v := (-2)) xh bh dX9_centuries_32 (by decide) ?_
      refine Ct.callV (As := [.int (-2)]) (rest := []) (wr := [(a 1, .inl (cJ, 9, .inr (.inl (fR T))))]) xh bh hml hown hts hK hP hD hS hA (ct_X9_bad l D cI cJ cB cZ cA a rf hm un fa fb lx bl ta tl tk va (-2) ) (cwV 1 hts gX9_centuries_X9_bad rfl rfl rfl (by decide +kernel) ⟨Nat.le_of_ble_eq_true rfl, Nat.le_of_ble_eq_true rfl⟩) rfl rfl hl.1 (Nat.le_of_ble_eq_true rfl) dX9_centuries_34 ⟨Nat.le_refl _, Nat.le_refl _⟩ 0 6 rfl rfl rfl [0, 2] [1] rfl (by decide) rfl rfl (by decide) (by decide) (fun _ H locs _ hP hD hS => ?_)
      have hP : va_P D vwCl [(a 1, .inl (cJ, 9, .inr (.inl (fR T)))), (a 0, .inr (6, [.ref (a 1), .ref (a 2), .int (nI hm), .int (nI un), .ref (a 3), .ref (a 4), .ref (a 5), .ref (a 6), .ref (a 7), .ref (a 8), .ref (a 9), .ref (a 10), .ref (a 11), .ref (a 12), .long fa, .long fb, .ref (a 13), .long (lN lx), .ref (a 14), .int (nI bl), .int (nI ta), .int (nI tl), .int (nI tk), .int (nI va), .ref (a 15), .ref (a 16), .ref (a 17)])), (a 12, .inl (cI, 3, .inl (upd rf 0 ((rf 0) + nI 1))))] H := hP
      have hD : va_D AG [(a 1, .inl (cJ, 9, .inr (.inl (fR T)))), (a 0, .inr (6, [.ref (a 1), .ref (a 2), .int (nI hm), .int (nI un), .ref (a 3), .ref (a 4), .ref (a 5), .ref (a 6), .ref (a 7), .ref (a 8), .ref (a 9), .ref (a 10), .ref (a 11), .ref (a 12), .long fa, .long fb, .ref (a 13), .long (lN lx), .ref (a 14), .int (nI bl), .int (nI ta), .int (nI tl), .int (nI tk), .int (nI va), .ref (a 15), .ref (a 16), .ref (a 17)])), (a 12, .inl (cI, 3, .inl (upd rf 0 ((rf 0) + nI 1))))] := hD
      refine W.eq (g2 := F0 mG 37 ls [.int (-2)]) rfl ?_
      exact hend (-2) lx _ _ _ _ (congrArg (fun z => some (Value.int z)) (by rw [hk]; rfl)) trivial rfl dX9_centuries_37 (by rw [hk]; exact (hP.sub [1, 0, 2] rfl)) (by rw [hk]; exact (hD.sub [1, 0, 2] (by decide) rfl)) hS
    · refine lv_iload_n xh bh dX9_centuries_19 rfl (lv_at hl 3 rfl) ?_
      refine lv_i2l xh bh dX9_centuries_20 rfl ?_
      refine lv_lconst (v := lN 0) xh bh dX9_centuries_21 (by decide) ?_
      refine lv_ldc2 (v := (lN 60)) xh bh hown (hts _ (List.mem_of_getElem? (i := 2) rfl)) dX9_centuries_22 ?_
      refine Ct.callS0 (rest := []) xh bh hml hown hts hK hP hS hA (ct_X9_in l D cI cJ cB cZ cA n.toInt64 (lN 0) (lN 60) ) (va_cwS 3 hts gX9_centuries_X9_in rfl rfl rfl (by decide +kernel) ⟨Nat.le_of_ble_eq_true rfl, Nat.le_of_ble_eq_true rfl⟩) rfl rfl hl.1 (Nat.le_of_ble_eq_true rfl) dX9_centuries_25 ⟨Nat.le_refl _, Nat.le_refl _⟩ (fun _ H locs _ hP hS => ?_)
      refine W.eq (g2 := F0 mG 28 ls [.int (ib (decide (¬ n.toInt64 < (lN 0) ∧ ¬ (lN 60) < n.toInt64)))]) rfl ?_
      refine xw_topi (x := (ib (decide (¬ n.toInt64 < (lN 0) ∧ ¬ (lN 60) < n.toInt64)))) (y := (ib (upB n 60))) (by rw [upB_long (by decide)]) ?_
      refine xb_if_ne (tgt := 38) xh bh dX9_centuries_28 (by decide) (fun c_28 => ?_) (fun c_28 => ?_)
      · have hk : kCe b s0 n = 3 := if_pos ⟨c_4, c_16, c_28⟩
        obtain ⟨b2, hb9, rfl⟩ := upB_of (by decide) c_4
        obtain ⟨s2, hs9, rfl⟩ := upB_of (by decide) c_16
        obtain ⟨n2, hn9, rfl⟩ := upB_of (by decide) c_28
        refine lv_aload_n xh bh dX9_centuries_38 rfl (lv_at hl 0 rfl) ?_
        refine va_get (D := D) (ci := 6) (v := .ref (a 1)) (C := RX9) (T := TX9) (N := 27) xh bh hts (fun _ h => List.mem_cons_of_mem _ (List.mem_append_right _ (h))) hown hK.1 hP 0 rfl rfl 0 (by decide) (hts _ (List.mem_of_getElem? (i := 3) rfl)) (fun _ h9 => h9) rfl dX9_centuries_39 ?_
        refine lv_iload_n xh bh dX9_centuries_42 rfl (lv_at hl 1 rfl) ?_
        refine xa_lald xh bh hK.1 hP 1 1 rfl rfl (by omega) (by omega) dX9_centuries_43 ?_
        refine W.eq (g2 := F0 mG 44 ls [.long (eR (T b2))]) rfl ?_
        refine lv_lstore (lv' := [(4, .long (eR (T b2))), (0, .ref (a 0)), (1, .int (nI b2)), (2, .int (nI s2)), (3, .int (nI n2))]) xh bh dX9_centuries_44 hl (by decide) rfl (fun ls hl => ?_)
        refine lv_aload_n xh bh dX9_centuries_46 rfl (lv_at hl 1 rfl) ?_
        refine lv_iload_n xh bh dX9_centuries_47 rfl (lv_at hl 3 rfl) ?_
        refine xn_i2l xh bh dX9_centuries_48 (by omega) ?_
        refine va_put (D := D) (ci := 6) (v := .long (lN s2)) (ty := .long) (C := RX9) (T := TX9) (N := 27) xh bh hts (fun _ h => List.mem_cons_of_mem _ (List.mem_append_right _ (h))) tyX9 tyX9_ok nmX9 hown hK.1 hP hD hS 0 rfl rfl 17 (by decide) (hts _ (List.mem_of_getElem? (i := 4) rfl)) (fun _ h9 => h9) rfl (by decide +kernel) (by rfl) (by rfl) (Nat.le_of_ble_eq_true rfl) dX9_centuries_49 (fun H locs hP hD hS => ?_)
        have hP : va_P D vwCl [(a 0, .inr (6, [.ref (a 1), .ref (a 2), .int (nI hm), .int (nI un), .ref (a 3), .ref (a 4), .ref (a 5), .ref (a 6), .ref (a 7), .ref (a 8), .ref (a 9), .ref (a 10), .ref (a 11), .ref (a 12), .long fa, .long fb, .ref (a 13), .long (lN s2), .ref (a 14), .int (nI bl), .int (nI ta), .int (nI tl), .int (nI tk), .int (nI va), .ref (a 15), .ref (a 16), .ref (a 17)])), (a 1, .inl (cJ, 9, .inr (.inl (fR T)))), (a 12, .inl (cI, 3, .inl rf))] H := hP
        have hD : va_D AG [(a 0, .inr (6, [.ref (a 1), .ref (a 2), .int (nI hm), .int (nI un), .ref (a 3), .ref (a 4), .ref (a 5), .ref (a 6), .ref (a 7), .ref (a 8), .ref (a 9), .ref (a 10), .ref (a 11), .ref (a 12), .long fa, .long fb, .ref (a 13), .long (lN s2), .ref (a 14), .int (nI bl), .int (nI ta), .int (nI tl), .int (nI tk), .int (nI va), .ref (a 15), .ref (a 16), .ref (a 17)])), (a 1, .inl (cJ, 9, .inr (.inl (fR T)))), (a 12, .inl (cI, 3, .inl rf))] := hD
        refine lv_iconst (v := (nI 0)) xh bh dX9_centuries_52 (by decide) ?_
        refine lv_istore (lv' := [(6, .int (nI 0)), (4, .long (eR (T b2))), (0, .ref (a 0)), (1, .int (nI b2)), (2, .int (nI s2)), (3, .int (nI n2))]) xh bh dX9_centuries_53 hl (by decide) rfl (fun ls hl => ?_)
        have cut_55 : ∀ (n_55 : Nat), ∀ (k : Nat), ∀ (t : List Nat), ∀ (y : Nat), (k ≤ n2 + 1) → (t = (ceT (T b2) s2 k).1) → (y = (ceT (T b2) s2 k).2) → (okT t) → (y < 2147483648) → (ceI (T b2) s2 0 (n2 + 1) = ceI (T b2) s2 k (n2 + 1 - k)) → (n2 + 1 - k) < n_55 → ∀ (H : Heap) (locs : List Loc) (ls : Array Slot), va_P D vwCl [(a 0, .inr (6, [.ref (a 1), .ref (a 2), .int (nI hm), .int (nI un), .ref (a 3), .ref (a 4), .ref (a 5), .ref (a 6), .ref (a 7), .ref (a 8), .ref (a 9), .ref (a 10), .ref (a 11), .ref (a 12), .long fa, .long fb, .ref (a 13), .long (lN y), .ref (a 14), .int (nI bl), .int (nI ta), .int (nI tl), .int (nI tk), .int (nI va), .ref (a 15), .ref (a 16), .ref (a 17)])), (a 1, .inl (cJ, 9, .inr (.inl (fR T)))), (a 12, .inl (cI, 3, .inl rf))] H → va_D AG [(a 0, .inr (6, [.ref (a 1), .ref (a 2), .int (nI hm), .int (nI un), .ref (a 3), .ref (a 4), .ref (a 5), .ref (a 6), .ref (a 7), .ref (a 8), .ref (a 9), .ref (a 10), .ref (a 11), .ref (a 12), .long fa, .long fb, .ref (a 13), .long (lN y), .ref (a 14), .int (nI bl), .int (nI ta), .int (nI tl), .int (nI tk), .int (nI va), .ref (a 15), .ref (a 16), .ref (a 17)])), (a 1, .inl (cJ, 9, .inr (.inl (fR T)))), (a 12, .inl (cI, 3, .inl rf))] → va_S AG sG.heap H locs → lv_has ls 10 [(0, .ref (a 0)), (1, .int (nI b2)), (2, .int (nI s2)), (3, .int (nI n2)), (4, .long (eR t)), (6, .int (nI k))] → W pG l eG ({ frames := 5, cells := 0, slots := 0, locals := 119 }) sG mG aG bG tG cG H locs 0 0 QG (F0 mG 55 ls []) := by
          intro n_55
          induction n_55 with
          | zero =>
            intro k t y hk2 ht hy hok hyl hr hmu
            exact absurd hmu (Nat.not_lt_zero _)
          | succ n_55 ih_55 =>
            intro k t y hk2 ht hy hok hyl hr hmu H locs ls hP hD hS hl
            refine lv_iload xh bh dX9_centuries_55 (lv_at hl 5 rfl) ?_
            refine lv_iload_n xh bh dX9_centuries_57 rfl (lv_at hl 3 rfl) ?_
            refine xn_icmp_gt (tgt := 117) xh bh dX9_centuries_58 (by decide) (by omega) (by omega) (fun c_58 => ?_) (fun c_58 => ?_)
            · refine lv_iconst (v := (-1)) xh bh dX9_centuries_117 (by decide) ?_
              exact hend (-1) y _ _ _ _ (congrArg (fun z => some (Value.int z)) (by rw [hk, xN_nI (by omega), xN_nI (by omega), xN_nI (by omega)]; show ceI _ _ _ _ = _; rw [hr, show n2 + 1 - k = 0 by omega]; rfl)) trivial rfl dX9_centuries_118 (by rw [hk]; exact hP) (by rw [hk]; exact hD) hS
            · refine lv_lload xh bh dX9_centuries_61 (lv_at hl 4 rfl) ?_
              refine lv_bipush (v := (nI 7)) xh bh dX9_centuries_63 (by decide) ?_
              refine Ct.callS0 (rest := []) xh bh hml hown hts hK hP hS hA (ct_X9_has l D cI cJ cB cZ cA t 7 (by first | assumption | exact okT_nil) (by first | assumption | omega)) (va_cwS 2 hts gX9_centuries_X9_has rfl rfl rfl (by decide +kernel) ⟨Nat.le_of_ble_eq_true rfl, Nat.le_of_ble_eq_true rfl⟩) rfl rfl hl.1 (Nat.le_of_ble_eq_true rfl) dX9_centuries_65 ⟨Nat.le_refl _, Nat.le_refl _⟩ (fun _ H locs _ hP hS => ?_)
              refine W.eq (g2 := F0 mG 68 ls [.int (ib (decide (7 ∈ t)))]) rfl ?_
              refine xb_if_ne (tgt := 74) xh bh dX9_centuries_68 (by decide) (fun c_68 => ?_) (fun c_68 => ?_)
              · refine lv_aload_n xh bh dX9_centuries_74 rfl (lv_at hl 0 rfl) ?_
                refine lv_bipush (v := (nI 6)) xh bh dX9_centuries_75 (by decide) ?_
                refine Ct.callV (As := [.int (nI 6)]) (rest := []) (wr := [(a 1, .inl (cJ, 9, .inr (.inl (fR T)))), (a 12, .inl (cI, 3, .inl rf))]) xh bh hml hown hts hK hP hD hS hA (ct_X9_draw l D cI cJ cB cZ cA a hm un fa fb y bl ta tl tk va 6 (by first | assumption | omega) (by omega)) (cwV 1 hts gX9_centuries_X9_draw rfl rfl rfl (by decide +kernel) ⟨Nat.le_of_ble_eq_true rfl, Nat.le_of_ble_eq_true rfl⟩) rfl rfl hl.1 (Nat.le_of_ble_eq_true rfl) dX9_centuries_77 ⟨Nat.le_refl _, Nat.le_refl _⟩ 0 6 rfl rfl rfl [0] [1, 2] rfl (by decide) rfl rfl (by decide) (by decide) (fun _ H locs _ hP hD hS => ?_)
                have hP : va_P D vwCl [(a 1, .inl (cJ, 9, .inr (.inl (fR T)))), (a 12, .inl (cI, 3, .inl rf)), (a 0, .inr (6, [.ref (a 1), .ref (a 2), .int (nI hm), .int (nI un), .ref (a 3), .ref (a 4), .ref (a 5), .ref (a 6), .ref (a 7), .ref (a 8), .ref (a 9), .ref (a 10), .ref (a 11), .ref (a 12), .long fa, .long fb, .ref (a 13), .long (lN (lcg y)), .ref (a 14), .int (nI bl), .int (nI ta), .int (nI tl), .int (nI tk), .int (nI va), .ref (a 15), .ref (a 16), .ref (a 17)]))] H := hP
                have hD : va_D AG [(a 1, .inl (cJ, 9, .inr (.inl (fR T)))), (a 12, .inl (cI, 3, .inl rf)), (a 0, .inr (6, [.ref (a 1), .ref (a 2), .int (nI hm), .int (nI un), .ref (a 3), .ref (a 4), .ref (a 5), .ref (a 6), .ref (a 7), .ref (a 8), .ref (a 9), .ref (a 10), .ref (a 11), .ref (a 12), .long fa, .long fb, .ref (a 13), .long (lN (lcg y)), .ref (a 14), .int (nI bl), .int (nI ta), .int (nI tl), .int (nI tk), .int (nI va), .ref (a 15), .ref (a 16), .ref (a 17)]))] := hD
                refine W.eq (g2 := F0 mG 80 ls [.int (nI (lcg y / 65536 % 6))]) rfl ?_
                refine lv_istore (lv' := [(7, .int (nI (lcg y / 65536 % 6))), (0, .ref (a 0)), (1, .int (nI b2)), (2, .int (nI s2)), (3, .int (nI n2)), (4, .long (eR t)), (6, .int (nI k))]) xh bh dX9_centuries_80 hl (by decide) rfl (fun ls hl => ?_)
                refine lv_aload_n xh bh dX9_centuries_82 rfl (lv_at hl 1 rfl) ?_
                refine lv_bipush (v := (nI 10)) xh bh dX9_centuries_83 (by decide) ?_
                refine Ct.callV (As := [.int (nI 10)]) (rest := []) (wr := [(a 1, .inl (cJ, 9, .inr (.inl (fR T)))), (a 12, .inl (cI, 3, .inl rf))]) xh bh hml hown hts hK hP hD hS hA (ct_X9_draw l D cI cJ cB cZ cA a hm un fa fb (lcg y) bl ta tl tk va 10 (by exact lcg_lt _) (by omega)) (cwV 1 hts gX9_centuries_X9_draw rfl rfl rfl (by decide +kernel) ⟨Nat.le_of_ble_eq_true rfl, Nat.le_of_ble_eq_true rfl⟩) rfl rfl hl.1 (Nat.le_of_ble_eq_true rfl) dX9_centuries_85 ⟨Nat.le_refl _, Nat.le_refl _⟩ 0 6 rfl rfl rfl [2] [0, 1] rfl (by decide) rfl rfl (by decide) (by decide) (fun _ H locs _ hP hD hS => ?_)
                have hP : va_P D vwCl [(a 1, .inl (cJ, 9, .inr (.inl (fR T)))), (a 12, .inl (cI, 3, .inl rf)), (a 0, .inr (6, [.ref (a 1), .ref (a 2), .int (nI hm), .int (nI un), .ref (a 3), .ref (a 4), .ref (a 5), .ref (a 6), .ref (a 7), .ref (a 8), .ref (a 9), .ref (a 10), .ref (a 11), .ref (a 12), .long fa, .long fb, .ref (a 13), .long (lN (lcg (lcg y))), .ref (a 14), .int (nI bl), .int (nI ta), .int (nI tl), .int (nI tk), .int (nI va), .ref (a 15), .ref (a 16), .ref (a 17)]))] H := hP
                have hD : va_D AG [(a 1, .inl (cJ, 9, .inr (.inl (fR T)))), (a 12, .inl (cI, 3, .inl rf)), (a 0, .inr (6, [.ref (a 1), .ref (a 2), .int (nI hm), .int (nI un), .ref (a 3), .ref (a 4), .ref (a 5), .ref (a 6), .ref (a 7), .ref (a 8), .ref (a 9), .ref (a 10), .ref (a 11), .ref (a 12), .long fa, .long fb, .ref (a 13), .long (lN (lcg (lcg y))), .ref (a 14), .int (nI bl), .int (nI ta), .int (nI tl), .int (nI tk), .int (nI va), .ref (a 15), .ref (a 16), .ref (a 17)]))] := hD
                refine W.eq (g2 := F0 mG 88 ls [.int (nI (lcg (lcg y) / 65536 % 10))]) rfl ?_
                refine lv_istore (lv' := [(8, .int (nI (lcg (lcg y) / 65536 % 10))), (7, .int (nI (lcg y / 65536 % 6))), (0, .ref (a 0)), (1, .int (nI b2)), (2, .int (nI s2)), (3, .int (nI n2)), (4, .long (eR t)), (6, .int (nI k))]) xh bh dX9_centuries_88 hl (by decide) rfl (fun ls hl => ?_)
                refine lv_aload_n xh bh dX9_centuries_90 rfl (lv_at hl 2 rfl) ?_
                refine lv_bipush (v := (nI 10)) xh bh dX9_centuries_91 (by decide) ?_
                refine Ct.callV (As := [.int (nI 10)]) (rest := []) (wr := [(a 1, .inl (cJ, 9, .inr (.inl (fR T)))), (a 12, .inl (cI, 3, .inl rf))]) xh bh hml hown hts hK hP hD hS hA (ct_X9_draw l D cI cJ cB cZ cA a hm un fa fb (lcg (lcg y)) bl ta tl tk va 10 (by exact lcg_lt _) (by omega)) (cwV 1 hts gX9_centuries_X9_draw rfl rfl rfl (by decide +kernel) ⟨Nat.le_of_ble_eq_true rfl, Nat.le_of_ble_eq_true rfl⟩) rfl rfl hl.1 (Nat.le_of_ble_eq_true rfl) dX9_centuries_93 ⟨Nat.le_refl _, Nat.le_refl _⟩ 0 6 rfl rfl rfl [2] [0, 1] rfl (by decide) rfl rfl (by decide) (by decide) (fun _ H locs _ hP hD hS => ?_)
                have hP : va_P D vwCl [(a 1, .inl (cJ, 9, .inr (.inl (fR T)))), (a 12, .inl (cI, 3, .inl rf)), (a 0, .inr (6, [.ref (a 1), .ref (a 2), .int (nI hm), .int (nI un), .ref (a 3), .ref (a 4), .ref (a 5), .ref (a 6), .ref (a 7), .ref (a 8), .ref (a 9), .ref (a 10), .ref (a 11), .ref (a 12), .long fa, .long fb, .ref (a 13), .long (lN (lcg (lcg (lcg y)))), .ref (a 14), .int (nI bl), .int (nI ta), .int (nI tl), .int (nI tk), .int (nI va), .ref (a 15), .ref (a 16), .ref (a 17)]))] H := hP
                have hD : va_D AG [(a 1, .inl (cJ, 9, .inr (.inl (fR T)))), (a 12, .inl (cI, 3, .inl rf)), (a 0, .inr (6, [.ref (a 1), .ref (a 2), .int (nI hm), .int (nI un), .ref (a 3), .ref (a 4), .ref (a 5), .ref (a 6), .ref (a 7), .ref (a 8), .ref (a 9), .ref (a 10), .ref (a 11), .ref (a 12), .long fa, .long fb, .ref (a 13), .long (lN (lcg (lcg (lcg y)))), .ref (a 14), .int (nI bl), .int (nI ta), .int (nI tl), .int (nI tk), .int (nI va), .ref (a 15), .ref (a 16), .ref (a 17)]))] := hD
                refine W.eq (g2 := F0 mG 96 ls [.int (nI (lcg (lcg (lcg y)) / 65536 % 10))]) rfl ?_
                refine lv_istore (lv' := [(9, .int (nI (lcg (lcg (lcg y)) / 65536 % 10))), (8, .int (nI (lcg (lcg y) / 65536 % 10))), (7, .int (nI (lcg y / 65536 % 6))), (0, .ref (a 0)), (1, .int (nI b2)), (2, .int (nI s2)), (3, .int (nI n2)), (4, .long (eR t)), (6, .int (nI k))]) xh bh dX9_centuries_96 hl (by decide) rfl (fun ls hl => ?_)
                refine lv_iload xh bh dX9_centuries_98 (lv_at hl 2 rfl) ?_
                refine lv_iload xh bh dX9_centuries_100 (lv_at hl 1 rfl) ?_
                refine lv_iload xh bh dX9_centuries_102 (lv_at hl 0 rfl) ?_
                refine lv_lload xh bh dX9_centuries_104 (lv_at hl 7 rfl) ?_
                refine Ct.callS0 (rest := []) xh bh hml hown hts hK hP hS hA (ct_X9_slips l D cI cJ cB cZ cA (lcg y / 65536 % 6) (lcg (lcg y) / 65536 % 10) (lcg (lcg (lcg y)) / 65536 % 10) t (by exact hok) (by exact Nat.lt_trans (Nat.mod_lt _ (by decide)) (by decide)) (by exact Nat.mod_lt _ (by decide)) (by exact Nat.mod_lt _ (by decide))) (va_cwS 4 hts gX9_centuries_X9_slips rfl rfl rfl (by decide +kernel) ⟨Nat.le_of_ble_eq_true rfl, Nat.le_of_ble_eq_true rfl⟩) rfl rfl hl.1 (Nat.le_of_ble_eq_true rfl) dX9_centuries_106 ⟨Nat.le_refl _, Nat.le_refl _⟩ (fun _ H locs _ hP hS => ?_)
                refine W.eq (g2 := F0 mG 109 ls [.long (eR (slipT t (lcg y / 65536 % 6) (lcg (lcg y) / 65536 % 10) (lcg (lcg (lcg y)) / 65536 % 10)))]) rfl ?_
                refine lv_lstore (lv' := [(4, .long (eR (slipT t (lcg y / 65536 % 6) (lcg (lcg y) / 65536 % 10) (lcg (lcg (lcg y)) / 65536 % 10)))), (9, .int (nI (lcg (lcg (lcg y)) / 65536 % 10))), (8, .int (nI (lcg (lcg y) / 65536 % 10))), (7, .int (nI (lcg y / 65536 % 6))), (0, .ref (a 0)), (1, .int (nI b2)), (2, .int (nI s2)), (3, .int (nI n2)), (6, .int (nI k))]) xh bh dX9_centuries_109 hl (by decide) rfl (fun ls hl => ?_)
                refine lv_iinc (v := (nI (k + 1))) (lv' := [(6, .int (nI (k + 1))), (4, .long (eR (slipT t (lcg y / 65536 % 6) (lcg (lcg y) / 65536 % 10) (lcg (lcg (lcg y)) / 65536 % 10)))), (9, .int (nI (lcg (lcg (lcg y)) / 65536 % 10))), (8, .int (nI (lcg (lcg y) / 65536 % 10))), (7, .int (nI (lcg y / 65536 % 6))), (0, .ref (a 0)), (1, .int (nI b2)), (2, .int (nI s2)), (3, .int (nI n2))]) xh bh dX9_centuries_111 hl (k := 8) rfl (by exact xn_inc _ _) (by decide) rfl (fun ls hl => ?_)
                refine lv_goto (tgt := 55) xh bh dX9_centuries_114 (by decide) ?_
                exact ih_55 (k + 1) (slipT t (lcg y / 65536 % 6) (lcg (lcg y) / 65536 % 10) (lcg (lcg (lcg y)) / 65536 % 10)) (lcg (lcg (lcg y))) (by omega) (by rw [ht, hy]; rfl) (by rw [hy]; rfl) (by exact okT_slip hok _ _ (Nat.mod_lt _ (by decide))) (by exact lcg_lt _) (by rw [hr, show n2 + 1 - k = (n2 + 1 - (k + 1)) + 1 by omega]; exact ceI_y (by rw [← ht]; exact of_decide_eq_true c_68)) (by omega) _ _ ls (hP.sub [2, 0, 1] rfl) (hD.sub [2, 0, 1] (by decide) rfl) hS (lv_sub hl [5, 6, 7, 8, 1, 0] rfl)
              · refine lv_iload xh bh dX9_centuries_71 (lv_at hl 5 rfl) ?_
                exact hend (nI k) y _ _ _ _ (congrArg (fun z => some (Value.int z)) (by rw [hk, xN_nI (by omega), xN_nI (by omega), xN_nI (by omega)]; show ceI _ _ _ _ = _; rw [hr, show n2 + 1 - k = (n2 + 1 - (k + 1)) + 1 by omega]; exact ceI_n (by rw [← ht]; exact of_decide_eq_false c_68))) trivial rfl dX9_centuries_73 (by rw [hk]; exact hP) (by rw [hk]; exact hD) hS
        exact cut_55 (n2 + 1 - 0 + 1) 0 (T b2) s2 (by exact Nat.zero_le _) (by rfl) (by rfl) (by exact hT _) (by omega) (by rfl) (Nat.lt_succ_self _) _ _ ls hP hD hS (lv_sub hl [2, 3, 4, 5, 1, 0] rfl)
      · have hk : kCe b s0 n = 0 := if_neg (fun q => by rw [c_28] at q; exact absurd q.2.2 (by decide))
        refine lv_aload_n xh bh dX9_centuries_31 rfl (lv_at hl 0 rfl) ?_
        refine lv_bipush (v := (-2)) xh bh dX9_centuries_32 (by decide) ?_
        refine Ct.callV (As := [.int (-2)]) (rest := []) (wr := [(a 1, .inl (cJ, 9, .inr (.inl (fR T))))]) xh bh hml hown hts hK hP hD hS hA (ct_X9_bad l D cI cJ cB cZ cA a rf hm un fa fb lx bl ta tl tk va (-2) ) (cwV 1 hts gX9_centuries_X9_bad rfl rfl rfl (by decide +kernel) ⟨Nat.le_of_ble_eq_true rfl, Nat.le_of_ble_eq_true rfl⟩) rfl rfl hl.1 (Nat.le_of_ble_eq_true rfl) dX9_centuries_34 ⟨Nat.le_refl _, Nat.le_refl _⟩ 0 6 rfl rfl rfl [0, 2] [1] rfl (by decide) rfl rfl (by decide) (by decide) (fun _ H locs _ hP hD hS => ?_)
        have hP : va_P D vwCl [(a 1, .inl (cJ, 9, .inr (.inl (fR T)))), (a 0, .inr (6, [.ref (a 1), .ref (a 2), .int (nI hm), .int (nI un), .ref (a 3), .ref (a 4), .ref (a 5), .ref (a 6), .ref (a 7), .ref (a 8), .ref (a 9), .ref (a 10), .ref (a 11), .ref (a 12), .long fa, .long fb, .ref (a 13), .long (lN lx), .ref (a 14), .int (nI bl), .int (nI ta), .int (nI tl), .int (nI tk), .int (nI va), .ref (a 15), .ref (a 16), .ref (a 17)])), (a 12, .inl (cI, 3, .inl (upd rf 0 ((rf 0) + nI 1))))] H := hP
        have hD : va_D AG [(a 1, .inl (cJ, 9, .inr (.inl (fR T)))), (a 0, .inr (6, [.ref (a 1), .ref (a 2), .int (nI hm), .int (nI un), .ref (a 3), .ref (a 4), .ref (a 5), .ref (a 6), .ref (a 7), .ref (a 8), .ref (a 9), .ref (a 10), .ref (a 11), .ref (a 12), .long fa, .long fb, .ref (a 13), .long (lN lx), .ref (a 14), .int (nI bl), .int (nI ta), .int (nI tl), .int (nI tk), .int (nI va), .ref (a 15), .ref (a 16), .ref (a 17)])), (a 12, .inl (cI, 3, .inl (upd rf 0 ((rf 0) + nI 1))))] := hD
        refine W.eq (g2 := F0 mG 37 ls [.int (-2)]) rfl ?_
        exact hend (-2) lx _ _ _ _ (congrArg (fun z => some (Value.int z)) (by rw [hk]; rfl)) trivial rfl dX9_centuries_37 (by rw [hk]; exact (hP.sub [1, 0, 2] rfl)) (by rw [hk]; exact (hD.sub [1, 0, 2] (by decide) rfl)) hS

set_option maxHeartbeats 1000000 in
set_option maxRecDepth 100000 in
theorem ct_X9_type (l : Launch) (D : va_G) (cI cJ cB cZ cA : ClassId) (a : Nat → Nat) (bt : Nat → Nat) (rf : Nat → Int32) (hm : Nat) (un : Nat) (fa : Int64) (fb : Int64) (lx : Nat) (bl : Nat) (ta : Nat) (tl : Nat) (tk : Nat) (va : Nat) (c1 : Int32) (hbl : bl ≤ 150) : Ct l yX9_type wsX9_type ({ frames := 1, cells := 0, slots := 0, locals := 25 }) D (tysG cI cJ cB cZ cA) [.ref (a 0), .int c1] [(a 0, .inr (6, [.ref (a 1), .ref (a 2), .int (nI hm), .int (nI un), .ref (a 3), .ref (a 4), .ref (a 5), .ref (a 6), .ref (a 7), .ref (a 8), .ref (a 9), .ref (a 10), .ref (a 11), .ref (a 12), .long fa, .long fb, .ref (a 13), .long (lN lx), .ref (a 14), .int (nI bl), .int (nI ta), .int (nI tl), .int (nI tk), .int (nI va), .ref (a 15), .ref (a 16), .ref (a 17)])), (a 14, .inl (cI, 150, .inl (fN bt))), (a 12, .inl (cI, 3, .inl rf))] (fun (_ : Unit) => True) (fun _ => some (.int (eHd (kTy c1 bl) bl))) (fun _ => [(a 0, .inr (6, [.ref (a 1), .ref (a 2), .int (nI hm), .int (nI un), .ref (a 3), .ref (a 4), .ref (a 5), .ref (a 6), .ref (a 7), .ref (a 8), .ref (a 9), .ref (a 10), .ref (a 11), .ref (a 12), .long fa, .long fb, .ref (a 13), .long (lN lx), .ref (a 14), .int (nI (s3N (kTy c1 bl) bl (bl + 1))), .int (nI ta), .int (nI tl), .int (nI tk), .int (nI va), .ref (a 15), .ref (a 16), .ref (a 17)])), (a 14, .inl (cI, 150, .inl (fN (upK (kTy c1 bl) bt bl (xN c1))))), (a 12, .inl (cI, 3, .inl (rfU (kTy c1 bl) rf)))]) := by
  refine Ct.ofI (cc := cX9_type) (maxL := 2) (by decide) rfl (Nat.le_of_ble_eq_true rfl) ?_
  intro pG eG sG mG aG bG tG cG AG QG ls xh bh hml hown hts hK hP hD hS hA hend hl
  have hl : lv_has ls 2 [(0, .ref (a 0)), (1, .int c1)] := hl
  refine lv_iload_n xh bh dX9_type_0 rfl (lv_at hl 1 rfl) ?_
  refine lv_i2l xh bh dX9_type_1 rfl ?_
  refine lv_lconst (v := lN 0) xh bh dX9_type_2 (by decide) ?_
  refine lv_ldc2 (v := (lN 127)) xh bh hown (hts _ (List.mem_of_getElem? (i := 1) rfl)) dX9_type_3 ?_
  refine Ct.callS0 (rest := []) xh bh hml hown hts hK hP hS hA (ct_X9_in l D cI cJ cB cZ cA c1.toInt64 (lN 0) (lN 127) ) (va_cwS 3 hts gX9_type_X9_in rfl rfl rfl (by decide +kernel) ⟨Nat.le_of_ble_eq_true rfl, Nat.le_of_ble_eq_true rfl⟩) rfl rfl hl.1 (Nat.le_of_ble_eq_true rfl) dX9_type_6 ⟨Nat.le_refl _, Nat.le_refl _⟩ (fun _ H locs _ hP hS => ?_)
  refine W.eq (g2 := F0 mG 9 ls [.int (ib (decide (¬ c1.toInt64 < (lN 0) ∧ ¬ (lN 127) < c1.toInt64)))]) rfl ?_
  refine xw_topi (x := (ib (decide (¬ c1.toInt64 < (lN 0) ∧ ¬ (lN 127) < c1.toInt64)))) (y := (ib (upB c1 127))) (by rw [upB_long (by decide)]) ?_
  refine xb_if_ne (tgt := 19) xh bh dX9_type_9 (by decide) (fun c_9 => ?_) (fun c_9 => ?_)
  · refine lv_aload_n xh bh dX9_type_19 rfl (lv_at hl 0 rfl) ?_
    refine va_get (D := D) (ci := 6) (v := .int (nI bl)) (C := RX9) (T := TX9) (N := 27) xh bh hts (fun _ h => List.mem_cons_of_mem _ (List.mem_append_right _ (h))) hown hK.1 hP 0 rfl rfl 19 (by decide) (hts _ (List.mem_of_getElem? (i := 2) rfl)) (fun _ h9 => h9) rfl dX9_type_20 ?_
    refine lv_sipush (v := (nI 150)) xh bh dX9_type_23 (by decide) ?_
    refine xn_icmp_ne (tgt := 34) xh bh dX9_type_26 (by decide) (by omega) (by omega) (fun c_26 => ?_) (fun c_26 => ?_)
    · have hk : kTy c1 bl = 3 := (if_pos c_9).trans (if_neg c_26)
      obtain ⟨c2, hc9, rfl⟩ := upB_of (by decide) c_9
      refine lv_aload_n xh bh dX9_type_34 rfl (lv_at hl 0 rfl) ?_
      refine va_get (D := D) (ci := 6) (v := .ref (a 14)) (C := RX9) (T := TX9) (N := 27) xh bh hts (fun _ h => List.mem_cons_of_mem _ (List.mem_append_right _ (h))) hown hK.1 hP 0 rfl rfl 18 (by decide) (hts _ (List.mem_of_getElem? (i := 3) rfl)) (fun _ h9 => h9) rfl dX9_type_35 ?_
      refine lv_aload_n xh bh dX9_type_38 rfl (lv_at hl 0 rfl) ?_
      refine va_get (D := D) (ci := 6) (v := .int (nI bl)) (C := RX9) (T := TX9) (N := 27) xh bh hts (fun _ h => List.mem_cons_of_mem _ (List.mem_append_right _ (h))) hown hK.1 hP 0 rfl rfl 19 (by decide) (hts _ (List.mem_of_getElem? (i := 2) rfl)) (fun _ h9 => h9) rfl dX9_type_39 ?_
      refine lv_iload_n xh bh dX9_type_42 rfl (lv_at hl 1 rfl) ?_
      refine xN_iast xh bh hK.1 hP hD hS 1 0 rfl rfl (by omega) (by omega) dX9_type_43 (fun H locs hP hD hS => ?_)
      have hP : va_P D vwCl [(a 0, .inr (6, [.ref (a 1), .ref (a 2), .int (nI hm), .int (nI un), .ref (a 3), .ref (a 4), .ref (a 5), .ref (a 6), .ref (a 7), .ref (a 8), .ref (a 9), .ref (a 10), .ref (a 11), .ref (a 12), .long fa, .long fb, .ref (a 13), .long (lN lx), .ref (a 14), .int (nI bl), .int (nI ta), .int (nI tl), .int (nI tk), .int (nI va), .ref (a 15), .ref (a 16), .ref (a 17)])), (a 14, .inl (cI, 150, .inl (fN (va_up bt bl c2)))), (a 12, .inl (cI, 3, .inl rf))] H := hP
      have hD : va_D AG [(a 0, .inr (6, [.ref (a 1), .ref (a 2), .int (nI hm), .int (nI un), .ref (a 3), .ref (a 4), .ref (a 5), .ref (a 6), .ref (a 7), .ref (a 8), .ref (a 9), .ref (a 10), .ref (a 11), .ref (a 12), .long fa, .long fb, .ref (a 13), .long (lN lx), .ref (a 14), .int (nI bl), .int (nI ta), .int (nI tl), .int (nI tk), .int (nI va), .ref (a 15), .ref (a 16), .ref (a 17)])), (a 14, .inl (cI, 150, .inl (fN (va_up bt bl c2)))), (a 12, .inl (cI, 3, .inl rf))] := hD
      refine lv_aload_n xh bh dX9_type_44 rfl (lv_at hl 0 rfl) ?_
      refine lv_dup xh bh dX9_type_45 rfl ?_
      refine va_get (D := D) (ci := 6) (v := .int (nI bl)) (C := RX9) (T := TX9) (N := 27) xh bh hts (fun _ h => List.mem_cons_of_mem _ (List.mem_append_right _ (h))) hown hK.1 hP 0 rfl rfl 19 (by decide) (hts _ (List.mem_of_getElem? (i := 2) rfl)) (fun _ h9 => h9) rfl dX9_type_46 ?_
      refine lv_iconst (v := (nI 1)) xh bh dX9_type_49 (by decide) ?_
      refine xn_iadd xh bh dX9_type_50 ?_
      refine va_put (D := D) (ci := 6) (v := .int (nI (bl + 1))) (ty := .int) (C := RX9) (T := TX9) (N := 27) xh bh hts (fun _ h => List.mem_cons_of_mem _ (List.mem_append_right _ (h))) tyX9 tyX9_ok nmX9 hown hK.1 hP hD hS 0 rfl rfl 19 (by decide) (hts _ (List.mem_of_getElem? (i := 2) rfl)) (fun _ h9 => h9) rfl (by decide +kernel) (by rfl) (by rfl) (Nat.le_of_ble_eq_true rfl) dX9_type_51 (fun H locs hP hD hS => ?_)
      have hP : va_P D vwCl [(a 0, .inr (6, [.ref (a 1), .ref (a 2), .int (nI hm), .int (nI un), .ref (a 3), .ref (a 4), .ref (a 5), .ref (a 6), .ref (a 7), .ref (a 8), .ref (a 9), .ref (a 10), .ref (a 11), .ref (a 12), .long fa, .long fb, .ref (a 13), .long (lN lx), .ref (a 14), .int (nI (bl + 1)), .int (nI ta), .int (nI tl), .int (nI tk), .int (nI va), .ref (a 15), .ref (a 16), .ref (a 17)])), (a 14, .inl (cI, 150, .inl (fN (va_up bt bl c2)))), (a 12, .inl (cI, 3, .inl rf))] H := hP
      have hD : va_D AG [(a 0, .inr (6, [.ref (a 1), .ref (a 2), .int (nI hm), .int (nI un), .ref (a 3), .ref (a 4), .ref (a 5), .ref (a 6), .ref (a 7), .ref (a 8), .ref (a 9), .ref (a 10), .ref (a 11), .ref (a 12), .long fa, .long fb, .ref (a 13), .long (lN lx), .ref (a 14), .int (nI (bl + 1)), .int (nI ta), .int (nI tl), .int (nI tk), .int (nI va), .ref (a 15), .ref (a 16), .ref (a 17)])), (a 14, .inl (cI, 150, .inl (fN (va_up bt bl c2)))), (a 12, .inl (cI, 3, .inl rf))] := hD
      refine lv_aload_n xh bh dX9_type_54 rfl (lv_at hl 0 rfl) ?_
      refine va_get (D := D) (ci := 6) (v := .int (nI (bl + 1))) (C := RX9) (T := TX9) (N := 27) xh bh hts (fun _ h => List.mem_cons_of_mem _ (List.mem_append_right _ (h))) hown hK.1 hP 0 rfl rfl 19 (by decide) (hts _ (List.mem_of_getElem? (i := 2) rfl)) (fun _ h9 => h9) rfl dX9_type_55 ?_
      exact hend (nI (bl + 1)) () _ _ _ _ (congrArg (fun z => some (Value.int z)) (by rw [hk]; rfl)) trivial rfl dX9_type_58 (by rw [hk, xN_nI (by omega)]; exact hP) (by rw [hk, xN_nI (by omega)]; exact hD) hS
    · have hk : kTy c1 bl = 2 := (if_pos c_9).trans (if_pos c_26)
      refine lv_aload_n xh bh dX9_type_29 rfl (lv_at hl 0 rfl) ?_
      refine Ct.callV (As := []) (rest := []) (wr := [(a 14, .inl (cI, 150, .inl (fN bt)))]) xh bh hml hown hts hK hP hD hS hA (ct_X9_full l D cI cJ cB cZ cA a rf hm un fa fb lx bl ta tl tk va ) (cwV 0 hts gX9_type_X9_full rfl rfl rfl (by decide +kernel) ⟨Nat.le_of_ble_eq_true rfl, Nat.le_of_ble_eq_true rfl⟩) rfl rfl hl.1 (Nat.le_of_ble_eq_true rfl) dX9_type_30 ⟨Nat.le_refl _, Nat.le_refl _⟩ 0 6 rfl rfl rfl [0, 2] [1] rfl (by decide) rfl rfl (by decide) (by decide) (fun _ H locs _ hP hD hS => ?_)
      have hP : va_P D vwCl [(a 14, .inl (cI, 150, .inl (fN bt))), (a 0, .inr (6, [.ref (a 1), .ref (a 2), .int (nI hm), .int (nI un), .ref (a 3), .ref (a 4), .ref (a 5), .ref (a 6), .ref (a 7), .ref (a 8), .ref (a 9), .ref (a 10), .ref (a 11), .ref (a 12), .long fa, .long fb, .ref (a 13), .long (lN lx), .ref (a 14), .int (nI bl), .int (nI ta), .int (nI tl), .int (nI tk), .int (nI va), .ref (a 15), .ref (a 16), .ref (a 17)])), (a 12, .inl (cI, 3, .inl (upd rf 2 ((rf 2) + nI 1))))] H := hP
      have hD : va_D AG [(a 14, .inl (cI, 150, .inl (fN bt))), (a 0, .inr (6, [.ref (a 1), .ref (a 2), .int (nI hm), .int (nI un), .ref (a 3), .ref (a 4), .ref (a 5), .ref (a 6), .ref (a 7), .ref (a 8), .ref (a 9), .ref (a 10), .ref (a 11), .ref (a 12), .long fa, .long fb, .ref (a 13), .long (lN lx), .ref (a 14), .int (nI bl), .int (nI ta), .int (nI tl), .int (nI tk), .int (nI va), .ref (a 15), .ref (a 16), .ref (a 17)])), (a 12, .inl (cI, 3, .inl (upd rf 2 ((rf 2) + nI 1))))] := hD
      refine W.eq (g2 := F0 mG 33 ls [.int (-4)]) rfl ?_
      exact hend (-4) () _ _ _ _ (congrArg (fun z => some (Value.int z)) (by rw [hk]; rfl)) trivial rfl dX9_type_33 (by rw [hk]; exact (hP.sub [1, 0, 2] rfl)) (by rw [hk]; exact (hD.sub [1, 0, 2] (by decide) rfl)) hS
  · have hk : kTy c1 bl = 0 := if_neg (fun q => by rw [c_9] at q; exact absurd q (by decide))
    refine lv_aload_n xh bh dX9_type_12 rfl (lv_at hl 0 rfl) ?_
    refine lv_bipush (v := (-2)) xh bh dX9_type_13 (by decide) ?_
    refine Ct.callV (As := [.int (-2)]) (rest := []) (wr := [(a 14, .inl (cI, 150, .inl (fN bt)))]) xh bh hml hown hts hK hP hD hS hA (ct_X9_bad l D cI cJ cB cZ cA a rf hm un fa fb lx bl ta tl tk va (-2) ) (cwV 1 hts gX9_type_X9_bad rfl rfl rfl (by decide +kernel) ⟨Nat.le_of_ble_eq_true rfl, Nat.le_of_ble_eq_true rfl⟩) rfl rfl hl.1 (Nat.le_of_ble_eq_true rfl) dX9_type_15 ⟨Nat.le_refl _, Nat.le_refl _⟩ 0 6 rfl rfl rfl [0, 2] [1] rfl (by decide) rfl rfl (by decide) (by decide) (fun _ H locs _ hP hD hS => ?_)
    have hP : va_P D vwCl [(a 14, .inl (cI, 150, .inl (fN bt))), (a 0, .inr (6, [.ref (a 1), .ref (a 2), .int (nI hm), .int (nI un), .ref (a 3), .ref (a 4), .ref (a 5), .ref (a 6), .ref (a 7), .ref (a 8), .ref (a 9), .ref (a 10), .ref (a 11), .ref (a 12), .long fa, .long fb, .ref (a 13), .long (lN lx), .ref (a 14), .int (nI bl), .int (nI ta), .int (nI tl), .int (nI tk), .int (nI va), .ref (a 15), .ref (a 16), .ref (a 17)])), (a 12, .inl (cI, 3, .inl (upd rf 0 ((rf 0) + nI 1))))] H := hP
    have hD : va_D AG [(a 14, .inl (cI, 150, .inl (fN bt))), (a 0, .inr (6, [.ref (a 1), .ref (a 2), .int (nI hm), .int (nI un), .ref (a 3), .ref (a 4), .ref (a 5), .ref (a 6), .ref (a 7), .ref (a 8), .ref (a 9), .ref (a 10), .ref (a 11), .ref (a 12), .long fa, .long fb, .ref (a 13), .long (lN lx), .ref (a 14), .int (nI bl), .int (nI ta), .int (nI tl), .int (nI tk), .int (nI va), .ref (a 15), .ref (a 16), .ref (a 17)])), (a 12, .inl (cI, 3, .inl (upd rf 0 ((rf 0) + nI 1))))] := hD
    refine W.eq (g2 := F0 mG 18 ls [.int (-2)]) rfl ?_
    exact hend (-2) () _ _ _ _ (congrArg (fun z => some (Value.int z)) (by rw [hk]; rfl)) trivial rfl dX9_type_18 (by rw [hk]; exact (hP.sub [1, 0, 2] rfl)) (by rw [hk]; exact (hD.sub [1, 0, 2] (by decide) rfl)) hS

set_option maxHeartbeats 1000000 in
set_option maxRecDepth 100000 in
theorem ct_X9_clear (l : Launch) (D : va_G) (cI cJ cB cZ cA : ClassId) (a : Nat → Nat) (hm : Nat) (un : Nat) (fa : Int64) (fb : Int64) (lx : Nat) (bl : Nat) (ta : Nat) (tl : Nat) (tk : Nat) (va : Nat) : Ct l yX9_clear wsX9_clear ({ frames := 0, cells := 0, slots := 0, locals := 0 }) D (tysG cI cJ cB cZ cA) [.ref (a 0)] [(a 0, .inr (6, [.ref (a 1), .ref (a 2), .int (nI hm), .int (nI un), .ref (a 3), .ref (a 4), .ref (a 5), .ref (a 6), .ref (a 7), .ref (a 8), .ref (a 9), .ref (a 10), .ref (a 11), .ref (a 12), .long fa, .long fb, .ref (a 13), .long (lN lx), .ref (a 14), .int (nI bl), .int (nI ta), .int (nI tl), .int (nI tk), .int (nI va), .ref (a 15), .ref (a 16), .ref (a 17)]))] (fun (_ : Unit) => True) (fun _ => some (.int (nI bl))) (fun _ => [(a 0, .inr (6, [.ref (a 1), .ref (a 2), .int (nI hm), .int (nI un), .ref (a 3), .ref (a 4), .ref (a 5), .ref (a 6), .ref (a 7), .ref (a 8), .ref (a 9), .ref (a 10), .ref (a 11), .ref (a 12), .long fa, .long fb, .ref (a 13), .long (lN lx), .ref (a 14), .int (nI 0), .int (nI ta), .int (nI tl), .int (nI tk), .int (nI va), .ref (a 15), .ref (a 16), .ref (a 17)]))]) := by
  refine Ct.ofI (cc := cX9_clear) (maxL := 2) (by decide) rfl (Nat.le_of_ble_eq_true rfl) ?_
  intro pG eG sG mG aG bG tG cG AG QG ls xh bh hml hown hts hK hP hD hS hA hend hl
  have hl : lv_has ls 2 [(0, .ref (a 0))] := hl
  refine lv_aload_n xh bh dX9_clear_0 rfl (lv_at hl 0 rfl) ?_
  refine va_get (D := D) (ci := 6) (v := .int (nI bl)) (C := RX9) (T := TX9) (N := 27) xh bh hts (fun _ h => List.mem_cons_of_mem _ (List.mem_append_right _ (h))) hown hK.1 hP 0 rfl rfl 19 (by decide) (hts _ (List.mem_of_getElem? (i := 1) rfl)) (fun _ h9 => h9) rfl dX9_clear_1 ?_
  refine lv_istore_n (lv' := [(1, .int (nI bl)), (0, .ref (a 0))]) xh bh dX9_clear_4 rfl hl (by decide) rfl (fun ls hl => ?_)
  refine lv_aload_n xh bh dX9_clear_5 rfl (lv_at hl 1 rfl) ?_
  refine lv_iconst (v := (nI 0)) xh bh dX9_clear_6 (by decide) ?_
  refine va_put (D := D) (ci := 6) (v := .int (nI 0)) (ty := .int) (C := RX9) (T := TX9) (N := 27) xh bh hts (fun _ h => List.mem_cons_of_mem _ (List.mem_append_right _ (h))) tyX9 tyX9_ok nmX9 hown hK.1 hP hD hS 0 rfl rfl 19 (by decide) (hts _ (List.mem_of_getElem? (i := 1) rfl)) (fun _ h9 => h9) rfl (by decide +kernel) (by rfl) (by rfl) (Nat.le_of_ble_eq_true rfl) dX9_clear_7 (fun H locs hP hD hS => ?_)
  have hP : va_P D vwCl [(a 0, .inr (6, [.ref (a 1), .ref (a 2), .int (nI hm), .int (nI un), .ref (a 3), .ref (a 4), .ref (a 5), .ref (a 6), .ref (a 7), .ref (a 8), .ref (a 9), .ref (a 10), .ref (a 11), .ref (a 12), .long fa, .long fb, .ref (a 13), .long (lN lx), .ref (a 14), .int (nI 0), .int (nI ta), .int (nI tl), .int (nI tk), .int (nI va), .ref (a 15), .ref (a 16), .ref (a 17)]))] H := hP
  have hD : va_D AG [(a 0, .inr (6, [.ref (a 1), .ref (a 2), .int (nI hm), .int (nI un), .ref (a 3), .ref (a 4), .ref (a 5), .ref (a 6), .ref (a 7), .ref (a 8), .ref (a 9), .ref (a 10), .ref (a 11), .ref (a 12), .long fa, .long fb, .ref (a 13), .long (lN lx), .ref (a 14), .int (nI 0), .int (nI ta), .int (nI tl), .int (nI tk), .int (nI va), .ref (a 15), .ref (a 16), .ref (a 17)]))] := hD
  refine lv_iload_n xh bh dX9_clear_10 rfl (lv_at hl 0 rfl) ?_
  exact hend (nI bl) () _ _ _ _ (congrArg (fun z => some (Value.int (nI z))) (by rfl)) trivial rfl dX9_clear_11 hP hD hS

set_option maxHeartbeats 1000000 in
set_option maxRecDepth 100000 in
theorem ct_X9_part (l : Launch) (D : va_G) (cI cJ cB cZ cA : ClassId) (a : Nat → Nat) (rf : Nat → Int32) (hm : Nat) (un : Nat) (fa : Int64) (fb : Int64) (lx : Nat) (bl : Nat) (ta : Nat) (tl : Nat) (tk : Nat) (va : Nat) (w : Int32) : Ct l yX9_part wsX9_part ({ frames := 1, cells := 0, slots := 0, locals := 21 }) D (tysG cI cJ cB cZ cA) [.ref (a 0), .int w] [(a 0, .inr (6, [.ref (a 1), .ref (a 2), .int (nI hm), .int (nI un), .ref (a 3), .ref (a 4), .ref (a 5), .ref (a 6), .ref (a 7), .ref (a 8), .ref (a 9), .ref (a 10), .ref (a 11), .ref (a 12), .long fa, .long fb, .ref (a 13), .long (lN lx), .ref (a 14), .int (nI bl), .int (nI ta), .int (nI tl), .int (nI tk), .int (nI va), .ref (a 15), .ref (a 16), .ref (a 17)])), (a 12, .inl (cI, 3, .inl rf))] (fun (_ : Unit) => True) (fun _ => some (.long (ePa (kW w 1) w fa fb))) (fun _ => [(a 0, .inr (6, [.ref (a 1), .ref (a 2), .int (nI hm), .int (nI un), .ref (a 3), .ref (a 4), .ref (a 5), .ref (a 6), .ref (a 7), .ref (a 8), .ref (a 9), .ref (a 10), .ref (a 11), .ref (a 12), .long fa, .long fb, .ref (a 13), .long (lN lx), .ref (a 14), .int (nI bl), .int (nI ta), .int (nI tl), .int (nI tk), .int (nI va), .ref (a 15), .ref (a 16), .ref (a 17)])), (a 12, .inl (cI, 3, .inl (rfU (kW w 1) rf)))]) := by
  refine Ct.ofL (cc := cX9_part) (maxL := 2) (by decide) rfl (Nat.le_of_ble_eq_true rfl) ?_
  intro pG eG sG mG aG bG tG cG AG QG ls xh bh hml hown hts hK hP hD hS hA hend hl
  have hl : lv_has ls 2 [(0, .ref (a 0)), (1, .int w)] := hl
  refine lv_iload_n xh bh dX9_part_0 rfl (lv_at hl 1 rfl) ?_
  refine lv_if_ne (tgt := 11) xh bh dX9_part_1 (by decide) (fun c_1 => ?_) (fun c_1 => ?_)
  · refine lv_iload_n xh bh dX9_part_11 rfl (lv_at hl 1 rfl) ?_
    refine lv_iconst (v := (nI 1)) xh bh dX9_part_12 (by decide) ?_
    refine lv_icmp_ne (tgt := 23) xh bh dX9_part_13 (by decide) (fun c_13 => ?_) (fun c_13 => ?_)
    · have hk : kW w 1 = 0 := if_neg (fun q => by
        obtain ⟨k, h1, rfl⟩ := upB_of (by decide) q
        rcases (show k = 0 ∨ k = 1 by omega) with rfl | rfl
        · exact c_1 rfl
        · exact c_13 rfl)
      refine lv_aload_n xh bh dX9_part_23 rfl (lv_at hl 0 rfl) ?_
      refine lv_bipush (v := (-2)) xh bh dX9_part_24 (by decide) ?_
      refine Ct.callV (As := [.int (-2)]) (rest := []) (wr := []) xh bh hml hown hts hK hP hD hS hA (ct_X9_bad l D cI cJ cB cZ cA a rf hm un fa fb lx bl ta tl tk va (-2) ) (cwV 1 hts gX9_part_X9_bad rfl rfl rfl (by decide +kernel) ⟨Nat.le_of_ble_eq_true rfl, Nat.le_of_ble_eq_true rfl⟩) rfl rfl hl.1 (Nat.le_of_ble_eq_true rfl) dX9_part_26 ⟨Nat.le_refl _, Nat.le_refl _⟩ 0 6 rfl rfl rfl [0, 1] [] rfl (by decide) rfl rfl (by decide) (by decide) (fun _ H locs _ hP hD hS => ?_)
      have hP : va_P D vwCl [(a 0, .inr (6, [.ref (a 1), .ref (a 2), .int (nI hm), .int (nI un), .ref (a 3), .ref (a 4), .ref (a 5), .ref (a 6), .ref (a 7), .ref (a 8), .ref (a 9), .ref (a 10), .ref (a 11), .ref (a 12), .long fa, .long fb, .ref (a 13), .long (lN lx), .ref (a 14), .int (nI bl), .int (nI ta), .int (nI tl), .int (nI tk), .int (nI va), .ref (a 15), .ref (a 16), .ref (a 17)])), (a 12, .inl (cI, 3, .inl (upd rf 0 ((rf 0) + nI 1))))] H := hP
      have hD : va_D AG [(a 0, .inr (6, [.ref (a 1), .ref (a 2), .int (nI hm), .int (nI un), .ref (a 3), .ref (a 4), .ref (a 5), .ref (a 6), .ref (a 7), .ref (a 8), .ref (a 9), .ref (a 10), .ref (a 11), .ref (a 12), .long fa, .long fb, .ref (a 13), .long (lN lx), .ref (a 14), .int (nI bl), .int (nI ta), .int (nI tl), .int (nI tk), .int (nI va), .ref (a 15), .ref (a 16), .ref (a 17)])), (a 12, .inl (cI, 3, .inl (upd rf 0 ((rf 0) + nI 1))))] := hD
      refine W.eq (g2 := F0 mG 29 ls [.int (-2)]) rfl ?_
      refine lv_i2l xh bh dX9_part_29 rfl ?_
      exact hend ((-2).toInt64) () _ _ _ _ (congrArg (fun z => some (Value.long z)) (by rw [hk]; first | rfl | exact if_pos c_1 | exact if_neg c_1)) trivial dX9_part_30 (by rw [hk]; exact hP) (by rw [hk]; exact hD) hS
    · have hk : kW w 1 = 3 := if_pos (by rw [c_13]; decide)
      refine lv_aload_n xh bh dX9_part_16 rfl (lv_at hl 0 rfl) ?_
      refine va_get (D := D) (ci := 6) (v := .long fb) (C := RX9) (T := TX9) (N := 27) xh bh hts (fun _ h => List.mem_cons_of_mem _ (List.mem_append_right _ (h))) hown hK.1 hP 0 rfl rfl 15 (by decide) (hts _ (List.mem_of_getElem? (i := 2) rfl)) (fun _ h9 => h9) rfl dX9_part_17 ?_
      refine lv_goto (tgt := 30) xh bh dX9_part_20 (by decide) ?_
      exact hend fb () _ _ _ _ (congrArg (fun z => some (Value.long z)) (by rw [hk]; first | rfl | exact if_pos c_1 | exact if_neg c_1)) trivial dX9_part_30 (by rw [hk]; exact hP) (by rw [hk]; exact hD) hS
  · have hk : kW w 1 = 3 := if_pos (by rw [c_1]; decide)
    refine lv_aload_n xh bh dX9_part_4 rfl (lv_at hl 0 rfl) ?_
    refine va_get (D := D) (ci := 6) (v := .long fa) (C := RX9) (T := TX9) (N := 27) xh bh hts (fun _ h => List.mem_cons_of_mem _ (List.mem_append_right _ (h))) hown hK.1 hP 0 rfl rfl 14 (by decide) (hts _ (List.mem_of_getElem? (i := 1) rfl)) (fun _ h9 => h9) rfl dX9_part_5 ?_
    refine lv_goto (tgt := 30) xh bh dX9_part_8 (by decide) ?_
    exact hend fa () _ _ _ _ (congrArg (fun z => some (Value.long z)) (by rw [hk]; first | rfl | exact if_pos c_1 | exact if_neg c_1)) trivial dX9_part_30 (by rw [hk]; exact hP) (by rw [hk]; exact hD) hS

set_option maxHeartbeats 1000000 in
set_option maxRecDepth 100000 in
theorem ct_X9_status (l : Launch) (D : va_G) (cI cJ cB cZ cA : ClassId) (a : Nat → Nat) (rf : Nat → Int32) (hm : Nat) (un : Nat) (fa : Int64) (fb : Int64) (lx : Nat) (bl : Nat) (ta : Nat) (tl : Nat) (tk : Nat) (va : Nat) (w : Int32) : Ct l yX9_status wsX9_status ({ frames := 1, cells := 0, slots := 0, locals := 25 }) D (tysG cI cJ cB cZ cA) [.ref (a 0), .int w] [(a 0, .inr (6, [.ref (a 1), .ref (a 2), .int (nI hm), .int (nI un), .ref (a 3), .ref (a 4), .ref (a 5), .ref (a 6), .ref (a 7), .ref (a 8), .ref (a 9), .ref (a 10), .ref (a 11), .ref (a 12), .long fa, .long fb, .ref (a 13), .long (lN lx), .ref (a 14), .int (nI bl), .int (nI ta), .int (nI tl), .int (nI tk), .int (nI va), .ref (a 15), .ref (a 16), .ref (a 17)])), (a 12, .inl (cI, 3, .inl rf))] (fun (_ : Unit) => True) (fun _ => some (.int (eSt (kW w 2) (rf (xN w))))) (fun _ => [(a 0, .inr (6, [.ref (a 1), .ref (a 2), .int (nI hm), .int (nI un), .ref (a 3), .ref (a 4), .ref (a 5), .ref (a 6), .ref (a 7), .ref (a 8), .ref (a 9), .ref (a 10), .ref (a 11), .ref (a 12), .long fa, .long fb, .ref (a 13), .long (lN lx), .ref (a 14), .int (nI bl), .int (nI ta), .int (nI tl), .int (nI tk), .int (nI va), .ref (a 15), .ref (a 16), .ref (a 17)])), (a 12, .inl (cI, 3, .inl (rfU (kW w 2) rf)))]) := by
  refine Ct.ofI (cc := cX9_status) (maxL := 2) (by decide) rfl (Nat.le_of_ble_eq_true rfl) ?_
  intro pG eG sG mG aG bG tG cG AG QG ls xh bh hml hown hts hK hP hD hS hA hend hl
  have hl : lv_has ls 2 [(0, .ref (a 0)), (1, .int w)] := hl
  refine lv_iload_n xh bh dX9_status_0 rfl (lv_at hl 1 rfl) ?_
  refine lv_i2l xh bh dX9_status_1 rfl ?_
  refine lv_lconst (v := lN 0) xh bh dX9_status_2 (by decide) ?_
  refine lv_ldc2 (v := (lN 2)) xh bh hown (hts _ (List.mem_of_getElem? (i := 1) rfl)) dX9_status_3 ?_
  refine Ct.callS0 (rest := []) xh bh hml hown hts hK hP hS hA (ct_X9_in l D cI cJ cB cZ cA w.toInt64 (lN 0) (lN 2) ) (va_cwS 3 hts gX9_status_X9_in rfl rfl rfl (by decide +kernel) ⟨Nat.le_of_ble_eq_true rfl, Nat.le_of_ble_eq_true rfl⟩) rfl rfl hl.1 (Nat.le_of_ble_eq_true rfl) dX9_status_6 ⟨Nat.le_refl _, Nat.le_refl _⟩ (fun _ H locs _ hP hS => ?_)
  refine W.eq (g2 := F0 mG 9 ls [.int (ib (decide (¬ w.toInt64 < (lN 0) ∧ ¬ (lN 2) < w.toInt64)))]) rfl ?_
  refine xw_topi (x := (ib (decide (¬ w.toInt64 < (lN 0) ∧ ¬ (lN 2) < w.toInt64)))) (y := (ib (upB w 2))) (by rw [upB_long (by decide)]) ?_
  refine xb_if_eq (tgt := 21) xh bh dX9_status_9 (by decide) (fun c_9 => ?_) (fun c_9 => ?_)
  · have hk : kW w 2 = 0 := if_neg (fun q => by rw [c_9] at q; exact absurd q (by decide))
    refine lv_aload_n xh bh dX9_status_21 rfl (lv_at hl 0 rfl) ?_
    refine lv_iconst (v := (-1)) xh bh dX9_status_22 (by decide) ?_
    refine Ct.callV (As := [.int (-1)]) (rest := []) (wr := []) xh bh hml hown hts hK hP hD hS hA (ct_X9_bad l D cI cJ cB cZ cA a rf hm un fa fb lx bl ta tl tk va (-1) ) (cwV 1 hts gX9_status_X9_bad rfl rfl rfl (by decide +kernel) ⟨Nat.le_of_ble_eq_true rfl, Nat.le_of_ble_eq_true rfl⟩) rfl rfl hl.1 (Nat.le_of_ble_eq_true rfl) dX9_status_23 ⟨Nat.le_refl _, Nat.le_refl _⟩ 0 6 rfl rfl rfl [0, 1] [] rfl (by decide) rfl rfl (by decide) (by decide) (fun _ H locs _ hP hD hS => ?_)
    have hP : va_P D vwCl [(a 0, .inr (6, [.ref (a 1), .ref (a 2), .int (nI hm), .int (nI un), .ref (a 3), .ref (a 4), .ref (a 5), .ref (a 6), .ref (a 7), .ref (a 8), .ref (a 9), .ref (a 10), .ref (a 11), .ref (a 12), .long fa, .long fb, .ref (a 13), .long (lN lx), .ref (a 14), .int (nI bl), .int (nI ta), .int (nI tl), .int (nI tk), .int (nI va), .ref (a 15), .ref (a 16), .ref (a 17)])), (a 12, .inl (cI, 3, .inl (upd rf 0 ((rf 0) + nI 1))))] H := hP
    have hD : va_D AG [(a 0, .inr (6, [.ref (a 1), .ref (a 2), .int (nI hm), .int (nI un), .ref (a 3), .ref (a 4), .ref (a 5), .ref (a 6), .ref (a 7), .ref (a 8), .ref (a 9), .ref (a 10), .ref (a 11), .ref (a 12), .long fa, .long fb, .ref (a 13), .long (lN lx), .ref (a 14), .int (nI bl), .int (nI ta), .int (nI tl), .int (nI tk), .int (nI va), .ref (a 15), .ref (a 16), .ref (a 17)])), (a 12, .inl (cI, 3, .inl (upd rf 0 ((rf 0) + nI 1))))] := hD
    refine W.eq (g2 := F0 mG 26 ls [.int (-1)]) rfl ?_
    exact hend (-1) () _ _ _ _ (congrArg (fun z => some (Value.int z)) (by rw [hk]; first | rfl | (rw [xN_nI (by omega)]; rfl))) trivial rfl dX9_status_26 (by rw [hk]; exact hP) (by rw [hk]; exact hD) hS
  · have hk : kW w 2 = 3 := if_pos c_9
    obtain ⟨w2, hw9, rfl⟩ := upB_of (by decide) c_9
    refine lv_aload_n xh bh dX9_status_12 rfl (lv_at hl 0 rfl) ?_
    refine va_get (D := D) (ci := 6) (v := .ref (a 12)) (C := RX9) (T := TX9) (N := 27) xh bh hts (fun _ h => List.mem_cons_of_mem _ (List.mem_append_right _ (h))) hown hK.1 hP 0 rfl rfl 13 (by decide) (hts _ (List.mem_of_getElem? (i := 2) rfl)) (fun _ h9 => h9) rfl dX9_status_13 ?_
    refine lv_iload_n xh bh dX9_status_16 rfl (lv_at hl 1 rfl) ?_
    refine xa_iald xh bh hK.1 hP 1 0 rfl rfl (by omega) (by omega) dX9_status_17 ?_
    refine lv_goto (tgt := 26) xh bh dX9_status_18 (by decide) ?_
    exact hend (rf w2) () _ _ _ _ (congrArg (fun z => some (Value.int z)) (by rw [hk]; first | rfl | (rw [xN_nI (by omega)]; rfl))) trivial rfl dX9_status_26 (by rw [hk]; exact hP) (by rw [hk]; exact hD) hS

set_option maxHeartbeats 1000000 in
set_option maxRecDepth 100000 in
theorem ct_X9_allParts (l : Launch) (D : va_G) (cI cJ cB cZ cA : ClassId) (a : Nat → Nat) (T : Nat → List Nat) (hm : Nat) (un : Nat) (fa : Int64) (fb : Int64) (lx : Nat) (bl : Nat) (ta : Nat) (tl : Nat) (tk : Nat) (va : Nat) (hT : ∀ k, okT (T k)) : Ct l yX9_allParts wsX9_allParts ({ frames := 1, cells := 0, slots := 0, locals := 21 }) D (tysG cI cJ cB cZ cA) [.ref (a 0)] [(a 0, .inr (6, [.ref (a 1), .ref (a 2), .int (nI hm), .int (nI un), .ref (a 3), .ref (a 4), .ref (a 5), .ref (a 6), .ref (a 7), .ref (a 8), .ref (a 9), .ref (a 10), .ref (a 11), .ref (a 12), .long fa, .long fb, .ref (a 13), .long (lN lx), .ref (a 14), .int (nI bl), .int (nI ta), .int (nI tl), .int (nI tk), .int (nI va), .ref (a 15), .ref (a 16), .ref (a 17)])), (a 1, .inl (cJ, 9, .inr (.inl (fR T))))] (fun (_ : Unit) => True) (fun _ => some (.int (nI (plT T 8)))) (fun _ => [(a 0, .inr (6, [.ref (a 1), .ref (a 2), .int (nI hm), .int (nI un), .ref (a 3), .ref (a 4), .ref (a 5), .ref (a 6), .ref (a 7), .ref (a 8), .ref (a 9), .ref (a 10), .ref (a 11), .ref (a 12), .long fa, .long fb, .ref (a 13), .long (lN lx), .ref (a 14), .int (nI bl), .int (nI ta), .int (nI tl), .int (nI tk), .int (nI va), .ref (a 15), .ref (a 16), .ref (a 17)])), (a 1, .inl (cJ, 9, .inr (.inl (fR T))))]) := by
  refine Ct.ofI (cc := cX9_allParts) (maxL := 3) (by decide) rfl (Nat.le_of_ble_eq_true rfl) ?_
  intro pG eG sG mG aG bG tG cG AG QG ls xh bh hml hown hts hK hP hD hS hA hend hl
  have hl : lv_has ls 3 [(0, .ref (a 0))] := hl
  refine lv_iconst (v := (nI 0)) xh bh dX9_allParts_0 (by decide) ?_
  refine lv_istore_n (lv' := [(1, .int (nI 0)), (0, .ref (a 0))]) xh bh dX9_allParts_1 rfl hl (by decide) rfl (fun ls hl => ?_)
  refine lv_iconst (v := (nI 0)) xh bh dX9_allParts_2 (by decide) ?_
  refine lv_istore_n (lv' := [(2, .int (nI 0)), (1, .int (nI 0)), (0, .ref (a 0))]) xh bh dX9_allParts_3 rfl hl (by decide) rfl (fun ls hl => ?_)
  have cut_4 : ∀ (n_4 : Nat), ∀ (i : Nat), ∀ (r : Nat), (i ≤ 8) → (r = plT T i) → (8 - i) < n_4 → ∀ (H : Heap) (locs : List Loc) (ls : Array Slot), va_P D vwCl [(a 0, .inr (6, [.ref (a 1), .ref (a 2), .int (nI hm), .int (nI un), .ref (a 3), .ref (a 4), .ref (a 5), .ref (a 6), .ref (a 7), .ref (a 8), .ref (a 9), .ref (a 10), .ref (a 11), .ref (a 12), .long fa, .long fb, .ref (a 13), .long (lN lx), .ref (a 14), .int (nI bl), .int (nI ta), .int (nI tl), .int (nI tk), .int (nI va), .ref (a 15), .ref (a 16), .ref (a 17)])), (a 1, .inl (cJ, 9, .inr (.inl (fR T))))] H → va_D AG [(a 0, .inr (6, [.ref (a 1), .ref (a 2), .int (nI hm), .int (nI un), .ref (a 3), .ref (a 4), .ref (a 5), .ref (a 6), .ref (a 7), .ref (a 8), .ref (a 9), .ref (a 10), .ref (a 11), .ref (a 12), .long fa, .long fb, .ref (a 13), .long (lN lx), .ref (a 14), .int (nI bl), .int (nI ta), .int (nI tl), .int (nI tk), .int (nI va), .ref (a 15), .ref (a 16), .ref (a 17)])), (a 1, .inl (cJ, 9, .inr (.inl (fR T))))] → va_S AG sG.heap H locs → lv_has ls 3 [(0, .ref (a 0)), (1, .int (nI r)), (2, .int (nI i))] → W pG l eG ({ frames := 1, cells := 0, slots := 0, locals := 21 }) sG mG aG bG tG cG H locs 0 0 QG (F0 mG 4 ls []) := by
    intro n_4
    induction n_4 with
    | zero =>
      intro i r hi hr hmu
      exact absurd hmu (Nat.not_lt_zero _)
    | succ n_4 ih_4 =>
      intro i r hi hr hmu H locs ls hP hD hS hl
      refine lv_iload_n xh bh dX9_allParts_4 rfl (lv_at hl 2 rfl) ?_
      refine lv_bipush (v := (nI 8)) xh bh dX9_allParts_5 (by decide) ?_
      refine xn_icmp_ge (tgt := 28) xh bh dX9_allParts_7 (by decide) (by omega) (by omega) (fun c_7 => ?_) (fun c_7 => ?_)
      · refine lv_iload_n xh bh dX9_allParts_28 rfl (lv_at hl 1 rfl) ?_
        exact hend (nI r) () _ _ _ _ (congrArg (fun z => some (Value.int (nI z))) (by rw [hr, show i = 8 by omega])) trivial rfl dX9_allParts_29 hP hD hS
      · refine lv_iload_n xh bh dX9_allParts_10 rfl (lv_at hl 1 rfl) ?_
        refine lv_aload_n xh bh dX9_allParts_11 rfl (lv_at hl 0 rfl) ?_
        refine va_get (D := D) (ci := 6) (v := .ref (a 1)) (C := RX9) (T := TX9) (N := 27) xh bh hts (fun _ h => List.mem_cons_of_mem _ (List.mem_append_right _ (h))) hown hK.1 hP 0 rfl rfl 0 (by decide) (hts _ (List.mem_of_getElem? (i := 1) rfl)) (fun _ h9 => h9) rfl dX9_allParts_12 ?_
        refine lv_iload_n xh bh dX9_allParts_15 rfl (lv_at hl 2 rfl) ?_
        refine xa_lald xh bh hK.1 hP 1 1 rfl rfl (by omega) (by omega) dX9_allParts_16 ?_
        refine W.eq (g2 := F0 mG 17 ls [.long (eR (T i)), .int (nI r)]) rfl ?_
        refine Ct.callS0 (rest := [.int (nI r)]) xh bh hml hown hts hK hP hS hA (ct_X9_many l D cI cJ cB cZ cA (T i) (by exact hT _)) (va_cwS 1 hts gX9_allParts_X9_many rfl rfl rfl (by decide +kernel) ⟨Nat.le_of_ble_eq_true rfl, Nat.le_of_ble_eq_true rfl⟩) rfl rfl hl.1 (Nat.le_of_ble_eq_true rfl) dX9_allParts_17 ⟨Nat.le_refl _, Nat.le_refl _⟩ (fun _ H locs _ hP hS => ?_)
        refine W.eq (g2 := F0 mG 20 ls [.int (nI ((T i).length)), .int (nI r)]) rfl ?_
        refine xn_iadd xh bh dX9_allParts_20 ?_
        refine lv_istore_n (lv' := [(1, .int (nI (r + ((T i).length)))), (0, .ref (a 0)), (2, .int (nI i))]) xh bh dX9_allParts_21 rfl hl (by decide) rfl (fun ls hl => ?_)
        refine lv_iinc (v := (nI (i + 1))) (lv' := [(2, .int (nI (i + 1))), (1, .int (nI (r + ((T i).length)))), (0, .ref (a 0))]) xh bh dX9_allParts_22 hl (k := 2) rfl (by exact xn_inc _ _) (by decide) rfl (fun ls hl => ?_)
        refine lv_goto (tgt := 4) xh bh dX9_allParts_25 (by decide) ?_
        exact ih_4 (i + 1) (r + ((T i).length)) (by omega) (by rw [hr]; rfl) (by omega) _ _ ls hP hD hS (lv_sub hl [2, 1, 0] rfl)
  exact cut_4 (8 - 0 + 1) 0 0 (by exact Nat.zero_le _) (by rfl) (Nat.lt_succ_self _) _ _ ls hP hD hS (lv_sub hl [2, 1, 0] rfl)

set_option maxHeartbeats 1000000 in
set_option maxRecDepth 100000 in
theorem ct_X9_counted (l : Launch) (D : va_G) (cI cJ cB cZ cA : ClassId) (a : Nat → Nat) (T : Nat → List Nat) (hm : Nat) (un : Nat) (fa : Int64) (fb : Int64) (lx : Nat) (bl : Nat) (ta : Nat) (tl : Nat) (tk : Nat) (va : Nat) (w : Nat) (hT : ∀ k, okT (T k)) (hw : w ≤ 5) : Ct l yX9_counted wsX9_counted ({ frames := 2, cells := 0, slots := 0, locals := 43 }) D (tysG cI cJ cB cZ cA) [.ref (a 0), .int (nI w)] [(a 0, .inr (6, [.ref (a 1), .ref (a 2), .int (nI hm), .int (nI un), .ref (a 3), .ref (a 4), .ref (a 5), .ref (a 6), .ref (a 7), .ref (a 8), .ref (a 9), .ref (a 10), .ref (a 11), .ref (a 12), .long fa, .long fb, .ref (a 13), .long (lN lx), .ref (a 14), .int (nI bl), .int (nI ta), .int (nI tl), .int (nI tk), .int (nI va), .ref (a 15), .ref (a 16), .ref (a 17)])), (a 1, .inl (cJ, 9, .inr (.inl (fR T))))] (fun (_ : Unit) => True) (fun _ => some (.int (nI (cnW w (tdN T 8) (plT T 8) (T 8).length hm un bl)))) (fun _ => [(a 0, .inr (6, [.ref (a 1), .ref (a 2), .int (nI hm), .int (nI un), .ref (a 3), .ref (a 4), .ref (a 5), .ref (a 6), .ref (a 7), .ref (a 8), .ref (a 9), .ref (a 10), .ref (a 11), .ref (a 12), .long fa, .long fb, .ref (a 13), .long (lN lx), .ref (a 14), .int (nI bl), .int (nI ta), .int (nI tl), .int (nI tk), .int (nI va), .ref (a 15), .ref (a 16), .ref (a 17)])), (a 1, .inl (cJ, 9, .inr (.inl (fR T))))]) := by
  refine Ct.ofI (cc := cX9_counted) (maxL := 2) (by decide) rfl (Nat.le_of_ble_eq_true rfl) ?_
  intro pG eG sG mG aG bG tG cG AG QG ls xh bh hml hown hts hK hP hD hS hA hend hl
  have hl : lv_has ls 2 [(0, .ref (a 0)), (1, .int (nI w))] := hl
  refine lv_iload_n xh bh dX9_counted_0 rfl (lv_at hl 1 rfl) ?_
  refine xn_cases (x := w) 0 4 (fun c_1 => ?_) (fun c_1 => ?_)
  · refine lv_tableOut (tgt := 61) xh bh dX9_counted_1 (by exact xn_out (by omega) c_1) (by decide) ?_
    refine lv_aload_n xh bh dX9_counted_61 rfl (lv_at hl 0 rfl) ?_
    refine va_get (D := D) (ci := 6) (v := .int (nI bl)) (C := RX9) (T := TX9) (N := 27) xh bh hts (fun _ h => List.mem_cons_of_mem _ (List.mem_append_right _ (h))) hown hK.1 hP 0 rfl rfl 19 (by decide) (hts _ (List.mem_of_getElem? (i := 3) rfl)) (fun _ h9 => h9) rfl dX9_counted_62 ?_
    exact hend (nI bl) () _ _ _ _ (congrArg (fun z => some (Value.int (nI z))) (by first | (rw [c_1]; rfl) | (rw [show w = 5 by omega]; rfl))) trivial rfl dX9_counted_65 hP hD hS
  · rcases (show w = 0 ∨ w = 1 ∨ w = 2 ∨ w = 3 ∨ w = 4 by omega) with c_1 | c_1 | c_1 | c_1 | c_1
    · refine lv_tableIn (off := 35) (tgt := 36) xh bh dX9_counted_1 (by rw [c_1]; decide) (by rw [c_1]; decide) (by rw [c_1]; decide) (by decide) ?_
      refine lv_aload_n xh bh dX9_counted_36 rfl (lv_at hl 0 rfl) ?_
      refine Ct.callV (As := []) (rest := []) (wr := []) xh bh hml hown hts hK hP hD hS hA (ct_X9_told l D cI cJ cB cZ cA a T hm un fa fb lx bl ta tl tk va (by first | assumption)) (cwV 0 hts gX9_counted_X9_told rfl rfl rfl (by decide +kernel) ⟨Nat.le_of_ble_eq_true rfl, Nat.le_of_ble_eq_true rfl⟩) rfl rfl hl.1 (Nat.le_of_ble_eq_true rfl) dX9_counted_37 ⟨Nat.le_refl _, Nat.le_refl _⟩ 0 6 rfl rfl rfl [0, 1] [] rfl (by decide) rfl rfl (by decide) (by decide) (fun _ H locs _ hP hD hS => ?_)
      have hP : va_P D vwCl [(a 0, .inr (6, [.ref (a 1), .ref (a 2), .int (nI hm), .int (nI un), .ref (a 3), .ref (a 4), .ref (a 5), .ref (a 6), .ref (a 7), .ref (a 8), .ref (a 9), .ref (a 10), .ref (a 11), .ref (a 12), .long fa, .long fb, .ref (a 13), .long (lN lx), .ref (a 14), .int (nI bl), .int (nI ta), .int (nI tl), .int (nI tk), .int (nI va), .ref (a 15), .ref (a 16), .ref (a 17)])), (a 1, .inl (cJ, 9, .inr (.inl (fR T))))] H := hP
      have hD : va_D AG [(a 0, .inr (6, [.ref (a 1), .ref (a 2), .int (nI hm), .int (nI un), .ref (a 3), .ref (a 4), .ref (a 5), .ref (a 6), .ref (a 7), .ref (a 8), .ref (a 9), .ref (a 10), .ref (a 11), .ref (a 12), .long fa, .long fb, .ref (a 13), .long (lN lx), .ref (a 14), .int (nI bl), .int (nI ta), .int (nI tl), .int (nI tk), .int (nI va), .ref (a 15), .ref (a 16), .ref (a 17)])), (a 1, .inl (cJ, 9, .inr (.inl (fR T))))] := hD
      refine W.eq (g2 := F0 mG 40 ls [.int (nI (tdN T 8))]) rfl ?_
      exact hend (nI (tdN T 8)) () _ _ _ _ (congrArg (fun z => some (Value.int (nI z))) (by first | (rw [c_1]; rfl) | (rw [show w = 5 by omega]; rfl))) trivial rfl dX9_counted_40 hP hD hS
    · refine lv_tableIn (off := 40) (tgt := 41) xh bh dX9_counted_1 (by rw [c_1]; decide) (by rw [c_1]; decide) (by rw [c_1]; decide) (by decide) ?_
      refine lv_aload_n xh bh dX9_counted_41 rfl (lv_at hl 0 rfl) ?_
      refine Ct.callV (As := []) (rest := []) (wr := []) xh bh hml hown hts hK hP hD hS hA (ct_X9_allParts l D cI cJ cB cZ cA a T hm un fa fb lx bl ta tl tk va (by first | assumption)) (cwV 0 hts gX9_counted_X9_allParts rfl rfl rfl (by decide +kernel) ⟨Nat.le_of_ble_eq_true rfl, Nat.le_of_ble_eq_true rfl⟩) rfl rfl hl.1 (Nat.le_of_ble_eq_true rfl) dX9_counted_42 ⟨Nat.le_refl _, Nat.le_refl _⟩ 0 6 rfl rfl rfl [0, 1] [] rfl (by decide) rfl rfl (by decide) (by decide) (fun _ H locs _ hP hD hS => ?_)
      have hP : va_P D vwCl [(a 0, .inr (6, [.ref (a 1), .ref (a 2), .int (nI hm), .int (nI un), .ref (a 3), .ref (a 4), .ref (a 5), .ref (a 6), .ref (a 7), .ref (a 8), .ref (a 9), .ref (a 10), .ref (a 11), .ref (a 12), .long fa, .long fb, .ref (a 13), .long (lN lx), .ref (a 14), .int (nI bl), .int (nI ta), .int (nI tl), .int (nI tk), .int (nI va), .ref (a 15), .ref (a 16), .ref (a 17)])), (a 1, .inl (cJ, 9, .inr (.inl (fR T))))] H := hP
      have hD : va_D AG [(a 0, .inr (6, [.ref (a 1), .ref (a 2), .int (nI hm), .int (nI un), .ref (a 3), .ref (a 4), .ref (a 5), .ref (a 6), .ref (a 7), .ref (a 8), .ref (a 9), .ref (a 10), .ref (a 11), .ref (a 12), .long fa, .long fb, .ref (a 13), .long (lN lx), .ref (a 14), .int (nI bl), .int (nI ta), .int (nI tl), .int (nI tk), .int (nI va), .ref (a 15), .ref (a 16), .ref (a 17)])), (a 1, .inl (cJ, 9, .inr (.inl (fR T))))] := hD
      refine W.eq (g2 := F0 mG 45 ls [.int (nI (plT T 8))]) rfl ?_
      exact hend (nI (plT T 8)) () _ _ _ _ (congrArg (fun z => some (Value.int (nI z))) (by first | (rw [c_1]; rfl) | (rw [show w = 5 by omega]; rfl))) trivial rfl dX9_counted_45 hP hD hS
    · refine lv_tableIn (off := 45) (tgt := 46) xh bh dX9_counted_1 (by rw [c_1]; decide) (by rw [c_1]; decide) (by rw [c_1]; decide) (by decide) ?_
      refine lv_aload_n xh bh dX9_counted_46 rfl (lv_at hl 0 rfl) ?_
      refine Ct.callV (As := []) (rest := []) (wr := []) xh bh hml hown hts hK hP hD hS hA (ct_X9_rowMany l D cI cJ cB cZ cA a T hm un fa fb lx bl ta tl tk va (by first | assumption)) (cwV 0 hts gX9_counted_X9_rowMany rfl rfl rfl (by decide +kernel) ⟨Nat.le_of_ble_eq_true rfl, Nat.le_of_ble_eq_true rfl⟩) rfl rfl hl.1 (Nat.le_of_ble_eq_true rfl) dX9_counted_47 ⟨Nat.le_refl _, Nat.le_refl _⟩ 0 6 rfl rfl rfl [0, 1] [] rfl (by decide) rfl rfl (by decide) (by decide) (fun _ H locs _ hP hD hS => ?_)
      have hP : va_P D vwCl [(a 0, .inr (6, [.ref (a 1), .ref (a 2), .int (nI hm), .int (nI un), .ref (a 3), .ref (a 4), .ref (a 5), .ref (a 6), .ref (a 7), .ref (a 8), .ref (a 9), .ref (a 10), .ref (a 11), .ref (a 12), .long fa, .long fb, .ref (a 13), .long (lN lx), .ref (a 14), .int (nI bl), .int (nI ta), .int (nI tl), .int (nI tk), .int (nI va), .ref (a 15), .ref (a 16), .ref (a 17)])), (a 1, .inl (cJ, 9, .inr (.inl (fR T))))] H := hP
      have hD : va_D AG [(a 0, .inr (6, [.ref (a 1), .ref (a 2), .int (nI hm), .int (nI un), .ref (a 3), .ref (a 4), .ref (a 5), .ref (a 6), .ref (a 7), .ref (a 8), .ref (a 9), .ref (a 10), .ref (a 11), .ref (a 12), .long fa, .long fb, .ref (a 13), .long (lN lx), .ref (a 14), .int (nI bl), .int (nI ta), .int (nI tl), .int (nI tk), .int (nI va), .ref (a 15), .ref (a 16), .ref (a 17)])), (a 1, .inl (cJ, 9, .inr (.inl (fR T))))] := hD
      refine W.eq (g2 := F0 mG 50 ls [.int (nI ((T 8).length))]) rfl ?_
      exact hend (nI ((T 8).length)) () _ _ _ _ (congrArg (fun z => some (Value.int (nI z))) (by first | (rw [c_1]; rfl) | (rw [show w = 5 by omega]; rfl))) trivial rfl dX9_counted_50 hP hD hS
    · refine lv_tableIn (off := 50) (tgt := 51) xh bh dX9_counted_1 (by rw [c_1]; decide) (by rw [c_1]; decide) (by rw [c_1]; decide) (by decide) ?_
      refine lv_aload_n xh bh dX9_counted_51 rfl (lv_at hl 0 rfl) ?_
      refine va_get (D := D) (ci := 6) (v := .int (nI hm)) (C := RX9) (T := TX9) (N := 27) xh bh hts (fun _ h => List.mem_cons_of_mem _ (List.mem_append_right _ (h))) hown hK.1 hP 0 rfl rfl 2 (by decide) (hts _ (List.mem_of_getElem? (i := 1) rfl)) (fun _ h9 => h9) rfl dX9_counted_52 ?_
      exact hend (nI hm) () _ _ _ _ (congrArg (fun z => some (Value.int (nI z))) (by first | (rw [c_1]; rfl) | (rw [show w = 5 by omega]; rfl))) trivial rfl dX9_counted_55 hP hD hS
    · refine lv_tableIn (off := 55) (tgt := 56) xh bh dX9_counted_1 (by rw [c_1]; decide) (by rw [c_1]; decide) (by rw [c_1]; decide) (by decide) ?_
      refine lv_aload_n xh bh dX9_counted_56 rfl (lv_at hl 0 rfl) ?_
      refine va_get (D := D) (ci := 6) (v := .int (nI un)) (C := RX9) (T := TX9) (N := 27) xh bh hts (fun _ h => List.mem_cons_of_mem _ (List.mem_append_right _ (h))) hown hK.1 hP 0 rfl rfl 3 (by decide) (hts _ (List.mem_of_getElem? (i := 2) rfl)) (fun _ h9 => h9) rfl dX9_counted_57 ?_
      exact hend (nI un) () _ _ _ _ (congrArg (fun z => some (Value.int (nI z))) (by first | (rw [c_1]; rfl) | (rw [show w = 5 by omega]; rfl))) trivial rfl dX9_counted_60 hP hD hS

set_option maxHeartbeats 1000000 in
set_option maxRecDepth 100000 in
theorem ct_X9_count (l : Launch) (D : va_G) (cI cJ cB cZ cA : ClassId) (a : Nat → Nat) (T : Nat → List Nat) (rf : Nat → Int32) (hm : Nat) (un : Nat) (fa : Int64) (fb : Int64) (lx : Nat) (bl : Nat) (ta : Nat) (tl : Nat) (tk : Nat) (va : Nat) (w : Int32) (hT : ∀ k, okT (T k)) : Ct l yX9_count wsX9_count ({ frames := 3, cells := 0, slots := 0, locals := 64 }) D (tysG cI cJ cB cZ cA) [.ref (a 0), .int w] [(a 0, .inr (6, [.ref (a 1), .ref (a 2), .int (nI hm), .int (nI un), .ref (a 3), .ref (a 4), .ref (a 5), .ref (a 6), .ref (a 7), .ref (a 8), .ref (a 9), .ref (a 10), .ref (a 11), .ref (a 12), .long fa, .long fb, .ref (a 13), .long (lN lx), .ref (a 14), .int (nI bl), .int (nI ta), .int (nI tl), .int (nI tk), .int (nI va), .ref (a 15), .ref (a 16), .ref (a 17)])), (a 1, .inl (cJ, 9, .inr (.inl (fR T)))), (a 12, .inl (cI, 3, .inl rf))] (fun (_ : Unit) => True) (fun _ => some (.int (eTwo (kW w 5) (cnW (xN w) (tdN T 8) (plT T 8) (T 8).length hm un bl)))) (fun _ => [(a 0, .inr (6, [.ref (a 1), .ref (a 2), .int (nI hm), .int (nI un), .ref (a 3), .ref (a 4), .ref (a 5), .ref (a 6), .ref (a 7), .ref (a 8), .ref (a 9), .ref (a 10), .ref (a 11), .ref (a 12), .long fa, .long fb, .ref (a 13), .long (lN lx), .ref (a 14), .int (nI bl), .int (nI ta), .int (nI tl), .int (nI tk), .int (nI va), .ref (a 15), .ref (a 16), .ref (a 17)])), (a 1, .inl (cJ, 9, .inr (.inl (fR T)))), (a 12, .inl (cI, 3, .inl (rfU (kW w 5) rf)))]) := by
  refine Ct.ofI (cc := cX9_count) (maxL := 2) (by decide) rfl (Nat.le_of_ble_eq_true rfl) ?_
  intro pG eG sG mG aG bG tG cG AG QG ls xh bh hml hown hts hK hP hD hS hA hend hl
  have hl : lv_has ls 2 [(0, .ref (a 0)), (1, .int w)] := hl
  refine lv_iload_n xh bh dX9_count_0 rfl (lv_at hl 1 rfl) ?_
  refine lv_i2l xh bh dX9_count_1 rfl ?_
  refine lv_lconst (v := lN 0) xh bh dX9_count_2 (by decide) ?_
  refine lv_ldc2 (v := (lN 5)) xh bh hown (hts _ (List.mem_of_getElem? (i := 1) rfl)) dX9_count_3 ?_
  refine Ct.callS0 (rest := []) xh bh hml hown hts hK hP hS hA (ct_X9_in l D cI cJ cB cZ cA w.toInt64 (lN 0) (lN 5) ) (va_cwS 3 hts gX9_count_X9_in rfl rfl rfl (by decide +kernel) ⟨Nat.le_of_ble_eq_true rfl, Nat.le_of_ble_eq_true rfl⟩) rfl rfl hl.1 (Nat.le_of_ble_eq_true rfl) dX9_count_6 ⟨Nat.le_refl _, Nat.le_refl _⟩ (fun _ H locs _ hP hS => ?_)
  refine W.eq (g2 := F0 mG 9 ls [.int (ib (decide (¬ w.toInt64 < (lN 0) ∧ ¬ (lN 5) < w.toInt64)))]) rfl ?_
  refine xw_topi (x := (ib (decide (¬ w.toInt64 < (lN 0) ∧ ¬ (lN 5) < w.toInt64)))) (y := (ib (upB w 5))) (by rw [upB_long (by decide)]) ?_
  refine xb_if_eq (tgt := 20) xh bh dX9_count_9 (by decide) (fun c_9 => ?_) (fun c_9 => ?_)
  · have hk : kW w 5 = 0 := if_neg (fun q => by rw [c_9] at q; exact absurd q (by decide))
    refine lv_aload_n xh bh dX9_count_20 rfl (lv_at hl 0 rfl) ?_
    refine lv_bipush (v := (-2)) xh bh dX9_count_21 (by decide) ?_
    refine Ct.callV (As := [.int (-2)]) (rest := []) (wr := [(a 1, .inl (cJ, 9, .inr (.inl (fR T))))]) xh bh hml hown hts hK hP hD hS hA (ct_X9_bad l D cI cJ cB cZ cA a rf hm un fa fb lx bl ta tl tk va (-2) ) (cwV 1 hts gX9_count_X9_bad rfl rfl rfl (by decide +kernel) ⟨Nat.le_of_ble_eq_true rfl, Nat.le_of_ble_eq_true rfl⟩) rfl rfl hl.1 (Nat.le_of_ble_eq_true rfl) dX9_count_23 ⟨Nat.le_refl _, Nat.le_refl _⟩ 0 6 rfl rfl rfl [0, 2] [1] rfl (by decide) rfl rfl (by decide) (by decide) (fun _ H locs _ hP hD hS => ?_)
    have hP : va_P D vwCl [(a 1, .inl (cJ, 9, .inr (.inl (fR T)))), (a 0, .inr (6, [.ref (a 1), .ref (a 2), .int (nI hm), .int (nI un), .ref (a 3), .ref (a 4), .ref (a 5), .ref (a 6), .ref (a 7), .ref (a 8), .ref (a 9), .ref (a 10), .ref (a 11), .ref (a 12), .long fa, .long fb, .ref (a 13), .long (lN lx), .ref (a 14), .int (nI bl), .int (nI ta), .int (nI tl), .int (nI tk), .int (nI va), .ref (a 15), .ref (a 16), .ref (a 17)])), (a 12, .inl (cI, 3, .inl (upd rf 0 ((rf 0) + nI 1))))] H := hP
    have hD : va_D AG [(a 1, .inl (cJ, 9, .inr (.inl (fR T)))), (a 0, .inr (6, [.ref (a 1), .ref (a 2), .int (nI hm), .int (nI un), .ref (a 3), .ref (a 4), .ref (a 5), .ref (a 6), .ref (a 7), .ref (a 8), .ref (a 9), .ref (a 10), .ref (a 11), .ref (a 12), .long fa, .long fb, .ref (a 13), .long (lN lx), .ref (a 14), .int (nI bl), .int (nI ta), .int (nI tl), .int (nI tk), .int (nI va), .ref (a 15), .ref (a 16), .ref (a 17)])), (a 12, .inl (cI, 3, .inl (upd rf 0 ((rf 0) + nI 1))))] := hD
    refine W.eq (g2 := F0 mG 26 ls [.int (-2)]) rfl ?_
    exact hend (-2) () _ _ _ _ (congrArg (fun z => some (Value.int z)) (by rw [hk]; first | rfl | (rw [xN_nI (by omega)]; rfl))) trivial rfl dX9_count_26 (by rw [hk]; exact (hP.sub [1, 0, 2] rfl)) (by rw [hk]; exact (hD.sub [1, 0, 2] (by decide) rfl)) hS
  · have hk : kW w 5 = 3 := if_pos c_9
    obtain ⟨w2, hw9, rfl⟩ := upB_of (by decide) c_9
    refine lv_aload_n xh bh dX9_count_12 rfl (lv_at hl 0 rfl) ?_
    refine lv_iload_n xh bh dX9_count_13 rfl (lv_at hl 1 rfl) ?_
    refine Ct.callV (As := [.int (nI w2)]) (rest := []) (wr := [(a 12, .inl (cI, 3, .inl rf))]) xh bh hml hown hts hK hP hD hS hA (ct_X9_counted l D cI cJ cB cZ cA a T hm un fa fb lx bl ta tl tk va w2 (by first | assumption) (by first | assumption | omega)) (cwV 1 hts gX9_count_X9_counted rfl rfl rfl (by decide +kernel) ⟨Nat.le_of_ble_eq_true rfl, Nat.le_of_ble_eq_true rfl⟩) rfl rfl hl.1 (Nat.le_of_ble_eq_true rfl) dX9_count_14 ⟨Nat.le_refl _, Nat.le_refl _⟩ 0 6 rfl rfl rfl [0, 1] [2] rfl (by decide) rfl rfl (by decide) (by decide) (fun _ H locs _ hP hD hS => ?_)
    have hP : va_P D vwCl [(a 12, .inl (cI, 3, .inl rf)), (a 0, .inr (6, [.ref (a 1), .ref (a 2), .int (nI hm), .int (nI un), .ref (a 3), .ref (a 4), .ref (a 5), .ref (a 6), .ref (a 7), .ref (a 8), .ref (a 9), .ref (a 10), .ref (a 11), .ref (a 12), .long fa, .long fb, .ref (a 13), .long (lN lx), .ref (a 14), .int (nI bl), .int (nI ta), .int (nI tl), .int (nI tk), .int (nI va), .ref (a 15), .ref (a 16), .ref (a 17)])), (a 1, .inl (cJ, 9, .inr (.inl (fR T))))] H := hP
    have hD : va_D AG [(a 12, .inl (cI, 3, .inl rf)), (a 0, .inr (6, [.ref (a 1), .ref (a 2), .int (nI hm), .int (nI un), .ref (a 3), .ref (a 4), .ref (a 5), .ref (a 6), .ref (a 7), .ref (a 8), .ref (a 9), .ref (a 10), .ref (a 11), .ref (a 12), .long fa, .long fb, .ref (a 13), .long (lN lx), .ref (a 14), .int (nI bl), .int (nI ta), .int (nI tl), .int (nI tk), .int (nI va), .ref (a 15), .ref (a 16), .ref (a 17)])), (a 1, .inl (cJ, 9, .inr (.inl (fR T))))] := hD
    refine W.eq (g2 := F0 mG 17 ls [.int (nI (cnW w2 (tdN T 8) (plT T 8) (T 8).length hm un bl))]) rfl ?_
    refine lv_goto (tgt := 26) xh bh dX9_count_17 (by decide) ?_
    exact hend (nI (cnW w2 (tdN T 8) (plT T 8) (T 8).length hm un bl)) () _ _ _ _ (congrArg (fun z => some (Value.int z)) (by rw [hk]; first | rfl | (rw [xN_nI (by omega)]; rfl))) trivial rfl dX9_count_26 (by rw [hk]; exact (hP.sub [1, 2, 0] rfl)) (by rw [hk]; exact (hD.sub [1, 2, 0] (by decide) rfl)) hS

set_option maxHeartbeats 1000000 in
set_option maxRecDepth 100000 in
theorem ct_X9_digest (l : Launch) (D : va_G) (cI cJ cB cZ cA : ClassId) (a : Nat → Nat) (T : Nat → List Nat) (P : Nat → Int32) (hs : Nat → Nat) (hm : Nat) (un : Nat) (fa : Int64) (fb : Int64) (lx : Nat) (bl : Nat) (ta : Nat) (tl : Nat) (tk : Nat) (va : Nat) (hT : ∀ k, okT (T k)) (hhm : hm ≤ 6) (hh : ∀ j, j < 2 * hm → hs j < 10) (hun : un ≤ 8) (hbl : bl ≤ 150) : Ct l yX9_digest wsX9_digest ({ frames := 3, cells := 0, slots := 0, locals := 64 }) D (tysG cI cJ cB cZ cA) [.ref (a 0)] [(a 0, .inr (6, [.ref (a 1), .ref (a 2), .int (nI hm), .int (nI un), .ref (a 3), .ref (a 4), .ref (a 5), .ref (a 6), .ref (a 7), .ref (a 8), .ref (a 9), .ref (a 10), .ref (a 11), .ref (a 12), .long fa, .long fb, .ref (a 13), .long (lN lx), .ref (a 14), .int (nI bl), .int (nI ta), .int (nI tl), .int (nI tk), .int (nI va), .ref (a 15), .ref (a 16), .ref (a 17)])), (a 1, .inl (cJ, 9, .inr (.inl (fR T)))), (a 2, .inl (cI, 8, .inl P)), (a 3, .inl (cI, 12, .inl (fN hs)))] (fun (_ : Unit) => True) (fun _ => some (.long (dgA (fun w => cnW w (tdN T 8) (plT T 8) (T 8).length hm un bl) T P (T 8) hs (2 * hm) fa fb))) (fun _ => [(a 0, .inr (6, [.ref (a 1), .ref (a 2), .int (nI hm), .int (nI un), .ref (a 3), .ref (a 4), .ref (a 5), .ref (a 6), .ref (a 7), .ref (a 8), .ref (a 9), .ref (a 10), .ref (a 11), .ref (a 12), .long fa, .long fb, .ref (a 13), .long (lN lx), .ref (a 14), .int (nI bl), .int (nI ta), .int (nI tl), .int (nI tk), .int (nI va), .ref (a 15), .ref (a 16), .ref (a 17)])), (a 1, .inl (cJ, 9, .inr (.inl (fR T)))), (a 2, .inl (cI, 8, .inl P)), (a 3, .inl (cI, 12, .inl (fN hs)))]) := by
  refine Ct.ofL (cc := cX9_digest) (maxL := 4) (by decide) rfl (Nat.le_of_ble_eq_true rfl) ?_
  intro pG eG sG mG aG bG tG cG AG QG ls xh bh hml hown hts hK hP hD hS hA hend hl
  have hl : lv_has ls 4 [(0, .ref (a 0))] := hl
  have q1 := tdN_le T 8
  have q2 := plT_le hT 8
  have q3 := (hT 8).1
  refine lv_ldc2 (v := (lN 1051)) xh bh hown (hts _ (List.mem_of_getElem? (i := 1) rfl)) dX9_digest_0 ?_
  refine lv_lstore_n (lv' := [(1, .long (lN 1051)), (0, .ref (a 0))]) xh bh dX9_digest_3 rfl hl (by decide) rfl (fun ls hl => ?_)
  refine lv_iconst (v := (nI 0)) xh bh dX9_digest_4 (by decide) ?_
  refine lv_istore_n (lv' := [(3, .int (nI 0)), (1, .long (lN 1051)), (0, .ref (a 0))]) xh bh dX9_digest_5 rfl hl (by decide) rfl (fun ls hl => ?_)
  have cut_6 : ∀ (n_6 : Nat), ∀ (i : Nat), ∀ (h : Int64), (i ≤ 6) → (h = dg1 (fun w => cnW w (tdN T 8) (plT T 8) (T 8).length hm un bl) i) → (6 - i) < n_6 → ∀ (H : Heap) (locs : List Loc) (ls : Array Slot), va_P D vwCl [(a 0, .inr (6, [.ref (a 1), .ref (a 2), .int (nI hm), .int (nI un), .ref (a 3), .ref (a 4), .ref (a 5), .ref (a 6), .ref (a 7), .ref (a 8), .ref (a 9), .ref (a 10), .ref (a 11), .ref (a 12), .long fa, .long fb, .ref (a 13), .long (lN lx), .ref (a 14), .int (nI bl), .int (nI ta), .int (nI tl), .int (nI tk), .int (nI va), .ref (a 15), .ref (a 16), .ref (a 17)])), (a 1, .inl (cJ, 9, .inr (.inl (fR T)))), (a 2, .inl (cI, 8, .inl P)), (a 3, .inl (cI, 12, .inl (fN hs)))] H → va_D AG [(a 0, .inr (6, [.ref (a 1), .ref (a 2), .int (nI hm), .int (nI un), .ref (a 3), .ref (a 4), .ref (a 5), .ref (a 6), .ref (a 7), .ref (a 8), .ref (a 9), .ref (a 10), .ref (a 11), .ref (a 12), .long fa, .long fb, .ref (a 13), .long (lN lx), .ref (a 14), .int (nI bl), .int (nI ta), .int (nI tl), .int (nI tk), .int (nI va), .ref (a 15), .ref (a 16), .ref (a 17)])), (a 1, .inl (cJ, 9, .inr (.inl (fR T)))), (a 2, .inl (cI, 8, .inl P)), (a 3, .inl (cI, 12, .inl (fN hs)))] → va_S AG sG.heap H locs → lv_has ls 4 [(0, .ref (a 0)), (1, .long h), (3, .int (nI i))] → W pG l eG ({ frames := 3, cells := 0, slots := 0, locals := 64 }) sG mG aG bG tG cG H locs 0 0 QG (F0 mG 6 ls []) := by
    intro n_6
    induction n_6 with
    | zero =>
      intro i h hi hh1 hmu
      exact absurd hmu (Nat.not_lt_zero _)
    | succ n_6 ih_6 =>
      intro i h hi hh1 hmu H locs ls hP hD hS hl
      refine lv_iload_n xh bh dX9_digest_6 rfl (lv_at hl 2 rfl) ?_
      refine lv_bipush (v := (nI 6)) xh bh dX9_digest_7 (by decide) ?_
      refine xn_icmp_ge (tgt := 31) xh bh dX9_digest_9 (by decide) (by omega) (by omega) (fun c_9 => ?_) (fun c_9 => ?_)
      · refine lv_iconst (v := (nI 0)) xh bh dX9_digest_31 (by decide) ?_
        refine lv_istore_n (lv' := [(3, .int (nI 0)), (0, .ref (a 0)), (1, .long h)]) xh bh dX9_digest_32 rfl hl (by decide) rfl (fun ls hl => ?_)
        have cut_33 : ∀ (n_33 : Nat), ∀ (i2 : Nat), ∀ (h2 : Int64), (i2 ≤ 8) → (h2 = dg2 T P (dg1 (fun w => cnW w (tdN T 8) (plT T 8) (T 8).length hm un bl) 6) i2) → (8 - i2) < n_33 → ∀ (H : Heap) (locs : List Loc) (ls : Array Slot), va_P D vwCl [(a 0, .inr (6, [.ref (a 1), .ref (a 2), .int (nI hm), .int (nI un), .ref (a 3), .ref (a 4), .ref (a 5), .ref (a 6), .ref (a 7), .ref (a 8), .ref (a 9), .ref (a 10), .ref (a 11), .ref (a 12), .long fa, .long fb, .ref (a 13), .long (lN lx), .ref (a 14), .int (nI bl), .int (nI ta), .int (nI tl), .int (nI tk), .int (nI va), .ref (a 15), .ref (a 16), .ref (a 17)])), (a 1, .inl (cJ, 9, .inr (.inl (fR T)))), (a 2, .inl (cI, 8, .inl P)), (a 3, .inl (cI, 12, .inl (fN hs)))] H → va_D AG [(a 0, .inr (6, [.ref (a 1), .ref (a 2), .int (nI hm), .int (nI un), .ref (a 3), .ref (a 4), .ref (a 5), .ref (a 6), .ref (a 7), .ref (a 8), .ref (a 9), .ref (a 10), .ref (a 11), .ref (a 12), .long fa, .long fb, .ref (a 13), .long (lN lx), .ref (a 14), .int (nI bl), .int (nI ta), .int (nI tl), .int (nI tk), .int (nI va), .ref (a 15), .ref (a 16), .ref (a 17)])), (a 1, .inl (cJ, 9, .inr (.inl (fR T)))), (a 2, .inl (cI, 8, .inl P)), (a 3, .inl (cI, 12, .inl (fN hs)))] → va_S AG sG.heap H locs → lv_has ls 4 [(0, .ref (a 0)), (1, .long h2), (3, .int (nI i2))] → W pG l eG ({ frames := 3, cells := 0, slots := 0, locals := 64 }) sG mG aG bG tG cG H locs 0 0 QG (F0 mG 33 ls []) := by
          intro n_33
          induction n_33 with
          | zero =>
            intro i2 h2 hi2 hh2 hmu
            exact absurd hmu (Nat.not_lt_zero _)
          | succ n_33 ih_33 =>
            intro i2 h2 hi2 hh2 hmu H locs ls hP hD hS hl
            refine lv_iload_n xh bh dX9_digest_33 rfl (lv_at hl 2 rfl) ?_
            refine lv_bipush (v := (nI 8)) xh bh dX9_digest_34 (by decide) ?_
            refine xn_icmp_ge (tgt := 83) xh bh dX9_digest_36 (by decide) (by omega) (by omega) (fun c_36 => ?_) (fun c_36 => ?_)
            · refine lv_lload_n xh bh dX9_digest_83 rfl (lv_at hl 1 rfl) ?_
              refine lv_aload_n xh bh dX9_digest_84 rfl (lv_at hl 0 rfl) ?_
              refine va_get (D := D) (ci := 6) (v := .ref (a 1)) (C := RX9) (T := TX9) (N := 27) xh bh hts (fun _ h => List.mem_cons_of_mem _ (List.mem_append_right _ (h))) hown hK.1 hP 0 rfl rfl 0 (by decide) (hts _ (List.mem_of_getElem? (i := 3) rfl)) (fun _ h9 => h9) rfl dX9_digest_85 ?_
              refine lv_bipush (v := (nI 8)) xh bh dX9_digest_88 (by decide) ?_
              refine xa_lald xh bh hK.1 hP 1 1 rfl rfl (by omega) (by omega) dX9_digest_90 ?_
              refine W.eq (g2 := F0 mG 91 ls [.long (eR (T 8)), .long h2]) rfl ?_
              refine Ct.callS0 (rest := []) xh bh hml hown hts hK hP hS hA (ct_X9_partsIn l D cI cJ cB cZ cA h2 (T 8) (by exact hT _)) (va_cwS 2 hts gX9_digest_X9_partsIn rfl rfl rfl (by decide +kernel) ⟨Nat.le_of_ble_eq_true rfl, Nat.le_of_ble_eq_true rfl⟩) rfl rfl hl.1 (Nat.le_of_ble_eq_true rfl) dX9_digest_91 ⟨Nat.le_refl _, Nat.le_refl _⟩ (fun _ H locs _ hP hS => ?_)
              refine W.eq (g2 := F0 mG 94 ls [.long (dgT (T 8) h2 (T 8).length)]) rfl ?_
              refine lv_lstore_n (lv' := [(1, .long (dgT (T 8) h2 (T 8).length)), (0, .ref (a 0)), (3, .int (nI i2))]) xh bh dX9_digest_94 rfl hl (by decide) rfl (fun ls hl => ?_)
              refine lv_iconst (v := (nI 0)) xh bh dX9_digest_95 (by decide) ?_
              refine lv_istore_n (lv' := [(3, .int (nI 0)), (1, .long (dgT (T 8) h2 (T 8).length)), (0, .ref (a 0))]) xh bh dX9_digest_96 rfl hl (by decide) rfl (fun ls hl => ?_)
              have cut_97 : ∀ (n_97 : Nat), ∀ (k : Nat), ∀ (h3 : Int64), (k ≤ 2 * hm) → (h3 = dg3 hs (dgT (T 8) (dg2 T P (dg1 (fun w => cnW w (tdN T 8) (plT T 8) (T 8).length hm un bl) 6) 8) (T 8).length) k) → (2 * hm - k) < n_97 → ∀ (H : Heap) (locs : List Loc) (ls : Array Slot), va_P D vwCl [(a 0, .inr (6, [.ref (a 1), .ref (a 2), .int (nI hm), .int (nI un), .ref (a 3), .ref (a 4), .ref (a 5), .ref (a 6), .ref (a 7), .ref (a 8), .ref (a 9), .ref (a 10), .ref (a 11), .ref (a 12), .long fa, .long fb, .ref (a 13), .long (lN lx), .ref (a 14), .int (nI bl), .int (nI ta), .int (nI tl), .int (nI tk), .int (nI va), .ref (a 15), .ref (a 16), .ref (a 17)])), (a 1, .inl (cJ, 9, .inr (.inl (fR T)))), (a 2, .inl (cI, 8, .inl P)), (a 3, .inl (cI, 12, .inl (fN hs)))] H → va_D AG [(a 0, .inr (6, [.ref (a 1), .ref (a 2), .int (nI hm), .int (nI un), .ref (a 3), .ref (a 4), .ref (a 5), .ref (a 6), .ref (a 7), .ref (a 8), .ref (a 9), .ref (a 10), .ref (a 11), .ref (a 12), .long fa, .long fb, .ref (a 13), .long (lN lx), .ref (a 14), .int (nI bl), .int (nI ta), .int (nI tl), .int (nI tk), .int (nI va), .ref (a 15), .ref (a 16), .ref (a 17)])), (a 1, .inl (cJ, 9, .inr (.inl (fR T)))), (a 2, .inl (cI, 8, .inl P)), (a 3, .inl (cI, 12, .inl (fN hs)))] → va_S AG sG.heap H locs → lv_has ls 4 [(0, .ref (a 0)), (1, .long h3), (3, .int (nI k))] → W pG l eG ({ frames := 3, cells := 0, slots := 0, locals := 64 }) sG mG aG bG tG cG H locs 0 0 QG (F0 mG 97 ls []) := by
                intro n_97
                induction n_97 with
                | zero =>
                  intro k h3 hk hh3 hmu
                  exact absurd hmu (Nat.not_lt_zero _)
                | succ n_97 ih_97 =>
                  intro k h3 hk hh3 hmu H locs ls hP hD hS hl
                  refine lv_iload_n xh bh dX9_digest_97 rfl (lv_at hl 2 rfl) ?_
                  refine lv_iconst (v := (nI 2)) xh bh dX9_digest_98 (by decide) ?_
                  refine lv_aload_n xh bh dX9_digest_99 rfl (lv_at hl 0 rfl) ?_
                  refine va_get (D := D) (ci := 6) (v := .int (nI hm)) (C := RX9) (T := TX9) (N := 27) xh bh hts (fun _ h => List.mem_cons_of_mem _ (List.mem_append_right _ (h))) hown hK.1 hP 0 rfl rfl 2 (by decide) (hts _ (List.mem_of_getElem? (i := 5) rfl)) (fun _ h9 => h9) rfl dX9_digest_100 ?_
                  refine xn_imul xh bh dX9_digest_103 ?_
                  refine xn_icmp_ge (tgt := 127) xh bh dX9_digest_104 (by decide) (by omega) (by omega) (fun c_104 => ?_) (fun c_104 => ?_)
                  · refine lv_ldc2 (v := (lN 31)) xh bh hown (hts _ (List.mem_of_getElem? (i := 2) rfl)) dX9_digest_127 ?_
                    refine lv_ldc2 (v := (lN 31)) xh bh hown (hts _ (List.mem_of_getElem? (i := 2) rfl)) dX9_digest_130 ?_
                    refine lv_lload_n xh bh dX9_digest_133 rfl (lv_at hl 1 rfl) ?_
                    refine lv_lmul xh bh dX9_digest_134 ?_
                    refine lv_aload_n xh bh dX9_digest_135 rfl (lv_at hl 0 rfl) ?_
                    refine va_get (D := D) (ci := 6) (v := .long fa) (C := RX9) (T := TX9) (N := 27) xh bh hts (fun _ h => List.mem_cons_of_mem _ (List.mem_append_right _ (h))) hown hK.1 hP 0 rfl rfl 14 (by decide) (hts _ (List.mem_of_getElem? (i := 7) rfl)) (fun _ h9 => h9) rfl dX9_digest_136 ?_
                    refine lv_ladd xh bh dX9_digest_139 ?_
                    refine lv_lmul xh bh dX9_digest_140 ?_
                    refine lv_aload_n xh bh dX9_digest_141 rfl (lv_at hl 0 rfl) ?_
                    refine va_get (D := D) (ci := 6) (v := .long fb) (C := RX9) (T := TX9) (N := 27) xh bh hts (fun _ h => List.mem_cons_of_mem _ (List.mem_append_right _ (h))) hown hK.1 hP 0 rfl rfl 15 (by decide) (hts _ (List.mem_of_getElem? (i := 8) rfl)) (fun _ h9 => h9) rfl dX9_digest_142 ?_
                    refine lv_ladd xh bh dX9_digest_145 ?_
                    exact hend (((lN 31) * (((lN 31) * h3) + fa)) + fb) () _ _ _ _ (congrArg (fun z => some (Value.long z)) (by unfold dgA; rw [hh3, show k = 2 * hm by omega])) trivial dX9_digest_146 hP hD hS
                  · refine lv_ldc2 (v := (lN 31)) xh bh hown (hts _ (List.mem_of_getElem? (i := 2) rfl)) dX9_digest_107 ?_
                    refine lv_lload_n xh bh dX9_digest_110 rfl (lv_at hl 1 rfl) ?_
                    refine lv_lmul xh bh dX9_digest_111 ?_
                    refine lv_aload_n xh bh dX9_digest_112 rfl (lv_at hl 0 rfl) ?_
                    refine va_get (D := D) (ci := 6) (v := .ref (a 3)) (C := RX9) (T := TX9) (N := 27) xh bh hts (fun _ h => List.mem_cons_of_mem _ (List.mem_append_right _ (h))) hown hK.1 hP 0 rfl rfl 4 (by decide) (hts _ (List.mem_of_getElem? (i := 6) rfl)) (fun _ h9 => h9) rfl dX9_digest_113 ?_
                    refine lv_iload_n xh bh dX9_digest_116 rfl (lv_at hl 2 rfl) ?_
                    refine xa_iald xh bh hK.1 hP 3 0 rfl rfl (by omega) (by omega) dX9_digest_117 ?_
                    refine W.eq (g2 := F0 mG 118 ls [.int (nI (hs k)), .long ((lN 31) * h3)]) rfl ?_
                    refine xn_i2l xh bh dX9_digest_118 (by have := hh k (by omega); omega) ?_
                    refine lv_ladd xh bh dX9_digest_119 ?_
                    refine lv_lstore_n (lv' := [(1, .long (((lN 31) * h3) + (lN (hs k)))), (0, .ref (a 0)), (3, .int (nI k))]) xh bh dX9_digest_120 rfl hl (by decide) rfl (fun ls hl => ?_)
                    refine lv_iinc (v := (nI (k + 1))) (lv' := [(3, .int (nI (k + 1))), (1, .long (((lN 31) * h3) + (lN (hs k)))), (0, .ref (a 0))]) xh bh dX9_digest_121 hl (k := 2) rfl (by exact xn_inc _ _) (by decide) rfl (fun ls hl => ?_)
                    refine lv_goto (tgt := 97) xh bh dX9_digest_124 (by decide) ?_
                    exact ih_97 (k + 1) (((lN 31) * h3) + (lN (hs k))) (by omega) (by rw [hh3]; rfl) (by omega) _ _ ls hP hD hS (lv_sub hl [2, 1, 0] rfl)
              exact cut_97 (2 * hm - 0 + 1) 0 (dgT (T 8) h2 (T 8).length) (by exact Nat.zero_le _) (by rw [hh2, show i2 = 8 by omega]; rfl) (Nat.lt_succ_self _) _ _ ls hP hD hS (lv_sub hl [2, 1, 0] rfl)
            · refine lv_ldc2 (v := (lN 31)) xh bh hown (hts _ (List.mem_of_getElem? (i := 2) rfl)) dX9_digest_39 ?_
              refine lv_ldc2 (v := (lN 31)) xh bh hown (hts _ (List.mem_of_getElem? (i := 2) rfl)) dX9_digest_42 ?_
              refine lv_lload_n xh bh dX9_digest_45 rfl (lv_at hl 1 rfl) ?_
              refine lv_lmul xh bh dX9_digest_46 ?_
              refine lv_aload_n xh bh dX9_digest_47 rfl (lv_at hl 0 rfl) ?_
              refine va_get (D := D) (ci := 6) (v := .ref (a 1)) (C := RX9) (T := TX9) (N := 27) xh bh hts (fun _ h => List.mem_cons_of_mem _ (List.mem_append_right _ (h))) hown hK.1 hP 0 rfl rfl 0 (by decide) (hts _ (List.mem_of_getElem? (i := 3) rfl)) (fun _ h9 => h9) rfl dX9_digest_48 ?_
              refine lv_iload_n xh bh dX9_digest_51 rfl (lv_at hl 2 rfl) ?_
              refine xa_lald xh bh hK.1 hP 1 1 rfl rfl (by omega) (by omega) dX9_digest_52 ?_
              refine W.eq (g2 := F0 mG 53 ls [.long (eR (T i2)), .long ((lN 31) * h2), .long (lN 31)]) rfl ?_
              refine Ct.callS0 (rest := [.long ((lN 31) * h2), .long (lN 31)]) xh bh hml hown hts hK hP hS hA (ct_X9_many l D cI cJ cB cZ cA (T i2) (by exact hT _)) (va_cwS 1 hts gX9_digest_X9_many rfl rfl rfl (by decide +kernel) ⟨Nat.le_of_ble_eq_true rfl, Nat.le_of_ble_eq_true rfl⟩) rfl rfl hl.1 (Nat.le_of_ble_eq_true rfl) dX9_digest_53 ⟨Nat.le_refl _, Nat.le_refl _⟩ (fun _ H locs _ hP hS => ?_)
              refine W.eq (g2 := F0 mG 56 ls [.int (nI ((T i2).length)), .long ((lN 31) * h2), .long (lN 31)]) rfl ?_
              refine xn_i2l xh bh dX9_digest_56 (by have := (hT i2).1; omega) ?_
              refine lv_ladd xh bh dX9_digest_57 ?_
              refine lv_aload_n xh bh dX9_digest_58 rfl (lv_at hl 0 rfl) ?_
              refine va_get (D := D) (ci := 6) (v := .ref (a 1)) (C := RX9) (T := TX9) (N := 27) xh bh hts (fun _ h => List.mem_cons_of_mem _ (List.mem_append_right _ (h))) hown hK.1 hP 0 rfl rfl 0 (by decide) (hts _ (List.mem_of_getElem? (i := 3) rfl)) (fun _ h9 => h9) rfl dX9_digest_59 ?_
              refine lv_iload_n xh bh dX9_digest_62 rfl (lv_at hl 2 rfl) ?_
              refine xa_lald xh bh hK.1 hP 1 1 rfl rfl (by omega) (by omega) dX9_digest_63 ?_
              refine W.eq (g2 := F0 mG 64 ls [.long (eR (T i2)), .long (((lN 31) * h2) + (lN ((T i2).length))), .long (lN 31)]) rfl ?_
              refine Ct.callS0 (rest := [.long (lN 31)]) xh bh hml hown hts hK hP hS hA (ct_X9_partsIn l D cI cJ cB cZ cA (((lN 31) * h2) + (lN ((T i2).length))) (T i2) (by exact hT _)) (va_cwS 2 hts gX9_digest_X9_partsIn rfl rfl rfl (by decide +kernel) ⟨Nat.le_of_ble_eq_true rfl, Nat.le_of_ble_eq_true rfl⟩) rfl rfl hl.1 (Nat.le_of_ble_eq_true rfl) dX9_digest_64 ⟨Nat.le_refl _, Nat.le_refl _⟩ (fun _ H locs _ hP hS => ?_)
              refine W.eq (g2 := F0 mG 67 ls [.long (dgT (T i2) (((lN 31) * h2) + (lN ((T i2).length))) (T i2).length), .long (lN 31)]) rfl ?_
              refine lv_lmul xh bh dX9_digest_67 ?_
              refine lv_aload_n xh bh dX9_digest_68 rfl (lv_at hl 0 rfl) ?_
              refine va_get (D := D) (ci := 6) (v := .ref (a 2)) (C := RX9) (T := TX9) (N := 27) xh bh hts (fun _ h => List.mem_cons_of_mem _ (List.mem_append_right _ (h))) hown hK.1 hP 0 rfl rfl 1 (by decide) (hts _ (List.mem_of_getElem? (i := 4) rfl)) (fun _ h9 => h9) rfl dX9_digest_69 ?_
              refine lv_iload_n xh bh dX9_digest_72 rfl (lv_at hl 2 rfl) ?_
              refine xa_iald xh bh hK.1 hP 2 0 rfl rfl (by omega) (by omega) dX9_digest_73 ?_
              refine lv_i2l xh bh dX9_digest_74 rfl ?_
              refine lv_ladd xh bh dX9_digest_75 ?_
              refine lv_lstore_n (lv' := [(1, .long (((lN 31) * (dgT (T i2) (((lN 31) * h2) + (lN ((T i2).length))) (T i2).length)) + ((P i2).toInt64))), (0, .ref (a 0)), (3, .int (nI i2))]) xh bh dX9_digest_76 rfl hl (by decide) rfl (fun ls hl => ?_)
              refine lv_iinc (v := (nI (i2 + 1))) (lv' := [(3, .int (nI (i2 + 1))), (1, .long (((lN 31) * (dgT (T i2) (((lN 31) * h2) + (lN ((T i2).length))) (T i2).length)) + ((P i2).toInt64))), (0, .ref (a 0))]) xh bh dX9_digest_77 hl (k := 2) rfl (by exact xn_inc _ _) (by decide) rfl (fun ls hl => ?_)
              refine lv_goto (tgt := 33) xh bh dX9_digest_80 (by decide) ?_
              exact ih_33 (i2 + 1) (((lN 31) * (dgT (T i2) (((lN 31) * h2) + (lN ((T i2).length))) (T i2).length)) + ((P i2).toInt64)) (by omega) (by rw [hh2]; rfl) (by omega) _ _ ls hP hD hS (lv_sub hl [2, 1, 0] rfl)
        exact cut_33 (8 - 0 + 1) 0 h (by exact Nat.zero_le _) (by rw [hh1, show i = 6 by omega]; rfl) (Nat.lt_succ_self _) _ _ ls hP hD hS (lv_sub hl [1, 2, 0] rfl)
      · refine lv_ldc2 (v := (lN 31)) xh bh hown (hts _ (List.mem_of_getElem? (i := 2) rfl)) dX9_digest_12 ?_
        refine lv_lload_n xh bh dX9_digest_15 rfl (lv_at hl 1 rfl) ?_
        refine lv_lmul xh bh dX9_digest_16 ?_
        refine lv_aload_n xh bh dX9_digest_17 rfl (lv_at hl 0 rfl) ?_
        refine lv_iload_n xh bh dX9_digest_18 rfl (lv_at hl 2 rfl) ?_
        refine Ct.callV (As := [.int (nI i)]) (rest := [.long ((lN 31) * h)]) (wr := [(a 2, .inl (cI, 8, .inl P)), (a 3, .inl (cI, 12, .inl (fN hs)))]) xh bh hml hown hts hK hP hD hS hA (ct_X9_counted l D cI cJ cB cZ cA a T hm un fa fb lx bl ta tl tk va i (by first | assumption) (by first | assumption | omega)) (cwV 1 hts gX9_digest_X9_counted rfl rfl rfl (by decide +kernel) ⟨Nat.le_of_ble_eq_true rfl, Nat.le_of_ble_eq_true rfl⟩) rfl rfl hl.1 (Nat.le_of_ble_eq_true rfl) dX9_digest_19 ⟨Nat.le_refl _, Nat.le_refl _⟩ 0 6 rfl rfl rfl [0, 1] [2, 3] rfl (by decide) rfl rfl (by decide) (by decide) (fun _ H locs _ hP hD hS => ?_)
        have hP : va_P D vwCl [(a 2, .inl (cI, 8, .inl P)), (a 3, .inl (cI, 12, .inl (fN hs))), (a 0, .inr (6, [.ref (a 1), .ref (a 2), .int (nI hm), .int (nI un), .ref (a 3), .ref (a 4), .ref (a 5), .ref (a 6), .ref (a 7), .ref (a 8), .ref (a 9), .ref (a 10), .ref (a 11), .ref (a 12), .long fa, .long fb, .ref (a 13), .long (lN lx), .ref (a 14), .int (nI bl), .int (nI ta), .int (nI tl), .int (nI tk), .int (nI va), .ref (a 15), .ref (a 16), .ref (a 17)])), (a 1, .inl (cJ, 9, .inr (.inl (fR T))))] H := hP
        have hD : va_D AG [(a 2, .inl (cI, 8, .inl P)), (a 3, .inl (cI, 12, .inl (fN hs))), (a 0, .inr (6, [.ref (a 1), .ref (a 2), .int (nI hm), .int (nI un), .ref (a 3), .ref (a 4), .ref (a 5), .ref (a 6), .ref (a 7), .ref (a 8), .ref (a 9), .ref (a 10), .ref (a 11), .ref (a 12), .long fa, .long fb, .ref (a 13), .long (lN lx), .ref (a 14), .int (nI bl), .int (nI ta), .int (nI tl), .int (nI tk), .int (nI va), .ref (a 15), .ref (a 16), .ref (a 17)])), (a 1, .inl (cJ, 9, .inr (.inl (fR T))))] := hD
        refine W.eq (g2 := F0 mG 22 ls [.int (nI (cnW i (tdN T 8) (plT T 8) (T 8).length hm un bl)), .long ((lN 31) * h)]) rfl ?_
        refine xn_i2l xh bh dX9_digest_22 (by have := cnW_le i q1 q2 q3 hhm hun hbl; omega) ?_
        refine lv_ladd xh bh dX9_digest_23 ?_
        refine lv_lstore_n (lv' := [(1, .long (((lN 31) * h) + (lN (cnW i (tdN T 8) (plT T 8) (T 8).length hm un bl)))), (0, .ref (a 0)), (3, .int (nI i))]) xh bh dX9_digest_24 rfl hl (by decide) rfl (fun ls hl => ?_)
        refine lv_iinc (v := (nI (i + 1))) (lv' := [(3, .int (nI (i + 1))), (1, .long (((lN 31) * h) + (lN (cnW i (tdN T 8) (plT T 8) (T 8).length hm un bl)))), (0, .ref (a 0))]) xh bh dX9_digest_25 hl (k := 2) rfl (by exact xn_inc _ _) (by decide) rfl (fun ls hl => ?_)
        refine lv_goto (tgt := 6) xh bh dX9_digest_28 (by decide) ?_
        exact ih_6 (i + 1) (((lN 31) * h) + (lN (cnW i (tdN T 8) (plT T 8) (T 8).length hm un bl))) (by omega) (by rw [hh1]; rfl) (by omega) _ _ ls (hP.sub [2, 3, 0, 1] rfl) (hD.sub [2, 3, 0, 1] (by decide) rfl) hS (lv_sub hl [2, 1, 0] rfl)
  exact cut_6 (6 - 0 + 1) 0 (lN 1051) (by exact Nat.zero_le _) (by rfl) (Nat.lt_succ_self _) _ _ ls hP hD hS (lv_sub hl [2, 1, 0] rfl)
