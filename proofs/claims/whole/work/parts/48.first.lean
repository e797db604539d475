-- ===== 48.first: the first tale, as the reference looks for it =====
def mdS (T : Nat → List Nat) (k : Nat) : Nat → Nat | 0 => 0 | o + 1 => mdS T k o + (if T o = [] then 0 else dsT (T k) (T o))
def f2S (T : Nat → List Nat) : Nat → Int32 × Nat | 0 => ((-1), 1000000) | b + 1 => if T b ≠ [] ∧ mdS T b 8 < (f2S T b).2 then (nI b, mdS T b 8) else f2S T b
theorem mdS_le {T : Nat → List Nat} (hT : ∀ k, okT (T k)) (k : Nat) : ∀ o : Nat, mdS T k o ≤ 20 * o
  | 0 => Nat.le_refl _
  | o + 1 => by
    have h := mdS_le hT k o
    have h2 := dsT_le (hT k) (hT o)
    show mdS T k o + (if T o = [] then 0 else dsT (T k) (T o)) ≤ 20 * (o + 1)
    by_cases q : T o = []
    · rw [if_pos q]; omega
    · rw [if_neg q]; omega
theorem f2_y {T : Nat → List Nat} {b s few : Nat} {best : Int32} (hs : s = mdS T b 8) (hf : few = (f2S T b).2) (h1 : T b ≠ []) (h2 : s < few) : nI b = (f2S T (b + 1)).1 ∧ s = (f2S T (b + 1)).2 := by
  have e : f2S T (b + 1) = (nI b, mdS T b 8) := if_pos ⟨h1, by rw [← hs, ← hf]; exact h2⟩
  rw [e, hs]
  exact ⟨rfl, rfl⟩
theorem f2_n {T : Nat → List Nat} {b s few : Nat} {best : Int32} (hs : s = mdS T b 8) (hb : best = (f2S T b).1) (hf : few = (f2S T b).2) (h : ¬ (T b ≠ [] ∧ s < few)) : best = (f2S T (b + 1)).1 ∧ few = (f2S T (b + 1)).2 := by
  have e : f2S T (b + 1) = f2S T b := if_neg (fun q => h ⟨q.1, by rw [hs, hf]; exact q.2⟩)
  rw [e]
  exact ⟨hb, hf⟩
def eF2 : Nat → Nat → Int32 × Nat → Int32
  | 0, _, _ => (-2)
  | _, w, r => if w = 0 ∨ r.1 = (-1) then r.1 else nI r.2
-- rows laid by wip/whole/gen.py
set_option maxHeartbeats 1000000 in
set_option maxRecDepth 100000 in
theorem ct_X9_first (l : Launch) (D : va_G) (cI cJ cB cZ cA : ClassId) (a : Nat → Nat) (T : Nat → List Nat) (rf : Nat → Int32) (tb : Nat → Nat) (hm : Nat) (un : Nat) (fa : Int64) (fb : Int64) (lx : Nat) (bl : Nat) (ta : Nat) (tl : Nat) (tk : Nat) (va : Nat) (w : Int32) (hT : ∀ k, okT (T k)) : Ct l yX9_first wsX9_first ({ frames := 3, cells := 0, slots := 0, locals := 74 }) D (tysG cI cJ cB cZ cA) [.ref (a 0), .int w] [(a 0, .inr (6, [.ref (a 1), .ref (a 2), .int (nI hm), .int (nI un), .ref (a 3), .ref (a 4), .ref (a 5), .ref (a 6), .ref (a 7), .ref (a 8), .ref (a 9), .ref (a 10), .ref (a 11), .ref (a 12), .long fa, .long fb, .ref (a 13), .long (lN lx), .ref (a 14), .int (nI bl), .int (nI ta), .int (nI tl), .int (nI tk), .int (nI va), .ref (a 15), .ref (a 16), .ref (a 17)])), (a 1, .inl (cJ, 9, .inr (.inl (fR T)))), (a 12, .inl (cI, 3, .inl rf)), (a 13, .inl (cI, 121, .inl (fN tb)))] (fun (u : Nat → Nat) => True) (fun u => some (.int (eF2 (kW w 1) (xN w) (f2S T 8)))) (fun u => [(a 0, .inr (6, [.ref (a 1), .ref (a 2), .int (nI hm), .int (nI un), .ref (a 3), .ref (a 4), .ref (a 5), .ref (a 6), .ref (a 7), .ref (a 8), .ref (a 9), .ref (a 10), .ref (a 11), .ref (a 12), .long fa, .long fb, .ref (a 13), .long (lN lx), .ref (a 14), .int (nI bl), .int (nI ta), .int (nI tl), .int (nI tk), .int (nI va), .ref (a 15), .ref (a 16), .ref (a 17)])), (a 1, .inl (cJ, 9, .inr (.inl (fR T)))), (a 12, .inl (cI, 3, .inl (rfU (kW w 1) rf))), (a 13, .inl (cI, 121, .inl (fN u)))]) := by
  refine Ct.ofI (cc := cX9_first) (maxL := 7) (by decide) rfl (Nat.le_of_ble_eq_true rfl) ?_
  intro pG eG sG mG aG bG tG cG AG QG ls xh bh hml hown hts hK hP hD hS hA hend hl
  have hl : lv_has ls 7 [(0, .ref (a 0)), (1, .int w)] := hl
  refine lv_iload_n xh bh dX9_first_0 rfl (lv_at hl 1 rfl) ?_
  refine lv_i2l xh bh dX9_first_1 rfl ?_
  refine lv_lconst (v := lN 0) xh bh dX9_first_2 (by decide) ?_
  refine lv_lconst (v := lN 1) xh bh dX9_first_3 (by decide) ?_
  refine Ct.callS0 (rest := []) xh bh hml hown hts hK hP hS hA (ct_X9_in l D cI cJ cB cZ cA w.toInt64 (lN 0) (lN 1) ) (va_cwS 3 hts gX9_first_X9_in rfl rfl rfl (by decide +kernel) ⟨Nat.le_of_ble_eq_true rfl, Nat.le_of_ble_eq_true rfl⟩) rfl rfl hl.1 (Nat.le_of_ble_eq_true rfl) dX9_first_4 ⟨Nat.le_refl _, Nat.le_refl _⟩ (fun _ H locs _ hP hS => ?_)
  refine W.eq (g2 := F0 mG 7 ls [.int (ib (decide (¬ w.toInt64 < (lN 0) ∧ ¬ (lN 1) < w.toInt64)))]) rfl ?_
  refine xw_topi (x := (ib (decide (¬ w.toInt64 < (lN 0) ∧ ¬ (lN 1) < w.toInt64)))) (y := (ib (upB w 1))) (by rw [upB_long (by decide)]) ?_
  refine xb_if_ne (tgt := 17) xh bh dX9_first_7 (by decide) (fun c_7 => ?_) (fun c_7 => ?_)
  · have hk : kW w 1 = 3 := if_pos c_7
    obtain ⟨w2, hw9, rfl⟩ := upB_of (by decide) c_7
    refine lv_iconst (v := (-1)) xh bh dX9_first_17 (by decide) ?_
    refine lv_istore_n (lv' := [(2, .int (-1)), (0, .ref (a 0)), (1, .int (nI w2))]) xh bh dX9_first_18 rfl hl (by decide) rfl (fun ls hl => ?_)
    refine lv_ldc (v := (nI 1000000)) xh bh hown (hts _ (List.mem_of_getElem? (i := 1) rfl)) dX9_first_19 ?_
    refine lv_istore_n (lv' := [(3, .int (nI 1000000)), (2, .int (-1)), (0, .ref (a 0)), (1, .int (nI w2))]) xh bh dX9_first_21 rfl hl (by decide) rfl (fun ls hl => ?_)
    refine lv_iconst (v := (nI 0)) xh bh dX9_first_22 (by decide) ?_
    refine lv_istore (lv' := [(4, .int (nI 0)), (3, .int (nI 1000000)), (2, .int (-1)), (0, .ref (a 0)), (1, .int (nI w2))]) xh bh dX9_first_23 hl (by decide) rfl (fun ls hl => ?_)
    have cut_25 : ∀ (n_25 : Nat), ∀ (b : Nat), ∀ (best : Int32), ∀ (few : Nat), ∀ (t1 : Nat → Nat), (b ≤ 8) → (best = (f2S T b).1) → (few = (f2S T b).2) → (few ≤ 1000000) → (8 - b) < n_25 → ∀ (H : Heap) (locs : List Loc) (ls : Array Slot), va_P D vwCl [(a 0, .inr (6, [.ref (a 1), .ref (a 2), .int (nI hm), .int (nI un), .ref (a 3), .ref (a 4), .ref (a 5), .ref (a 6), .ref (a 7), .ref (a 8), .ref (a 9), .ref (a 10), .ref (a 11), .ref (a 12), .long fa, .long fb, .ref (a 13), .long (lN lx), .ref (a 14), .int (nI bl), .int (nI ta), .int (nI tl), .int (nI tk), .int (nI va), .ref (a 15), .ref (a 16), .ref (a 17)])), (a 1, .inl (cJ, 9, .inr (.inl (fR T)))), (a 12, .inl (cI, 3, .inl rf)), (a 13, .inl (cI, 121, .inl (fN t1)))] H → va_D AG [(a 0, .inr (6, [.ref (a 1), .ref (a 2), .int (nI hm), .int (nI un), .ref (a 3), .ref (a 4), .ref (a 5), .ref (a 6), .ref (a 7), .ref (a 8), .ref (a 9), .ref (a 10), .ref (a 11), .ref (a 12), .long fa, .long fb, .ref (a 13), .long (lN lx), .ref (a 14), .int (nI bl), .int (nI ta), .int (nI tl), .int (nI tk), .int (nI va), .ref (a 15), .ref (a 16), .ref (a 17)])), (a 1, .inl (cJ, 9, .inr (.inl (fR T)))), (a 12, .inl (cI, 3, .inl rf)), (a 13, .inl (cI, 121, .inl (fN t1)))] → va_S AG sG.heap H locs → lv_has ls 7 [(0, .ref (a 0)), (1, .int (nI w2)), (2, .int best), (3, .int (nI few)), (4, .int (nI b))] → W pG l eG ({ frames := 3, cells := 0, slots := 0, locals := 74 }) sG mG aG bG tG cG H locs 0 0 QG (F0 mG 25 ls []) := by
      intro n_25
      induction n_25 with
      | zero =>
        intro b best few t1 hb9 hbs hfw hfl hmu
        exact absurd hmu (Nat.not_lt_zero _)
      | succ n_25 ih_25 =>
        intro b best few t1 hb9 hbs hfw hfl hmu H locs ls hP hD hS hl
        refine lv_iload xh bh dX9_first_25 (lv_at hl 4 rfl) ?_
        refine lv_bipush (v := (nI 8)) xh bh dX9_first_27 (by decide) ?_
        refine xn_icmp_ge (tgt := 145) xh bh dX9_first_29 (by decide) (by omega) (by omega) (fun c_29 => ?_) (fun c_29 => ?_)
        · refine lv_iload_n xh bh dX9_first_145 rfl (lv_at hl 1 rfl) ?_
          refine xn_if_eq (tgt := 154) xh bh dX9_first_146 (by decide) (by omega) (fun c_146 => ?_) (fun c_146 => ?_)
          · refine lv_iload_n xh bh dX9_first_154 rfl (lv_at hl 2 rfl) ?_
            refine lv_goto (tgt := 159) xh bh dX9_first_155 (by decide) ?_
            exact hend best t1 _ _ _ _ (congrArg (fun z => some (Value.int z)) (by rw [hk, xN_nI (by omega)]; show (if _ then _ else _) = _; rw [show b = 8 by omega] at hbs hfw; rw [← hbs, ← hfw]; first | exact if_pos (Or.inl c_146) | exact if_pos (Or.inr c_151) | exact if_neg (fun q => q.elim c_146 c_151))) trivial rfl dX9_first_159 (by rw [hk]; exact hP) (by rw [hk]; exact hD) hS
          · refine lv_iload_n xh bh dX9_first_149 rfl (lv_at hl 2 rfl) ?_
            refine lv_iconst (v := (-1)) xh bh dX9_first_150 (by decide) ?_
            refine lv_icmp_ne (tgt := 158) xh bh dX9_first_151 (by decide) (fun c_151 => ?_) (fun c_151 => ?_)
            · refine lv_iload_n xh bh dX9_first_158 rfl (lv_at hl 3 rfl) ?_
              exact hend (nI few) t1 _ _ _ _ (congrArg (fun z => some (Value.int z)) (by rw [hk, xN_nI (by omega)]; show (if _ then _ else _) = _; rw [show b = 8 by omega] at hbs hfw; rw [← hbs, ← hfw]; first | exact if_pos (Or.inl c_146) | exact if_pos (Or.inr c_151) | exact if_neg (fun q => q.elim c_146 c_151))) trivial rfl dX9_first_159 (by rw [hk]; exact hP) (by rw [hk]; exact hD) hS
            · refine lv_iload_n xh bh dX9_first_154 rfl (lv_at hl 2 rfl) ?_
              refine lv_goto (tgt := 159) xh bh dX9_first_155 (by decide) ?_
              exact hend best t1 _ _ _ _ (congrArg (fun z => some (Value.int z)) (by rw [hk, xN_nI (by omega)]; show (if _ then _ else _) = _; rw [show b = 8 by omega] at hbs hfw; rw [← hbs, ← hfw]; first | exact if_pos (Or.inl c_146) | exact if_pos (Or.inr c_151) | exact if_neg (fun q => q.elim c_146 c_151))) trivial rfl dX9_first_159 (by rw [hk]; exact hP) (by rw [hk]; exact hD) hS
        · refine lv_iconst (v := (nI 0)) xh bh dX9_first_32 (by decide) ?_
          refine lv_istore (lv' := [(5, .int (nI 0)), (0, .ref (a 0)), (1, .int (nI w2)), (2, .int best), (3, .int (nI few)), (4, .int (nI b))]) xh bh dX9_first_33 hl (by decide) rfl (fun ls hl => ?_)
          refine lv_iconst (v := (nI 0)) xh bh dX9_first_35 (by decide) ?_
          refine lv_istore (lv' := [(6, .int (nI 0)), (5, .int (nI 0)), (0, .ref (a 0)), (1, .int (nI w2)), (2, .int best), (3, .int (nI few)), (4, .int (nI b))]) xh bh dX9_first_36 hl (by decide) rfl (fun ls hl => ?_)
          have cut_38 : ∀ (n_38 : Nat), ∀ (o : Nat), ∀ (s : Nat), ∀ (t2 : Nat → Nat), (o ≤ 8) → (s = mdS T b o) → (8 - o) < n_38 → ∀ (H : Heap) (locs : List Loc) (ls : Array Slot), va_P D vwCl [(a 0, .inr (6, [.ref (a 1), .ref (a 2), .int (nI hm), .int (nI un), .ref (a 3), .ref (a 4), .ref (a 5), .ref (a 6), .ref (a 7), .ref (a 8), .ref (a 9), .ref (a 10), .ref (a 11), .ref (a 12), .long fa, .long fb, .ref (a 13), .long (lN lx), .ref (a 14), .int (nI bl), .int (nI ta), .int (nI tl), .int (nI tk), .int (nI va), .ref (a 15), .ref (a 16), .ref (a 17)])), (a 1, .inl (cJ, 9, .inr (.inl (fR T)))), (a 12, .inl (cI, 3, .inl rf)), (a 13, .inl (cI, 121, .inl (fN t2)))] H → va_D AG [(a 0, .inr (6, [.ref (a 1), .ref (a 2), .int (nI hm), .int (nI un), .ref (a 3), .ref (a 4), .ref (a 5), .ref (a 6), .ref (a 7), .ref (a 8), .ref (a 9), .ref (a 10), .ref (a 11), .ref (a 12), .long fa, .long fb, .ref (a 13), .long (lN lx), .ref (a 14), .int (nI bl), .int (nI ta), .int (nI tl), .int (nI tk), .int (nI va), .ref (a 15), .ref (a 16), .ref (a 17)])), (a 1, .inl (cJ, 9, .inr (.inl (fR T)))), (a 12, .inl (cI, 3, .inl rf)), (a 13, .inl (cI, 121, .inl (fN t2)))] → va_S AG sG.heap H locs → lv_has ls 7 [(0, .ref (a 0)), (1, .int (nI w2)), (2, .int best), (3, .int (nI few)), (4, .int (nI b)), (5, .int (nI s)), (6, .int (nI o))] → W pG l eG ({ frames := 3, cells := 0, slots := 0, locals := 74 }) sG mG aG bG tG cG H locs 0 0 QG (F0 mG 38 ls []) := by
            intro n_38
            induction n_38 with
            | zero =>
              intro o s t2 ho9 hs9 hmu
              exact absurd hmu (Nat.not_lt_zero _)
            | succ n_38 ih_38 =>
              intro o s t2 ho9 hs9 hmu H locs ls hP hD hS hl
              refine lv_iload xh bh dX9_first_38 (lv_at hl 6 rfl) ?_
              refine lv_bipush (v := (nI 8)) xh bh dX9_first_40 (by decide) ?_
              refine xn_icmp_ge (tgt := 90) xh bh dX9_first_42 (by decide) (by omega) (by omega) (fun c_42 => ?_) (fun c_42 => ?_)
              · have hs8 := mdS_le hT b o
                rw [← hs9] at hs8
                have hs7 : s = mdS T b 8 := by rw [hs9, show o = 8 by omega]
                refine lv_aload_n xh bh dX9_first_90 rfl (lv_at hl 0 rfl) ?_
                refine va_get (D := D) (ci := 6) (v := .ref (a 1)) (C := RX9) (T := TX9) (N := 27) xh bh hts (fun _ h => List.mem_cons_of_mem _ (List.mem_append_right _ (h))) hown hK.1 hP 0 rfl rfl 0 (by decide) (hts _ (List.mem_of_getElem? (i := 2) rfl)) (fun _ h9 => h9) rfl dX9_first_91 ?_
                refine lv_iload xh bh dX9_first_94 (lv_at hl 4 rfl) ?_
                refine xa_lald xh bh hK.1 hP 1 1 rfl rfl (by omega) (by omega) dX9_first_96 ?_
                refine W.eq (g2 := F0 mG 97 ls [.long (eR (T b))]) rfl ?_
                refine lv_lconst (v := lN 0) xh bh dX9_first_97 (by decide) ?_
                refine W.lcmp xh bh dX9_first_98 ?_
                refine xt_if_eqR (tgt := 112) xh bh dX9_first_99 (by decide) (by exact hT _) (fun c_99 => ?_) (fun c_99 => ?_)
                · refine lv_iconst (v := (nI 0)) xh bh dX9_first_112 (by decide) ?_
                  refine lv_istore (lv' := [(6, .int (nI 0)), (0, .ref (a 0)), (1, .int (nI w2)), (2, .int best), (3, .int (nI few)), (4, .int (nI b)), (5, .int (nI s))]) xh bh dX9_first_113 hl (by decide) rfl (fun ls hl => ?_)
                  refine lv_iload xh bh dX9_first_115 (lv_at hl 0 rfl) ?_
                  refine xn_if_eq (tgt := 125) xh bh dX9_first_117 (by decide) (by omega) (fun c_117 => ?_) (fun c_117 => ?_)
                  · refine lv_iload_n xh bh dX9_first_125 rfl (lv_at hl 3 rfl) ?_
                    refine lv_istore_n (lv' := [(2, .int best), (6, .int (nI 0)), (0, .ref (a 0)), (1, .int (nI w2)), (3, .int (nI few)), (4, .int (nI b)), (5, .int (nI s))]) xh bh dX9_first_126 rfl hl (by decide) rfl (fun ls hl => ?_)
                    refine lv_iload xh bh dX9_first_127 (lv_at hl 1 rfl) ?_
                    refine xn_if_eq (tgt := 137) xh bh dX9_first_129 (by decide) (by omega) (fun c_129 => ?_) (fun c_129 => ?_)
                    · refine lv_iload_n xh bh dX9_first_137 rfl (lv_at hl 4 rfl) ?_
                      refine lv_istore_n (lv' := [(3, .int (nI few)), (2, .int best), (6, .int (nI 0)), (0, .ref (a 0)), (1, .int (nI w2)), (4, .int (nI b)), (5, .int (nI s))]) xh bh dX9_first_138 rfl hl (by decide) rfl (fun ls hl => ?_)
                      refine lv_iinc (v := (nI (b + 1))) (lv' := [(4, .int (nI (b + 1))), (3, .int (nI few)), (2, .int best), (6, .int (nI 0)), (0, .ref (a 0)), (1, .int (nI w2)), (5, .int (nI s))]) xh bh dX9_first_139 hl (k := 5) rfl (by exact xn_inc _ _) (by decide) rfl (fun ls hl => ?_)
                      refine lv_goto (tgt := 25) xh bh dX9_first_142 (by decide) ?_
                      exact ih_25 (b + 1) best few t2 (by omega) (by first | exact (f2_y (best := best) hs7 hfw c_99 c_105).1 | exact (f2_n hs7 hbs hfw (fun q => q.1 c_99)).1 | exact (f2_n hs7 hbs hfw (fun q => absurd q.2 (by omega))).1) (by first | exact (f2_y (best := best) hs7 hfw c_99 c_105).2 | exact (f2_n hs7 hbs hfw (fun q => q.1 c_99)).2 | exact (f2_n hs7 hbs hfw (fun q => absurd q.2 (by omega))).2) (by omega) (by omega) _ _ ls hP hD hS (lv_sub hl [4, 5, 2, 1, 0] rfl)
                    · exact absurd c_129 (by decide)
                  · exact absurd c_117 (by decide)
                · refine lv_iload xh bh dX9_first_102 (lv_at hl 5 rfl) ?_
                  refine lv_iload_n xh bh dX9_first_104 rfl (lv_at hl 3 rfl) ?_
                  refine xn_icmp_ge (tgt := 112) xh bh dX9_first_105 (by decide) (by omega) (by omega) (fun c_105 => ?_) (fun c_105 => ?_)
                  · refine lv_iconst (v := (nI 0)) xh bh dX9_first_112 (by decide) ?_
                    refine lv_istore (lv' := [(6, .int (nI 0)), (0, .ref (a 0)), (1, .int (nI w2)), (2, .int best), (3, .int (nI few)), (4, .int (nI b)), (5, .int (nI s))]) xh bh dX9_first_113 hl (by decide) rfl (fun ls hl => ?_)
                    refine lv_iload xh bh dX9_first_115 (lv_at hl 0 rfl) ?_
                    refine xn_if_eq (tgt := 125) xh bh dX9_first_117 (by decide) (by omega) (fun c_117 => ?_) (fun c_117 => ?_)
                    · refine lv_iload_n xh bh dX9_first_125 rfl (lv_at hl 3 rfl) ?_
                      refine lv_istore_n (lv' := [(2, .int best), (6, .int (nI 0)), (0, .ref (a 0)), (1, .int (nI w2)), (3, .int (nI few)), (4, .int (nI b)), (5, .int (nI s))]) xh bh dX9_first_126 rfl hl (by decide) rfl (fun ls hl => ?_)
                      refine lv_iload xh bh dX9_first_127 (lv_at hl 1 rfl) ?_
                      refine xn_if_eq (tgt := 137) xh bh dX9_first_129 (by decide) (by omega) (fun c_129 => ?_) (fun c_129 => ?_)
                      · refine lv_iload_n xh bh dX9_first_137 rfl (lv_at hl 4 rfl) ?_
                        refine lv_istore_n (lv' := [(3, .int (nI few)), (2, .int best), (6, .int (nI 0)), (0, .ref (a 0)), (1, .int (nI w2)), (4, .int (nI b)), (5, .int (nI s))]) xh bh dX9_first_138 rfl hl (by decide) rfl (fun ls hl => ?_)
                        refine lv_iinc (v := (nI (b + 1))) (lv' := [(4, .int (nI (b + 1))), (3, .int (nI few)), (2, .int best), (6, .int (nI 0)), (0, .ref (a 0)), (1, .int (nI w2)), (5, .int (nI s))]) xh bh dX9_first_139 hl (k := 5) rfl (by exact xn_inc _ _) (by decide) rfl (fun ls hl => ?_)
                        refine lv_goto (tgt := 25) xh bh dX9_first_142 (by decide) ?_
                        exact ih_25 (b + 1) best few t2 (by omega) (by first | exact (f2_y (best := best) hs7 hfw c_99 c_105).1 | exact (f2_n hs7 hbs hfw (fun q => q.1 c_99)).1 | exact (f2_n hs7 hbs hfw (fun q => absurd q.2 (by omega))).1) (by first | exact (f2_y (best := best) hs7 hfw c_99 c_105).2 | exact (f2_n hs7 hbs hfw (fun q => q.1 c_99)).2 | exact (f2_n hs7 hbs hfw (fun q => absurd q.2 (by omega))).2) (by omega) (by omega) _ _ ls hP hD hS (lv_sub hl [4, 5, 2, 1, 0] rfl)
                      · exact absurd c_129 (by decide)
                    · exact absurd c_117 (by decide)
                  · refine lv_iconst (v := (nI 1)) xh bh dX9_first_108 (by decide) ?_
                    refine lv_goto (tgt := 113) xh bh dX9_first_109 (by decide) ?_
                    refine lv_istore (lv' := [(6, .int (nI 1)), (0, .ref (a 0)), (1, .int (nI w2)), (2, .int best), (3, .int (nI few)), (4, .int (nI b)), (5, .int (nI s))]) xh bh dX9_first_113 hl (by decide) rfl (fun ls hl => ?_)
                    refine lv_iload xh bh dX9_first_115 (lv_at hl 0 rfl) ?_
                    refine xn_if_eq (tgt := 125) xh bh dX9_first_117 (by decide) (by omega) (fun c_117 => ?_) (fun c_117 => ?_)
                    · exact absurd c_117 (by decide)
                    · refine lv_iload xh bh dX9_first_120 (lv_at hl 5 rfl) ?_
                      refine lv_goto (tgt := 126) xh bh dX9_first_122 (by decide) ?_
                      refine lv_istore_n (lv' := [(2, .int (nI b)), (6, .int (nI 1)), (0, .ref (a 0)), (1, .int (nI w2)), (3, .int (nI few)), (4, .int (nI b)), (5, .int (nI s))]) xh bh dX9_first_126 rfl hl (by decide) rfl (fun ls hl => ?_)
                      refine lv_iload xh bh dX9_first_127 (lv_at hl 1 rfl) ?_
                      refine xn_if_eq (tgt := 137) xh bh dX9_first_129 (by decide) (by omega) (fun c_129 => ?_) (fun c_129 => ?_)
                      · exact absurd c_129 (by decide)
                      · refine lv_iload xh bh dX9_first_132 (lv_at hl 6 rfl) ?_
                        refine lv_goto (tgt := 138) xh bh dX9_first_134 (by decide) ?_
                        refine lv_istore_n (lv' := [(3, .int (nI s)), (2, .int (nI b)), (6, .int (nI 1)), (0, .ref (a 0)), (1, .int (nI w2)), (4, .int (nI b)), (5, .int (nI s))]) xh bh dX9_first_138 rfl hl (by decide) rfl (fun ls hl => ?_)
                        refine lv_iinc (v := (nI (b + 1))) (lv' := [(4, .int (nI (b + 1))), (3, .int (nI s)), (2, .int (nI b)), (6, .int (nI 1)), (0, .ref (a 0)), (1, .int (nI w2)), (5, .int (nI s))]) xh bh dX9_first_139 hl (k := 5) rfl (by exact xn_inc _ _) (by decide) rfl (fun ls hl => ?_)
                        refine lv_goto (tgt := 25) xh bh dX9_first_142 (by decide) ?_
                        exact ih_25 (b + 1) (nI b) s t2 (by omega) (by first | exact (f2_y (best := best) hs7 hfw c_99 c_105).1 | exact (f2_n hs7 hbs hfw (fun q => q.1 c_99)).1 | exact (f2_n hs7 hbs hfw (fun q => absurd q.2 (by omega))).1) (by first | exact (f2_y (best := best) hs7 hfw c_99 c_105).2 | exact (f2_n hs7 hbs hfw (fun q => q.1 c_99)).2 | exact (f2_n hs7 hbs hfw (fun q => absurd q.2 (by omega))).2) (by omega) (by omega) _ _ ls hP hD hS (lv_sub hl [4, 5, 2, 1, 0] rfl)
              · refine lv_iload xh bh dX9_first_45 (lv_at hl 5 rfl) ?_
                refine lv_aload_n xh bh dX9_first_47 rfl (lv_at hl 0 rfl) ?_
                refine va_get (D := D) (ci := 6) (v := .ref (a 1)) (C := RX9) (T := TX9) (N := 27) xh bh hts (fun _ h => List.mem_cons_of_mem _ (List.mem_append_right _ (h))) hown hK.1 hP 0 rfl rfl 0 (by decide) (hts _ (List.mem_of_getElem? (i := 2) rfl)) (fun _ h9 => h9) rfl dX9_first_48 ?_
                refine lv_iload xh bh dX9_first_51 (lv_at hl 6 rfl) ?_
                refine xa_lald xh bh hK.1 hP 1 1 rfl rfl (by omega) (by omega) dX9_first_53 ?_
                refine W.eq (g2 := F0 mG 54 ls [.long (eR (T o)), .int (nI s)]) rfl ?_
                refine lv_lconst (v := lN 0) xh bh dX9_first_54 (by decide) ?_
                refine W.lcmp xh bh dX9_first_55 ?_
                refine xt_if_neR (tgt := 63) xh bh dX9_first_56 (by decide) (by exact hT _) (fun c_56 => ?_) (fun c_56 => ?_)
                · refine lv_aload_n xh bh dX9_first_63 rfl (lv_at hl 0 rfl) ?_
                  refine lv_aload_n xh bh dX9_first_64 rfl (lv_at hl 0 rfl) ?_
                  refine va_get (D := D) (ci := 6) (v := .ref (a 1)) (C := RX9) (T := TX9) (N := 27) xh bh hts (fun _ h => List.mem_cons_of_mem _ (List.mem_append_right _ (h))) hown hK.1 hP 0 rfl rfl 0 (by decide) (hts _ (List.mem_of_getElem? (i := 2) rfl)) (fun _ h9 => h9) rfl dX9_first_65 ?_
                  refine lv_iload xh bh dX9_first_68 (lv_at hl 4 rfl) ?_
                  refine xa_lald xh bh hK.1 hP 1 1 rfl rfl (by omega) (by omega) dX9_first_70 ?_
                  refine W.eq (g2 := F0 mG 71 ls [.long (eR (T b)), .ref (a 0), .int (nI s)]) rfl ?_
                  refine lv_aload_n xh bh dX9_first_71 rfl (lv_at hl 0 rfl) ?_
                  refine va_get (D := D) (ci := 6) (v := .ref (a 1)) (C := RX9) (T := TX9) (N := 27) xh bh hts (fun _ h => List.mem_cons_of_mem _ (List.mem_append_right _ (h))) hown hK.1 hP 0 rfl rfl 0 (by decide) (hts _ (List.mem_of_getElem? (i := 2) rfl)) (fun _ h9 => h9) rfl dX9_first_72 ?_
                  refine lv_iload xh bh dX9_first_75 (lv_at hl 6 rfl) ?_
                  refine xa_lald xh bh hK.1 hP 1 1 rfl rfl (by omega) (by omega) dX9_first_77 ?_
                  refine W.eq (g2 := F0 mG 78 ls [.long (eR (T o)), .long (eR (T b)), .ref (a 0), .int (nI s)]) rfl ?_
                  refine Ct.callV (As := [.long (eR (T b)), .long (eR (T o))]) (rest := [.int (nI s)]) (wr := [(a 1, .inl (cJ, 9, .inr (.inl (fR T)))), (a 12, .inl (cI, 3, .inl rf))]) xh bh hml hown hts hK hP hD hS hA (ct_X9_between l D cI cJ cB cZ cA a t2 hm un fa fb lx bl ta tl tk va (T b) (T o) (by exact hT _) (by exact hT _)) (cwV 2 hts gX9_first_X9_between rfl rfl rfl (by decide +kernel) ⟨Nat.le_of_ble_eq_true rfl, Nat.le_of_ble_eq_true rfl⟩) rfl rfl hl.1 (Nat.le_of_ble_eq_true rfl) dX9_first_78 ⟨Nat.le_refl _, Nat.le_refl _⟩ 0 6 rfl rfl rfl [0, 3] [1, 2] rfl (by decide) rfl rfl (by decide) (by decide) (fun u_78 H locs hu_78 hP hD hS => ?_)
                  have hP : va_P D vwCl [(a 1, .inl (cJ, 9, .inr (.inl (fR T)))), (a 12, .inl (cI, 3, .inl rf)), (a 0, .inr (6, [.ref (a 1), .ref (a 2), .int (nI hm), .int (nI un), .ref (a 3), .ref (a 4), .ref (a 5), .ref (a 6), .ref (a 7), .ref (a 8), .ref (a 9), .ref (a 10), .ref (a 11), .ref (a 12), .long fa, .long fb, .ref (a 13), .long (lN lx), .ref (a 14), .int (nI bl), .int (nI ta), .int (nI tl), .int (nI tk), .int (nI va), .ref (a 15), .ref (a 16), .ref (a 17)])), (a 13, .inl (cI, 121, .inl (fN u_78)))] H := hP
                  have hD : va_D AG [(a 1, .inl (cJ, 9, .inr (.inl (fR T)))), (a 12, .inl (cI, 3, .inl rf)), (a 0, .inr (6, [.ref (a 1), .ref (a 2), .int (nI hm), .int (nI un), .ref (a 3), .ref (a 4), .ref (a 5), .ref (a 6), .ref (a 7), .ref (a 8), .ref (a 9), .ref (a 10), .ref (a 11), .ref (a 12), .long fa, .long fb, .ref (a 13), .long (lN lx), .ref (a 14), .int (nI bl), .int (nI ta), .int (nI tl), .int (nI tk), .int (nI va), .ref (a 15), .ref (a 16), .ref (a 17)])), (a 13, .inl (cI, 121, .inl (fN u_78)))] := hD
                  refine W.eq (g2 := F0 mG 81 ls [.int (nI (dsT (T b) (T o))), .int (nI s)]) rfl ?_
                  refine xn_iadd xh bh dX9_first_81 ?_
                  refine lv_istore (lv' := [(5, .int (nI (s + (dsT (T b) (T o))))), (0, .ref (a 0)), (1, .int (nI w2)), (2, .int best), (3, .int (nI few)), (4, .int (nI b)), (6, .int (nI o))]) xh bh dX9_first_82 hl (by decide) rfl (fun ls hl => ?_)
                  refine lv_iinc (v := (nI (o + 1))) (lv' := [(6, .int (nI (o + 1))), (5, .int (nI (s + (dsT (T b) (T o))))), (0, .ref (a 0)), (1, .int (nI w2)), (2, .int best), (3, .int (nI few)), (4, .int (nI b))]) xh bh dX9_first_84 hl (k := 6) rfl (by exact xn_inc _ _) (by decide) rfl (fun ls hl => ?_)
                  refine lv_goto (tgt := 38) xh bh dX9_first_87 (by decide) ?_
                  exact ih_38 (o + 1) (s + (dsT (T b) (T o))) u_78 (by omega) (by rw [hs9]; show _ = mdS T b o + (if T o = [] then 0 else dsT (T b) (T o)); first | rw [if_neg c_56] | rw [if_pos c_56]) (by omega) _ _ ls (hP.sub [2, 0, 1, 3] rfl) (hD.sub [2, 0, 1, 3] (by decide) rfl) hS (lv_sub hl [2, 3, 4, 5, 6, 1, 0] rfl)
                · refine lv_iconst (v := (nI 0)) xh bh dX9_first_59 (by decide) ?_
                  refine lv_goto (tgt := 81) xh bh dX9_first_60 (by decide) ?_
                  refine xn_iadd xh bh dX9_first_81 ?_
                  refine lv_istore (lv' := [(5, .int (nI (s + 0))), (0, .ref (a 0)), (1, .int (nI w2)), (2, .int best), (3, .int (nI few)), (4, .int (nI b)), (6, .int (nI o))]) xh bh dX9_first_82 hl (by decide) rfl (fun ls hl => ?_)
                  refine lv_iinc (v := (nI (o + 1))) (lv' := [(6, .int (nI (o + 1))), (5, .int (nI (s + 0))), (0, .ref (a 0)), (1, .int (nI w2)), (2, .int best), (3, .int (nI few)), (4, .int (nI b))]) xh bh dX9_first_84 hl (k := 6) rfl (by exact xn_inc _ _) (by decide) rfl (fun ls hl => ?_)
                  refine lv_goto (tgt := 38) xh bh dX9_first_87 (by decide) ?_
                  exact ih_38 (o + 1) (s + 0) t2 (by omega) (by rw [hs9]; show _ = mdS T b o + (if T o = [] then 0 else dsT (T b) (T o)); first | rw [if_neg c_56] | rw [if_pos c_56]) (by omega) _ _ ls hP hD hS (lv_sub hl [2, 3, 4, 5, 6, 1, 0] rfl)
          exact cut_38 (8 - 0 + 1) 0 0 t1 (by exact Nat.zero_le _) (by rfl) (Nat.lt_succ_self _) _ _ ls hP hD hS (lv_sub hl [2, 3, 4, 5, 6, 1, 0] rfl)
    exact cut_25 (8 - 0 + 1) 0 (-1) 1000000 tb (by exact Nat.zero_le _) (by rfl) (by rfl) (by exact Nat.le_refl _) (Nat.lt_succ_self _) _ _ ls hP hD hS (lv_sub hl [3, 4, 2, 1, 0] rfl)
  · have hk : kW w 1 = 0 := if_neg (fun q => by rw [c_7] at q; exact absurd q (by decide))
    refine lv_aload_n xh bh dX9_first_10 rfl (lv_at hl 0 rfl) ?_
    refine lv_bipush (v := (-2)) xh bh dX9_first_11 (by decide) ?_
    refine Ct.callV (As := [.int (-2)]) (rest := []) (wr := [(a 1, .inl (cJ, 9, .inr (.inl (fR T)))), (a 13, .inl (cI, 121, .inl (fN tb)))]) xh bh hml hown hts hK hP hD hS hA (ct_X9_bad l D cI cJ cB cZ cA a rf hm un fa fb lx bl ta tl tk va (-2) ) (cwV 1 hts gX9_first_X9_bad rfl rfl rfl (by decide +kernel) ⟨Nat.le_of_ble_eq_true rfl, Nat.le_of_ble_eq_true rfl⟩) rfl rfl hl.1 (Nat.le_of_ble_eq_true rfl) dX9_first_13 ⟨Nat.le_refl _, Nat.le_refl _⟩ 0 6 rfl rfl rfl [0, 2] [1, 3] rfl (by decide) rfl rfl (by decide) (by decide) (fun _ H locs _ hP hD hS => ?_)
    have hP : va_P D vwCl [(a 1, .inl (cJ, 9, .inr (.inl (fR T)))), (a 13, .inl (cI, 121, .inl (fN tb))), (a 0, .inr (6, [.ref (a 1), .ref (a 2), .int (nI hm), .int (nI un), .ref (a 3), .ref (a 4), .ref (a 5), .ref (a 6), .ref (a 7), .ref (a 8), .ref (a 9), .ref (a 10), .ref (a 11), .ref (a 12), .long fa, .long fb, .ref (a 13), .long (lN lx), .ref (a 14), .int (nI bl), .int (nI ta), .int (nI tl), .int (nI tk), .int (nI va), .ref (a 15), .ref (a 16), .ref (a 17)])), (a 12, .inl (cI, 3, .inl (upd rf 0 ((rf 0) + nI 1))))] H := hP
    have hD : va_D AG [(a 1, .inl (cJ, 9, .inr (.inl (fR T)))), (a 13, .inl (cI, 121, .inl (fN tb))), (a 0, .inr (6, [.ref (a 1), .ref (a 2), .int (nI hm), .int (nI un), .ref (a 3), .ref (a 4), .ref (a 5), .ref (a 6), .ref (a 7), .ref (a 8), .ref (a 9), .ref (a 10), .ref (a 11), .ref (a 12), .long fa, .long fb, .ref (a 13), .long (lN lx), .ref (a 14), .int (nI bl), .int (nI ta), .int (nI tl), .int (nI tk), .int (nI va), .ref (a 15), .ref (a 16), .ref (a 17)])), (a 12, .inl (cI, 3, .inl (upd rf 0 ((rf 0) + nI 1))))] := hD
    refine W.eq (g2 := F0 mG 16 ls [.int (-2)]) rfl ?_
    exact hend (-2) tb _ _ _ _ (congrArg (fun z => some (Value.int z)) (by rw [hk]; rfl)) trivial rfl dX9_first_16 (by rw [hk]; exact (hP.sub [2, 0, 3, 1] rfl)) (by rw [hk]; exact (hD.sub [2, 0, 3, 1] (by decide) rfl)) hS
