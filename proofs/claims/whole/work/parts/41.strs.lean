-- ===== 41.strs: contracts over the text's constants (CtS), and String's own methods =====
def lenW : List Nat := [5, 4, 4]
def bytW : List (List Int32) := [[104, 111, 117, 115, 101], [116, 97, 108, 101], [104, 97, 110, 100]]
theorem lenW_wd : ∀ j, j < 3 → lenW.getD j 0 = (wdL j).length := by decide +kernel
theorem bytW_wd : ∀ j, j < 3 → ∀ k, k < 5 → (bytW.getD j []).getD k 0 = nI ((wdL j).getD k 0) := by decide +kernel
theorem wdL_b : ∀ j, j < 3 → ((wdL j).length ≤ 5 ∧ ∀ k, k < 5 → (wdL j).getD k 0 < 128) := by decide +kernel
theorem vz_char : ∀ n, n < 128 → narrow .char (.int (nI n)) = .int (nI n) := by decide +kernel
theorem ch_255 : ∀ n, n < 128 → ((nI n &&& nI 255).toUInt32 % 65536).toInt32 = nI n := by decide +kernel
def SS (adK adV : Nat → Nat) (A : Nat → Prop) (U : State) (H : Heap) : Prop :=
  (vk_S 3 lenW bytW adK adV A U H ∧ va_Z "java/lang/String" "COMPACT_STRINGS" "Z" (.int 1) A U H ∧ va_Zq "jdk/internal/util/Preconditions" "SIOOBE_FORMATTER" "Ljava/util/function/BiFunction;" A U H) ∧ vk_R RX6 34 "house" (adK 0) U ∧ vk_R RX6 50 "tale" (adK 1) U ∧ vk_R RX6 56 "hand" (adK 2) U
theorem SS.kept {adK adV : Nat → Nat} {A : Nat → Prop} {U : State} {H H1 : Heap} (h : SS adK adV A U H) (hq : ∀ a : Nat, a < H.size → ¬ A a → H1[a]? = H[a]?) : SS adK adV A U H1 :=
  ⟨⟨h.1.1.kept hq, h.1.2.1.kept hq, h.1.2.2.kept hq⟩, h.2⟩
theorem SS.narrow {adK adV : Nat → Nat} {A B : Nat → Prop} {U : State} {H : Heap} (h : SS adK adV A U H) (hAB : ∀ q, B q → A q) : SS adK adV B U H :=
  ⟨⟨h.1.1.narrow hAB, h.1.2.1.narrow hAB, h.1.2.2.narrow hAB⟩, h.2⟩
theorem SS.warm {adK adV : Nat → Nat} {A : Nat → Prop} {s U : State} {H : Heap} (hW : s.WarmedH U.vm) (h : SS adK adV A s H) : SS adK adV A U H :=
  ⟨⟨h.1.1.moved hW.alike, h.1.2.1.moved hW.alike, h.1.2.2.moved hW.alike⟩, vk_R.warm hW h.2.1, vk_R.warm hW h.2.2.1, vk_R.warm hW h.2.2.2⟩
theorem SS.same {adK adV : Nat → Nat} {A : Nat → Prop} {u U : State} {H : Heap} (hv : u.vm = U.vm) (h : SS adK adV A u H) : SS adK adV A U H :=
  ⟨⟨h.1.1.moved (by rw [hv]; exact Vm.Alike.refl U.vm), h.1.2.1.moved (by rw [hv]; exact Vm.Alike.refl U.vm), h.1.2.2.moved (by rw [hv]; exact Vm.Alike.refl U.vm)⟩, vk_R.same hv.symm h.2.1, vk_R.same hv.symm h.2.2.1, vk_R.same hv.symm h.2.2.2⟩
def PreT (D : va_G) (tys : List (ClassId × FieldType)) (adK adV : Nat → Nat) (av : List Value) (ws : va_W) (sz : Nat) : Array Value → State → Prop := va_Pc av (fun U => U.heap.size = sz ∧ va_P D vwCl ws U.heap ∧ KK D tys U ∧ va_D (fun _ => True) ws ∧ SS adK adV (va_A ws sz) U U.heap)
theorem PreT.blind {D : va_G} {tys : List (ClassId × FieldType)} {adK adV : Nat → Nat} {av : List Value} {ws : va_W} {sz : Nat} : FrameBlind (PreT D tys adK adV av ws sz) := fun a U g mk q => by
  obtain ⟨q0, q1, qP, qK, qD, qS⟩ := q
  exact ⟨q0, q1, qP, ⟨va_K.moved (u := U) (U := U.calling g mk a) (Vm.Alike.refl U.vm) qK.1, NW.same (u := U) (U := U.calling g mk a) rfl qK.2⟩, qD, SS.same (u := U) (U := U.calling g mk a) rfl qS⟩
theorem PreT.at {D : va_G} {tys : List (ClassId × FieldType)} {adK adV : Nat → Nat} {av : List Value} {ws : va_W} {s : State} {H : Heap} {A : Nat → Prop} (hP : va_P D vwCl ws H) (hK : KK D tys s) (hD : va_D A ws) (hSS : SS adK adV (va_A ws H.size) s H) : ∀ U : State, U.heap = H → s.WarmedH U.vm → PreT D tys adK adV av ws H.size av.toArray U := fun U hU hW =>
  ⟨rfl, by rw [hU], by rw [hU]; exact hP, KK.warm hW hK, hD.weaken (fun _ _ _ _ => trivial), by rw [hU]; exact SS.warm hW hSS⟩
/-- THE CONTRACT over the texts -/
def CtS (l : Launch) (y : MethodName) (wsy : List Cond) (rm : Room) (D : va_G) (tys : List (ClassId × FieldType)) (adK adV : Nat → Nat) (av : List Value) (ws : va_W) {S : Type} (Pr : S → Prop) (E : S → Option Value) (w : S → va_W) : Prop :=
  ∀ sz : Nat, Met l y wsy rm (PreT D tys adK adV av ws sz) (Qx D ws sz Pr E w) 0 0 (va_A ws sz)
section CTOFS
variable {l : Launch} {y : MethodName} {wsy wsy' : List Cond} {rm : Room} {D : va_G} {tys : List (ClassId × FieldType)} {adK adV : Nat → Nat} {av : List Value} {ws : va_W} {S : Type} {Pr : S → Prop} {E : S → Option Value} {w : S → va_W} {cc : ByteArray} {maxL : Nat}
theorem CtS.ofI {ty : FieldType} (hy : plainName y.cls = true) (hw : wsy = Cond.code y cc maxL (some ty) :: wsy') (hlen : (lg_sl av).length ≤ maxL)
    (body : ∀ (p : Program) (e : Env) (s : State) (m : MethodId) (args : Array Value) (below : List Frame) (meth : Method) (c : Code) (A : Nat → Prop) (Q : State → Prop) (ls : Array Slot), p.tables.exec = Jvm.exec → c.code = cc → c.maxLocals = maxL → s.vm.findClass y.cls = some m.cls → (∀ w ∈ wsy, w.before args s = true) → KK D tys s → SS adK adV A s s.heap → va_P D vwCl ws s.heap → va_D A ws → va_S A s.heap s.heap [] → (∀ q : Nat, s.heap.size ≤ q → A q) → EndI p l e rm s m args below meth c cc ty D A Pr E w Q → lv_has ls maxL (lv_args 0 av) → W p l e rm s m args below meth c s.heap [] 0 0 Q (F0 m 0 ls [])) : CtS l y wsy rm D tys adK adV av ws Pr E w := by
  intro sz
  refine Met.ofW hy hw ?_
  intro p e s m args below meth c s₁ B hml hv
  obtain ⟨rfl, hsz, hP, hK, hD0, hSS⟩ := hv
  subst hsz
  have hl := lv_entry av (n := maxL) hlen
  rw [lg_entry_eq]
  refine body p e s m _ below meth c (va_A ws s.heap.size) _ _ B.exec B.bytes hml (findClass_of_methodNamed B.named) (atoms_spec B.pre) hK hSS hP hD0.self va_S.rf (fun q h => Or.inr h) ?_ hl
  intro v u H locs pc ls' hv hpr hn hd hP' hD' hS'
  exact W.zret B.exec B.bytes B.returns hn (fun t ht hW => ⟨⟨u, by rw [hv], hpr, by rw [ht]; exact hP', hD'⟩, hS'.F ht⟩) hS'.2.2 hd
theorem CtS.ofV (hy : plainName y.cls = true) (hw : wsy = Cond.code y cc maxL none :: wsy') (hlen : (lg_sl av).length ≤ maxL)
    (body : ∀ (p : Program) (e : Env) (s : State) (m : MethodId) (args : Array Value) (below : List Frame) (meth : Method) (c : Code) (A : Nat → Prop) (Q : State → Prop) (ls : Array Slot), p.tables.exec = Jvm.exec → c.code = cc → c.maxLocals = maxL → s.vm.findClass y.cls = some m.cls → (∀ w ∈ wsy, w.before args s = true) → KK D tys s → SS adK adV A s s.heap → va_P D vwCl ws s.heap → va_D A ws → va_S A s.heap s.heap [] → (∀ q : Nat, s.heap.size ≤ q → A q) → EndV p l e rm s m args below meth c cc D A Pr E w Q → lv_has ls maxL (lv_args 0 av) → W p l e rm s m args below meth c s.heap [] 0 0 Q (F0 m 0 ls [])) : CtS l y wsy rm D tys adK adV av ws Pr E w := by
  intro sz
  refine Met.ofW hy hw ?_
  intro p e s m args below meth c s₁ B hml hv
  obtain ⟨rfl, hsz, hP, hK, hD0, hSS⟩ := hv
  subst hsz
  have hl := lv_entry av (n := maxL) hlen
  rw [lg_entry_eq]
  refine body p e s m _ below meth c (va_A ws s.heap.size) _ _ B.exec B.bytes hml (findClass_of_methodNamed B.named) (atoms_spec B.pre) hK hSS hP hD0.self va_S.rf (fun q h => Or.inr h) ?_ hl
  intro u H locs pc ls' hv hpr hd hP' hD' hS'
  exact W.vret B.exec B.bytes B.returns (fun t ht hW => ⟨⟨u, by rw [hv], hpr, by rw [ht]; exact hP', hD'⟩, hS'.F ht⟩) hS'.2.2 hd
end CTOFS
section CTGOS
variable {p : Program} {l : Launch} {e : Env} {R : Room} {s : State} {m : MethodId} {args : Array Value} {below : List Frame} {meth : Method} {c : Code} {H : Heap} {locs : List Loc} {Q : State → Prop} {cells slots : Nat}
variable {D : va_G} {tys : List (ClassId × FieldType)} {adK adV : Nat → Nat} {av rest st0 : List Value} {ws wc wr : va_W} {S : Type} {Pr : S → Prop} {E : S → Option Value} {w : S → va_W} {A : Nat → Prop} {a : Array Value} {pc : Nat} {ls : Array Slot}
variable {y : MethodName} {wsy : List Cond} {rm : Room} {cc bytes : ByteArray} {nL maxL n index : Nat} {ret : Option FieldType} {Ts : List Cond} {own C : String} {b : Nat} {As : List Value}
theorem SS.sub0 (h : SS adK adV A s s.heap) (hS : va_S A s.heap H locs) (hA : ∀ q : Nat, s.heap.size ≤ q → A q) : SS adK adV (va_A [] H.size) s H :=
  (h.kept hS.2.1).narrow (fun q z => by
    rcases z with ⟨k, e9, z⟩ | z
    · simp at z
    · exact hA q (Nat.le_trans hS.1 z))
/-- a static call without cells, over the texts -/
theorem CtS.callS0 (hx : p.tables.exec = Jvm.exec) (hb : c.code = cc) (hml : c.maxLocals = nL) (hown : s.vm.findClass own = some m.cls) (hts : ∀ w ∈ Ts, w.before args s = true) (hK : KK D tys s) (hSS : SS adK adV A s s.heap) (hP : va_P D vwCl ws H) (hS : va_S A s.heap H locs) (hA : ∀ q : Nat, s.heap.size ≤ q → A q)
    (hM : CtS l y wsy rm D tys adK adV av [] Pr E w) (cw : CallB R s args own index y bytes maxL ret wsy rm 0 0 n ∧ (Cond.static y).before args s = true) (hst : st0 = av.reverse ++ rest) (hn : av.length = n) (hsz : ls.size = nL) (hcat : (rest.map fun v => v.category).sum ≤ 8) (hdg : decode cc pc = .ok (.invokestatic index, 3)) (hf : cells + 0 ≤ R.cells ∧ slots + 0 ≤ R.slots)
    (kk : ∀ (u : S) (H1 : Heap) (locs1 : List Loc), Pr u → va_P D vwCl ws H1 → va_S A s.heap H1 locs1 → W p l e R s m args below meth c H1 locs1 cells slots Q (F0 m (pc + 3) ls ((E u).toList ++ rest))) : W p l e R s m args below meth c H locs cells slots Q (F0 m pc ls st0) := by
  have hP0 : va_P D vwCl [] H := fun k q h => by simp at h
  have hD0 : va_D A [] := ⟨fun i j p q h => by simp at h, fun k q h => by simp at h⟩
  exact Ct.go0 (va_runS (As := av) (rest := rest) ⟨hx, hb, hml, hown, hts⟩ (hM H.size) cw ⟨PreT.blind, PreT.at hP0 hK hD0 (hSS.sub0 hS hA)⟩ rfl hn hsz hst (lv_room hcat) hdg hf) hP hS hA kk
/-- a call of a text's own method -/
theorem CtS.callV0 (hx : p.tables.exec = Jvm.exec) (hb : c.code = cc) (hml : c.maxLocals = nL) (hown : s.vm.findClass own = some m.cls) (hts : ∀ w ∈ Ts, w.before args s = true) (hK : KK D tys s) (hSS : SS adK adV A s s.heap) (hP : va_P D vwCl ws H) (hS : va_S A s.heap H locs) (hA : ∀ q : Nat, s.heap.size ≤ q → A q) {j : Nat} (hj : j < 3)
    (hM : CtS l y wsy rm D tys adK adV (.ref (adK j) :: As) [] Pr E w) (cw : CallW R s args own "java/lang/String" index y bytes maxL ret wsy rm 0 0 n) (hst : st0 = As.reverse ++ .ref (adK j) :: rest) (hn : As.length = n) (hsz : ls.size = nL) (hcat : (rest.map fun v => v.category).sum ≤ 8) (hdg : decode cc pc = .ok (.invokevirtual index, 3)) (hf : cells + 0 ≤ R.cells ∧ slots + 0 ≤ R.slots)
    (kk : ∀ (u : S) (H1 : Heap) (locs1 : List Loc), Pr u → va_P D vwCl ws H1 → va_S A s.heap H1 locs1 → W p l e R s m args below meth c H1 locs1 cells slots Q (F0 m (pc + 3) ls ((E u).toList ++ rest))) : W p l e R s m args below meth c H locs cells slots Q (F0 m pc ls st0) := by
  have hP0 : va_P D vwCl [] H := fun k q h => by simp at h
  have hD0 : va_D A [] := ⟨fun i j p q h => by simp at h, fun k q h => by simp at h⟩
  exact Ct.go0 (va_runV (As := As) (rest := rest) ⟨hx, hb, hml, hown, hts⟩ (hM H.size) cw ⟨PreT.blind, vk_recv hSS.1.1 hj hS, PreT.at hP0 hK hD0 (hSS.sub0 hS hA)⟩ rfl hn hsz hst (lv_room hcat) hdg hf) hP hS hA kk
/-- a call of an object's own method, over the texts -/
theorem CtS.callV (hx : p.tables.exec = Jvm.exec) (hb : c.code = cc) (hml : c.maxLocals = nL) (hown : s.vm.findClass own = some m.cls) (hts : ∀ w ∈ Ts, w.before args s = true) (hK : KK D tys s) (hSS : SS adK adV A s s.heap) (hP : va_P D vwCl ws H) (hD : va_D A ws) (hS : va_S A s.heap H locs) (hA : ∀ q : Nat, s.heap.size ≤ q → A q)
    (hM : CtS l y wsy rm D tys adK adV (.ref b :: As) wc Pr E w) (cw : CallW R s args own C index y bytes maxL ret wsy rm 0 0 n) (hst : st0 = As.reverse ++ .ref b :: rest) (hn : As.length = n) (hsz : ls.size = nL) (hcat : (rest.map fun v => v.category).sum ≤ 8) (hdg : decode cc pc = .ok (.invokevirtual index, 3)) (hf : cells + 0 ≤ R.cells ∧ slots + 0 ≤ R.slots)
    (qr ci : Nat) {q9 : vw_C} {fs : List Value} (hci : vwCl[ci]? = some q9) (hq9 : q9.1 = C) (hqr : wc[qr]? = some (b, .inr (ci, fs)))
    (isC isR : List Nat) (hC : isC.map (fun i => ws[i]?) = wc.map some) (hnC : va_nd isC = true) (hfm : isC.filterMap (fun i => ws[i]?) = wc) (hR : isR.map (fun i => ws[i]?) = wr.map some) (hnd : va_nd isR = true) (hdis : ∀ i ∈ isR, i ∉ isC)
    (kk : ∀ (u : S) (H1 : Heap) (locs1 : List Loc), Pr u → va_P D vwCl (wr ++ w u) H1 → va_D A (wr ++ w u) → va_S A s.heap H1 locs1 → W p l e R s m args below meth c H1 locs1 cells slots Q (F0 m (pc + 3) ls ((E u).toList ++ rest))) : W p l e R s m args below meth c H locs cells slots Q (F0 m pc ls st0) := by
  subst hq9
  have hF := va_free (wc := wc) hD hS hA isC hC
  exact Ct.go (va_runV (As := As) (rest := rest) ⟨hx, hb, hml, hown, hts⟩ (hM H.size) cw ⟨PreT.blind, va_recv hK.1 (hP.sub isC hfm) hci hqr, PreT.at (hP.sub isC hfm) hK (hD.sub isC hnC hC) ((hSS.kept hS.2.1).narrow hF)⟩ rfl hn hsz hst (lv_room hcat) hdg hf) hP hD hS hA isC isR hC hR hnd hdis kk
end CTGOS
-- ===== String's own methods =====
section JDK
variable (l : Launch) (D : va_G) (cI cJ cB cZ cA : ClassId) (adK adV : Nat → Nat)
set_option maxRecDepth 100000 in
theorem ct_J0_coder (j : Nat) (hj : j < 3) : CtS l yJ0_coder_7d493 wsJ0_coder_7d493 ({ frames := 0, cells := 0, slots := 0, locals := 0 }) D (tysG cI cJ cB cZ cA) adK adV [.ref (adK j)] [] (fun (_ : Unit) => True) (fun _ => some (.int (nI 0))) (fun _ => []) := by
  refine CtS.ofI (cc := cJ0_coder_7d493) (maxL := 1) (by decide) rfl (Nat.le_of_ble_eq_true rfl) ?_
  intro p e s m args below meth c A Q ls hx hb hml hown hts hK hSS hP hD hS hA hend hl
  have hl : lv_has ls 1 [(0, .ref (adK j))] := hl
  refine va_gets hx hb hSS.1.2.1 hS hown (hts (.fieldLink RJ0 38 "java/lang/String" "COMPACT_STRINGS" "Z") (List.mem_of_getElem? (i := 1) rfl)) (fun _ h => h) dJ0_coder_7d493_0 ?_
  refine lv_if_eq (tgt := 13) hx hb dJ0_coder_7d493_3 (by decide) (fun q => absurd q (by decide)) (fun _ => ?_)
  refine lv_aload_n hx hb dJ0_coder_7d493_6 rfl (lv_at hl 0 rfl) ?_
  refine vk_getf hx hb (hSS.1.1.1 j hj).2.1 hS hown (hts (.fieldLink RJ0 15 "java/lang/String" "coder" "B") (List.mem_of_getElem? (i := 2) rfl)) (fun _ h => h) dJ0_coder_7d493_7 ?_
  refine lv_goto (tgt := 14) hx hb dJ0_coder_7d493_10 (by decide) ?_
  exact hend (nI 0) () _ _ _ _ rfl trivial (by decide) dJ0_coder_7d493_14 hP hD hS
set_option maxRecDepth 100000 in
theorem ct_J0_length (j : Nat) (hj : j < 3) : CtS l yJ0_length_8abf5 wsJ0_length_8abf5 ({ frames := 1, cells := 0, slots := 0, locals := 20 }) D (tysG cI cJ cB cZ cA) adK adV [.ref (adK j)] [] (fun (_ : Unit) => True) (fun _ => some (.int (nI (wdL j).length))) (fun _ => []) := by
  refine CtS.ofI (cc := cJ0_length_8abf5) (maxL := 1) (by decide) rfl (Nat.le_of_ble_eq_true rfl) ?_
  intro p e s m args below meth c A Q ls hx hb hml hown hts hK hSS hP hD hS hA hend hl
  have hl : lv_has ls 1 [(0, .ref (adK j))] := hl
  have hw := (wdL_b j hj).1
  refine lv_aload_n hx hb dJ0_length_8abf5_0 rfl (lv_at hl 0 rfl) ?_
  refine vk_getf hx hb (hSS.1.1.1 j hj).2.2.1 hS hown (hts (.fieldLink RJ0 9 "java/lang/String" "value" "[B") (List.mem_of_getElem? (i := 1) rfl)) (fun _ h => h) dJ0_length_8abf5_1 ?_
  refine va_tlen (v := nI (wdL j).length) hx hb (hSS.1.1.1 j hj).2.2.2 hS (by rw [lenW_wd j hj]; rfl) dJ0_length_8abf5_4 ?_
  refine lv_aload_n hx hb dJ0_length_8abf5_5 rfl (lv_at hl 0 rfl) ?_
  refine CtS.callV0 (As := []) (rest := [.int (nI (wdL j).length)]) hx hb hml hown hts hK hSS hP hS hA hj (ct_J0_coder l D cI cJ cB cZ cA adK adV j hj) (cwV 0 hts gJ0_length_8abf5_J0_coder_7d493 rfl rfl rfl (by decide +kernel) ⟨Nat.le_of_ble_eq_true rfl, Nat.le_of_ble_eq_true rfl⟩) rfl rfl hl.1 (Nat.le_of_ble_eq_true rfl) dJ0_length_8abf5_6 ⟨Nat.le_refl _, Nat.le_refl _⟩ (fun _ H locs _ hP hS => ?_)
  refine W.eq (g2 := F0 m 9 ls [.int (nI 0), .int (nI (wdL j).length)]) rfl ?_
  refine xn_ishr hx hb dJ0_length_8abf5_9 (by omega) (by omega) ?_
  refine xw_topi (x := nI ((wdL j).length / 2 ^ 0)) (y := nI (wdL j).length) (by rw [Nat.pow_zero, Nat.div_one]) ?_
  exact hend (nI (wdL j).length) () _ _ _ _ rfl trivial rfl dJ0_length_8abf5_10 hP hD hS
set_option maxRecDepth 100000 in
theorem ct_J0_isLatin1 (j : Nat) (hj : j < 3) : CtS l yJ0_isLatin1_aae02 wsJ0_isLatin1_aae02 ({ frames := 0, cells := 0, slots := 0, locals := 0 }) D (tysG cI cJ cB cZ cA) adK adV [.ref (adK j)] [] (fun (_ : Unit) => True) (fun _ => some (.int (nI 1))) (fun _ => []) := by
  refine CtS.ofI (cc := cJ0_isLatin1_aae02) (maxL := 1) (by decide) rfl (Nat.le_of_ble_eq_true rfl) ?_
  intro p e s m args below meth c A Q ls hx hb hml hown hts hK hSS hP hD hS hA hend hl
  have hl : lv_has ls 1 [(0, .ref (adK j))] := hl
  refine va_gets hx hb hSS.1.2.1 hS hown (hts (.fieldLink RJ0 38 "java/lang/String" "COMPACT_STRINGS" "Z") (List.mem_of_getElem? (i := 1) rfl)) (fun _ h => h) dJ0_isLatin1_aae02_0 ?_
  refine lv_if_eq (tgt := 17) hx hb dJ0_isLatin1_aae02_3 (by decide) (fun q => absurd q (by decide)) (fun _ => ?_)
  refine lv_aload_n hx hb dJ0_isLatin1_aae02_6 rfl (lv_at hl 0 rfl) ?_
  refine vk_getf hx hb (hSS.1.1.1 j hj).2.1 hS hown (hts (.fieldLink RJ0 15 "java/lang/String" "coder" "B") (List.mem_of_getElem? (i := 2) rfl)) (fun _ h => h) dJ0_isLatin1_aae02_7 ?_
  refine lv_if_ne (tgt := 17) hx hb dJ0_isLatin1_aae02_10 (by decide) (fun q => absurd rfl q) (fun _ => ?_)
  refine lv_iconst (v := nI 1) hx hb dJ0_isLatin1_aae02_13 (by decide) ?_
  refine lv_goto (tgt := 18) hx hb dJ0_isLatin1_aae02_14 (by decide) ?_
  exact hend (nI 1) () _ _ _ _ rfl trivial (by decide) dJ0_isLatin1_aae02_18 hP hD hS
set_option maxRecDepth 100000 in
theorem ct_J3_ci0 (k n : Nat) (hk : k < n) (hn : n < 1000) : CtS l yJ3_checkIndex_8e157 wsJ3_checkIndex_8e157 ({ frames := 0, cells := 0, slots := 0, locals := 0 }) D (tysG cI cJ cB cZ cA) adK adV [.int (nI k), .int (nI n), .null] [] (fun (_ : Unit) => True) (fun _ => some (.int (nI k))) (fun _ => []) := by
  refine CtS.ofI (cc := cJ3_checkIndex_8e157) (maxL := 3) (by decide) rfl (Nat.le_of_ble_eq_true rfl) ?_
  intro p e s m args below meth c A Q ls hx hb hml hown hts hK hSS hP hD hS hA hend hl
  have hl : lv_has ls 3 [(0, .int (nI k)), (1, .int (nI n)), (2, .null)] := hl
  refine lv_iload_n hx hb dJ3_checkIndex_8e157_0 rfl (lv_at hl 0 rfl) ?_
  refine xn_if_lt (tgt := 9) hx hb dJ3_checkIndex_8e157_1 (by decide) (by omega) (fun q => absurd q id) (fun _ => ?_)
  refine lv_iload_n hx hb dJ3_checkIndex_8e157_4 rfl (lv_at hl 0 rfl) ?_
  refine lv_iload_n hx hb dJ3_checkIndex_8e157_5 rfl (lv_at hl 1 rfl) ?_
  refine xn_icmp_lt (tgt := 16) hx hb dJ3_checkIndex_8e157_6 (by decide) (by omega) (by omega) (fun _ => ?_) (fun q => absurd q (by omega))
  refine lv_iload_n hx hb dJ3_checkIndex_8e157_16 rfl (lv_at hl 0 rfl) ?_
  exact hend (nI k) () _ _ _ _ rfl trivial rfl dJ3_checkIndex_8e157_17 hP hD hS
set_option maxRecDepth 100000 in
theorem ct_J3_ci1 (k n t : Nat) (hk : k < n) (hn : n < 1000) : CtS l yJ3_checkIndex_8e157 wsJ3_checkIndex_8e157 ({ frames := 0, cells := 0, slots := 0, locals := 0 }) D (tysG cI cJ cB cZ cA) adK adV [.int (nI k), .int (nI n), .ref t] [] (fun (_ : Unit) => True) (fun _ => some (.int (nI k))) (fun _ => []) := by
  refine CtS.ofI (cc := cJ3_checkIndex_8e157) (maxL := 3) (by decide) rfl (Nat.le_of_ble_eq_true rfl) ?_
  intro p e s m args below meth c A Q ls hx hb hml hown hts hK hSS hP hD hS hA hend hl
  have hl : lv_has ls 3 [(0, .int (nI k)), (1, .int (nI n)), (2, .ref t)] := hl
  refine lv_iload_n hx hb dJ3_checkIndex_8e157_0 rfl (lv_at hl 0 rfl) ?_
  refine xn_if_lt (tgt := 9) hx hb dJ3_checkIndex_8e157_1 (by decide) (by omega) (fun q => absurd q id) (fun _ => ?_)
  refine lv_iload_n hx hb dJ3_checkIndex_8e157_4 rfl (lv_at hl 0 rfl) ?_
  refine lv_iload_n hx hb dJ3_checkIndex_8e157_5 rfl (lv_at hl 1 rfl) ?_
  refine xn_icmp_lt (tgt := 16) hx hb dJ3_checkIndex_8e157_6 (by decide) (by omega) (by omega) (fun _ => ?_) (fun q => absurd q (by omega))
  refine lv_iload_n hx hb dJ3_checkIndex_8e157_16 rfl (lv_at hl 0 rfl) ?_
  exact hend (nI k) () _ _ _ _ rfl trivial rfl dJ3_checkIndex_8e157_17 hP hD hS
set_option maxRecDepth 100000 in
theorem ct_J0_ci (k n : Nat) (hk : k < n) (hn : n < 1000) : CtS l yJ0_checkIndex_df160 wsJ0_checkIndex_df160 ({ frames := 1, cells := 0, slots := 0, locals := 22 }) D (tysG cI cJ cB cZ cA) adK adV [.int (nI k), .int (nI n)] [] (fun (_ : Unit) => True) (fun _ => none) (fun _ => []) := by
  refine CtS.ofV (cc := cJ0_checkIndex_df160) (maxL := 2) (by decide) rfl (Nat.le_of_ble_eq_true rfl) ?_
  intro p e s m args below meth c A Q ls hx hb hml hown hts hK hSS hP hD hS hA hend hl
  have hl : lv_has ls 2 [(0, .int (nI k)), (1, .int (nI n))] := hl
  refine lv_iload_n hx hb dJ0_checkIndex_df160_0 rfl (lv_at hl 0 rfl) ?_
  refine lv_iload_n hx hb dJ0_checkIndex_df160_1 rfl (lv_at hl 1 rfl) ?_
  rcases hSS.1.2.2 with hz | ⟨t, hz⟩
  · refine va_gets hx hb hz hS hown (hts (.fieldLink RJ0 1053 "jdk/internal/util/Preconditions" "SIOOBE_FORMATTER" "Ljava/util/function/BiFunction;") (List.mem_of_getElem? (i := 1) rfl)) (fun _ h => h) dJ0_checkIndex_df160_2 ?_
    refine CtS.callS0 (rest := []) hx hb hml hown hts hK hSS hP hS hA (ct_J3_ci0 l D cI cJ cB cZ cA adK adV k n hk hn) (va_cwS 3 hts gJ0_checkIndex_df160_J3_checkIndex_8e157 rfl rfl rfl (by decide +kernel) ⟨Nat.le_of_ble_eq_true rfl, Nat.le_of_ble_eq_true rfl⟩) rfl rfl hl.1 (Nat.le_of_ble_eq_true rfl) dJ0_checkIndex_df160_5 ⟨Nat.le_refl _, Nat.le_refl _⟩ (fun _ H locs _ hP hS => ?_)
    refine W.eq (g2 := F0 m 8 ls [.int (nI k)]) rfl ?_
    refine lv_pop hx hb dJ0_checkIndex_df160_8 rfl ?_
    exact hend () _ _ _ _ rfl trivial dJ0_checkIndex_df160_9 hP hD hS
  · refine va_gets hx hb hz hS hown (hts (.fieldLink RJ0 1053 "jdk/internal/util/Preconditions" "SIOOBE_FORMATTER" "Ljava/util/function/BiFunction;") (List.mem_of_getElem? (i := 1) rfl)) (fun _ h => h) dJ0_checkIndex_df160_2 ?_
    refine CtS.callS0 (rest := []) hx hb hml hown hts hK hSS hP hS hA (ct_J3_ci1 l D cI cJ cB cZ cA adK adV k n t hk hn) (va_cwS 3 hts gJ0_checkIndex_df160_J3_checkIndex_8e157 rfl rfl rfl (by decide +kernel) ⟨Nat.le_of_ble_eq_true rfl, Nat.le_of_ble_eq_true rfl⟩) rfl rfl hl.1 (Nat.le_of_ble_eq_true rfl) dJ0_checkIndex_df160_5 ⟨Nat.le_refl _, Nat.le_refl _⟩ (fun _ H locs _ hP hS => ?_)
    refine W.eq (g2 := F0 m 8 ls [.int (nI k)]) rfl ?_
    refine lv_pop hx hb dJ0_checkIndex_df160_8 rfl ?_
    exact hend () _ _ _ _ rfl trivial dJ0_checkIndex_df160_9 hP hD hS
set_option maxRecDepth 100000 in
theorem ct_J1_charAt (j k : Nat) (hj : j < 3) (hk : k < (wdL j).length) : CtS l yJ1_charAt_3b067 wsJ1_charAt_3b067 ({ frames := 2, cells := 0, slots := 0, locals := 43 }) D (tysG cI cJ cB cZ cA) adK adV [.ref (adV j), .int (nI k)] [] (fun (_ : Unit) => True) (fun _ => some (.int (nI ((wdL j).getD k 0)))) (fun _ => []) := by
  refine CtS.ofI (cc := cJ1_charAt_3b067) (maxL := 2) (by decide) rfl (Nat.le_of_ble_eq_true rfl) ?_
  intro p e s m args below meth c A Q ls hx hb hml hown hts hK hSS hP hD hS hA hend hl
  have hl : lv_has ls 2 [(0, .ref (adV j)), (1, .int (nI k))] := hl
  have hw := (wdL_b j hj).1
  have hc := (wdL_b j hj).2 k (by omega)
  refine lv_iload_n hx hb dJ1_charAt_3b067_0 rfl (lv_at hl 1 rfl) ?_
  refine lv_aload_n hx hb dJ1_charAt_3b067_1 rfl (lv_at hl 0 rfl) ?_
  refine va_tlen (v := nI (wdL j).length) hx hb (hSS.1.1.1 j hj).2.2.2 hS (by rw [lenW_wd j hj]; rfl) dJ1_charAt_3b067_2 ?_
  refine CtS.callS0 (rest := []) hx hb hml hown hts hK hSS hP hS hA (ct_J0_ci l D cI cJ cB cZ cA adK adV k (wdL j).length hk (by omega)) (va_cwS 2 hts gJ1_charAt_3b067_J0_checkIndex_df160 rfl rfl rfl (by decide +kernel) ⟨Nat.le_of_ble_eq_true rfl, Nat.le_of_ble_eq_true rfl⟩) rfl rfl hl.1 (Nat.le_of_ble_eq_true rfl) dJ1_charAt_3b067_3 ⟨Nat.le_refl _, Nat.le_refl _⟩ (fun _ H locs _ hP hS => ?_)
  refine W.eq (g2 := F0 m 6 ls []) rfl ?_
  refine lv_aload_n hx hb dJ1_charAt_3b067_6 rfl (lv_at hl 0 rfl) ?_
  refine lv_iload_n hx hb dJ1_charAt_3b067_7 rfl (lv_at hl 1 rfl) ?_
  refine va_tb (v := .int (nI ((wdL j).getD k 0))) hx hb (hSS.1.1.1 j hj).2.2.2 hS (vp_in_nI (by rw [lenW_wd j hj]; exact hk) (by rw [lenW_wd j hj]; omega)) (by rw [nI_clamp (by omega)]; exact congrArg Value.int (bytW_wd j hj k (by omega))) dJ1_charAt_3b067_8 ?_
  refine lv_sipush (v := nI 255) hx hb dJ1_charAt_3b067_9 (by decide) ?_
  refine lv_iand hx hb dJ1_charAt_3b067_12 ?_
  refine lv_i2c hx hb dJ1_charAt_3b067_13 (ch_255 _ hc) ?_
  exact hend (nI ((wdL j).getD k 0)) () _ _ _ _ rfl trivial (vz_char _ hc) dJ1_charAt_3b067_14 hP hD hS
set_option maxRecDepth 100000 in
theorem ct_J0_charAt (j k : Nat) (hj : j < 3) (hk : k < (wdL j).length) : CtS l yJ0_charAt_5068e wsJ0_charAt_5068e ({ frames := 3, cells := 0, slots := 0, locals := 64 }) D (tysG cI cJ cB cZ cA) adK adV [.ref (adK j), .int (nI k)] [] (fun (_ : Unit) => True) (fun _ => some (.int (nI ((wdL j).getD k 0)))) (fun _ => []) := by
  refine CtS.ofI (cc := cJ0_charAt_5068e) (maxL := 2) (by decide) rfl (Nat.le_of_ble_eq_true rfl) ?_
  intro p e s m args below meth c A Q ls hx hb hml hown hts hK hSS hP hD hS hA hend hl
  have hl : lv_has ls 2 [(0, .ref (adK j)), (1, .int (nI k))] := hl
  have hw := (wdL_b j hj).1
  have hc := (wdL_b j hj).2 k (by omega)
  refine lv_aload_n hx hb dJ0_charAt_5068e_0 rfl (lv_at hl 0 rfl) ?_
  refine CtS.callV0 (As := []) (rest := []) hx hb hml hown hts hK hSS hP hS hA hj (ct_J0_isLatin1 l D cI cJ cB cZ cA adK adV j hj) (cwV 0 hts gJ0_charAt_5068e_J0_isLatin1_aae02 rfl rfl rfl (by decide +kernel) ⟨Nat.le_of_ble_eq_true rfl, Nat.le_of_ble_eq_true rfl⟩) rfl rfl hl.1 (Nat.le_of_ble_eq_true rfl) dJ0_charAt_5068e_1 ⟨Nat.le_refl _, Nat.le_refl _⟩ (fun _ H locs _ hP hS => ?_)
  refine W.eq (g2 := F0 m 4 ls [.int (nI 1)]) rfl ?_
  refine xn_if_eq (tgt := 16) hx hb dJ0_charAt_5068e_4 (by decide) (by decide) (fun q => absurd q (by decide)) (fun _ => ?_)
  refine lv_aload_n hx hb dJ0_charAt_5068e_7 rfl (lv_at hl 0 rfl) ?_
  refine vk_getf hx hb (hSS.1.1.1 j hj).2.2.1 hS hown (hts (.fieldLink RJ0 9 "java/lang/String" "value" "[B") (List.mem_cons_of_mem _ (List.mem_append_left _ (List.mem_of_getElem? (i := 0) rfl)))) (fun _ h => h) dJ0_charAt_5068e_8 ?_
  refine lv_iload_n hx hb dJ0_charAt_5068e_11 rfl (lv_at hl 1 rfl) ?_
  refine CtS.callS0 (rest := []) hx hb hml hown hts hK hSS hP hS hA (ct_J1_charAt l D cI cJ cB cZ cA adK adV j k hj hk) (va_cwS 2 hts gJ0_charAt_5068e_J1_charAt_3b067 rfl rfl rfl (by decide +kernel) ⟨Nat.le_of_ble_eq_true rfl, Nat.le_of_ble_eq_true rfl⟩) rfl rfl hl.1 (Nat.le_of_ble_eq_true rfl) dJ0_charAt_5068e_12 ⟨Nat.le_refl _, Nat.le_refl _⟩ (fun _ H locs _ hP hS => ?_)
  refine W.eq (g2 := F0 m 15 ls [.int (nI ((wdL j).getD k 0))]) rfl ?_
  exact hend (nI ((wdL j).getD k 0)) () _ _ _ _ rfl trivial (vz_char _ hc) dJ0_charAt_5068e_15 hP hD hS
end JDK
