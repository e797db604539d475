-- ===== 49.base3: constructors (CtN): contracts that make cells =====
def nwM : List Cond := [.methodLinkNest RX8 27 yX6_init RX8, .methodLinkNest RX8 34 yX5_init RX8, .methodLinkNest RX8 41 yX2_init RX8, .methodLinkNest RX8 48 yX1_init RX8]
def NM (U : State) : Prop := ∀ w ∈ nwM, va_Nw w U
theorem nwM_cases {P : Cond → Prop} (h0 : P (.methodLinkNest RX8 27 yX6_init RX8)) (h1 : P (.methodLinkNest RX8 34 yX5_init RX8)) (h2 : P (.methodLinkNest RX8 41 yX2_init RX8)) (h3 : P (.methodLinkNest RX8 48 yX1_init RX8)) : ∀ w ∈ nwM, P w := by
  unfold nwM
  exact List.forall_mem_cons.mpr ⟨h0, List.forall_mem_cons.mpr ⟨h1, List.forall_mem_cons.mpr ⟨h2, List.forall_mem_cons.mpr ⟨h3, fun _ h => absurd h List.not_mem_nil⟩⟩⟩⟩
theorem NM.at {U : State} (h : NM U) (i : Nat) {w : Cond} (hi : nwM[i]? = some w) : va_Nw w U := h w (List.mem_of_getElem? hi)
theorem NM.warm {s U : State} (hW : s.WarmedH U.vm) (h : NM s) : NM U :=
  nwM_cases (va_Nw.warmM hW (h.at 0 rfl)) (va_Nw.warmM hW (h.at 1 rfl)) (va_Nw.warmM hW (h.at 2 rfl)) (va_Nw.warmM hW (h.at 3 rfl))
theorem NM.same {u U : State} (hv : u.vm = U.vm) (h : NM u) : NM U :=
  nwM_cases (va_Nw.same rfl hv (h.at 0 rfl)) (va_Nw.same rfl hv (h.at 1 rfl)) (va_Nw.same rfl hv (h.at 2 rfl)) (va_Nw.same rfl hv (h.at 3 rfl))
def PreN (X : State → Prop) (D : va_G) (tys : List (ClassId × FieldType)) (av : List Value) (ws : va_W) (sz : Nat) : Array Value → State → Prop := va_Pc av (fun U => U.heap.size = sz ∧ va_P D vwCl ws U.heap ∧ KK D tys U ∧ va_D (fun _ => True) ws ∧ NM U ∧ X U)
/-- THE CONTRACT of one that makes mc cells of ms slots; X: what more is taken of the machine -/
def CtN (X : State → Prop) (l : Launch) (y : MethodName) (wsy : List Cond) (rm : Room) (D : va_G) (tys : List (ClassId × FieldType)) (av : List Value) (ws : va_W) (mc ms : Nat) {S : Type} (Pr : S → Prop) (w : S → va_W) : Prop :=
  ∀ sz : Nat, Met l y wsy rm (PreN X D tys av ws sz) (Qx D ws sz Pr (fun _ => none) w) mc ms (va_A ws sz)
def EndN (p : Program) (l : Launch) (e : Env) (R : Room) (s : State) (m : MethodId) (args : Array Value) (below : List Frame) (meth : Method) (c : Code) (cc : ByteArray) (D : va_G) (A : Nat → Prop) (mc ms : Nat) {S : Type} (Pr : S → Prop) (w : S → va_W) (Q : State → Prop) : Prop :=
  ∀ (u : S) (H : Heap) (locs : List Loc) (pc : Nat) (ls : Array Slot), Pr u → decode cc pc = .ok (.return_, 1) → va_P D vwCl (w u) H → va_D A (w u) → va_S A s.heap H locs → W p l e R s m args below meth c H locs mc ms Q (F0 m pc ls [])
section CTOFN
variable {X : State → Prop} {l : Launch} {y : MethodName} {wsy wsy' : List Cond} {rm : Room} {D : va_G} {tys : List (ClassId × FieldType)} {av : List Value} {ws : va_W} {S : Type} {Pr : S → Prop} {w : S → va_W} {cc : ByteArray} {maxL mc ms : Nat}
theorem CtN.of (hy : plainName y.cls = true) (hyn : y.name = "<init>") (hw : wsy = Cond.code y cc maxL none :: wsy') (hlen : (lg_sl av).length ≤ maxL)
    (body : ∀ (p : Program) (e : Env) (s : State) (m : MethodId) (args : Array Value) (below : List Frame) (meth : Method) (c : Code) (A : Nat → Prop) (Q : State → Prop) (ls : Array Slot), p.tables.exec = Jvm.exec → c.code = cc → c.maxLocals = maxL → s.vm.findClass y.cls = some m.cls → (∀ w ∈ wsy, w.before args s = true) → KK D tys s → NM s → X s → meth.name = "<init>" → va_P D vwCl ws s.heap → va_D A ws → va_S A s.heap s.heap [] → (∀ q : Nat, s.heap.size ≤ q → A q) → EndN p l e rm s m args below meth c cc D A mc ms Pr w Q → lv_has ls maxL (lv_args 0 av) → W p l e rm s m args below meth c s.heap [] 0 0 Q (F0 m 0 ls [])) : CtN X l y wsy rm D tys av ws mc ms Pr w := by
  intro sz
  refine Met.ofW hy hw ?_
  intro p e s m args below meth c s₁ B hml hv
  obtain ⟨rfl, hsz, hP, hK, hD0, hN, hX⟩ := hv
  subst hsz
  have hl := lv_entry av (n := maxL) hlen
  rw [lg_entry_eq]
  refine body p e s m _ below meth c (va_A ws s.heap.size) _ _ B.exec B.bytes hml (findClass_of_methodNamed B.named) (atoms_spec B.pre) hK hN hX ((name_of_methodNamed B.named B.method).1.trans hyn) hP hD0.self va_S.rf (fun q h => Or.inr h) ?_ hl
  intro u H locs pc ls' hpr hd hP' hD' hS'
  exact W.vret B.exec B.bytes B.returns (fun t ht hW => ⟨⟨u, rfl, hpr, by rw [ht]; exact hP', hD'⟩, hS'.F ht⟩) hS'.2.2 hd
end CTOFN
section CTGON
variable {X : State → Prop} {p : Program} {l : Launch} {e : Env} {R : Room} {s : State} {m : MethodId} {args : Array Value} {below : List Frame} {meth : Method} {c : Code} {H : Heap} {locs : List Loc} {Q : State → Prop} {cells slots mc ms : Nat}
variable {D : va_G} {tys : List (ClassId × FieldType)} {av rest st0 : List Value} {ws wc wr : va_W} {S : Type} {Pr : S → Prop} {E : S → Option Value} {w : S → va_W} {A : Nat → Prop} {H0 : Heap} {a : Array Value} {pc : Nat} {ls : Array Slot}
theorem CtN.go (hr : va_Run p l e R s m args below meth c H locs cells slots mc ms (F0 m pc ls st0) rest (Qx D wc H.size Pr E w a) (va_A wc H.size)) (hP : va_P D vwCl ws H) (hD : va_D A ws) (hS : va_S A H0 H locs) (hA : ∀ q : Nat, H0.size ≤ q → A q)
    (isC isR : List Nat) (hC : isC.map (fun i => ws[i]?) = wc.map some) (hR : isR.map (fun i => ws[i]?) = wr.map some) (hn : va_nd isR = true) (hdis : ∀ i ∈ isR, i ∉ isC)
    (kk : ∀ (u : S) (H1 : Heap) (locs1 : List Loc), Pr u → va_P D vwCl (wr ++ w u) H1 → va_D A (wr ++ w u) → va_S A H0 H1 locs1 → W p l e R s m args below meth c H1 locs1 (cells + mc) (slots + ms) Q (F0 m (pc + 3) ls ((E u).toList ++ rest))) : W p l e R s m args below meth c H locs cells slots Q (F0 m pc ls st0) := by
  intro T hT X
  obtain ⟨v, st₀, t, T', L, h0, X', hL, e1, e2, ⟨⟨u, hv, hp, hP1, hD1⟩, hz, hk⟩, st⟩ := hr T hT X
  cases hv
  rw [h0] at hz hk
  have hF := va_free (wc := wc) hD hS hA isC hC
  obtain ⟨j1, j2⟩ := va_join (wr := wr) (w1 := w u) (H1 := t.heap) hP hD isC isR hC hR hn hdis hk hF hP1 hD1
  obtain ⟨t2, a1, b1⟩ := kk u T'.heap (locs ++ L) hp (by rw [e1]; exact j1) j2
    ⟨Nat.le_trans hS.1 (by rw [e1]; exact hz), fun q h1 h2 => by rw [e1, hk q (Nat.lt_of_lt_of_le h1 hS.1) (fun z => h2 (hF q z))]; exact hS.2.1 q h1 h2, fun q hq => by
      rcases List.mem_append.mp hq with h | h
      · exact hS.2.2 q h
      · exact hF _ (hL q h)⟩ T' rfl X'
  exact ⟨t2, st t2 a1, b1⟩
theorem PreN.blind {X : State → Prop} {D : va_G} {tys : List (ClassId × FieldType)} {av : List Value} {ws : va_W} {sz : Nat} (hX : ∀ u U : State, u.vm = U.vm → X u → X U) : FrameBlind (PreN X D tys av ws sz) := fun a U g mk q => by
  obtain ⟨q0, q1, qP, qK, qD, qN, qX⟩ := q
  exact ⟨q0, q1, qP, ⟨va_K.moved (u := U) (U := U.calling g mk a) (Vm.Alike.refl U.vm) qK.1, NW.same (u := U) (U := U.calling g mk a) rfl qK.2⟩, qD, NM.same (u := U) (U := U.calling g mk a) rfl qN, hX U (U.calling g mk a) rfl qX⟩
theorem PreN.at {X : State → Prop} {D : va_G} {tys : List (ClassId × FieldType)} {av : List Value} {ws : va_W} {s : State} {H : Heap} {A : Nat → Prop} (hP : va_P D vwCl ws H) (hK : KK D tys s) (hN : NM s) (hX : ∀ U : State, s.WarmedH U.vm → X U) (hD : va_D A ws) : ∀ U : State, U.heap = H → s.WarmedH U.vm → PreN X D tys av ws H.size av.toArray U := fun U hU hW =>
  ⟨rfl, by rw [hU], by rw [hU]; exact hP, KK.warm hW hK, hD.weaken (fun _ _ _ _ => trivial), NM.warm hW hN, hX U hW⟩
variable {y : MethodName} {wsy : List Cond} {rm : Room} {cc bytes : ByteArray} {nL maxL n index : Nat} {Ts : List Cond} {own host : String} {b : Nat} {As : List Value}
/-- a constructor's call -/
theorem CtN.callI (hXs : ∀ u U : State, u.vm = U.vm → X u → X U) (hXw : ∀ U : State, s.WarmedH U.vm → X U) (hx : p.tables.exec = Jvm.exec) (hb : c.code = cc) (hml : c.maxLocals = nL) (hown : s.vm.findClass own = some m.cls) (hts : ∀ w ∈ Ts, w.before args s = true) (hK : KK D tys s) (hN : NM s) (hP : va_P D vwCl ws H) (hD : va_D A ws) (hS : va_S A H0 H locs) (hA : ∀ q : Nat, H0.size ≤ q → A q)
    (hM : CtN X l y wsy rm D tys [.ref b] wc mc ms Pr w) (cw : CallB R s args own index y bytes maxL none wsy rm mc ms 0 ∧ y.name = "<init>" ∧ (Cond.instanceMethod y).before args s = true) (hst : st0 = .ref b :: rest) (hsz : ls.size = nL) (hcat : (rest.map fun v => v.category).sum ≤ 8) (hdg : decode cc pc = .ok (.invokespecial index, 3)) (hf : cells + mc ≤ R.cells ∧ slots + ms ≤ R.slots)
    (isC isR : List Nat) (hC : isC.map (fun i => ws[i]?) = wc.map some) (hnC : va_nd isC = true) (hfm : isC.filterMap (fun i => ws[i]?) = wc) (hR : isR.map (fun i => ws[i]?) = wr.map some) (hnd : va_nd isR = true) (hdis : ∀ i ∈ isR, i ∉ isC)
    (kk : ∀ (u : S) (H1 : Heap) (locs1 : List Loc), Pr u → va_P D vwCl (wr ++ w u) H1 → va_D A (wr ++ w u) → va_S A H0 H1 locs1 → W p l e R s m args below meth c H1 locs1 (cells + mc) (slots + ms) Q (F0 m (pc + 3) ls rest)) : W p l e R s m args below meth c H locs cells slots Q (F0 m pc ls st0) :=
  CtN.go (E := fun _ => none) (va_runI (As := []) (rest := rest) ⟨hx, hb, hml, hown, hts⟩ (hM H.size) cw ⟨PreN.blind hXs, PreN.at (hP.sub isC hfm) hK hN hXw (hD.sub isC hnC hC)⟩ rfl rfl hsz hst (lv_room hcat) hdg hf) hP hD hS hA isC isR hC hR hnd hdis kk
/-- the same, a nest mate's private one -/
theorem CtN.callJ (hXs : ∀ u U : State, u.vm = U.vm → X u → X U) (hXw : ∀ U : State, s.WarmedH U.vm → X U) (hx : p.tables.exec = Jvm.exec) (hb : c.code = cc) (hml : c.maxLocals = nL) (hown : s.vm.findClass own = some m.cls) (hts : ∀ w ∈ Ts, w.before args s = true) (hK : KK D tys s) (hN : NM s) (hP : va_P D vwCl ws H) (hD : va_D A ws) (hS : va_S A H0 H locs) (hA : ∀ q : Nat, H0.size ≤ q → A q)
    (hM : CtN X l y wsy rm D tys [.ref b] wc mc ms Pr w) (cw : va_CN R s args own index y host bytes maxL none wsy rm mc ms 0 ∧ y.name = "<init>" ∧ (Cond.instanceMethod y).before args s = true) (hst : st0 = .ref b :: rest) (hsz : ls.size = nL) (hcat : (rest.map fun v => v.category).sum ≤ 8) (hdg : decode cc pc = .ok (.invokespecial index, 3)) (hf : cells + mc ≤ R.cells ∧ slots + ms ≤ R.slots)
    (isC isR : List Nat) (hC : isC.map (fun i => ws[i]?) = wc.map some) (hnC : va_nd isC = true) (hfm : isC.filterMap (fun i => ws[i]?) = wc) (hR : isR.map (fun i => ws[i]?) = wr.map some) (hnd : va_nd isR = true) (hdis : ∀ i ∈ isR, i ∉ isC)
    (kk : ∀ (u : S) (H1 : Heap) (locs1 : List Loc), Pr u → va_P D vwCl (wr ++ w u) H1 → va_D A (wr ++ w u) → va_S A H0 H1 locs1 → W p l e R s m args below meth c H1 locs1 (cells + mc) (slots + ms) Q (F0 m (pc + 3) ls rest)) : W p l e R s m args below meth c H locs cells slots Q (F0 m pc ls st0) :=
  CtN.go (E := fun _ => none) (va_runIN (As := []) (rest := rest) ⟨hx, hb, hml, hown, hts⟩ (hM H.size) cw ⟨PreN.blind hXs, PreN.at (hP.sub isC hfm) hK hN hXw (hD.sub isC hnC hC)⟩ rfl rfl hsz hst (lv_room hcat) hdg hf) hP hD hS hA isC isR hC hR hnd hdis kk
end CTGON
-- ===== arrays that are made: of the class that the tables know =====
def zN : Nat → Nat := fun _ => 0
def zI : Nat → Int32 := fun _ => nI 0
def zT : Nat → List Nat := fun _ => []
section XNEW
variable {p : Program} {l : Launch} {e : Env} {R : Room} {s : State} {m : MethodId} {args : Array Value} {below : List Frame} {meth : Method} {c : Code} {H : Heap} {locs : List Loc} {cells slots : Nat} {Q : State → Prop}
variable {cc : ByteArray} {pc : Nat} {ls : Array Slot} {rest : List Value} {D : va_G} {cl : List vw_C} {A : Nat → Prop} {tys : List (ClassId × FieldType)} {ws : va_W} {H0 : Heap}
theorem xk_new {atype : ArrayType} {ty : FieldType} {nm : String} {cT : ClassId} (t0 : Nat) (ht : tys[t0]? = some (cT, ty)) (hnm : ∀ x : ClassId, va_RA s x ty → s.vm.findClass nm = some x) (hexec : p.tables.exec = Jvm.exec) (hb : c.code = cc) (harr : (Cond.arrayClass (newarray.typeOf atype)).before args s = true) (hty : newarray.typeOf atype = ty) (hK : va_K D cl tys s) (hP : va_P D cl ws H) (hD : va_D A ws) (hS : va_S A H0 H locs) (hA : ∀ q, H0.size ≤ q → A q)
    {n : Nat} {a0 : vp_A} (ha : ∀ cA : ClassId, vp_cell cA a0 = arrV cA n (fun _ => defaultValue ty)) (hn : n < 1000) (hcb : componentBytes ty ≤ 8) (hcells : cells + 1 ≤ R.cells) (hslots : slots + n ≤ R.slots) (hdg : decode cc pc = .ok (.newarray atype, 2))
    (kk : ∀ (q : Nat) (H1 : Heap), va_P D cl (ws ++ [(q, .inl (cT, a0))]) H1 → va_D A (ws ++ [(q, .inl (cT, a0))]) → va_S A H0 H1 locs →
      W p l e R s m args below meth c H1 locs (cells + 1) (slots + n) Q (F0 m (pc + 2) ls (.ref q :: rest))) : W p l e R s m args below meth c H locs cells slots Q (F0 m pc ls (.int (nI n) :: rest)) := by
  refine va_newa hexec hb harr hty hK hP hD hS hA ha (nI_pos (by omega)) (nI_clamp (by omega)) (Nat.le_trans (Nat.mul_le_mul (Nat.le_of_lt hn) hcb) (Nat.le_of_ble_eq_true rfl)) hcells hslots hdg (fun q cA H1 hK2 hP2 hD2 hS2 => ?_)
  have e1 := hnm cT (hK.2 t0 _ ht).2
  have e2 := hnm cA (hK2.2 tys.length (cA, ty) (by rw [List.getElem?_append_right (Nat.le_refl _), Nat.sub_self]; rfl)).2
  have e3 : cA = cT := Option.some.inj (e2.symm.trans e1)
  subst e3
  exact kk q H1 hP2 hD2 hS2
end XNEW
theorem vc_I (n : Nat) (cA : ClassId) : vp_cell cA (n, .inl zI) = arrV cA n (fun _ => defaultValue .int) := rfl
theorem vc_N (n : Nat) (cA : ClassId) : vp_cell cA (n, .inl (fN zN)) = arrV cA n (fun _ => defaultValue .int) := rfl
theorem vc_B (n : Nat) (cA : ClassId) : vp_cell cA (n, .inl (fN zN)) = arrV cA n (fun _ => defaultValue .byte) := rfl
theorem vc_Z (n : Nat) (cA : ClassId) : vp_cell cA (n, .inl (fN zN)) = arrV cA n (fun _ => defaultValue .boolean) := rfl
theorem vc_C (n : Nat) (cA : ClassId) : vp_cell cA (n, .inr (.inl (fC zT))) = arrV cA n (fun _ => defaultValue .long) := rfl
theorem fR_z : fR zT = fun _ => (0 : Int64) := funext fun _ => by
  show lN (0 + 0 * 17592186044416) = 0
  rw [Nat.zero_mul]
  rfl
theorem vc_R (n : Nat) (cA : ClassId) : vp_cell cA (n, .inr (.inl (fR zT))) = arrV cA n (fun _ => defaultValue .long) := by
  rw [fR_z]
  rfl
def f8 (a0 a1 a2 a3 a4 a5 a6 a7 : Nat) : Nat → Nat
  | 0 => a0 | 1 => a1 | 2 => a2 | 3 => a3 | 4 => a4 | 5 => a5 | 6 => a6 | _ => a7
def f18 (a0 a1 a2 a3 a4 a5 a6 a7 a8 a9 a10 a11 a12 a13 a14 a15 a16 a17 : Nat) : Nat → Nat
  | 0 => a0 | 1 => a1 | 2 => a2 | 3 => a3 | 4 => a4 | 5 => a5 | 6 => a6 | 7 => a7 | 8 => a8 | 9 => a9 | 10 => a10 | 11 => a11 | 12 => a12 | 13 => a13 | 14 => a14 | 15 => a15 | 16 => a16 | _ => a17
