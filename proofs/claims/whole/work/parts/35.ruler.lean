-- ===== 35.ruler: an array of eleven rows =====
def oR (r : Nat → Nat) : Nat → Option Nat := fun i => if i < 11 then some (r i) else none
def rowE (cI : ClassId) (r : Nat → Nat) (G : Nat → Nat → Nat) (i : Nat) : Nat × va_E := (r i, .inl (cI, 11, .inl (fN (G i))))
def rowsL (cI : ClassId) (r : Nat → Nat) (G : Nat → Nat → Nat) : va_W := [rowE cI r G 0, rowE cI r G 1, rowE cI r G 2, rowE cI r G 3, rowE cI r G 4, rowE cI r G 5, rowE cI r G 6, rowE cI r G 7, rowE cI r G 8, rowE cI r G 9, rowE cI r G 10]
theorem rowsL_get {cI : ClassId} {r : Nat → Nat} {G : Nat → Nat → Nat} : ∀ {i : Nat}, i < 11 → (rowsL cI r G)[i]? = some (rowE cI r G i)
  | 0, _ => rfl | 1, _ => rfl | 2, _ => rfl | 3, _ => rfl | 4, _ => rfl | 5, _ => rfl | 6, _ => rfl | 7, _ => rfl | 8, _ => rfl | 9, _ => rfl | 10, _ => rfl
  | _ + 11, h => absurd h (by omega)
theorem rowsL_set {cI : ClassId} {r : Nat → Nat} {G : Nat → Nat → Nat} {g : Nat → Nat} : ∀ {i : Nat}, i < 11 → (rowsL cI r G).set i (r i, .inl (cI, 11, .inl (fN g))) = rowsL cI r (va_up G i g)
  | 0, _ => rfl | 1, _ => rfl | 2, _ => rfl | 3, _ => rfl | 4, _ => rfl | 5, _ => rfl | 6, _ => rfl | 7, _ => rfl | 8, _ => rfl | 9, _ => rfl | 10, _ => rfl
  | _ + 11, h => absurd h (by omega)
theorem rowsL_len {cI : ClassId} {r : Nat → Nat} {G : Nat → Nat → Nat} : (rowsL cI r G).length = 11 := rfl
theorem xR_at {cI : ClassId} {r : Nat → Nat} {G : Nat → Nat → Nat} {X Y : va_W} {i : Nat} (hi : i < 11) : (X ++ (rowsL cI r G ++ Y))[X.length + i]? = some (rowE cI r G i) := by
  rw [List.getElem?_append_right (Nat.le_add_right _ _), Nat.add_sub_cancel_left, List.getElem?_append_left (by rw [rowsL_len]; exact hi)]
  exact rowsL_get hi
theorem xR_put {cI : ClassId} {r : Nat → Nat} {G : Nat → Nat → Nat} {X Y : va_W} {i : Nat} {g : Nat → Nat} (hi : i < 11) : (X ++ (rowsL cI r G ++ Y)).set (X.length + i) (r i, .inl (cI, 11, .inl (fN g))) = X ++ (rowsL cI r (va_up G i g) ++ Y) := by
  rw [List.set_append_right _ _ (Nat.le_add_right _ _), Nat.add_sub_cancel_left, List.set_append_left _ _ (by rw [rowsL_len]; exact hi), rowsL_set hi]
section XR
variable {p : Program} {l : Launch} {e : Env} {R : Room} {s : State} {m : MethodId} {args : Array Value} {below : List Frame} {meth : Method} {c : Code} {H : Heap} {locs : List Loc} {cells slots : Nat} {Q : State → Prop}
variable {cc : ByteArray} {pc : Nat} {ls : Array Slot} {rest : List Value} {D : va_G} {cl : List vw_C} {A : Nat → Prop} {a : Nat} {tys : List (ClassId × FieldType)} {ws : va_W} {H0 : Heap}
theorem xR_aald (hexec : p.tables.exec = Jvm.exec) (hb : c.code = cc) (hK : va_K D cl tys s) (hP : va_P D cl ws H) (q0 t0 : Nat) {cA : ClassId} {r : Nat → Nat} (ha : ws[q0]? = some (a, .inl (cA, 11, .inr (.inr (.inr (.inr (oR r))))))) (ht : tys[t0]? = some (cA, .array .int)) {i : Nat} (hi : i < 11) (hdg : decode cc pc = .ok (.aaload, 1))
    (kk : W p l e R s m args below meth c H locs cells slots Q (F0 m (pc + 1) ls (.ref (r i) :: rest))) : W p l e R s m args below meth c H locs cells slots Q (F0 m pc ls (.int (nI i) :: .ref a :: rest)) := by
  have hcl : (nI i).toNatClampNeg = i := nI_clamp (by omega)
  have hin : vp_in (nI i) 11 := vp_in_nI hi (by decide)
  have hv : va_rf (oR r (nI i).toNatClampNeg) = .ref (r i) := by rw [hcl]; show va_rf (if i < 11 then some (r i) else none) = _; rw [if_pos hi]; rfl
  exact W.aald (v := va_rf (oR r (nI i).toNatClampNeg)) (ty := .array .int) hexec hb (hP q0 _ ha) ((hK.2 t0 _ ht).1 11 (fun j => va_rf (oR r j))) rfl (fun q => by cases q) (by show ¬ (nI i < 0 ∨ (arrV _ _ _).slots.size ≤ _); rw [arrV_size]; exact hin) (by show (arrV _ _ _).slots[_]? = _; rw [arrV_read _ _ (by rw [hcl]; exact hi)]) rfl rfl hdg (by rw [hv]; exact kk)
theorem xR_iald {X Y : va_W} {cI : ClassId} {r : Nat → Nat} {G : Nat → Nat → Nat} (hexec : p.tables.exec = Jvm.exec) (hb : c.code = cc) (hK : va_K D cl tys s) (hP : va_P D cl (X ++ (rowsL cI r G ++ Y)) H) (t0 : Nat) (ht : tys[t0]? = some (cI, .int)) {i j : Nat} (hi : i < 11) (hj : j < 11) (hdg : decode cc pc = .ok (.iaload, 1))
    (kk : W p l e R s m args below meth c H locs cells slots Q (F0 m (pc + 1) ls (.int (nI (G i j)) :: rest))) : W p l e R s m args below meth c H locs cells slots Q (F0 m pc ls (.int (nI j) :: .ref (r i) :: rest)) :=
  xa_iald (f := fN (G i)) hexec hb hK hP (X.length + i) t0 (xR_at hi) ht hj (by decide) hdg kk
theorem xR_iast {X Y : va_W} {cI : ClassId} {r : Nat → Nat} {G : Nat → Nat → Nat} (hexec : p.tables.exec = Jvm.exec) (hb : c.code = cc) (hK : va_K D cl tys s) (hP : va_P D cl (X ++ (rowsL cI r G ++ Y)) H) (hD : va_D A (X ++ (rowsL cI r G ++ Y))) (hS : va_S A H0 H locs) (t0 : Nat) (ht : tys[t0]? = some (cI, .int)) {i j v : Nat} (hi : i < 11) (hj : j < 11) (hdg : decode cc pc = .ok (.iastore, 1))
    (kk : ∀ (H1 : Heap) (locs1 : List Loc), va_P D cl (X ++ (rowsL cI r (va_up G i (va_up (G i) j v)) ++ Y)) H1 → va_D A (X ++ (rowsL cI r (va_up G i (va_up (G i) j v)) ++ Y)) → va_S A H0 H1 locs1 → W p l e R s m args below meth c H1 locs1 cells slots Q (F0 m (pc + 1) ls rest)) : W p l e R s m args below meth c H locs cells slots Q (F0 m pc ls (.int (nI v) :: .int (nI j) :: .ref (r i) :: rest)) :=
  xN_iast (U := G i) hexec hb hK hP hD hS (X.length + i) t0 (xR_at hi) ht hj (by decide) hdg (fun H1 locs1 h1 h2 h3 => kk H1 locs1 (by rw [← xR_put hi]; exact h1) (by rw [← xR_put hi]; exact h2) h3)
end XR
def tab2 (G : Nat → Nat → Nat) (a b : List Nat) (i j : Nat) : Prop := (∀ x y, x < i → y ≤ b.length → G x y = dis a b x y) ∧ ∀ y, y < j → G i y = dis a b i y
theorem tab2_s {G : Nat → Nat → Nat} {a b : List Nat} {i j v : Nat} (h : tab2 G a b i j) (hv : v = dis a b i j) : tab2 (va_up G i (va_up (G i) j v)) a b i (j + 1) := by
  refine ⟨fun x y hx hy => ?_, fun y hy => ?_⟩
  · show (if x = i then va_up (G i) j v else G x) y = _
    rw [if_neg (by omega)]
    exact h.1 x y hx hy
  · show (if i = i then va_up (G i) j v else G i) y = _
    rw [if_pos rfl]
    show (if y = j then v else G i y) = _
    by_cases q : y = j
    · rw [if_pos q, q]; exact hv
    · rw [if_neg q]; exact h.2 y (by omega)
theorem tab2_n {G : Nat → Nat → Nat} {a b : List Nat} {i j : Nat} (hj : b.length < j) (h : tab2 G a b i j) : tab2 G a b (i + 1) 0 := by
  refine ⟨fun x y hx hy => ?_, fun y hy => absurd hy (Nat.not_lt_zero _)⟩
  by_cases q : x = i
  · rw [q]; exact h.2 y (by omega)
  · exact h.1 x y (by omega) hy
theorem min_if {i j : Nat} {a b : List Nat} : disM a b i j = min (min (dis a b (i - 1) j) (dis a b i (j - 1)) + 1) (dis a b (i - 1) (j - 1) + (if a.getD (i - 1) 0 = b.getD (j - 1) 0 then 0 else 1)) := rfl
-- the sum of the slips from one to the others
def sfN (T : Nat → List Nat) (k : Nat) : Nat → Nat | 0 => 0 | o + 1 => if o ≠ k ∧ T o ≠ [] then sfN T k o + dsT (T k) (T o) else sfN T k o
theorem sfN_y {T : Nat → List Nat} {k o : Nat} (h1 : ¬ o = k) (h2 : T o ≠ []) : sfN T k (o + 1) = sfN T k o + dsT (T k) (T o) := if_pos ⟨h1, h2⟩
theorem sfN_n {T : Nat → List Nat} {k o : Nat} (h : ¬ (o ≠ k ∧ T o ≠ [])) : sfN T k (o + 1) = sfN T k o := if_neg h
theorem sfN_le {T : Nat → List Nat} (hT : ∀ k, okT (T k)) (k : Nat) : ∀ o : Nat, sfN T k o ≤ 20 * o
  | 0 => Nat.le_refl _
  | o + 1 => by
    have h := sfN_le hT k o
    by_cases q : o ≠ k ∧ T o ≠ []
    · rw [sfN_y q.1 q.2]; have := dsT_le (hT k) (hT o); omega
    · rw [sfN_n q]; omega
def sfI (T : Nat → List Nat) (k : Nat) : Int32 := if T k = [] then (-1) else nI (sfN T k 8)
-- the first: which has the least sum
def f1S (T : Nat → List Nat) : Nat → Option (Nat × Nat) | 0 => none | b + 1 => if T b = [] then f1S T b else match f1S T b with | none => some (b, sfN T b 8) | some q => if sfN T b 8 < q.2 then some (b, sfN T b 8) else some q
def opA : Option (Nat × Nat) → Int32 | none => (-1) | some q => nI q.1
def opB : Option (Nat × Nat) → Int32 | none => (-1) | some q => nI q.2
theorem f1S_0 {T : Nat → List Nat} {b : Nat} (h : T b = []) : f1S T (b + 1) = f1S T b := if_pos h
theorem f1S_n {T : Nat → List Nat} {b : Nat} (h : T b ≠ []) (h2 : f1S T b = none) : f1S T (b + 1) = some (b, sfN T b 8) := by
  show (if T b = [] then f1S T b else match f1S T b with | none => some (b, sfN T b 8) | some q => if sfN T b 8 < q.2 then some (b, sfN T b 8) else some q) = _
  rw [if_neg h, h2]
theorem f1S_y {T : Nat → List Nat} {b : Nat} {q : Nat × Nat} (h : T b ≠ []) (h2 : f1S T b = some q) (h3 : sfN T b 8 < q.2) : f1S T (b + 1) = some (b, sfN T b 8) := by
  show (if T b = [] then f1S T b else match f1S T b with | none => some (b, sfN T b 8) | some q => if sfN T b 8 < q.2 then some (b, sfN T b 8) else some q) = _
  rw [if_neg h, h2]
  exact if_pos h3
theorem f1S_k {T : Nat → List Nat} {b : Nat} {q : Nat × Nat} (h : T b ≠ []) (h2 : f1S T b = some q) (h3 : ¬ sfN T b 8 < q.2) : f1S T (b + 1) = f1S T b := by
  show (if T b = [] then f1S T b else match f1S T b with | none => some (b, sfN T b 8) | some q => if sfN T b 8 < q.2 then some (b, sfN T b 8) else some q) = _
  rw [if_neg h, h2]
  exact if_neg h3
theorem f1S_lt {T : Nat → List Nat} (hT : ∀ k, okT (T k)) : ∀ {b : Nat} {q : Nat × Nat}, f1S T b = some q → q.1 < b ∧ q.2 ≤ 160
  | 0, q, h => by cases h
  | b + 1, q, h => by
    have hb := sfN_le hT b 8
    by_cases h1 : T b = []
    · rw [f1S_0 h1] at h
      have := f1S_lt hT h
      omega
    · cases h2 : f1S T b with
      | none => rw [f1S_n h1 h2] at h; cases h; exact ⟨Nat.lt_succ_self _, hb⟩
      | some q2 =>
        by_cases h3 : sfN T b 8 < q2.2
        · rw [f1S_y h1 h2 h3] at h; cases h; exact ⟨Nat.lt_succ_self _, hb⟩
        · rw [f1S_k h1 h2 h3] at h
          have := f1S_lt hT h
          omega
def eFs : Nat → Nat → Option (Nat × Nat) → Int32
  | 0, _, _ => (-2)
  | _, 0, o => opA o
  | _, _, o => opB o
theorem trn_f {a b : List Nat} {i j : Nat} (h : i < 2 ∨ j < 2 ∨ a.getD (i - 1) 0 ≠ b.getD (j - 2) 0 ∨ b.getD (j - 1) 0 ≠ a.getD (i - 2) 0) : trnB a i b j = false := by
  refine decide_eq_false (fun q => ?_)
  rcases h with h | h | h | h
  · omega
  · omega
  · exact h q.2.2.1
  · exact h q.2.2.2.symm
theorem trn_t {a b : List Nat} {i j : Nat} (h1 : 2 ≤ i) (h2 : 2 ≤ j) (h3 : a.getD (i - 1) 0 = b.getD (j - 2) 0) (h4 : b.getD (j - 1) 0 = a.getD (i - 2) 0) : trnB a i b j = true :=
  decide_eq_true ⟨h1, h2, h3, h4.symm⟩
