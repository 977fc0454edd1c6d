/-! PART: rows over a whole world: a list of cells ws, and what a method makes of it -/
def gw_P (D : va_G) (tys : List (ClassId × FieldType)) (ws : va_W) (sz : Nat) (U : State) : Prop := U.heap.size = sz ∧ va_K D vwCl tys U ∧ va_P D vwCl ws U.heap ∧ va_D (fun _ => True) ws
def gw_B (D : va_G) (tys : List (ClassId × FieldType)) (A : Nat → Prop) (ws : va_W) (t : State) : Prop := va_P D vwCl ws t.heap ∧ va_K D vwCl tys t ∧ va_D A ws
def gw_W (D : va_G) (tys : List (ClassId × FieldType)) (A : Nat → Prop) (ws : va_W) (s : State) (H : Heap) (locs : List Loc) : Prop := va_K D vwCl tys s ∧ va_P D vwCl ws H ∧ va_D A ws ∧ va_S A s.heap H locs ∧ ∀ q : Nat, s.heap.size ≤ q → A q
abbrev gw_Ci (l : Launch) (y : MethodName) (wd : List Cond) (rm : Room) (D : va_G) (tys : List (ClassId × FieldType)) (ws : va_W) (av : List Value) (r0 : Int32) (ws0 : va_W) : Prop :=
  ∀ sz : Nat, Met l y wd rm (va_Pc av (gw_P D tys ws sz)) (va_Qi (fun (r : Int32) (u : va_W) => r = r0 ∧ u = ws0) (gw_B D tys (va_A ws sz)) (va_A ws sz)) 0 0 (va_A ws sz)
abbrev gw_Cz (l : Launch) (y : MethodName) (wd : List Cond) (rm : Room) (D : va_G) (tys : List (ClassId × FieldType)) (ws : va_W) (av : List Value) (r0 : Int32) (ws0 : va_W) : Prop := gw_Ci l y wd rm D tys ws av r0 ws0
abbrev gw_Cv (l : Launch) (y : MethodName) (wd : List Cond) (rm : Room) (D : va_G) (tys : List (ClassId × FieldType)) (ws : va_W) (av : List Value) (ws0 : va_W) : Prop :=
  ∀ sz : Nat, Met l y wd rm (va_Pc av (gw_P D tys ws sz)) (va_Qv (fun (u : va_W) => u = ws0) (gw_B D tys (va_A ws sz)) (va_A ws sz)) 0 0 (va_A ws sz)
abbrev gw_Cq (l : Launch) (y : MethodName) (wd : List Cond) (rm : Room) (D : va_G) (tys : List (ClassId × FieldType)) (ws : va_W) (av : List Value) (r0 : Option Nat) (ws0 : va_W) : Prop :=
  ∀ sz : Nat, Met l y wd rm (va_Pc av (gw_P D tys ws sz)) (va_Qq (fun (r : Option Nat) (u : va_W) => r = r0 ∧ u = ws0) (gw_B D tys (va_A ws sz)) (va_A ws sz)) 0 0 (va_A ws sz)
theorem gw_blind {av : List Value} {D : va_G} {tys : List (ClassId × FieldType)} {ws : va_W} {sz : Nat} : FrameBlind (va_Pc av (gw_P D tys ws sz)) := fun a U g mk q => by
  obtain ⟨q0, q1, qK, qP, qD⟩ := q
  exact ⟨q0, q1, va_K.moved (u := U) (U := U.calling g mk a) (Vm.Alike.refl U.vm) qK, qP, qD⟩
theorem gw_free {D : va_G} {tys : List (ClassId × FieldType)} {A : Nat → Prop} {ws : va_W} {s : State} {H : Heap} {locs : List Loc} (hw : gw_W D tys A ws s H locs) : ∀ q, va_A ws H.size q → A q := by
  obtain ⟨-, -, hD, hS, hA⟩ := hw
  intro q h
  rcases h with ⟨k, e, h⟩ | h
  · exact hD.2 k (q, e) h
  · exact hA q (Nat.le_trans hS.1 h)
theorem gw_if {α : Type} {c : Prop} [Decidable c] {a : Option α} {r : α} (h : (if c then a else none) = some r) : c ∧ a = some r := by
  by_cases hc : c
  · rw [if_pos hc] at h; exact ⟨hc, h⟩
  · rw [if_neg hc] at h; cases h
def gw_oc {α β : Type} (o : Option α) (a : Option β) (f : α → Option β) : Option β := match o with
  | none => a
  | some y => f y
theorem gw_oc_none {α β : Type} {o : Option α} {a : Option β} {f : α → Option β} (h : o = none) : gw_oc o a f = a := by rw [h]; rfl
theorem gw_oc_some {α β : Type} {o : Option α} {a : Option β} {f : α → Option β} {y : α} (h : o = some y) : gw_oc o a f = f y := by rw [h]; rfl
def gw_oa (ad : Nat → Nat) (o : Option (Fin 8)) : Option Nat := o.map (fun x => ad (6 + x.val))
theorem gw_cat {ad : Nat → Nat} {o : Option (Fin 8)} : (va_rf (gw_oa ad o)).category = 1 := by cases o <;> rfl
section Enter
variable {l : Launch} {y : MethodName} {wd wd' : List Cond} {rm : Room} {D : va_G} {tys : List (ClassId × FieldType)} {ws ws0 : va_W} {av : List Value} {cc : ByteArray} {maxL sz : Nat}
set_option maxHeartbeats 1000000 in
theorem gw_meti {r0 : Int32} (hy : plainName y.cls = true) (hw : wd = Cond.code y cc maxL (some .int) :: wd') (hn : (lg_sl av).length ≤ maxL)
    (body : ∀ (p : Program) (e : Env) (s : State) (m : MethodId) (args : Array Value) (below : List Frame) (meth : Method) (c : Code) (A : Nat → Prop) (Q : State → Prop), CallFix p m c cc maxL s args wd y.cls → ∀ (H : Heap) (locs : List Loc), gw_W D tys A ws s H locs →
      (∀ (H : Heap) (locs : List Loc) (ls : Array Slot) (pc : Nat) (r : Int32) (u : va_W), r = r0 → u = ws0 → gw_W D tys A u s H locs → decode cc pc = .ok (.ireturn, 1) → W p l e rm s m args below meth c H locs 0 0 Q (F0 m pc ls [.int r])) →
      ∀ ls : Array Slot, lv_has ls maxL (lv_args 0 av) → W p l e rm s m args below meth c H locs 0 0 Q (F0 m 0 ls [])) :
    Met l y wd rm (va_Pc av (gw_P D tys ws sz)) (va_Qi (fun (r : Int32) (u : va_W) => r = r0 ∧ u = ws0) (gw_B D tys (va_A ws sz)) (va_A ws sz)) 0 0 (va_A ws sz) := by
  refine Met.ofW (cc := cc) (maxL := maxL) (ret := some .int) hy hw ?_
  intro p e s m args below meth c s₁ B hml hv
  obtain ⟨hargs, hsz, hK, hP, hD0⟩ := hv
  have hl := lv_entry av (n := maxL) hn
  subst hsz
  have hD := hD0.self (sz := s.heap.size)
  have hlk := B.notSynchronized
  rw [show entryFrame m args maxL = F0 m 0 ((lg_sl av ++ List.replicate (maxL - (lg_sl av).length) Slot.unset).toArray) [] by rw [hargs]; exact lg_entry_eq m av maxL]
  exact body p e s m args below meth c (va_A ws s.heap.size) _ ⟨B.exec, B.bytes, hml, findClass_of_methodNamed B.named, atoms_spec (ws := wd) B.pre⟩ s.heap [] ⟨hK, hP, hD, va_S.rf, fun q h => Or.inr h⟩
    (fun H locs ls pc r u hr hu hw hd => by
      subst hr; subst hu
      exact W.iret B.exec B.bytes B.returns (fun t ht hW => ⟨⟨r, u, rfl, ⟨rfl, rfl⟩, by rw [ht]; exact hw.2.1, va_K.moved hW.alike hw.1, hw.2.2.1⟩, hw.2.2.2.1.F ht⟩) hw.2.2.2.1.2.2 hd hlk) _ hl
set_option maxHeartbeats 1000000 in
theorem gw_metz {r0 : Int32} (hy : plainName y.cls = true) (hw : wd = Cond.code y cc maxL (some .boolean) :: wd') (hn : (lg_sl av).length ≤ maxL)
    (body : ∀ (p : Program) (e : Env) (s : State) (m : MethodId) (args : Array Value) (below : List Frame) (meth : Method) (c : Code) (A : Nat → Prop) (Q : State → Prop), CallFix p m c cc maxL s args wd y.cls → ∀ (H : Heap) (locs : List Loc), gw_W D tys A ws s H locs →
      (∀ (H : Heap) (locs : List Loc) (ls : Array Slot) (pc : Nat) (r : Int32) (u : va_W), r = r0 → u = ws0 → (r = 0 ∨ r = 1) → gw_W D tys A u s H locs → decode cc pc = .ok (.ireturn, 1) → W p l e rm s m args below meth c H locs 0 0 Q (F0 m pc ls [.int r])) →
      ∀ ls : Array Slot, lv_has ls maxL (lv_args 0 av) → W p l e rm s m args below meth c H locs 0 0 Q (F0 m 0 ls [])) :
    Met l y wd rm (va_Pc av (gw_P D tys ws sz)) (va_Qi (fun (r : Int32) (u : va_W) => r = r0 ∧ u = ws0) (gw_B D tys (va_A ws sz)) (va_A ws sz)) 0 0 (va_A ws sz) := by
  refine Met.ofW (cc := cc) (maxL := maxL) (ret := some .boolean) hy hw ?_
  intro p e s m args below meth c s₁ B hml hv
  obtain ⟨hargs, hsz, hK, hP, hD0⟩ := hv
  have hl := lv_entry av (n := maxL) hn
  subst hsz
  have hD := hD0.self (sz := s.heap.size)
  have hlk := B.notSynchronized
  rw [show entryFrame m args maxL = F0 m 0 ((lg_sl av ++ List.replicate (maxL - (lg_sl av).length) Slot.unset).toArray) [] by rw [hargs]; exact lg_entry_eq m av maxL]
  exact body p e s m args below meth c (va_A ws s.heap.size) _ ⟨B.exec, B.bytes, hml, findClass_of_methodNamed B.named, atoms_spec (ws := wd) B.pre⟩ s.heap [] ⟨hK, hP, hD, va_S.rf, fun q h => Or.inr h⟩
    (fun H locs ls pc r u hr hu h01 hw hd => by
      subst hr; subst hu
      have hnr : narrow .boolean (.int r) = .int r := by rcases h01 with rfl | rfl <;> rfl
      exact W.zret B.exec B.bytes B.returns hnr (fun t ht hW => ⟨⟨r, u, rfl, ⟨rfl, rfl⟩, by rw [ht]; exact hw.2.1, va_K.moved hW.alike hw.1, hw.2.2.1⟩, hw.2.2.2.1.F ht⟩) hw.2.2.2.1.2.2 hd hlk) _ hl
set_option maxHeartbeats 1000000 in
theorem gw_metv (hy : plainName y.cls = true) (hw : wd = Cond.code y cc maxL none :: wd') (hn : (lg_sl av).length ≤ maxL)
    (body : ∀ (p : Program) (e : Env) (s : State) (m : MethodId) (args : Array Value) (below : List Frame) (meth : Method) (c : Code) (A : Nat → Prop) (Q : State → Prop), CallFix p m c cc maxL s args wd y.cls → ∀ (H : Heap) (locs : List Loc), gw_W D tys A ws s H locs →
      (∀ (H : Heap) (locs : List Loc) (ls : Array Slot) (pc : Nat) (u : va_W), u = ws0 → gw_W D tys A u s H locs → decode cc pc = .ok (.return_, 1) → W p l e rm s m args below meth c H locs 0 0 Q (F0 m pc ls [])) →
      ∀ ls : Array Slot, lv_has ls maxL (lv_args 0 av) → W p l e rm s m args below meth c H locs 0 0 Q (F0 m 0 ls [])) :
    Met l y wd rm (va_Pc av (gw_P D tys ws sz)) (va_Qv (fun (u : va_W) => u = ws0) (gw_B D tys (va_A ws sz)) (va_A ws sz)) 0 0 (va_A ws sz) := by
  refine Met.ofW (cc := cc) (maxL := maxL) (ret := none) hy hw ?_
  intro p e s m args below meth c s₁ B hml hv
  obtain ⟨hargs, hsz, hK, hP, hD0⟩ := hv
  have hl := lv_entry av (n := maxL) hn
  subst hsz
  have hD := hD0.self (sz := s.heap.size)
  have hlk := B.notSynchronized
  rw [show entryFrame m args maxL = F0 m 0 ((lg_sl av ++ List.replicate (maxL - (lg_sl av).length) Slot.unset).toArray) [] by rw [hargs]; exact lg_entry_eq m av maxL]
  exact body p e s m args below meth c (va_A ws s.heap.size) _ ⟨B.exec, B.bytes, hml, findClass_of_methodNamed B.named, atoms_spec (ws := wd) B.pre⟩ s.heap [] ⟨hK, hP, hD, va_S.rf, fun q h => Or.inr h⟩
    (fun H locs ls pc u hu hw hd => by
      subst hu
      exact W.vret B.exec B.bytes B.returns (fun t ht hW => ⟨⟨u, rfl, rfl, by rw [ht]; exact hw.2.1, va_K.moved hW.alike hw.1, hw.2.2.1⟩, hw.2.2.2.1.F ht⟩) hw.2.2.2.1.2.2 hd hlk) _ hl
set_option maxHeartbeats 1000000 in
theorem gw_metq {C : String} {r0 : Option Nat} (hy : plainName y.cls = true) (hw : wd = Cond.code y cc maxL (some (.object C)) :: wd') (hn : (lg_sl av).length ≤ maxL)
    (body : ∀ (p : Program) (e : Env) (s : State) (m : MethodId) (args : Array Value) (below : List Frame) (meth : Method) (c : Code) (A : Nat → Prop) (Q : State → Prop), CallFix p m c cc maxL s args wd y.cls → ∀ (H : Heap) (locs : List Loc), gw_W D tys A ws s H locs →
      (∀ (H : Heap) (locs : List Loc) (ls : Array Slot) (pc : Nat) (r : Option Nat) (u : va_W), r = r0 → u = ws0 → gw_W D tys A u s H locs → decode cc pc = .ok (.areturn, 1) → W p l e rm s m args below meth c H locs 0 0 Q (F0 m pc ls [va_rf r])) →
      ∀ ls : Array Slot, lv_has ls maxL (lv_args 0 av) → W p l e rm s m args below meth c H locs 0 0 Q (F0 m 0 ls [])) :
    Met l y wd rm (va_Pc av (gw_P D tys ws sz)) (va_Qq (fun (r : Option Nat) (u : va_W) => r = r0 ∧ u = ws0) (gw_B D tys (va_A ws sz)) (va_A ws sz)) 0 0 (va_A ws sz) := by
  refine Met.ofW (cc := cc) (maxL := maxL) (ret := some (.object C)) hy hw ?_
  intro p e s m args below meth c s₁ B hml hv
  obtain ⟨hargs, hsz, hK, hP, hD0⟩ := hv
  have hl := lv_entry av (n := maxL) hn
  subst hsz
  have hD := hD0.self (sz := s.heap.size)
  have hlk := B.notSynchronized
  rw [show entryFrame m args maxL = F0 m 0 ((lg_sl av ++ List.replicate (maxL - (lg_sl av).length) Slot.unset).toArray) [] by rw [hargs]; exact lg_entry_eq m av maxL]
  exact body p e s m args below meth c (va_A ws s.heap.size) _ ⟨B.exec, B.bytes, hml, findClass_of_methodNamed B.named, atoms_spec (ws := wd) B.pre⟩ s.heap [] ⟨hK, hP, hD, va_S.rf, fun q h => Or.inr h⟩
    (fun H locs ls pc r u hr hu hw hd => by
      subst hr; subst hu
      exact W.aret B.exec B.bytes B.returns (Or.inl ⟨C, rfl⟩) (by cases r with | none => exact Or.inl rfl | some a => exact Or.inr ⟨a, rfl⟩) (fun t ht hW => ⟨⟨r, u, rfl, ⟨rfl, rfl⟩, by rw [ht]; exact hw.2.1, va_K.moved hW.alike hw.1, hw.2.2.1⟩, hw.2.2.2.1.F ht⟩) hw.2.2.2.1.2.2 hd hlk) _ hl
end Enter
section Rows
variable {p : Program} {l : Launch} {e : Env} {R : Room} {s : State} {m : MethodId} {args : Array Value} {below : List Frame} {meth : Method} {c : Code} {H : Heap} {locs : List Loc} {cells slots : Nat} {Q : State → Prop}
variable {cc : ByteArray} {nL : Nat} {Ts : List Cond} {own : String} {D : va_G} {tys : List (ClassId × FieldType)} {A : Nat → Prop} {ws ws0 : va_W} {pc : Nat} {ls : Array Slot} {rest : List Value}
theorem gw_aload_n {ad : Nat → Nat} {o : Option (Fin 8)} (hexec : p.tables.exec = Jvm.exec) (hb : c.code = cc) {k : Fin 4} {i : Nat} (hdg : decode cc pc = .ok (.aload_n k, 1)) (hi : (k : Nat) = i) (hl : ls[i]? = some (.val (va_rf (gw_oa ad o))))
    (kk : W p l e R s m args below meth c H locs cells slots Q (F0 m (pc + 1) ls (va_rf (gw_oa ad o) :: rest))) : W p l e R s m args below meth c H locs cells slots Q (F0 m pc ls rest) := by
  cases o with
  | none => exact lv_aload_nN hexec hb hdg hi hl kk
  | some x => exact lv_aload_n hexec hb hdg hi hl kk
theorem gw_aload {ad : Nat → Nat} {o : Option (Fin 8)} (hexec : p.tables.exec = Jvm.exec) (hb : c.code = cc) {i : Nat} (hdg : decode cc pc = .ok (.aload i, 2)) (hl : ls[i]? = some (.val (va_rf (gw_oa ad o))))
    (kk : W p l e R s m args below meth c H locs cells slots Q (F0 m (pc + 2) ls (va_rf (gw_oa ad o) :: rest))) : W p l e R s m args below meth c H locs cells slots Q (F0 m pc ls rest) := by
  cases o with
  | none => exact lv_aloadN hexec hb hdg hl kk
  | some x => exact lv_aload hexec hb hdg hl kk
theorem gw_astore_n {ad : Nat → Nat} {o : Option (Fin 8)} {lv lv' : List (Nat × Value)} (hexec : p.tables.exec = Jvm.exec) (hb : c.code = cc) {k : Fin 4} {i : Nat} (hdg : decode cc pc = .ok (.astore_n k, 1)) (hi : (k : Nat) = i) (h : lv_has ls nL lv) (hn : i < nL) (hl : (i, va_rf (gw_oa ad o)) :: lv.filter (fun q => !(q.1 == i) && !(q.1 + 1 == i && q.2.category == 2)) = lv')
    (kk : ∀ ls' : Array Slot, lv_has ls' nL lv' → W p l e R s m args below meth c H locs cells slots Q (F0 m (pc + 1) ls' rest)) : W p l e R s m args below meth c H locs cells slots Q (F0 m pc ls (va_rf (gw_oa ad o) :: rest)) := by
  cases o with
  | none => exact lv_astore_nN hexec hb hdg hi h hn hl kk
  | some x => exact lv_astore_n hexec hb hdg hi h hn hl kk
theorem gw_astore {ad : Nat → Nat} {o : Option (Fin 8)} {lv lv' : List (Nat × Value)} (hexec : p.tables.exec = Jvm.exec) (hb : c.code = cc) {i : Nat} (hdg : decode cc pc = .ok (.astore i, 2)) (h : lv_has ls nL lv) (hn : i < nL) (hl : (i, va_rf (gw_oa ad o)) :: lv.filter (fun q => !(q.1 == i) && !(q.1 + 1 == i && q.2.category == 2)) = lv')
    (kk : ∀ ls' : Array Slot, lv_has ls' nL lv' → W p l e R s m args below meth c H locs cells slots Q (F0 m (pc + 2) ls' rest)) : W p l e R s m args below meth c H locs cells slots Q (F0 m pc ls (va_rf (gw_oa ad o) :: rest)) := by
  cases o with
  | none => exact lv_astoreN hexec hb hdg h hn hl kk
  | some x => exact lv_astore hexec hb hdg h hn hl kk
theorem gw_acmp_ne {ad : Nat → Nat} {ox oy : Option (Fin 8)} {off : Int} {tgt : Nat} (hinj : ∀ x y : Fin 8, ad (6 + x.val) = ad (6 + y.val) → x = y) (hexec : p.tables.exec = Jvm.exec) (hb : c.code = cc) (hdg : decode cc pc = .ok (.if_acmp .ne off, 3)) (ht : (pc : Int) + off = (tgt : Int))
    (kt : ¬ ox = oy → W p l e R s m args below meth c H locs cells slots Q (F0 m tgt ls rest)) (kf : ox = oy → W p l e R s m args below meth c H locs cells slots Q (F0 m (pc + 3) ls rest)) : W p l e R s m args below meth c H locs cells slots Q (F0 m pc ls (va_rf (gw_oa ad oy) :: va_rf (gw_oa ad ox) :: rest)) := by
  refine lv_acmp_ne hexec hb hdg ht (fun h => kt (fun q => h (by rw [q]))) (fun h => kf ?_)
  cases ox with
  | none => cases oy with
    | none => rfl
    | some y => cases h
  | some x => cases oy with
    | none => cases h
    | some y => rw [hinj x y (Option.some.inj h)]
theorem gw_acmp_eq {ad : Nat → Nat} {ox oy : Option (Fin 8)} {off : Int} {tgt : Nat} (hinj : ∀ x y : Fin 8, ad (6 + x.val) = ad (6 + y.val) → x = y) (hexec : p.tables.exec = Jvm.exec) (hb : c.code = cc) (hdg : decode cc pc = .ok (.if_acmp .eq off, 3)) (ht : (pc : Int) + off = (tgt : Int))
    (kt : ox = oy → W p l e R s m args below meth c H locs cells slots Q (F0 m tgt ls rest)) (kf : ¬ ox = oy → W p l e R s m args below meth c H locs cells slots Q (F0 m (pc + 3) ls rest)) : W p l e R s m args below meth c H locs cells slots Q (F0 m pc ls (va_rf (gw_oa ad oy) :: va_rf (gw_oa ad ox) :: rest)) := by
  refine lv_acmp_eq hexec hb hdg ht (fun h => kt ?_) (fun h => kf (fun q => h (by rw [q])))
  cases ox with
  | none => cases oy with
    | none => rfl
    | some y => cases h
  | some x => cases oy with
    | none => cases h
    | some y => rw [hinj x y (Option.some.inj h)]
theorem gw_get (S : CallFix p m c cc nL s args Ts own) (hw : gw_W D tys A ws s H locs) {q0 a ci : Nat} {fs : List Value} (he : ws[q0]? = some (a, .inr (ci, fs))) {C : String} {T : u_T} {N : Nat} (hc : vwCl[ci]? = some (C, T, N)) {k : Nat} (hk : k < N) (hin : ∀ w ∈ u_ws C T N, w ∈ Ts) {index : Nat} (hlink : Cond.fieldLink own index (T k).1 (T k).2.1 (T k).2.2.1 ∈ Ts) {v : Value} (hv : fs[k]? = some v) (hdg : decode cc pc = .ok (.getfield index, 3))
    (kk : W p l e R s m args below meth c H locs cells slots Q (F0 m (pc + 3) ls (v :: rest))) : W p l e R s m args below meth c H locs cells slots Q (F0 m pc ls (.ref a :: rest)) :=
  va_get S.1 S.2.1 S.2.2.2.2 hin S.2.2.2.1 hw.1 hw.2.1 q0 he hc k hk (S.2.2.2.2 _ hlink) (fun _ h => h) hv hdg kk
theorem gw_put (S : CallFix p m c cc nL s args Ts own) (hw : gw_W D tys A ws s H locs) {q0 a ci : Nat} {fs : List Value} (he : ws[q0]? = some (a, .inr (ci, fs))) {C : String} {T : u_T} {N : Nat} (hc : vwCl[ci]? = some (C, T, N)) {k : Nat} (hk : k < N) (hin : ∀ w ∈ u_ws C T N, w ∈ Ts) {index : Nat} (hlink : Cond.fieldLink own index (T k).1 (T k).2.1 (T k).2.2.1 ∈ Ts) {ty0 : Nat → FieldType} (hty : ∀ k, k < N → parseFieldDescriptor (T k).2.2.1 = some (ty0 k)) (hnm : ∀ a, a < N → ∀ b, b < N → a ≠ b → (T a).2.1 ≠ (T b).2.1) (hfin : (T k).2.2.2 = false) {ty : FieldType} {v : Value} (hd : parseFieldDescriptor (T k).2.2.1 = some ty) (hn : narrow ty v = v) (hfit : fits ty v = true) (hl : k < fs.length)
    (hset : ws.set q0 (a, .inr (ci, fs.set k v)) = ws0) (hdg : decode cc pc = .ok (.putfield index, 3))
    (kk : ∀ (H1 : Heap) (locs1 : List Loc), gw_W D tys A ws0 s H1 locs1 → W p l e R s m args below meth c H1 locs1 cells slots Q (F0 m (pc + 3) ls rest)) : W p l e R s m args below meth c H locs cells slots Q (F0 m pc ls (v :: .ref a :: rest)) := by
  obtain ⟨hK, hP, hD, hS, hA⟩ := hw
  refine va_put S.1 S.2.1 S.2.2.2.2 hin ty0 hty hnm S.2.2.2.1 hK hP hD hS q0 he hc k hk (S.2.2.2.2 _ hlink) (fun _ h => h) hfin hd hn hfit hl hdg (fun H1 locs1 hP1 hD1 hS1 => ?_)
  rw [hset] at hP1 hD1
  exact kk H1 locs1 ⟨hK, hP1, hD1, hS1, hA⟩
theorem gw_iald (S : CallFix p m c cc nL s args Ts own) (hw : gw_W D tys A ws s H locs) {q0 t0 a n : Nat} {cA : ClassId} {f : Nat → Int32} (he : ws[q0]? = some (a, .inl (cA, n, .inl f)) ∧ tys[t0]? = some (cA, .int)) {i : Int32} (hin : ¬ (i < 0 ∨ n ≤ i.toNatClampNeg)) (hdg : decode cc pc = .ok (.iaload, 1))
    (kk : W p l e R s m args below meth c H locs cells slots Q (F0 m (pc + 1) ls (.int (f i.toNatClampNeg) :: rest))) : W p l e R s m args below meth c H locs cells slots Q (F0 m pc ls (.int i :: .ref a :: rest)) :=
  va_iald S.1 S.2.1 hw.1 hw.2.1 q0 t0 he.1 he.2 hin hdg kk
theorem gw_zald (S : CallFix p m c cc nL s args Ts own) (hw : gw_W D tys A ws s H locs) {q0 t0 a n : Nat} {cA : ClassId} {f : Nat → Int32} (he : ws[q0]? = some (a, .inl (cA, n, .inl f)) ∧ tys[t0]? = some (cA, .boolean)) {i : Int32} (hin : ¬ (i < 0 ∨ n ≤ i.toNatClampNeg)) (hdg : decode cc pc = .ok (.baload, 1))
    (kk : W p l e R s m args below meth c H locs cells slots Q (F0 m (pc + 1) ls (.int (f i.toNatClampNeg) :: rest))) : W p l e R s m args below meth c H locs cells slots Q (F0 m pc ls (.int i :: .ref a :: rest)) :=
  va_zald S.1 S.2.1 hw.1 hw.2.1 q0 t0 he.1 he.2 hin hdg kk
theorem gw_aldq (S : CallFix p m c cc nL s args Ts own) (hw : gw_W D tys A ws s H locs) {q0 t0 a n : Nat} {cA : ClassId} {C : String} {f : Nat → Option Nat} (he : ws[q0]? = some (a, .inl (cA, n, .inr (.inr (.inr (.inr f))))) ∧ tys[t0]? = some (cA, .object C)) {i : Int32} (hin : ¬ (i < 0 ∨ n ≤ i.toNatClampNeg)) (hdg : decode cc pc = .ok (.aaload, 1))
    (kk : W p l e R s m args below meth c H locs cells slots Q (F0 m (pc + 1) ls (va_rf (f i.toNatClampNeg) :: rest))) : W p l e R s m args below meth c H locs cells slots Q (F0 m pc ls (.int i :: .ref a :: rest)) :=
  va_aldq S.1 S.2.1 hw.1 hw.2.1 q0 t0 he.1 he.2 hin hdg kk
theorem gw_iast (S : CallFix p m c cc nL s args Ts own) (hw : gw_W D tys A ws s H locs) {q0 t0 a n : Nat} {cA : ClassId} {f : Nat → Int32} (he : ws[q0]? = some (a, .inl (cA, n, .inl f)) ∧ tys[t0]? = some (cA, .int)) {i x : Int32} (hin : ¬ (i < 0 ∨ n ≤ i.toNatClampNeg)) (hset : ws.set q0 (a, .inl (cA, n, .inl (upd f i.toNatClampNeg x))) = ws0) (hdg : decode cc pc = .ok (.iastore, 1))
    (kk : ∀ (H1 : Heap) (locs1 : List Loc), gw_W D tys A ws0 s H1 locs1 → W p l e R s m args below meth c H1 locs1 cells slots Q (F0 m (pc + 1) ls rest)) : W p l e R s m args below meth c H locs cells slots Q (F0 m pc ls (.int x :: .int i :: .ref a :: rest)) := by
  obtain ⟨hK, hP, hD, hS, hA⟩ := hw
  refine va_iast S.1 S.2.1 hK hP hD hS q0 t0 he.1 he.2 hin hdg (fun H1 locs1 hP1 hD1 hS1 => ?_)
  rw [hset] at hP1 hD1
  exact kk H1 locs1 ⟨hK, hP1, hD1, hS1, hA⟩
theorem gw_zast (S : CallFix p m c cc nL s args Ts own) (hw : gw_W D tys A ws s H locs) {q0 t0 a n : Nat} {cA : ClassId} {f : Nat → Int32} (he : ws[q0]? = some (a, .inl (cA, n, .inl f)) ∧ tys[t0]? = some (cA, .boolean)) {i x : Int32} (hin : ¬ (i < 0 ∨ n ≤ i.toNatClampNeg)) (hnar : vp_nar .boolean x = x) (hset : ws.set q0 (a, .inl (cA, n, .inl (upd f i.toNatClampNeg x))) = ws0) (hdg : decode cc pc = .ok (.bastore, 1))
    (kk : ∀ (H1 : Heap) (locs1 : List Loc), gw_W D tys A ws0 s H1 locs1 → W p l e R s m args below meth c H1 locs1 cells slots Q (F0 m (pc + 1) ls rest)) : W p l e R s m args below meth c H locs cells slots Q (F0 m pc ls (.int x :: .int i :: .ref a :: rest)) := by
  obtain ⟨hK, hP, hD, hS, hA⟩ := hw
  refine va_zast S.1 S.2.1 hK hP hD hS q0 t0 he.1 he.2 hin hdg (fun H1 locs1 hP1 hD1 hS1 => ?_)
  rw [hnar, hset] at hP1 hD1
  exact kk H1 locs1 ⟨hK, hP1, hD1, hS1, hA⟩
theorem gw_astq (S : CallFix p m c cc nL s args Ts own) (hw : gw_W D tys A ws s H locs) {q0 t0 a n qk ci v : Nat} {cA : ClassId} {r : vw_C} {vs : List Value} {f : Nat → Option Nat} (he : ws[q0]? = some (a, .inl (cA, n, .inr (.inr (.inr (.inr f))))) ∧ tys[t0]? = some (cA, .object r.1)) (hv : ws[qk]? = some (v, .inr (ci, vs))) (hc : vwCl[ci]? = some r) {i : Int32} (hin : ¬ (i < 0 ∨ n ≤ i.toNatClampNeg)) (hset : ws.set q0 (a, .inl (cA, n, .inr (.inr (.inr (.inr (va_up f i.toNatClampNeg (some v))))))) = ws0) (hdg : decode cc pc = .ok (.aastore, 1))
    (kk : ∀ (H1 : Heap) (locs1 : List Loc), gw_W D tys A ws0 s H1 locs1 → W p l e R s m args below meth c H1 locs1 cells slots Q (F0 m (pc + 1) ls rest)) : W p l e R s m args below meth c H locs cells slots Q (F0 m pc ls (.ref v :: .int i :: .ref a :: rest)) := by
  obtain ⟨hK, hP, hD, hS, hA⟩ := hw
  refine va_astq S.1 S.2.1 hK hP hD hS q0 t0 qk ci he.1 he.2 hv hc hin hdg (fun H1 locs1 hP1 hD1 hS1 => ?_)
  rw [hset] at hP1 hD1
  exact kk H1 locs1 ⟨hK, hP1, hD1, hS1, hA⟩
theorem gw_calli {y : MethodName} {wd : List Cond} {rm : Room} {C : String} {index maxL n b q0 ci N : Nat} {bytes : ByteArray} {ret : Option FieldType} {As : List Value} {r0 : Int32} {fs : List Value} {T : u_T} {st0 : List Value} (S : CallFix p m c cc nL s args Ts own) (hw : gw_W D tys A ws s H locs) (hM : gw_Ci l y wd rm D tys ws (.ref b :: As) r0 ws0) (cw : CallW R s args own C index y bytes maxL ret wd rm 0 0 n) (he : ws[q0]? = some (b, .inr (ci, fs))) (hc : vwCl[ci]? = some (C, T, N)) (hn : As.length = n) (hsize : ls.size = nL) (hst : st0 = As.reverse ++ .ref b :: rest) (hrest : (rest.map fun v => v.category).sum ≤ 8) (hdg : decode cc pc = .ok (.invokevirtual index, 3))
    (kk : ∀ (H1 : Heap) (locs1 : List Loc), gw_W D tys A ws0 s H1 locs1 → W p l e R s m args below meth c H1 locs1 0 0 Q (F0 m (pc + 3) ls (.int r0 :: rest))) : W p l e R s m args below meth c H locs 0 0 Q (F0 m pc ls st0) := by
  have hF := gw_free hw
  obtain ⟨hK, hP, hD, hS, hA⟩ := hw
  refine va_calli (va_runV S (hM H.size) cw ⟨gw_blind, va_recv hK hP hc he, fun U hU hW => ⟨rfl, by rw [hU], va_K.moved hW.alike hK, by rw [hU]; exact hP, hD.weaken (fun _ _ _ _ => trivial)⟩⟩ rfl hn hsize hst (lv_room hrest) hdg ⟨Nat.zero_le _, Nat.zero_le _⟩) hS (fun q _ h => hF q h) hF (fun r u t H1 locs1 ht hvm hp hB hz hk hS1 => ?_)
  obtain ⟨rfl, rfl⟩ := hp
  exact kk H1 locs1 ⟨hK, by rw [← ht]; exact hB.1, hB.2.2.weaken (fun _ q _ h => hF q.1 h), hS1, hA⟩
theorem gw_callv {y : MethodName} {wd : List Cond} {rm : Room} {C : String} {index maxL n b q0 ci N : Nat} {bytes : ByteArray} {ret : Option FieldType} {As : List Value} {fs : List Value} {T : u_T} {st0 : List Value} (S : CallFix p m c cc nL s args Ts own) (hw : gw_W D tys A ws s H locs) (hM : gw_Cv l y wd rm D tys ws (.ref b :: As) ws0) (cw : CallW R s args own C index y bytes maxL ret wd rm 0 0 n) (he : ws[q0]? = some (b, .inr (ci, fs))) (hc : vwCl[ci]? = some (C, T, N)) (hn : As.length = n) (hsize : ls.size = nL) (hst : st0 = As.reverse ++ .ref b :: rest) (hrest : (rest.map fun v => v.category).sum ≤ 8) (hdg : decode cc pc = .ok (.invokevirtual index, 3))
    (kk : ∀ (H1 : Heap) (locs1 : List Loc), gw_W D tys A ws0 s H1 locs1 → W p l e R s m args below meth c H1 locs1 0 0 Q (F0 m (pc + 3) ls rest)) : W p l e R s m args below meth c H locs 0 0 Q (F0 m pc ls st0) := by
  have hF := gw_free hw
  obtain ⟨hK, hP, hD, hS, hA⟩ := hw
  refine va_callv (va_runV S (hM H.size) cw ⟨gw_blind, va_recv hK hP hc he, fun U hU hW => ⟨rfl, by rw [hU], va_K.moved hW.alike hK, by rw [hU]; exact hP, hD.weaken (fun _ _ _ _ => trivial)⟩⟩ rfl hn hsize hst (lv_room hrest) hdg ⟨Nat.zero_le _, Nat.zero_le _⟩) hS (fun q _ h => hF q h) hF (fun u t H1 locs1 ht hvm hp hB hz hk hS1 => ?_)
  obtain rfl := hp
  exact kk H1 locs1 ⟨hK, by rw [← ht]; exact hB.1, hB.2.2.weaken (fun _ q _ h => hF q.1 h), hS1, hA⟩
theorem gw_callq {y : MethodName} {wd : List Cond} {rm : Room} {C : String} {index maxL n b q0 ci N : Nat} {bytes : ByteArray} {ret : Option FieldType} {As : List Value} {r0 : Option Nat} {fs : List Value} {T : u_T} {st0 : List Value} (S : CallFix p m c cc nL s args Ts own) (hw : gw_W D tys A ws s H locs) (hM : gw_Cq l y wd rm D tys ws (.ref b :: As) r0 ws0) (cw : CallW R s args own C index y bytes maxL ret wd rm 0 0 n) (he : ws[q0]? = some (b, .inr (ci, fs))) (hc : vwCl[ci]? = some (C, T, N)) (hn : As.length = n) (hsize : ls.size = nL) (hst : st0 = As.reverse ++ .ref b :: rest) (hrest : (rest.map fun v => v.category).sum ≤ 8) (hdg : decode cc pc = .ok (.invokevirtual index, 3))
    (kk : ∀ (H1 : Heap) (locs1 : List Loc), gw_W D tys A ws0 s H1 locs1 → W p l e R s m args below meth c H1 locs1 0 0 Q (F0 m (pc + 3) ls (va_rf r0 :: rest))) : W p l e R s m args below meth c H locs 0 0 Q (F0 m pc ls st0) := by
  have hF := gw_free hw
  obtain ⟨hK, hP, hD, hS, hA⟩ := hw
  refine va_callq (va_runV S (hM H.size) cw ⟨gw_blind, va_recv hK hP hc he, fun U hU hW => ⟨rfl, by rw [hU], va_K.moved hW.alike hK, by rw [hU]; exact hP, hD.weaken (fun _ _ _ _ => trivial)⟩⟩ rfl hn hsize hst (lv_room hrest) hdg ⟨Nat.zero_le _, Nat.zero_le _⟩) hS (fun q _ h => hF q h) hF (fun r u t H1 locs1 ht hvm hp hB hz hk hS1 => ?_)
  obtain ⟨rfl, rfl⟩ := hp
  exact kk H1 locs1 ⟨hK, by rw [← ht]; exact hB.1, hB.2.2.weaken (fun _ q _ h => hF q.1 h), hS1, hA⟩
end Rows
theorem gw_toInt {x : Int32} {k : Int32} (h : ¬ x = k) : x.toInt ≠ k.toInt := fun q => h (Int32.toInt_inj.mp q)
theorem gw_out6 {x : Int32} (h0 : ¬ x = 0) (h1 : ¬ x = 1) (h2 : ¬ x = 2) (h3 : ¬ x = 3) (h4 : ¬ x = 4) (h5 : ¬ x = 5) : x.toInt < 0 ∨ 5 < x.toInt := by
  have a0 : x.toInt ≠ 0 := gw_toInt h0
  have a1 : x.toInt ≠ 1 := gw_toInt h1
  have a2 : x.toInt ≠ 2 := gw_toInt h2
  have a3 : x.toInt ≠ 3 := gw_toInt h3
  have a4 : x.toInt ≠ 4 := gw_toInt h4
  have a5 : x.toInt ≠ 5 := gw_toInt h5
  omega
