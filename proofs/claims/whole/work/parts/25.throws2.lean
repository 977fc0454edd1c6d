/-! .. contracts of methods that throw; the throw; a call of one; what is thrown goes on, or is caught -/
def gx_P (D : va_G) (tys : List (ClassId × FieldType)) (ws : va_W) (sz : Nat) (U : State) : Prop := gw_P D tys ws sz U ∧ gx_Z (va_A ws sz) U U.heap
/-- q of class E was thrown; the world is ws0 then -/
def gx_Q (E : String) (D : va_G) (tys : List (ClassId × FieldType)) (A : Nat → Prop) (ws0 : va_W) : Array Value → State → Outcome → State → Prop := fun _ st o t =>
  ∃ (q : Addr) (ce : Cell) (L : List Loc), o = .threw q ∧ t.heap[q]? = some ce ∧ ce.vm = .none ∧ st.vm.findClass E = some ce.cls ∧ gw_B D tys A ws0 t ∧ va_F A st t ∧ st.WarmedH t.vm ∧ st.sameButNew ({ t with vm := st.vm } : State) L 1 6 ∧ ∀ z ∈ L, A z.base
abbrev gx_C (l : Launch) (y : MethodName) (wd : List Cond) (rm : Room) (D : va_G) (tys : List (ClassId × FieldType)) (ws : va_W) (av : List Value) (E : String) (ws0 : va_W) : Prop :=
  ∀ sz : Nat, MetFree l y (headSpec wd rm) (va_Pc av (gx_P D tys ws sz)) (fun _ _ _ _ _ => True) (gx_Q E D tys (va_A ws sz) ws0)
def gx_MQ (below : List Frame) (E : String) (D : va_G) (tys : List (ClassId × FieldType)) (A : Nat → Prop) (ws0 : va_W) (a : Array Value) (s : State) : State → Prop := fun t => ∃ o, t.status = .running ∧ Ended t below o ∧ gx_Q E D tys A ws0 a s o t
/-- the frame g with q thrown over it -/
def gx_W (p : Program) (l : Launch) (e : Env) (R : Room) (s : State) (m : MethodId) (args : Array Value) (below : List Frame) (meth : Method) (c : Code) (H : Heap) (locs : List Loc) (cells slots : Nat) (Q : State → Prop) (g : JFrame) (q : Addr) : Prop :=
  ∀ T : State, T.heap = H → Stand p l e R s m args below meth c T locs cells slots → ∃ t, Steps p.tables e below ((T.setTop g).pushFrame (.throwing q)) t ∧ Q t
theorem gx_blind {av : List Value} {D : va_G} {tys : List (ClassId × FieldType)} {ws : va_W} {sz : Nat} : FrameBlind (va_Pc av (gx_P D tys ws sz)) := fun a U g mk q => by
  obtain ⟨q0, ⟨q1, qK, qP, qD⟩, qZ⟩ := q
  exact ⟨q0, ⟨q1, va_K.moved (u := U) (U := U.calling g mk a) (Vm.Alike.refl U.vm) qK, qP, qD⟩, gx_S.moved (u := U) (U := U.calling g mk a) (Vm.Alike.refl U.vm) qZ.1, gx_S.moved (u := U) (U := U.calling g mk a) (Vm.Alike.refl U.vm) qZ.2⟩
theorem gx_frame {s U : State} {vm : Vm} {k n : Nat} (h : s.sameButNew ({ U with vm := vm } : State) [] k n) : s.heap.size ≤ U.heap.size ∧ ∀ q : Nat, q < s.heap.size → U.heap[q]? = s.heap[q]? := by
  obtain ⟨-, h2, -, -, -, h6⟩ := h
  refine ⟨h2, fun q hq => ?_⟩
  obtain ⟨c9, e1, e2, e3, e4⟩ := h6 q _ (Array.getElem?_eq_getElem hq)
  have hs : c9.slots = (s.heap[q]).slots := Array.ext_getElem? fun i => e4 i (fun hm => nomatch hm)
  have h9 : c9 = s.heap[q] := by
    rw [hs] at e2
    exact e2
  have e5 : U.heap[q]? = some c9 := e1
  rw [e5, h9, Array.getElem?_eq_getElem hq]
section Enter
variable {l : Launch} {y : MethodName} {wd wd' : List Cond} {rm : Room} {D : va_G} {tys : List (ClassId × FieldType)} {ws ws0 : va_W} {av : List Value} {cc : ByteArray} {maxL sz : Nat} {E : String} {ret : Option FieldType}
set_option maxHeartbeats 1000000 in
theorem gx_met (hy : plainName y.cls = true) (hw : wd = Cond.code y cc maxL ret :: wd') (hn : (lg_sl av).length ≤ maxL)
    (body : ∀ (p : Program) (e : Env) (s : State) (m : MethodId) (args : Array Value) (below : List Frame) (meth : Method) (c : Code) (A : Nat → Prop), CallFix p m c cc maxL s args wd y.cls → meth.locks = false → (∀ x ∈ c.exceptionTable.toList, False) → ∀ (H : Heap) (locs : List Loc), gw_W D tys A ws s H locs → gx_Z A s s.heap →
      ∀ ls : Array Slot, lv_has ls maxL (lv_args 0 av) → W p l e rm s m args below meth c H locs 0 0 (gx_MQ below E D tys A ws0 args s) (F0 m 0 ls [])) :
    MetFree l y (headSpec wd rm) (va_Pc av (gx_P D tys ws sz)) (fun _ _ _ _ _ => True) (gx_Q E D tys (va_A ws sz) ws0) := by
  refine MetFree.of_bodyS (code := cc) (maxLocals := maxL) (ret := ret) hy ?_ ?_
  · intro args s m h hn
    obtain ⟨meth, c, h1, h2, h3, h4, h5, h6, -, -⟩ := Cond.code_spec hn (atoms_spec (ws := wd) h _ (by rw [hw]; exact List.mem_cons_self))
    exact ⟨meth, c, h1, h2, h3, h4, h5, h6⟩
  · intro p e s m args below meth c s₁ B hml hv _
    have hh0 : s₁.heap = s.heap := by rw [B.state]; rfl
    have ht : ∀ x ∈ c.exceptionTable.toList, False := by
      obtain ⟨meth9, c9, h1, h2, -, -, -, -, h7, -⟩ := Cond.code_spec B.named (atoms_spec (ws := wd) B.pre _ (by rw [hw]; exact List.mem_cons_self))
      cases Option.some.inj (h1.symm.trans B.method)
      cases Option.some.inj (h2.symm.trans (Stand.of_body B).code)
      intro x hx
      rw [Array.isEmpty_iff.mp h7] at hx
      cases hx
    obtain ⟨hargs, ⟨hsz, hK, hP, hD0⟩, hZ⟩ := hv
    have hl := lv_entry av (n := maxL) hn
    subst hsz
    have hD := hD0.self (sz := s.heap.size)
    have K := body p e s m args below meth c (va_A ws s.heap.size) ⟨B.exec, B.bytes, hml, findClass_of_methodNamed B.named, atoms_spec (ws := wd) B.pre⟩ B.notSynchronized ht s.heap [] ⟨hK, hP, hD, va_S.rf, fun q h => Or.inr h⟩ hZ _ hl
    rw [← lg_entry_eq m av maxL, ← hargs] at K
    obtain ⟨t, a1, o, b1, b2, b3⟩ := K s₁ hh0 (Stand.of_body B)
    exact ⟨t, o, a1, b1, b2, b3⟩
end Enter
section Rows
variable {p : Program} {l : Launch} {e : Env} {R : Room} {s : State} {m : MethodId} {args : Array Value} {below : List Frame} {meth : Method} {c : Code} {H : Heap} {locs : List Loc} {Q : State → Prop}
variable {cc : ByteArray} {nL : Nat} {Ts : List Cond} {own : String} {D : va_G} {tys : List (ClassId × FieldType)} {A : Nat → Prop} {ws ws0 : va_W} {pc : Nat} {ls : Array Slot} {rest : List Value}
theorem gx_ZH {T : State} (hw : gw_W D tys A ws s H locs) (hZ : gx_Z A s s.heap) (hvm : s.vm.Alike T.vm) (hT : T.heap = H) : gx_Z A T T.heap := by
  rw [hT]
  exact ⟨(hZ.1.kept hw.2.2.2.1.2.1).moved hvm, (hZ.2.kept hw.2.2.2.1.2.1).moved hvm⟩
set_option maxHeartbeats 2000000 in
/-- 'throw new E()' -/
theorem gx_throw {cls : String} {names : List String} {ik ic : Nat} (S : CallFix p m c cc nL s args Ts own) (hlt : l.stackTraces = false) (hlocks : meth.locks = false) (hno : ∀ x ∈ c.exceptionTable.toList, False) (hw : gw_W D tys A ws0 s H locs) (hZ : gx_Z A s s.heap)
    (hcls : Bundle.fit cls = true) (hnames : ∀ n ∈ names, Bundle.fit n = true) (hk : Cond.classLink own ik cls ∈ Ts) (hini : Cond.initialized cls ∈ Ts) (hat : ∀ w ∈ Bundle.ownAtoms0 own ic cls names, gx_h w = false → w ∈ Ts ∧ w.onTables = true) (hsize : ls.size = nL)
    (d0 : decode cc pc = .ok (.new ik, 3)) (d3 : decode cc (pc + 3) = .ok (.dup, 1)) (d4 : decode cc (pc + 4) = .ok (.invokespecial ic, 3)) (d7 : decode cc (pc + 7) = .ok (.athrow, 1))
    (hRf : names.length + 3 < R.frames) (hRl : (rest.map fun v => v.category).sum + (13 * (names.length + 1) + 42) ≤ R.locals) (hRc : 1 ≤ R.cells) (hRs : 6 ≤ R.slots) :
    W p l e R s m args below meth c H locs 0 0 (gx_MQ below cls D tys A ws0 args s) (F0 m pc ls rest) := by
  intro T hT X
  obtain ⟨hexec, hb, hml, hown, hts⟩ := S
  have htr : e.platform.stackTraces = false := (show e.platform.stackTraces = l.stackTraces by rw [X.admits.platform]).trans hlt
  have Y := gx_stand X (R' := { frames := R.frames, locals := R.locals, cells := 1, slots := 6 }) (Nat.le_refl _) (Nat.le_refl _) (by omega) (by omega)
  have hvm : s.vm = (gx_anew s T m args below).vm := rfl
  have hhp : (gx_anew s T m args below).heap = H := hT
  have hZ' : gx_Z A (gx_anew s T m args below) (gx_anew s T m args below).heap := gx_ZH hw hZ (Vm.Alike.refl _) hhp
  have h : ∀ w ∈ Bundle.ownAtoms0 own ic cls names, w.before args (gx_anew s T m args below) = true := gx_words hZ' (fun w hw' hg => va_tabs (hat w hw' hg).2 hvm (hts _ (hat w hw' hg).1))
  have hk' : (Cond.classLink own ik cls).before args (gx_anew s T m args below) = true := va_tabs rfl hvm (hts _ hk)
  have hini' : (Cond.initialized cls).before args (gx_anew s T m args below) = true := va_tabs rfl hvm (hts _ hini)
  have hown' : (gx_anew s T m args below).vm.findClass own = some m.cls := hown
  have hins : (Cond.instantiable cls 6).before args (gx_anew s T m args below) = true := h _ (by simp [Bundle.ownAtoms0])
  obtain ⟨vm₁, cX, kX, hfX, hkX, -, -, X₁, st1⟩ := Y.newCold hexec (own := own) (C := cls) (index := ik) (n := 6) hown' hk' hins hini'
    (g := F0 m pc ls rest) rfl (by rw [hb]; exact d0) (Nat.le_refl _) (Nat.le_refl _)
  generalize hT1 : (T.setVm vm₁).pushCell { cls := cX, slots := kX.instanceTypes.map defaultValue, vm := .none } = T1 at X₁ st1
  have hcat : (Value.ref T.heap.size).category = 1 := rfl
  have hcellA : T1.heap[T.heap.size]? = some (freshCell cX kX) := by rw [← hT1]; exact State.heap_pushCell_size _ _
  have d3' : decode c.code (pc + 3) = .ok (.dup, 1) := by rw [hb]; exact d3
  obtain ⟨U, hsteps, hrun, hend, hW, hsame, ce, hce, hO⟩ := X₁.ctorThrow0 hexec htr (own := own) (cls := cls) (names := names) (ic := ic) hown' hcls hnames h (fun x hx => nomatch hx) hfX hkX hcellA (by rw [hhp, hT]; exact Nat.le_refl _)
    (g := { method := m, pc := pc + 4, locals := ls, stack := .ref T.heap.size :: .ref T.heap.size :: rest, locked := none }) rfl (hsize.trans hml.symm) rfl rfl (rest := rest) rfl
    (by rw [hb]; exact d4) (by rw [hb]; exact d7) (fun x hx => (hno x hx).elim) hRf (by simp only [List.map_cons, List.sum_cons, hcat]; show 2 * 0 + _ + _ ≤ _; omega) hlocks
  obtain ⟨f1, f2⟩ := gx_frame hsame
  rw [hhp] at f1 f2
  have hWs : s.WarmedH U.vm := State.WarmedH.trans (State.WarmedH.refl s) hW
  obtain ⟨hK, hP, hD, hS, hA⟩ := hw
  have hPU : va_P D vwCl ws0 U.heap := hP.kept (fun k q hq => f2 q.1 (hP k q hq).lt)
  refine ⟨U, ?_, .threw T.heap.size, hrun, hend, T.heap.size, ce, locs, rfl, hce, hO.vm, hO.cls, ⟨hPU, va_K.moved hWs.alike hK, hD⟩, ⟨Nat.le_trans hS.1 f1, fun q h1 h2 => by rw [f2 q (Nat.lt_of_lt_of_le h1 hS.1)]; exact hS.2.1 q h1 h2⟩, hWs, gx_same X hsame (by omega) (by omega), hS.2.2⟩
  refine st1 _ ?_
  show Steps p.tables e below (T1.setTop { method := m, pc := pc + 3, locals := ls, stack := .ref T.heap.size :: rest, locked := none }) _
  jvm_step X₁.here [X₁.here.top, hexec, d3', Value.category]
  exact hsteps
/-- what is thrown here and not caught goes on to the caller -/
theorem gx_out {E : String} {q : Addr} {ce : Cell} (hno : ∀ x ∈ c.exceptionTable.toList, False) (hlocks : meth.locks = false) (hw : gw_W D tys A ws0 s H locs) (hcell : H[q]? = some ce) (hv : ce.vm = .none) (hcl : s.vm.findClass E = some ce.cls) :
    gx_W p l e R s m args below meth c H locs 1 6 (gx_MQ below E D tys A ws0 args s) (F0 m pc ls rest) q := by
  intro T hT X
  obtain ⟨st1, hrun, hend, hW, hsm⟩ := X.leaveThrown q (g := F0 m pc ls rest) rfl rfl rfl (fun x hx => (hno x hx).elim) hlocks
  obtain ⟨hK, hP, hD, hS, hA⟩ := hw
  have hh : (T.setFrames (.throwing q :: below)).heap = H := hT
  exact ⟨_, st1, .threw q, hrun, hend, q, ce, locs, rfl, by rw [hh]; exact hcell, hv, hcl, ⟨by rw [hh]; exact hP, va_K.moved hW.alike hK, hD⟩, hS.F hh, hW, hsm, hS.2.2⟩
end Rows
