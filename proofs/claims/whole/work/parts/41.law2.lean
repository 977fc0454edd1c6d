/-! THE LAW's helpers: rows for static methods with a table of exceptions -/
/-- what is thrown is not taken by the rows ahead -/
def gl_N (U : State) : Prop := va_Nc "java/lang/IllegalStateException" "java/lang/IndexOutOfBoundsException" U ∧ va_Nc "java/lang/ArithmeticException" "java/lang/IndexOutOfBoundsException" U ∧ va_Nc "java/lang/ArithmeticException" "java/lang/IllegalStateException" U
theorem gl_N.moved {u U : State} (hvm : u.vm.Alike U.vm) (h : gl_N u) : gl_N U := ⟨h.1.moved hvm, h.2.1.moved hvm, h.2.2.moved hvm⟩
def gl_P (D : va_G) (tys : List (ClassId × FieldType)) (ws : va_W) (sz : Nat) (U : State) : Prop := gx_P D tys ws sz U ∧ gl_N U
theorem gl_blind {av : List Value} {D : va_G} {tys : List (ClassId × FieldType)} {ws : va_W} {sz : Nat} : FrameBlind (va_Pc av (gl_P D tys ws sz)) := fun a U g mk q => by
  obtain ⟨q0, q1, q2⟩ := q
  obtain ⟨r0, r1⟩ := gx_blind (av := av) a U g mk ⟨q0, q1⟩
  exact ⟨r0, r1, gl_N.moved (u := U) (U := U.calling g mk a) (Vm.Alike.refl U.vm) q2⟩
abbrev gl_C (l : Launch) (y : MethodName) (wd : List Cond) (rm : Room) (D : va_G) (tys : List (ClassId × FieldType)) (ws : va_W) (av : List Value) (r0 : Int32) (ws0 : va_W) : Prop :=
  ∀ sz : Nat, Met l y wd rm (va_Pc av (gl_P D tys ws sz)) (va_Qi (fun (r : Int32) (u : va_W) => r = r0 ∧ u = ws0) (gw_B D tys (va_A ws sz)) (va_A ws sz)) 1 6 (va_A ws sz)
abbrev gl_row (h : ExceptionTableEntry) : Nat × Nat × Nat × Nat := (h.startPc, h.endPc, h.handlerPc, h.catchType)
section Enter
variable {l : Launch} {y : MethodName} {wd wd' : List Cond} {rm : Room} {D : va_G} {tys : List (ClassId × FieldType)} {ws ws0 : va_W} {av : List Value} {cc : ByteArray} {maxL sz : Nat} {hh : List (Nat × Nat × Nat × Nat)}
set_option maxHeartbeats 1000000 in
theorem gl_met {r0 : Int32} (hy : plainName y.cls = true) (hw : wd = Cond.codeWith y cc maxL (some .int) hh :: wd') (hn : (lg_sl av).length ≤ maxL)
    (body : ∀ (p : Program) (e : Env) (s : State) (m : MethodId) (args : Array Value) (below : List Frame) (meth : Method) (c : Code) (A : Nat → Prop) (Q : State → Prop), CallFix p m c cc maxL s args wd y.cls → c.exceptionTable.toList.map gl_row = hh → ∀ (H : Heap) (locs : List Loc), gw_W D tys A ws s H locs → gx_Z A s s.heap → gl_N s →
      (∀ (H : Heap) (locs : List Loc) (ls : Array Slot) (pc : Nat) (r : Int32) (u : va_W) (cells slots : Nat), r = r0 → u = ws0 → cells ≤ 1 → slots ≤ 6 → gw_W D tys A u s H locs → decode cc pc = .ok (.ireturn, 1) → W p l e rm s m args below meth c H locs cells slots Q (F0 m pc ls [.int r])) →
      ∀ ls : Array Slot, lv_has ls maxL (lv_args 0 av) → W p l e rm s m args below meth c H locs 0 0 Q (F0 m 0 ls [])) :
    Met l y wd rm (va_Pc av (gl_P D tys ws sz)) (va_Qi (fun (r : Int32) (u : va_W) => r = r0 ∧ u = ws0) (gw_B D tys (va_A ws sz)) (va_A ws sz)) 1 6 (va_A ws sz) := by
  refine va_MetW (cc := cc) (maxL := maxL) (ret := some .int) (hh := hh) hy hw ?_
  intro p e s m args below meth c s₁ B hml hv
  obtain ⟨hargs, ⟨⟨hsz, hK, hP, hD0⟩, hZ⟩, hN⟩ := hv
  have hl := lv_entry av (n := maxL) hn
  subst hsz
  have hD := hD0.self (sz := s.heap.size)
  have hlk := B.notSynchronized
  have htab : c.exceptionTable.toList.map gl_row = hh := by
    obtain ⟨m9, meth9, c9, hn9, h1, h2, -, -, h3, -⟩ := Cond.codeWith_spec (atoms_spec (ws := wd) B.pre _ (by rw [hw]; exact List.mem_cons_self))
    cases Option.some.inj (B.named.symm.trans hn9)
    cases Option.some.inj (h1.symm.trans B.method)
    cases Option.some.inj (h2.symm.trans (Stand.of_body B).code)
    exact h3
  rw [show entryFrame m args maxL = F0 m 0 ((lg_sl av ++ List.replicate (maxL - (lg_sl av).length) Slot.unset).toArray) [] by rw [hargs]; exact lg_entry_eq m av maxL]
  exact body p e s m args below meth c (va_A ws s.heap.size) _ ⟨B.exec, B.bytes, hml, findClass_of_methodNamed B.named, atoms_spec (ws := wd) B.pre⟩ htab s.heap [] ⟨hK, hP, hD, va_S.rf, fun q h => Or.inr h⟩ hZ hN
    (fun H locs ls pc r u cells slots hr hu hc1 hc2 hw hd => by
      subst hr; subst hu
      exact W.widen hc1 hc2 (W.iret B.exec B.bytes B.returns (fun t ht hW => ⟨⟨r, u, rfl, ⟨rfl, rfl⟩, by rw [ht]; exact hw.2.1, va_K.moved hW.alike hw.1, hw.2.2.1⟩, hw.2.2.2.1.F ht⟩) hw.2.2.2.1.2.2 hd hlk)) _ hl
end Enter
theorem gl_take {L : List ExceptionTableEntry} {pre suf : List (Nat × Nat × Nat × Nat)} {a : Nat × Nat × Nat × Nat} (h : L.map gl_row = pre ++ a :: suf) : ∃ p x q, L = p ++ x :: q ∧ p.map gl_row = pre ∧ gl_row x = a := by
  obtain ⟨p, r, rfl, h1, h2⟩ := List.map_eq_append_iff.mp h
  obtain ⟨x, q, rfl, h3, h4⟩ := List.map_eq_cons_iff.mp h2
  exact ⟨p, x, q, rfl, h1, h3⟩
section Rows
variable {p : Program} {l : Launch} {e : Env} {R : Room} {s : State} {m : MethodId} {args : Array Value} {below : List Frame} {meth : Method} {c : Code} {H : Heap} {locs : List Loc} {cells slots : Nat} {Q : State → Prop}
variable {cc : ByteArray} {nL : Nat} {Ts : List Cond} {own : String} {D : va_G} {tys tys1 : List (ClassId × FieldType)} {A : Nat → Prop} {ws ws0 wa w1 w2 : va_W} {pc : Nat} {ls : Array Slot} {rest : List Value}
theorem gl_catch {E : String} {ce : Cell} {q : Addr} {s0 e0 hp ct : Nat} {hh pre suf : List (Nat × Nat × Nat × Nat)} (S : CallFix p m c cc nL s args Ts own) (htab : c.exceptionTable.toList.map gl_row = hh) (hsp : hh = pre ++ (s0, e0, hp, ct) :: suf)
    (hpass : ∀ z ∈ pre, z.2.2.2 ≠ 0 ∧ ∃ nm : String, Cond.classLink own z.2.2.2 nm ∈ Ts ∧ va_Nc E nm s) (hpc : s0 ≤ pc ∧ pc < e0) (h0 : ct ≠ 0) (hlink : Cond.classLink own ct E ∈ Ts) (hcast : Cond.castable E E ∈ Ts) (hcell : H[q]? = some ce) (hv : ce.vm = .none) (hcl : s.vm.findClass E = some ce.cls)
    (kk : W p l e R s m args below meth c H locs cells slots Q (F0 m hp ls [.ref q])) : gx_W p l e R s m args below meth c H locs cells slots Q (F0 m pc ls rest) q := by
  rw [hsp] at htab
  obtain ⟨pr, x, sf, h1, h2, h3⟩ := gl_take htab
  obtain ⟨g1, g2⟩ := Prod.mk.inj h3
  obtain ⟨g2, g3⟩ := Prod.mk.inj g2
  obtain ⟨g3, g4⟩ := Prod.mk.inj g3
  refine gx_catch (own := own) (name := E) (E := E) S.2.2.2.1 pr x sf h1 (fun z hz => ?_) (by simp only [covers, g1, g2, Bool.and_eq_true, decide_eq_true_eq]; exact hpc) (by rw [g4]; exact h0) (by rw [g4]; exact S.2.2.2.2 _ hlink) (S.2.2.2.2 _ hcast) hcell hv hcl (by rw [g3]; exact kk)
  obtain ⟨a1, nm, a2, a3⟩ := hpass (gl_row z) (by rw [← h2]; exact List.mem_map_of_mem hz)
  exact ⟨a1, nm, S.2.2.2.2 _ a2, a3⟩
theorem gl_last (S : CallFix p m c cc nL s args Ts own) (hw : gw_W D tys A ws s H locs) {q0 t0 a n : Nat} {cA : ClassId} {f : Nat → Int64} (he : ws[q0]? = some (a, .inl (cA, n, .inr (.inl f)))) (ht : tys[t0]? = some (cA, .long)) {i : Int32} {x : Int64} (hin : ¬ (i < 0 ∨ n ≤ i.toNatClampNeg)) (hset : ws.set q0 (a, .inl (cA, n, .inr (.inl (vp_updL f i.toNatClampNeg x)))) = ws0) (hdg : decode cc pc = .ok (.lastore, 1))
    (kk : ∀ (H1 : Heap) (locs1 : List Loc), gw_W D tys A ws0 s H1 locs1 → W p l e R s m args below meth c H1 locs1 cells slots Q (F0 m (pc + 1) ls rest)) : W p l e R s m args below meth c H locs cells slots Q (F0 m pc ls (.long x :: .int i :: .ref a :: rest)) := by
  obtain ⟨hK, hP, hD, hS, hA⟩ := hw
  refine va_last S.1 S.2.1 hK hP hD hS q0 t0 he ht hin hdg (fun H1 locs1 hP1 hD1 hS1 => ?_)
  rw [hset] at hP1 hD1
  exact kk H1 locs1 ⟨hK, hP1, hD1, hS1, hA⟩
theorem gl_lald (S : CallFix p m c cc nL s args Ts own) (hw : gw_W D tys A ws s H locs) {q0 t0 a n : Nat} {cA : ClassId} {f : Nat → Int64} (he : ws[q0]? = some (a, .inl (cA, n, .inr (.inl f)))) (ht : tys[t0]? = some (cA, .long)) {i : Int32} (hin : ¬ (i < 0 ∨ n ≤ i.toNatClampNeg)) (hdg : decode cc pc = .ok (.laload, 1))
    (kk : W p l e R s m args below meth c H locs cells slots Q (F0 m (pc + 1) ls (.long (f i.toNatClampNeg) :: rest))) : W p l e R s m args below meth c H locs cells slots Q (F0 m pc ls (.int i :: .ref a :: rest)) :=
  va_lald S.1 S.2.1 hw.1 hw.2.1 q0 t0 he ht hin hdg kk
/-- the call of such a helper -/
theorem gl_call {y : MethodName} {wd : List Cond} {rm : Room} {index maxL n : Nat} {bytes : ByteArray} {ret : Option FieldType} {hh : List (Nat × Nat × Nat × Nat)} {As : List Value} {r0 : Int32} {st0 : List Value} (S : CallFix p m c cc nL s args Ts own) (hw : gw_W D tys A (wa ++ w1) s H locs) (hZ : gx_Z A s s.heap) (hN : gl_N s) (is : List Nat) (hs : is.filterMap (fun i => tys[i]?) = tys1) (hM : gl_C l y wd rm D tys1 w1 As r0 w2)
    (hrc : rm.cells = 1) (hrs : rm.slots = 6) (hfr : rm.frames + 1 ≤ R.frames) (hlo : 8 + (maxL + 11) + rm.locals ≤ R.locals) (hws : ∀ w ∈ wd, ∀ (a' : Array Value) (U : State), s.WarmedH U.vm → w.before a' U = true) (hcw : Cond.codeWith y bytes maxL ret hh ∈ wd) (hini : Cond.initialized y.cls ∈ Ts) (hlink : Cond.methodLink own index y ∈ Ts) (hstt : Cond.static y ∈ Ts)
    (hy : y.cls ≠ "java/lang/invoke/MethodHandle" ∧ y.cls ≠ "java/lang/invoke/VarHandle") (hlen : (parseMethodDescriptor y.desc).map (fun d => d.parameters.length) = some n) (hn : As.length = n) (hsize : ls.size = nL) (hst : st0 = As.reverse ++ rest) (hrest : (rest.map fun v => v.category).sum ≤ 8) (hdg : decode cc pc = .ok (.invokestatic index, 3)) (hRc : cells + 1 ≤ R.cells) (hRs : slots + 6 ≤ R.slots)
    (kk : ∀ (H1 : Heap) (locs1 : List Loc), gw_W D tys A (wa ++ w2) s H1 locs1 → W p l e R s m args below meth c H1 locs1 (cells + 1) (slots + 6) Q (F0 m (pc + 3) ls (.int r0 :: rest))) : W p l e R s m args below meth c H locs cells slots Q (F0 m pc ls st0) := by
  have hw' : gw_W D tys A (wa ++ (w1 ++ [])) s H locs := by rw [List.append_nil]; exact hw
  have hw1 := fr_split hw' is hs
  have hF := gw_free hw1
  have hZT := fun (V : State) (hv : s.vm.Alike V.vm) (hV : V.heap = H) => gx_ZH hw hZ hv hV
  obtain ⟨hx, hb, hml, ho, hts⟩ := S
  obtain ⟨hK, hP, hD, hS, hA⟩ := hw1
  have hrun : va_Run p l e R s m args below meth c H locs cells slots 1 6 (F0 m pc ls st0) rest (va_Qi (fun (r : Int32) (u : va_W) => r = r0 ∧ u = w2) (gw_B D tys1 (va_A w1 H.size)) (va_A w1 H.size) As.toArray) (va_A w1 H.size) := by
    intro T hT X
    have hcode : (Cond.codeWith y bytes maxL ret hh).before args s = true := by
      have := hws _ hcw args s (State.WarmedH.refl s)
      exact this
    obtain ⟨mk, methM, cM, hnamed, hmethM, -, -, -, -, -, -, hsigM⟩ := Cond.codeWith_spec hcode
    have hstatic : methM.isStatic = true := Cond.static_spec hnamed hmethM (hts _ hstt)
    obtain ⟨kP, hkP, -⟩ := className_of_methodNamed hnamed
    have hinitP : kP.init = .initialized := Cond.initialized_spec (findClass_of_methodNamed hnamed) hkP (hts _ hini)
    have hlen' : As.length = methM.sig.parameters.length := by rw [hsigM] at hlen; rw [hn]; exact (Option.some.inj hlen).symm
    obtain ⟨vm₁, X₁, hstep₁⟩ := X.invokestatic hx ho (hts _ hlink) hnamed hmethM hstatic hkP hinitP hy (g := F0 m pc ls st0) rfl (argsL := As) (rest := rest) hlen' hst (by rw [hb]; exact hdg)
    have hBk : Back l R p e below s args y 3 8 (PreOf R 1 6 (va_Pc As (gl_P D tys1 w1 H.size))) (PostOf (va_Qi (fun (r : Int32) (u : va_W) => r = r0 ∧ u = w2) (gw_B D tys1 (va_A w1 H.size)) (va_A w1 H.size)) 1 6 (va_A w1 H.size)) :=
      va_backW (hM H.size) gl_blind hrc hrs hfr hlo hws hcw (fun a' U hW => word_at hW (Or.inl (by first | rfl | simp [Cond.onTables, Cond.keeps, Cond.steady])) (hts _ hini))
    have hal : s.vm.Alike (T.setVm vm₁).vm := X₁.warmed.alike
    obtain ⟨v, ⟨U', l2, c2, s2⟩, X', ⟨g', mk', t, L, e1, e2, hq, h1, hL, h2, h3⟩, hsteps⟩ := hBk m meth c ⟨T.setVm vm₁, locs, cells, slots⟩ { F0 m pc ls st0 with stack := rest } (.invokestatic index) mk As.toArray X₁ rfl (hsize.trans hml.symm) (by rw [hb]; exact hdg) (lv_room (m := m) (pc := pc) (ls := ls) (rest := rest) hrest) (X₁.named hnamed)
      ⟨hRc, hRs, rfl, ⟨⟨by show T.heap.size = H.size; rw [hT], va_K.moved hal hK, by show va_P D vwCl w1 T.heap; rw [hT]; exact hP, hD.weaken (fun _ _ _ _ => trivial)⟩, (hZT (T.setVm vm₁) hal hT).1.narrow (fun q _ h => hF q h), (hZT (T.setVm vm₁) hal hT).2.narrow (fun q _ h => hF q h)⟩, hN.moved hal⟩
    dsimp only [Pt.U, Pt.locs, Pt.cells, Pt.slots] at X' e1 e2 h1 h2 h3 hsteps
    subst h1; subst h2; subst h3
    exact ⟨v, (T.setVm vm₁).calling g' mk' As.toArray, t, U', L, hT, X', hL, e1, e2, hq, fun target h => hstep₁ _ fun acts => by rw [doInvoke_state]; exact hsteps.trans h⟩
  refine va_calli hrun hS (fun q _ h => hF q h) hF (fun r u t H1 locs1 ht hvm hp hB hz hk hS1 => ?_)
  obtain ⟨rfl, rfl⟩ := hp
  have hwb := fr_back (tys1 := tys1) hw' (by rw [← ht]; exact hB.1) hB.2.2 hk hS1
  rw [List.append_nil] at hwb
  exact kk H1 locs1 hwb
end Rows
