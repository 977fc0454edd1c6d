/-! THE LAW, rows: calls in a larger world (wa ++ (w1 ++ wb)): the callee sees w1, the rest stays -/
theorem fr_Dl {A : Nat → Prop} {x y : va_W} (h : va_D A (x ++ y)) : va_D A x := by
  refine ⟨fun i j p q hi hj e => ?_, fun k q hk => ?_⟩
  · exact h.1 i j p q (by rw [List.getElem?_append_left (List.getElem?_eq_some_iff.mp hi).1]; exact hi) (by rw [List.getElem?_append_left (List.getElem?_eq_some_iff.mp hj).1]; exact hj) e
  · exact h.2 k q (by rw [List.getElem?_append_left (List.getElem?_eq_some_iff.mp hk).1]; exact hk)
theorem fr_Dr {A : Nat → Prop} {x y : va_W} (h : va_D A (x ++ y)) : va_D A y := by
  refine ⟨fun i j p q hi hj e => ?_, fun k q hk => ?_⟩
  · have := h.1 (x.length + i) (x.length + j) p q ((ap_at i).trans hi) ((ap_at j).trans hj) e
    omega
  · exact h.2 (x.length + k) q ((ap_at k).trans hk)
theorem fr_Dx {A : Nat → Prop} {x y : va_W} (h : va_D A (x ++ y)) : ∀ (i j : Nat) (p q : Nat × va_E), x[i]? = some p → y[j]? = some q → p.1 ≠ q.1 := by
  intro i j p q hi hj e
  have hl := (List.getElem?_eq_some_iff.mp hi).1
  have := h.1 i (x.length + j) p q (by rw [List.getElem?_append_left hl]; exact hi) ((ap_at j).trans hj) e
  omega
theorem fr_Pl {D : va_G} {cl : List vw_C} {x y : va_W} {H : Heap} (h : va_P D cl (x ++ y) H) : va_P D cl x H := fun k q hk => h k q (by rw [List.getElem?_append_left (List.getElem?_eq_some_iff.mp hk).1]; exact hk)
theorem fr_Pr {D : va_G} {cl : List vw_C} {x y : va_W} {H : Heap} (h : va_P D cl (x ++ y) H) : va_P D cl y H := fun k q hk => h (x.length + k) q ((ap_at k).trans hk)
theorem fr_join {D : va_G} {cl : List vw_C} {A : Nat → Prop} {wa w1 wb w2 : va_W} {H H1 : Heap} (hP : va_P D cl (wa ++ (w1 ++ wb)) H) (hD : va_D A (wa ++ (w1 ++ wb))) (hk : ∀ q : Nat, q < H.size → ¬ va_A w1 H.size q → H1[q]? = H[q]?) (hF : ∀ q, va_A w1 H.size q → A q) (hP1 : va_P D cl w2 H1) (hD1 : va_D (va_A w1 H.size) w2) :
    va_P D cl (wa ++ (w2 ++ wb)) H1 ∧ va_D A (wa ++ (w2 ++ wb)) := by
  have hPa := fr_Pl hP
  have hPb := fr_Pr (fr_Pr hP)
  have hDb := fr_Dr hD
  have na : ∀ (k : Nat) (q : Nat × va_E), wa[k]? = some q → ¬ va_A w1 H.size q.1 := by
    intro k q hq h
    rcases h with ⟨j, e, h⟩ | h
    · have hl := (List.getElem?_eq_some_iff.mp h).1
      exact fr_Dx hD k j q (q.1, e) hq (by rw [List.getElem?_append_left hl]; exact h) rfl
    · have := (hPa k q hq).lt; omega
  have nb : ∀ (k : Nat) (q : Nat × va_E), wb[k]? = some q → ¬ va_A w1 H.size q.1 := by
    intro k q hq h
    rcases h with ⟨j, e, h⟩ | h
    · exact fr_Dx hDb j k (q.1, e) q h hq rfl
    · have := (hPb k q hq).lt; omega
  have hPa1 : va_P D cl wa H1 := hPa.kept (fun k q hq => hk q.1 (hPa k q hq).lt (na k q hq))
  have hPb1 : va_P D cl wb H1 := hPb.kept (fun k q hq => hk q.1 (hPb k q hq).lt (nb k q hq))
  refine ⟨va_P.app hPa1 (va_P.app hP1 hPb1), va_D.app (fr_Dl hD) (va_D.app (hD1.weaken (fun _ q _ h => hF q.1 h)) (fr_Dr hDb) (fun i j x y hx hy e => ?_)) (fun i j x y hx hy e => ?_)⟩
  · exact nb j y hy (by rw [← e]; exact hD1.2 i x hx)
  · by_cases hj : j < w2.length
    · rw [List.getElem?_append_left hj] at hy
      exact na i x hx (by rw [e]; exact hD1.2 j y hy)
    · rw [List.getElem?_append_right (by omega)] at hy
      exact fr_Dx hD i (w1.length + (j - w2.length)) x y hx ((ap_at _).trans hy) e
theorem fr_split {D : va_G} {tys tys1 : List (ClassId × FieldType)} {A : Nat → Prop} {wa w1 wb : va_W} {s : State} {H : Heap} {locs : List Loc} (hw : gw_W D tys A (wa ++ (w1 ++ wb)) s H locs) (is : List Nat) (hs : is.filterMap (fun i => tys[i]?) = tys1) : gw_W D tys1 A w1 s H locs :=
  ⟨hw.1.sub is hs, fr_Pl (fr_Pr hw.2.1), fr_Dl (fr_Dr hw.2.2.1), hw.2.2.2⟩
theorem fr_back {D : va_G} {tys tys1 : List (ClassId × FieldType)} {A : Nat → Prop} {wa w1 wb w2 : va_W} {s : State} {H H1 : Heap} {locs locs1 : List Loc} (hw : gw_W D tys A (wa ++ (w1 ++ wb)) s H locs) (hB : va_P D vwCl w2 H1) (hD1 : va_D (va_A w1 H.size) w2) (hk : ∀ q : Nat, q < H.size → ¬ va_A w1 H.size q → H1[q]? = H[q]?) (hS : va_S A s.heap H1 locs1) : gw_W D tys A (wa ++ (w2 ++ wb)) s H1 locs1 := by
  have hF := gw_free (fr_split (tys1 := []) hw [] rfl)
  obtain ⟨h1, h2⟩ := fr_join hw.2.1 hw.2.2.1 hk hF hB hD1
  exact ⟨hw.1, h1, h2, hS, hw.2.2.2.2⟩
section Calls
variable {p : Program} {l : Launch} {e : Env} {R : Room} {s : State} {m : MethodId} {args : Array Value} {below : List Frame} {meth : Method} {c : Code} {H : Heap} {locs : List Loc} {Q : State → Prop}
variable {cc : ByteArray} {nL : Nat} {Ts : List Cond} {own : String} {D : va_G} {tys tys1 : List (ClassId × FieldType)} {A : Nat → Prop} {wa w1 wb w2 : va_W} {pc : Nat} {ls : Array Slot} {rest : List Value} {cells slots : Nat}
theorem fr_calli {y : MethodName} {wd : List Cond} {rm : Room} {C : String} {index maxL n b q0 ci N : Nat} {bytes : ByteArray} {ret : Option FieldType} {As : List Value} {r0 : Int32} {fs : List Value} {T : u_T} {st0 : List Value} (S : CallFix p m c cc nL s args Ts own) (hw : gw_W D tys A (wa ++ (w1 ++ wb)) s H locs) (is : List Nat) (hs : is.filterMap (fun i => tys[i]?) = tys1) (hM : gw_Ci l y wd rm D tys1 w1 (.ref b :: As) r0 w2) (cw : CallW R s args own C index y bytes maxL ret wd rm 0 0 n) (he : w1[q0]? = some (b, .inr (ci, fs))) (hc : vwCl[ci]? = some (C, T, N)) (hn : As.length = n) (hsize : ls.size = nL) (hst : st0 = As.reverse ++ .ref b :: rest) (hrest : (rest.map fun v => v.category).sum ≤ 8) (hdg : decode cc pc = .ok (.invokevirtual index, 3)) (hR : cells ≤ R.cells ∧ slots ≤ R.slots)
    (kk : ∀ (H1 : Heap) (locs1 : List Loc), gw_W D tys A (wa ++ (w2 ++ wb)) s H1 locs1 → W p l e R s m args below meth c H1 locs1 cells slots Q (F0 m (pc + 3) ls (.int r0 :: rest))) : W p l e R s m args below meth c H locs cells slots Q (F0 m pc ls st0) := by
  have hw1 := fr_split hw is hs
  have hF := gw_free hw1
  obtain ⟨hK, hP, hD, hS, hA⟩ := id hw1
  refine va_calli (va_runV S (hM H.size) cw ⟨gw_blind, va_recv hK hP hc he, fun U hU hW => ⟨rfl, by rw [hU], va_K.moved hW.alike hK, by rw [hU]; exact hP, hD.weaken (fun _ _ _ _ => trivial)⟩⟩ rfl hn hsize hst (lv_room hrest) hdg ⟨hR.1, hR.2⟩) hS (fun q _ h => hF q h) hF (fun r u t H1 locs1 ht hvm hp hB hz hk hS1 => ?_)
  obtain ⟨rfl, rfl⟩ := hp
  exact kk H1 locs1 (fr_back (tys1 := tys1) hw (by rw [← ht]; exact hB.1) hB.2.2 hk hS1)
theorem fr_callv {y : MethodName} {wd : List Cond} {rm : Room} {C : String} {index maxL n b q0 ci N : Nat} {bytes : ByteArray} {ret : Option FieldType} {As : List Value} {fs : List Value} {T : u_T} {st0 : List Value} (S : CallFix p m c cc nL s args Ts own) (hw : gw_W D tys A (wa ++ (w1 ++ wb)) s H locs) (is : List Nat) (hs : is.filterMap (fun i => tys[i]?) = tys1) (hM : gw_Cv l y wd rm D tys1 w1 (.ref b :: As) w2) (cw : CallW R s args own C index y bytes maxL ret wd rm 0 0 n) (he : w1[q0]? = some (b, .inr (ci, fs))) (hc : vwCl[ci]? = some (C, T, N)) (hn : As.length = n) (hsize : ls.size = nL) (hst : st0 = As.reverse ++ .ref b :: rest) (hrest : (rest.map fun v => v.category).sum ≤ 8) (hdg : decode cc pc = .ok (.invokevirtual index, 3)) (hR : cells ≤ R.cells ∧ slots ≤ R.slots)
    (kk : ∀ (H1 : Heap) (locs1 : List Loc), gw_W D tys A (wa ++ (w2 ++ wb)) s H1 locs1 → W p l e R s m args below meth c H1 locs1 cells slots Q (F0 m (pc + 3) ls rest)) : W p l e R s m args below meth c H locs cells slots Q (F0 m pc ls st0) := by
  have hw1 := fr_split hw is hs
  have hF := gw_free hw1
  obtain ⟨hK, hP, hD, hS, hA⟩ := id hw1
  refine va_callv (va_runV S (hM H.size) cw ⟨gw_blind, va_recv hK hP hc he, fun U hU hW => ⟨rfl, by rw [hU], va_K.moved hW.alike hK, by rw [hU]; exact hP, hD.weaken (fun _ _ _ _ => trivial)⟩⟩ rfl hn hsize hst (lv_room hrest) hdg ⟨hR.1, hR.2⟩) hS (fun q _ h => hF q h) hF (fun u t H1 locs1 ht hvm hp hB hz hk hS1 => ?_)
  obtain rfl := hp
  exact kk H1 locs1 (fr_back (tys1 := tys1) hw (by rw [← ht]; exact hB.1) hB.2.2 hk hS1)
/-- the callee throws -/
theorem fr_throw {y : MethodName} {wd : List Cond} {rm : Room} {C : String} {index maxL n b q0 ci N : Nat} {bytes : ByteArray} {ret : Option FieldType} {As : List Value} {E : String} {fs : List Value} {T : u_T} {st0 : List Value} (S : CallFix p m c cc nL s args Ts own) (hw : gw_W D tys A (wa ++ (w1 ++ wb)) s H locs) (hZ : gx_Z A s s.heap) (is : List Nat) (hs : is.filterMap (fun i => tys[i]?) = tys1) (hM : gx_C l y wd rm D tys1 w1 (.ref b :: As) E w2) (cw : CallW R s args own C index y bytes maxL ret wd rm 1 6 n) (he : w1[q0]? = some (b, .inr (ci, fs))) (hc : vwCl[ci]? = some (C, T, N)) (hn : As.length = n) (hsize : ls.size = nL) (hst : st0 = As.reverse ++ .ref b :: rest) (hrest : (rest.map fun v => v.category).sum ≤ 8) (hdg : decode cc pc = .ok (.invokevirtual index, 3)) (hRc : cells + 1 ≤ R.cells) (hRs : slots + 6 ≤ R.slots)
    (kx : ∀ (H1 : Heap) (locs1 : List Loc) (q : Addr) (ce : Cell), gw_W D tys A (wa ++ (w2 ++ wb)) s H1 locs1 → H1[q]? = some ce → ce.vm = .none → s.vm.findClass E = some ce.cls → gx_W p l e R s m args below meth c H1 locs1 (cells + 1) (slots + 6) Q (F0 m pc ls rest) q) : W p l e R s m args below meth c H locs cells slots Q (F0 m pc ls st0) := by
  have hw1 := fr_split hw is hs
  have hF := gw_free hw1
  intro T0 hT X
  obtain ⟨⟨hrc, hrs, hfr, hlo, hws, hcw, hcode, hini, hy, hlen, hl⟩, hin, hse⟩ := cw
  obtain ⟨hx, hb, hml, ho, hts⟩ := S
  have hZT := fun (V : State) (hv : s.vm.Alike V.vm) (hV : V.heap = H) => gx_ZH hw hZ hv hV
  obtain ⟨hK, hP, hD, hS, hA⟩ := hw1
  obtain ⟨cellB, hcB, hoB, hclB⟩ := va_recv hK hP hc he
  obtain ⟨mk, methM, hnamed, hmethM, hstM, habM⟩ := Cond.instanceMethod_spec hin
  obtain ⟨methM', cM, hmethM', -, -, -, -, -, -, hsigM⟩ := Cond.code_spec hnamed hcode
  cases hmethM.symm.trans hmethM'
  obtain ⟨c2, r2, m2, q1, q2, q3, q4, kP, hkP, hkPi⟩ := Cond.selects_spec hse
  cases hclB.symm.trans q1
  cases (State.methodFound?_of_named hnamed hy).symm.trans q2
  cases hnamed.symm.trans q3
  have hselP : selectMethod e.platform s.vm cellB.cls mk = .method mk := by rw [Launch.admits_selectMethod X.admits]; exact q4
  obtain ⟨vm₁, X₁, hstep₁⟩ := X.invokevirtual hx ho hl hnamed hmethM hstM hkP hkPi hy (a := b) (cell := cellB) (by rw [hT]; exact hcB)
    (fun z h => by rw [h] at hoB; cases hoB) hselP hmethM habM hkP hkPi (g := F0 m pc ls st0) rfl (argsL := As) (rest := rest) (hn.trans (hlen _ hsigM)) hst (by rw [hb]; exact hdg)
  have hal : s.vm.Alike (T0.setVm vm₁).vm := X₁.warmed.alike
  obtain ⟨q, ce, T', L, X', hL, hce, hcv, hcl, hB, hFr, hsteps⟩ := gx_back (W9 := 8) (hM H.size) hrc hrs hfr hlo hws hcw
    (fun a' U hW => word_at hW (Or.inl (by first | rfl | simp [Cond.onTables, Cond.keeps, Cond.steady])) hini) X₁ (g := { F0 m pc ls st0 with stack := rest }) rfl (hsize.trans hml.symm) (by rw [hb]; exact hdg) (lv_room (m := m) (pc := pc) (ls := ls) (rest := rest) hrest) (X₁.named hnamed) hRc hRs
    ⟨rfl, ⟨by rw [← hT]; rfl, va_K.moved hal hK, by show va_P D vwCl w1 T0.heap; rw [hT]; exact hP, hD.weaken (fun _ _ _ _ => trivial)⟩, (hZT (T0.setVm vm₁) hal hT).1.narrow (fun q _ h => hF q h), (hZT (T0.setVm vm₁) hal hT).2.narrow (fun q _ h => hF q h)⟩
  have hTh : (T0.setVm vm₁).heap = H := hT
  obtain ⟨hz1, hz2⟩ := hFr
  rw [hTh] at hz1 hz2
  have hw2 : gw_W D tys A (wa ++ (w2 ++ wb)) s T'.heap (locs ++ L) := fr_back (tys1 := tys1) hw hB.1 hB.2.2 hz2 ⟨Nat.le_trans hS.1 hz1, fun q h1 h2 => by rw [hz2 q (Nat.lt_of_lt_of_le h1 hS.1) (fun z => h2 (hF q z))]; exact hS.2.1 q h1 h2, fun z hz => by
    rcases List.mem_append.mp hz with h | h
    · exact hS.2.2 z h
    · exact hF _ (hL z h)⟩
  have hclS : s.vm.findClass E = some ce.cls := by rw [← hal.findClass]; exact hcl
  obtain ⟨t, a1, b1⟩ := kx T'.heap (locs ++ L) q ce hw2 hce hcv hclS T' rfl X'
  exact ⟨t, hstep₁ _ fun acts => by rw [doInvoke_state]; exact hsteps.trans a1, b1⟩
end Calls
