/-! METHODS THAT THROW: rows over the library (launches without stack traces) -/
/-- a static field of Throwable lies in a cell that is none of A, and holds a reference or null -/
def gx_S (n d : String) (A : Nat → Prop) (U : State) (H : Heap) : Prop :=
  ∃ (c : ClassId) (k : Class) (i : Nat) (f : Field) (a : Nat) (cell : Cell) (v : Value), U.vm.findClass Bundle.tN = some c ∧ U.fieldFound? Bundle.tN n d = some (c, k, i, f) ∧ f.isStatic = true ∧ k.statics = some a ∧ H[a]? = some cell ∧ cell.vm.isStatics = true ∧ cell.cls = c ∧
    f.slot < cell.slots.size ∧ k.staticTypes[f.slot]? = some f.type ∧ cell.slots[f.slot]? = some v ∧ v.isRef = true ∧ ¬ A a
theorem gx_S.moved {n d : String} {A : Nat → Prop} {u U : State} {H : Heap} (hvm : u.vm.Alike U.vm) (h : gx_S n d A u H) : gx_S n d A U H := by
  obtain ⟨c, k, i, f, a, cell, v, h1, h2, h3, h4, h5, h6, h7, h8, h9, h10⟩ := h
  obtain ⟨k', hi', he⟩ := State.fieldFound?_setVm hvm h2
  exact ⟨c, k', i, f, a, cell, v, by rw [hvm.findClass]; exact h1, hi', h3, by rw [he]; exact h4, h5, h6, h7, h8, by rw [he]; exact h9, h10⟩
theorem gx_S.kept {n d : String} {A : Nat → Prop} {U : State} {H H1 : Heap} (h : gx_S n d A U H) (hq : ∀ a : Nat, a < H.size → ¬ A a → H1[a]? = H[a]?) : gx_S n d A U H1 := by
  obtain ⟨c, k, i, f, a, cell, v, h1, h2, h3, h4, h5, h6, h7, h8, h9, h10, h11, h12⟩ := h
  exact ⟨c, k, i, f, a, cell, v, h1, h2, h3, h4, by rw [hq a (Array.getElem?_eq_some_iff.mp h5).1 h12]; exact h5, h6, h7, h8, h9, h10, h11, h12⟩
theorem gx_S.narrow {n d : String} {A B : Nat → Prop} {U : State} {H : Heap} (h : gx_S n d A U H) (hAB : ∀ q, q < H.size → B q → A q) : gx_S n d B U H := by
  obtain ⟨c, k, i, f, a, cell, v, h1, h2, h3, h4, h5, h6, h7, h8, h9, h10, h11, h12⟩ := h
  exact ⟨c, k, i, f, a, cell, v, h1, h2, h3, h4, h5, h6, h7, h8, h9, h10, h11, fun z => h12 (hAB _ (Array.getElem?_eq_some_iff.mp h5).1 z)⟩
theorem gx_S.lays {n d : String} {A : Nat → Prop} {s : State} {args : Array Value} (h : gx_S n d A s s.heap) : (Cond.laysStatic Bundle.tN n d).before args s = true := by
  obtain ⟨c, k, i, f, a, cell, v, h1, h2, h3, h4, h5, h6, h7, h8, h9, -⟩ := h
  show (Cond.laysStatic Bundle.tN n d).holds args s none s [] = true
  exact Cond.laysStatic_of h1 h2 h3 h4 h5 h6 h7 h8 h9
theorem gx_S.isRef {n d : String} {A : Nat → Prop} {s : State} {args : Array Value} (h : gx_S n d A s s.heap) : (Cond.isRef (.static Bundle.tN n d)).before args s = true := by
  obtain ⟨c, k, i, f, a, cell, v, h1, h2, h3, h4, h5, h6, h7, h8, h9, h10, h11, -⟩ := h
  have he : (Term.static Bundle.tN n d).eval args s none [] s = some v := by
    simp [Term.eval, State.fieldNamed?, h2, h3, h4, h5, h6, h10]
  simp only [Cond.before, Cond.holds, Cond.value, he]
  cases v <;> simp_all [Value.isRef]
theorem gx_S.of {n d : String} {A : Nat → Prop} {s : State} {args : Array Value} (hl : (Cond.laysStatic Bundle.tN n d).before args s = true) (hini : (Cond.initialized Bundle.tN).before args s = true) (h : (Cond.isRef (.static Bundle.tN n d)).before args s = true) (hA : ∀ a : Nat, a < s.heap.size → ¬ A a) : gx_S n d A s s.heap := by
  obtain ⟨c, k, i, f, a, cell, h1, h2, h3, h4, h5, h6, h7, h8, h9⟩ := Cond.laysStatic_spec hl
  have key : ∀ v : Value, v.isRef = true → va_Z Bundle.tN n d v A s s.heap → gx_S n d A s s.heap := by
    intro v hv hz
    obtain ⟨cf, kf, fi, f', a', cell', g1, g2, g3, g4, g5, g6, g7, g8⟩ := hz
    cases Option.some.inj (h2.symm.trans g1)
    cases Option.some.inj (h4.symm.trans g4)
    cases Option.some.inj (h5.symm.trans g5)
    exact ⟨c, k, i, f, a, cell, v, h1, h2, h3, h4, h5, h6, h7, h8, h9, g7, hv, g8⟩
  rcases va_Zqof hl hini h hA with hz | ⟨t, hz⟩
  · exact key _ rfl hz
  · exact key _ rfl hz
def gx_Z (A : Nat → Prop) (U : State) (H : Heap) : Prop := gx_S "UNASSIGNED_STACK" Bundle.steD A U H ∧ gx_S "SUPPRESSED_SENTINEL" Bundle.listD A U H
/-- the words of a throw that speak of the heap -/
def gx_h (w : Cond) : Bool := decide (w = .isRef (.static Bundle.tN "UNASSIGNED_STACK" Bundle.steD)) || decide (w = .isRef (.static Bundle.tN "SUPPRESSED_SENTINEL" Bundle.listD)) || decide (w = .laysStatic Bundle.tN "UNASSIGNED_STACK" Bundle.steD) || decide (w = .laysStatic Bundle.tN "SUPPRESSED_SENTINEL" Bundle.listD)
theorem gx_words {A : Nat → Prop} {s : State} {args : Array Value} {L : List Cond} (hz : gx_Z A s s.heap) (h : ∀ w ∈ L, gx_h w = false → w.before args s = true) : ∀ w ∈ L, w.before args s = true := by
  intro w hw
  by_cases hg : gx_h w = true
  · simp only [gx_h, Bool.or_eq_true, decide_eq_true_eq] at hg
    rcases hg with ((rfl | rfl) | rfl) | rfl
    · exact hz.1.isRef
    · exact hz.2.isRef
    · exact hz.1.lays
    · exact hz.2.lays
  · exact h w hw (by simpa using hg)
section Again
variable {p : Program} {l : Launch} {e : Env} {R : Room} {s : State} {m : MethodId} {args : Array Value} {below : List Frame} {meth : Method} {c : Code} {T : State} {locs : List Loc} {cells slots : Nat}
/-- the method seen as called anew where it stands -/
def gx_anew (s T : State) (m : MethodId) (args : Array Value) (below : List Frame) : State := (T.setVm s.vm).setFrames (.invoking m args :: below)
theorem gx_stand (X : Stand p l e R s m args below meth c T locs cells slots) {R' : Room} (hf : R'.frames ≤ R.frames) (hl : R'.locals ≤ R.locals) (hc : cells + R'.cells ≤ R.cells) (hs : slots + R'.slots ≤ R.slots) : Stand p l e R' (gx_anew s T m args below) m args below meth c T [] 0 0 := by
  have htop : (T.setVm s.vm).topJava?.isSome := X.here.top
  have hF : (gx_anew s T m args below).frames = .invoking m args :: below := State.frames_setFrames _ (State.cur_lt_of_top htop)
  obtain ⟨g₀, hg0⟩ := Option.isSome_iff_exists.mp htop
  obtain ⟨r, hr⟩ := State.topJava?_eq_some.mp hg0
  have hme : e.platform.stackLimits (gx_anew s T m args below).me = e.platform.stackLimits s.me := by
    unfold gx_anew; rw [State.stackLimits_setFrames]; exact X.limits
  have hby : (gx_anew s T m args below).me.stackBytes = s.me.stackBytes := by
    unfold gx_anew; rw [State.stackBytes_setFrames]; exact X.bytes
  have hU : (gx_anew s T m args below).localsInUse = s.localsInUse := by
    rw [State.localsInUse_invoking hF (meth := meth) (c := c) X.method X.code, State.localsInUse_invoking X.frames X.method X.code]
  have q1 := X.heapSize
  have q2 := X.used
  refine ⟨X.admits, X.cas, X.clock, hF, ?_, X.hears, X.method, X.code, X.here, X.tail, X.warmed, ?_, ?_, ?_⟩
  · have h := X.room
    simp only [State.hasRoom, Bool.and_eq_true, decide_eq_true_eq] at h ⊢
    obtain ⟨⟨⟨⟨h1, h2, h3, h4, h5, h6⟩, h7⟩, h8⟩, h9⟩ := h
    rw [X.frames, List.length_cons] at h2 h3
    rw [hF, hU, hme, hby, List.length_cons]
    refine ⟨⟨⟨⟨by omega, by omega, by omega, by omega, by omega, h6⟩, ?_⟩, ?_⟩, X.book⟩
    · show T.heap.size + R'.cells ≤ e.platform.maxCells
      omega
    · show T.slotsUsed + R'.slots ≤ e.platform.maxSlots
      omega
  · rw [hme]; exact X.limits
  · rw [hby]; exact X.bytes
  · refine ⟨?_, Nat.le_refl _, Nat.le_refl _, ?_, ?_, fun a c9 h9 => ⟨c9, h9, rfl, rfl, fun _ _ => rfl⟩⟩
    · obtain ⟨t, ht, -⟩ := State.frames_cons hr
      show T.setVm s.vm = { ((T.setVm s.vm).setFrames (.invoking m args :: below)).setFrames (T.setVm s.vm).frames with heap := T.heap, slotsUsed := T.slotsUsed }
      rw [State.setFrames_setFrames, State.setFrames_self ht]
      rfl
    · show T.slotsUsed = T.slotsUsed + ((T.heap.toList.drop T.heap.size).map (·.slots.size)).sum
      rw [List.drop_eq_nil_of_le (Nat.le_of_eq Array.length_toList)]
      rfl
    · show ((T.heap.toList.drop T.heap.size).map (·.slots.size)).sum ≤ 0
      rw [List.drop_eq_nil_of_le (Nat.le_of_eq Array.length_toList)]
      exact Nat.le_refl _
/-- what was the same since then, and since now, is the same -/
theorem gx_same (X : Stand p l e R s m args below meth c T locs cells slots) {U : State} {k n mc ms : Nat} (h : (gx_anew s T m args below).sameButNew ({ U with vm := s.vm } : State) [] k n) (hc : cells + k ≤ mc) (hs : slots + n ≤ ms) : s.sameButNew ({ U with vm := s.vm } : State) locs mc ms := by
  obtain ⟨e1, e2⟩ := h
  unfold gx_anew at e1
  rw [State.setFrames_setFrames] at e1
  have h2 : (T.setVm s.vm).sameButNew ({ U with vm := s.vm } : State) [] k n := ⟨e1, e2⟩
  have h3 := X.same.trans h2
  rw [List.append_nil] at h3
  exact h3.mono hc hs
end Again
