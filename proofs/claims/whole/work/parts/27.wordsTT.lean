/-! the words of the methods that throw: those that stay as the tables warm -/
def gx_f (w : Cond) : Bool := (w.onTables && w.keepsFace) || goodWord w
def wA : List Cond := lw_tbl.filter gx_f
theorem wA_in {w : Cond} (h : w ∈ lw_tbl) (g : gx_f w = true) : w ∈ wA := List.mem_filter.mpr ⟨h, g⟩
theorem wA_of {w : Cond} (h : w ∈ wB) : w ∈ wA := wA_in (wB_sub w h) (by unfold gx_f; rw [(List.mem_filter.mp h).2, Bool.or_true])
theorem wA_sub : ∀ w ∈ wA, w ∈ lw_tbl := fun _ h => (List.mem_filter.mp h).1
theorem wA_warm {s U : State} {args a' : Array Value} {w : Cond} (hw : w ∈ wA) (h : w.before args s = true) (hW : s.WarmedH U.vm) : w.before a' U = true := by
  have hg := (List.mem_filter.mp hw).2
  simp only [gx_f, Bool.or_eq_true, Bool.and_eq_true] at hg
  rcases hg with ⟨h1, h2⟩ | h1
  · exact va_tabs (u := s.setVm U.vm) h1 rfl (Cond.before_shiftedFace (State.Shifted.of_warmed hW) w h2 h)
  · exact word_at hW (good_of_word h1) h
/-- the call of a method that throws: its words, its room -/
theorem gx_cw {R rm : Room} {s : State} {args : Array Value} {Ts : List Cond} {own C : String} {index maxL : Nat} {y : MethodName} {bytes : ByteArray} {ret : Option FieldType} (n : Nat) (hts : ∀ w ∈ Ts, w.before args s = true) (hA : ∀ w ∈ wA, w ∈ Ts) (h0 : Cond.code y bytes maxL ret ∈ wB) (h1 : Cond.methodLink own index y ∈ wB) (h2 : Cond.instanceMethod y ∈ wB) (h3 : Cond.selects C y y ∈ wB) (h4 : Cond.initialized C ∈ wB)
    (hrc : rm.cells = 1) (hrs : rm.slots = 6) (hd : y.cls = C ∧ y.cls ≠ "java/lang/invoke/MethodHandle" ∧ y.cls ≠ "java/lang/invoke/VarHandle" ∧ (parseMethodDescriptor y.desc).map (fun d => d.parameters.length) = some n) (hR : rm.frames + 1 ≤ R.frames ∧ 8 + (maxL + 11) + rm.locals ≤ R.locals) :
    CallW R s args own C index y bytes maxL ret (Cond.code y bytes maxL ret :: wA) rm 1 6 n := by
  obtain ⟨rfl, hd1, hd2, hd3⟩ := hd
  have ok : ∀ w ∈ wB, w.before args s = true := fun w h => hts w (hA w (wA_of h))
  refine ⟨⟨hrc, hrs, hR.1, hR.2, fun w hw a' U hW => ?_, List.mem_cons_self, ok _ h0, ok _ h4, ⟨hd1, hd2⟩, fun sig h => ?_, ok _ h1⟩, ok _ h2, ok _ h3⟩
  · rcases List.mem_cons.mp hw with rfl | hw
    · exact wA_warm (wA_of h0) (ok _ h0) hW
    · exact wA_warm hw (hts w (hA w hw)) hW
  · rw [h] at hd3
    exact (Option.some.inj hd3).symm
theorem xw_421 : Cond.classLink R_O 84 "java/lang/IllegalStateException" ∈ wB := wB_in (by decide +kernel) rfl
theorem xw_422 : Cond.initialized "java/lang/IllegalStateException" ∈ wB := wB_in (by decide +kernel) rfl
theorem xw_423 : Cond.classLink R_O 154 "java/lang/IndexOutOfBoundsException" ∈ wB := wB_in (by decide +kernel) rfl
theorem xw_424 : Cond.initialized "java/lang/IndexOutOfBoundsException" ∈ wB := wB_in (by decide +kernel) rfl
theorem xw_425 : Cond.classLink R_O 164 "java/lang/ArithmeticException" ∈ wB := wB_in (by decide +kernel) rfl
theorem xw_426 : Cond.initialized "java/lang/ArithmeticException" ∈ wB := wB_in (by decide +kernel) rfl
theorem xw_427 : Cond.classLink R_O 118 "java/lang/IllegalArgumentException" ∈ wB := wB_in (by decide +kernel) rfl
theorem xw_428 : Cond.initialized "java/lang/IllegalArgumentException" ∈ wB := wB_in (by decide +kernel) rfl
theorem xt_86 : ∀ w ∈ Bundle.ownAtoms0 R_O 86 "java/lang/IllegalStateException" ["java/lang/RuntimeException", "java/lang/Exception"], gx_h w = false → w ∈ wA ∧ w.onTables = true := by
  intro w h g
  have q := (by decide +kernel : ∀ w ∈ Bundle.ownAtoms0 R_O 86 "java/lang/IllegalStateException" ["java/lang/RuntimeException", "java/lang/Exception"], gx_h w = false → w ∈ lw_tbl ∧ gx_f w = true ∧ w.onTables = true) w h g
  exact ⟨wA_in q.1 q.2.1, q.2.2⟩
theorem xt_156 : ∀ w ∈ Bundle.ownAtoms0 R_O 156 "java/lang/IndexOutOfBoundsException" ["java/lang/RuntimeException", "java/lang/Exception"], gx_h w = false → w ∈ wA ∧ w.onTables = true := by
  intro w h g
  have q := (by decide +kernel : ∀ w ∈ Bundle.ownAtoms0 R_O 156 "java/lang/IndexOutOfBoundsException" ["java/lang/RuntimeException", "java/lang/Exception"], gx_h w = false → w ∈ lw_tbl ∧ gx_f w = true ∧ w.onTables = true) w h g
  exact ⟨wA_in q.1 q.2.1, q.2.2⟩
theorem xt_166 : ∀ w ∈ Bundle.ownAtoms0 R_O 166 "java/lang/ArithmeticException" ["java/lang/RuntimeException", "java/lang/Exception"], gx_h w = false → w ∈ wA ∧ w.onTables = true := by
  intro w h g
  have q := (by decide +kernel : ∀ w ∈ Bundle.ownAtoms0 R_O 166 "java/lang/ArithmeticException" ["java/lang/RuntimeException", "java/lang/Exception"], gx_h w = false → w ∈ lw_tbl ∧ gx_f w = true ∧ w.onTables = true) w h g
  exact ⟨wA_in q.1 q.2.1, q.2.2⟩
theorem xt_120 : ∀ w ∈ Bundle.ownAtoms0 R_O 120 "java/lang/IllegalArgumentException" ["java/lang/RuntimeException", "java/lang/Exception"], gx_h w = false → w ∈ wA ∧ w.onTables = true := by
  intro w h g
  have q := (by decide +kernel : ∀ w ∈ Bundle.ownAtoms0 R_O 120 "java/lang/IllegalArgumentException" ["java/lang/RuntimeException", "java/lang/Exception"], gx_h w = false → w ∈ lw_tbl ∧ gx_f w = true ∧ w.onTables = true) w h g
  exact ⟨wA_in q.1 q.2.1, q.2.2⟩
