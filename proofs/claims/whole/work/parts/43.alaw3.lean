/-! THE LAW's own rows -/
abbrev tyL (cI cT cZ cL : ClassId) : List (ClassId × FieldType) := [(cI, .int), (cT, .object "SegmentKernel$Task"), (cZ, .boolean), (cL, .long)]
abbrev wL (cI cT cZ cL : ClassId) (ad bd : Nat → Nat) (oa : Nat) (M : MX) (U : MY) (f : Nat → Int64) : va_W := wY cI cZ bd U ++ (wX cI cT ad M ++ [oC oa cL f])
abbrev lvL (b oa : Nat) (ad bd : Nat → Nat) (i : Int32) : List (Nat × Value) := [(0, .ref b), (1, .ref (ad 0)), (2, .ref (bd 0)), (3, .ref oa), (4, .int i)]
def lc_ctx (p : Program) (l : Launch) (s : State) (m : MethodId) (c : Code) (b L : Nat) (xs : Nat → Int32) (A : Nat → Prop) : Prop :=
  CallFix p m c b_L_law 7 s #[Value.ref b] lw_tbl R_L ∧ l.stackTraces = false ∧ va_X b L xs s s.heap ∧ b < s.heap.size ∧ ¬ A b ∧ gx_Z A s s.heap ∧ gl_N s
theorem lg_cmp_self {x : Int64} : lg_cmp x x = 0 := by simp [lg_cmp]
theorem gl_warm {s : State} {args : Array Value} {w0 : Cond} (hts : ∀ w ∈ lw_tbl, w.before args s = true) (h0 : w0 ∈ wA) : ∀ w ∈ w0 :: wA, ∀ (a' : Array Value) (U : State), s.WarmedH U.vm → w.before a' U = true := by
  intro w hw a' U hW
  rcases List.mem_cons.mp hw with rfl | hw
  · exact wA_warm h0 (hts _ (wA_sub _ h0)) hW
  · exact wA_warm hw (hts _ (wA_sub _ hw)) hW
section Rows
variable {p : Program} {l : Launch} {e : Env} {R : Room} {s : State} {m : MethodId} {args : Array Value} {below : List Frame} {meth : Method} {c : Code} {H : Heap} {locs : List Loc} {cells slots : Nat} {Q : State → Prop}
variable {cc : ByteArray} {A : Nat → Prop} {pc : Nat} {ls : Array Slot} {rest : List Value}
/-- script[i + j] -/
theorem gl_arg (hx : p.tables.exec = Jvm.exec) (hb : c.code = cc) {b L : Nat} {xs : Nat → Int32} (hX : va_X b L xs s s.heap) (hbl : b < s.heap.size) (hbA : ¬ A b) (hS : va_S A s.heap H locs) {i j : Int32} {jn : Int} (h0 : ls[0]? = some (.val (.ref b))) (h4 : ls[4]? = some (.val (.int i))) (hin : vp_in (i + j) L)
    (d0 : decode cc pc = .ok (.aload_n 0, 1)) (d1 : decode cc (pc + 1) = .ok (.iload 4, 2)) (d2 : decode cc (pc + 3) = .ok (.iconst jn, 1)) (hj : Int32.ofInt jn = j) (d3 : decode cc (pc + 4) = .ok (.iadd, 1)) (d4 : decode cc (pc + 5) = .ok (.iaload, 1))
    (kk : W p l e R s m args below meth c H locs cells slots Q (F0 m (pc + 6) ls (.int (xs (i + j).toNatClampNeg) :: rest))) : W p l e R s m args below meth c H locs cells slots Q (F0 m pc ls rest) := by
  refine lv_aload_n hx hb d0 rfl h0 ?_
  refine lv_iload hx hb d1 h4 ?_
  refine lv_iconst hx hb d2 hj ?_
  refine lv_iadd hx hb d3 ?_
  exact va_sld hx hb hX hbl hbA hS hin d4 kk
end Rows
