abbrev rm_A_higherWorkBy : Room := { frames := 1, cells := 0, slots := 0, locals := 21 }
def ws_A_higherWorkBy : List Cond := Cond.code y_A_higherWorkBy b_A_higherWorkBy 6 (some .int) :: wB
set_option maxHeartbeats 4000000 in
set_option maxRecDepth 100000 in
theorem c_A_higherWorkBy {l : Launch} {D : va_G} {cI cT : ClassId} {ad : Nat → Nat} {n : Nat} {M : MX} {x1 : Fin 8} {a2 : Int32} {r0 : Int32} (hj : j_A_higherWorkBy n M x1 a2 = some r0) : gw_Ci l y_A_higherWorkBy ws_A_higherWorkBy rm_A_higherWorkBy D (tyX cI cT) (wX cI cT ad M) [.ref (ad 4), .ref (ad (6 + x1.val)), .int a2] r0 (wX cI cT ad M) := by
  intro sz
  refine gw_meti (cc := b_A_higherWorkBy) (maxL := 6) (by decide) rfl (Nat.le_of_ble_eq_true rfl) ?_
  intro p e s m args below meth c A Q S H locs hw hend ls hl
  have S : CallFix p m c b_A_higherWorkBy 6 s args ws_A_higherWorkBy R_A := S
  have hx := S.1
  have hb := S.2.1
  have hts := S.2.2.2.2
  have hl : lv_has ls 6 [(0, .ref (ad 4)), (1, .ref (ad (6 + x1.val))), (2, .int a2)] := hl
  have n_T_A : ∀ w ∈ u_ws R_A T_A 3, w ∈ ws_A_higherWorkBy := fun w h => List.mem_cons_of_mem _ (uT_A w h)
  have n_T_S : ∀ w ∈ u_ws R_S T_S 3, w ∈ ws_A_higherWorkBy := fun w h => List.mem_cons_of_mem _ (uT_S w h)
  have n_T_T : ∀ w ∈ u_ws R_T T_T 13, w ∈ ws_A_higherWorkBy := fun w h => List.mem_cons_of_mem _ (uT_T w h)
  have f_9 : Cond.fieldLink R_A 9 (T_A 0).1 (T_A 0).2.1 (T_A 0).2.2.1 ∈ ws_A_higherWorkBy := List.mem_cons_of_mem _ xw_115
  have f_46 : Cond.fieldLink R_A 46 (T_S 1).1 (T_S 1).2.1 (T_S 1).2.2.1 ∈ ws_A_higherWorkBy := List.mem_cons_of_mem _ xw_116
  have f_82 : Cond.fieldLink R_A 82 (T_T 7).1 (T_T 7).2.1 (T_T 7).2.2.1 ∈ ws_A_higherWorkBy := List.mem_cons_of_mem _ xw_117
  have f_118 : Cond.fieldLink R_A 118 (T_T 8).1 (T_T 8).2.1 (T_T 8).2.2.1 ∈ ws_A_higherWorkBy := List.mem_cons_of_mem _ xw_118
  have w_124 : CallW rm_A_higherWorkBy s args R_A R_T 124 y_T_arrivalsBy b_T_arrivalsBy 2 (some .int) ws_T_arrivalsBy rm_T_arrivalsBy 0 0 1 := cwV 1 hts (wB_callV (fun w h => List.mem_cons_of_mem _ h) xw_119 xw_120 xw_121 xw_122 xw_21) rfl rfl rfl (by decide +kernel) ⟨Nat.le_of_ble_eq_true rfl, Nat.le_of_ble_eq_true rfl⟩
  have L5 : ∀ (f5 : Nat) (v3_5 : Int32) (v4_5 : Int32), j_A_higherWorkBy_L5 n M x1 a2 f5 v3_5 v4_5 = some r0 → ∀ (H : Heap) (locs : List Loc), gw_W D (tyX cI cT) A (wX cI cT ad M) s H locs → ∀ ls : Array Slot, lv_has ls 6 [(0, .ref (ad 4)), (1, .ref (ad (6 + x1.val))), (2, .int a2), (3, .int v3_5), (4, .int v4_5)] → W p l e rm_A_higherWorkBy s m args below meth c H locs 0 0 Q (F0 m 5 ls []) := by
    intro f5
    induction f5 with
    | zero =>
      intro v3_5 v4_5 hj
      exact nomatch (show (none : Option Int32) = some r0 from hj)
    | succ f5 ih5 =>
      intro v3_5 v4_5 hj H locs hw ls hl
      rw [j_A_higherWorkBy_L5] at hj
      refine lv_iload hx hb d_A_higherWorkBy_5 (lv_at hl 4 rfl) ?_
      refine lv_aload_n hx hb d_A_higherWorkBy_7 rfl (lv_at hl 1 rfl) ?_
      refine gw_get (v := .int (M.1 0 x1 8)) S hw (xa_T x1) rfl (by decide) n_T_T f_118 rfl d_A_higherWorkBy_8 ?_
      refine lv_icmp_ge (tgt := 47) hx hb d_A_higherWorkBy_11 (by decide) (fun c_1 => ?_) (fun c_1 => ?_)
      · rw [if_pos c_1] at hj
        refine lv_iload_n hx hb d_A_higherWorkBy_47 rfl (lv_at hl 3 rfl) ?_
        exact hend H locs ls 48 _ _ (Option.some.inj hj) rfl hw d_A_higherWorkBy_48
      · rw [if_neg c_1] at hj
        refine lv_aload_n hx hb d_A_higherWorkBy_14 rfl (lv_at hl 0 rfl) ?_
        refine gw_get (v := .ref (ad 1)) S hw xa_A rfl (by decide) n_T_A f_9 rfl d_A_higherWorkBy_15 ?_
        refine gw_get (v := .ref (ad 3)) S hw xa_S rfl (by decide) n_T_S f_46 rfl d_A_higherWorkBy_18 ?_
        refine lv_iload hx hb d_A_higherWorkBy_21 (lv_at hl 4 rfl) ?_
        obtain ⟨g_2, hj⟩ := gw_if hj
        refine gw_aldq (t0 := 1) S hw ⟨xa_rk, rfl⟩ g_2 d_A_higherWorkBy_23 ?_
        refine lv_astore (lv' := [(5, .ref (ad (6 + (M.2.2.1 v4_5.toNatClampNeg).val))), (0, .ref (ad 4)), (1, .ref (ad (6 + x1.val))), (2, .int a2), (3, .int v3_5), (4, .int v4_5)]) hx hb d_A_higherWorkBy_24 hl (by decide) rfl (fun ls hl => ?_)
        refine lv_iload_n hx hb d_A_higherWorkBy_26 rfl (lv_at hl 4 rfl) ?_
        refine lv_aload hx hb d_A_higherWorkBy_27 (lv_at hl 0 rfl) ?_
        refine lv_iload_n hx hb d_A_higherWorkBy_29 rfl (lv_at hl 3 rfl) ?_
        obtain ⟨r_4, e_3, hj⟩ := Option.bind_eq_some_iff.mp hj
        refine gw_calli (As := [.int a2]) (rest := [.int v3_5]) S hw (c_T_arrivalsBy e_3) w_124 (xa_T (M.2.2.1 v4_5.toNatClampNeg)) rfl rfl hl.1 rfl (Nat.le_of_ble_eq_true rfl) d_A_higherWorkBy_30 (fun H locs hw => ?_)
        refine lv_aload hx hb d_A_higherWorkBy_33 (lv_at hl 0 rfl) ?_
        refine gw_get (v := .int (M.1 0 (M.2.2.1 v4_5.toNatClampNeg) 7)) S hw (xa_T (M.2.2.1 v4_5.toNatClampNeg)) rfl (by decide) n_T_T f_82 rfl d_A_higherWorkBy_35 ?_
        refine lv_imul hx hb d_A_higherWorkBy_38 ?_
        refine lv_iadd hx hb d_A_higherWorkBy_39 ?_
        refine lv_istore_n (lv' := [(3, .int (v3_5 + (r_4 * (M.1 0 (M.2.2.1 v4_5.toNatClampNeg) 7)))), (5, .ref (ad (6 + (M.2.2.1 v4_5.toNatClampNeg).val))), (0, .ref (ad 4)), (1, .ref (ad (6 + x1.val))), (2, .int a2), (4, .int v4_5)]) hx hb d_A_higherWorkBy_40 rfl hl (by decide) rfl (fun ls hl => ?_)
        refine lv_iinc (v := (v4_5 + 1)) (lv' := [(4, .int (v4_5 + 1)), (3, .int (v3_5 + (r_4 * (M.1 0 (M.2.2.1 v4_5.toNatClampNeg) 7)))), (5, .ref (ad (6 + (M.2.2.1 v4_5.toNatClampNeg).val))), (0, .ref (ad 4)), (1, .ref (ad (6 + x1.val))), (2, .int a2)]) hx hb d_A_higherWorkBy_41 hl (k := 5) rfl rfl (by decide) rfl (fun ls hl => ?_)
        refine lv_goto (tgt := 5) hx hb d_A_higherWorkBy_44 (by decide) ?_
        exact ih5 (v3_5 + (r_4 * (M.1 0 (M.2.2.1 v4_5.toNatClampNeg) 7))) (v4_5 + 1) hj H locs hw ls (lv_sub hl [3, 4, 5, 1, 0] rfl)
  unfold j_A_higherWorkBy at hj
  refine lv_iconst (v := 0) hx hb d_A_higherWorkBy_0 (by decide) ?_
  refine lv_istore_n (lv' := [(3, .int 0), (0, .ref (ad 4)), (1, .ref (ad (6 + x1.val))), (2, .int a2)]) hx hb d_A_higherWorkBy_1 rfl hl (by decide) rfl (fun ls hl => ?_)
  refine lv_iconst (v := 0) hx hb d_A_higherWorkBy_2 (by decide) ?_
  refine lv_istore (lv' := [(4, .int 0), (3, .int 0), (0, .ref (ad 4)), (1, .ref (ad (6 + x1.val))), (2, .int a2)]) hx hb d_A_higherWorkBy_3 hl (by decide) rfl (fun ls hl => ?_)
  exact L5 n 0 0 hj H locs hw ls (lv_sub hl [2, 3, 4, 1, 0] rfl)
abbrev rm_A_busyWith : Room := { frames := 2, cells := 0, slots := 0, locals := 46 }
def ws_A_busyWith : List Cond := Cond.code y_A_busyWith b_A_busyWith 6 (some .int) :: wB
set_option maxHeartbeats 4000000 in
set_option maxRecDepth 100000 in
theorem c_A_busyWith {l : Launch} {D : va_G} {cI cT : ClassId} {ad : Nat → Nat} {n : Nat} {M : MX} {x1 : Fin 8} {a2 : Int32} {r0 : Int32} (hj : j_A_busyWith n M x1 a2 = some r0) : gw_Ci l y_A_busyWith ws_A_busyWith rm_A_busyWith D (tyX cI cT) (wX cI cT ad M) [.ref (ad 4), .ref (ad (6 + x1.val)), .int a2] r0 (wX cI cT ad M) := by
  intro sz
  refine gw_meti (cc := b_A_busyWith) (maxL := 6) (by decide) rfl (Nat.le_of_ble_eq_true rfl) ?_
  intro p e s m args below meth c A Q S H locs hw hend ls hl
  have S : CallFix p m c b_A_busyWith 6 s args ws_A_busyWith R_A := S
  have hx := S.1
  have hb := S.2.1
  have hts := S.2.2.2.2
  have hl : lv_has ls 6 [(0, .ref (ad 4)), (1, .ref (ad (6 + x1.val))), (2, .int a2)] := hl
  have n_T_T : ∀ w ∈ u_ws R_T T_T 13, w ∈ ws_A_busyWith := fun w h => List.mem_cons_of_mem _ (uT_T w h)
  have f_82 : Cond.fieldLink R_A 82 (T_T 7).1 (T_T 7).2.1 (T_T 7).2.2.1 ∈ ws_A_busyWith := List.mem_cons_of_mem _ xw_117
  have w_124 : CallW rm_A_busyWith s args R_A R_T 124 y_T_arrivalsBy b_T_arrivalsBy 2 (some .int) ws_T_arrivalsBy rm_T_arrivalsBy 0 0 1 := cwV 1 hts (wB_callV (fun w h => List.mem_cons_of_mem _ h) xw_119 xw_120 xw_121 xw_122 xw_21) rfl rfl rfl (by decide +kernel) ⟨Nat.le_of_ble_eq_true rfl, Nat.le_of_ble_eq_true rfl⟩
  have w_136 : CallW rm_A_busyWith s args R_A R_A 136 y_A_higherWorkBy b_A_higherWorkBy 6 (some .int) ws_A_higherWorkBy rm_A_higherWorkBy 0 0 2 := cwV 2 hts (wB_callV (fun w h => List.mem_cons_of_mem _ h) xw_123 xw_124 xw_125 xw_126 xw_127) rfl rfl rfl (by decide +kernel) ⟨Nat.le_of_ble_eq_true rfl, Nat.le_of_ble_eq_true rfl⟩
  have L7 : ∀ (f7 : Nat) (v3_7 : Int32) (v4_7 : Int32), j_A_busyWith_L7 n M x1 a2 f7 v3_7 v4_7 = some r0 → ∀ (H : Heap) (locs : List Loc), gw_W D (tyX cI cT) A (wX cI cT ad M) s H locs → ∀ ls : Array Slot, lv_has ls 6 [(0, .ref (ad 4)), (1, .ref (ad (6 + x1.val))), (2, .int a2), (3, .int v3_7), (4, .int v4_7)] → W p l e rm_A_busyWith s m args below meth c H locs 0 0 Q (F0 m 7 ls []) := by
    intro f7
    induction f7 with
    | zero =>
      intro v3_7 v4_7 hj
      exact nomatch (show (none : Option Int32) = some r0 from hj)
    | succ f7 ih7 =>
      intro v3_7 v4_7 hj H locs hw ls hl
      rw [j_A_busyWith_L7] at hj
      refine lv_iload hx hb d_A_busyWith_7 (lv_at hl 4 rfl) ?_
      refine lv_sipush (v := 20000) hx hb d_A_busyWith_9 (by decide) ?_
      refine lv_icmp_gt (tgt := 64) hx hb d_A_busyWith_12 (by decide) (fun c_1 => ?_) (fun c_1 => ?_)
      · rw [if_pos c_1] at hj
        refine lv_sipush (v := 20001) hx hb d_A_busyWith_64 (by decide) ?_
        exact hend H locs ls 67 _ _ (Option.some.inj hj) rfl hw d_A_busyWith_67
      · rw [if_neg c_1] at hj
        refine lv_iload_n hx hb d_A_busyWith_15 rfl (lv_at hl 3 rfl) ?_
        refine lv_sipush (v := 20000) hx hb d_A_busyWith_16 (by decide) ?_
        refine lv_icmp_gt (tgt := 64) hx hb d_A_busyWith_19 (by decide) (fun c_2 => ?_) (fun c_2 => ?_)
        · rw [if_pos c_2] at hj
          refine lv_sipush (v := 20001) hx hb d_A_busyWith_64 (by decide) ?_
          exact hend H locs ls 67 _ _ (Option.some.inj hj) rfl hw d_A_busyWith_67
        · rw [if_neg c_2] at hj
          refine lv_iload_n hx hb d_A_busyWith_22 rfl (lv_at hl 2 rfl) ?_
          refine lv_aload_n hx hb d_A_busyWith_23 rfl (lv_at hl 1 rfl) ?_
          refine lv_iload_n hx hb d_A_busyWith_24 rfl (lv_at hl 3 rfl) ?_
          refine lv_iconst (v := 1) hx hb d_A_busyWith_25 (by decide) ?_
          refine lv_isub hx hb d_A_busyWith_26 ?_
          obtain ⟨r_4, e_3, hj⟩ := Option.bind_eq_some_iff.mp hj
          refine gw_calli (As := [.int (v3_7 - 1)]) (rest := [.int a2]) S hw (c_T_arrivalsBy e_3) w_124 (xa_T x1) rfl rfl hl.1 rfl (Nat.le_of_ble_eq_true rfl) d_A_busyWith_27 (fun H locs hw => ?_)
          refine lv_aload_n hx hb d_A_busyWith_30 rfl (lv_at hl 1 rfl) ?_
          refine gw_get (v := .int (M.1 0 x1 7)) S hw (xa_T x1) rfl (by decide) n_T_T f_82 rfl d_A_busyWith_31 ?_
          refine lv_imul hx hb d_A_busyWith_34 ?_
          refine lv_iadd hx hb d_A_busyWith_35 ?_
          refine lv_aload_n hx hb d_A_busyWith_36 rfl (lv_at hl 0 rfl) ?_
          refine lv_aload_n hx hb d_A_busyWith_37 rfl (lv_at hl 1 rfl) ?_
          refine lv_iload_n hx hb d_A_busyWith_38 rfl (lv_at hl 3 rfl) ?_
          refine lv_iconst (v := 1) hx hb d_A_busyWith_39 (by decide) ?_
          refine lv_isub hx hb d_A_busyWith_40 ?_
          obtain ⟨r_6, e_5, hj⟩ := Option.bind_eq_some_iff.mp hj
          refine gw_calli (As := [.ref (ad (6 + x1.val)), .int (v3_7 - 1)]) (rest := [.int (a2 + (r_4 * (M.1 0 x1 7)))]) S hw (c_A_higherWorkBy e_5) w_136 xa_A rfl rfl hl.1 rfl (Nat.le_of_ble_eq_true rfl) d_A_busyWith_41 (fun H locs hw => ?_)
          refine lv_iadd hx hb d_A_busyWith_44 ?_
          refine lv_istore (lv' := [(5, .int ((a2 + (r_4 * (M.1 0 x1 7))) + r_6)), (0, .ref (ad 4)), (1, .ref (ad (6 + x1.val))), (2, .int a2), (3, .int v3_7), (4, .int v4_7)]) hx hb d_A_busyWith_45 hl (by decide) rfl (fun ls hl => ?_)
          refine lv_iload hx hb d_A_busyWith_47 (lv_at hl 0 rfl) ?_
          refine lv_iload_n hx hb d_A_busyWith_49 rfl (lv_at hl 4 rfl) ?_
          refine lv_icmp_gt (tgt := 55) hx hb d_A_busyWith_50 (by decide) (fun c_7 => ?_) (fun c_7 => ?_)
          · rw [if_pos c_7] at hj
            refine lv_iload hx hb d_A_busyWith_55 (lv_at hl 0 rfl) ?_
            refine lv_istore_n (lv' := [(3, .int ((a2 + (r_4 * (M.1 0 x1 7))) + r_6)), (5, .int ((a2 + (r_4 * (M.1 0 x1 7))) + r_6)), (0, .ref (ad 4)), (1, .ref (ad (6 + x1.val))), (2, .int a2), (4, .int v4_7)]) hx hb d_A_busyWith_57 rfl hl (by decide) rfl (fun ls hl => ?_)
            refine lv_iinc (v := (v4_7 + 1)) (lv' := [(4, .int (v4_7 + 1)), (3, .int ((a2 + (r_4 * (M.1 0 x1 7))) + r_6)), (5, .int ((a2 + (r_4 * (M.1 0 x1 7))) + r_6)), (0, .ref (ad 4)), (1, .ref (ad (6 + x1.val))), (2, .int a2)]) hx hb d_A_busyWith_58 hl (k := 5) rfl rfl (by decide) rfl (fun ls hl => ?_)
            refine lv_goto (tgt := 7) hx hb d_A_busyWith_61 (by decide) ?_
            exact ih7 ((a2 + (r_4 * (M.1 0 x1 7))) + r_6) (v4_7 + 1) hj H locs hw ls (lv_sub hl [3, 4, 5, 1, 0] rfl)
          · rw [if_neg c_7] at hj
            refine lv_iload_n hx hb d_A_busyWith_53 rfl (lv_at hl 4 rfl) ?_
            exact hend H locs ls 54 _ _ (Option.some.inj hj) rfl hw d_A_busyWith_54
  unfold j_A_busyWith at hj
  refine lv_iload_n hx hb d_A_busyWith_0 rfl (lv_at hl 2 rfl) ?_
  refine lv_iconst (v := 1) hx hb d_A_busyWith_1 (by decide) ?_
  refine lv_iadd hx hb d_A_busyWith_2 ?_
  refine lv_istore_n (lv' := [(3, .int (a2 + 1)), (0, .ref (ad 4)), (1, .ref (ad (6 + x1.val))), (2, .int a2)]) hx hb d_A_busyWith_3 rfl hl (by decide) rfl (fun ls hl => ?_)
  refine lv_iconst (v := 0) hx hb d_A_busyWith_4 (by decide) ?_
  refine lv_istore (lv' := [(4, .int 0), (3, .int (a2 + 1)), (0, .ref (ad 4)), (1, .ref (ad (6 + x1.val))), (2, .int a2)]) hx hb d_A_busyWith_5 hl (by decide) rfl (fun ls hl => ?_)
  exact L7 n (a2 + 1) 0 hj H locs hw ls (lv_sub hl [2, 3, 4, 1, 0] rfl)
abbrev rm_T_lastSegment : Room := { frames := 0, cells := 0, slots := 0, locals := 0 }
def ws_T_lastSegment : List Cond := Cond.code y_T_lastSegment b_T_lastSegment 1 (some .int) :: wB
set_option maxHeartbeats 4000000 in
set_option maxRecDepth 100000 in
theorem c_T_lastSegment {l : Launch} {D : va_G} {cI cT : ClassId} {ad : Nat → Nat} {n : Nat} {M : MX} {x0 : Fin 8} {r0 : Int32} (hj : j_T_lastSegment n M x0 = some r0) : gw_Ci l y_T_lastSegment ws_T_lastSegment rm_T_lastSegment D (tyX cI cT) (wX cI cT ad M) [.ref (ad (6 + x0.val))] r0 (wX cI cT ad M) := by
  intro sz
  refine gw_meti (cc := b_T_lastSegment) (maxL := 1) (by decide) rfl (Nat.le_of_ble_eq_true rfl) ?_
  intro p e s m args below meth c A Q S H locs hw hend ls hl
  have S : CallFix p m c b_T_lastSegment 1 s args ws_T_lastSegment R_T := S
  have hx := S.1
  have hb := S.2.1
  have hts := S.2.2.2.2
  have hl : lv_has ls 1 [(0, .ref (ad (6 + x0.val)))] := hl
  have n_T_T : ∀ w ∈ u_ws R_T T_T 13, w ∈ ws_T_lastSegment := fun w h => List.mem_cons_of_mem _ (uT_T w h)
  have f_18 : Cond.fieldLink R_T 18 (T_T 2).1 (T_T 2).2.1 (T_T 2).2.2.1 ∈ ws_T_lastSegment := List.mem_cons_of_mem _ xw_49
  have f_44 : Cond.fieldLink R_T 44 (T_T 6).1 (T_T 6).2.1 (T_T 6).2.2.1 ∈ ws_T_lastSegment := List.mem_cons_of_mem _ xw_8
  unfold j_T_lastSegment at hj
  refine lv_aload_n hx hb d_T_lastSegment_0 rfl (lv_at hl 0 rfl) ?_
  refine gw_get (v := .int (M.1 0 x0 6)) S hw (xa_T x0) rfl (by decide) n_T_T f_44 rfl d_T_lastSegment_1 ?_
  refine lv_iconst (v := 1) hx hb d_T_lastSegment_4 (by decide) ?_
  refine lv_icmp_ge (tgt := 12) hx hb d_T_lastSegment_5 (by decide) (fun c_1 => ?_) (fun c_1 => ?_)
  · rw [if_pos c_1] at hj
    refine lv_aload_n hx hb d_T_lastSegment_12 rfl (lv_at hl 0 rfl) ?_
    refine gw_get (v := .ref (ad (22 + x0.val))) S hw (xa_T x0) rfl (by decide) n_T_T f_18 rfl d_T_lastSegment_13 ?_
    refine lv_aload_n hx hb d_T_lastSegment_16 rfl (lv_at hl 0 rfl) ?_
    refine gw_get (v := .int (M.1 0 x0 6)) S hw (xa_T x0) rfl (by decide) n_T_T f_44 rfl d_T_lastSegment_17 ?_
    refine lv_iconst (v := 1) hx hb d_T_lastSegment_20 (by decide) ?_
    refine lv_isub hx hb d_T_lastSegment_21 ?_
    obtain ⟨g_2, hj⟩ := gw_if hj
    refine gw_iald (t0 := 0) S hw ⟨xa_sg x0, rfl⟩ g_2 d_T_lastSegment_22 ?_
    exact hend H locs ls 23 _ _ (Option.some.inj hj) rfl hw d_T_lastSegment_23
  · rw [if_neg c_1] at hj
    refine lv_iconst (v := 0) hx hb d_T_lastSegment_8 (by decide) ?_
    refine lv_goto (tgt := 23) hx hb d_T_lastSegment_9 (by decide) ?_
    exact hend H locs ls 23 _ _ (Option.some.inj hj) rfl hw d_T_lastSegment_23
abbrev rm_A_lastBegin : Room := { frames := 2, cells := 0, slots := 0, locals := 46 }
def ws_A_lastBegin : List Cond := Cond.code y_A_lastBegin b_A_lastBegin 9 (some .int) :: wB
set_option maxHeartbeats 4000000 in
set_option maxRecDepth 100000 in
theorem c_A_lastBegin {l : Launch} {D : va_G} {cI cT : ClassId} {ad : Nat → Nat} {n : Nat} {M : MX} {x1 : Fin 8} {a2 : Int32} {a3 : Int32} {a4 : Int32} {r0 : Int32} (hj : j_A_lastBegin n M x1 a2 a3 a4 = some r0) : gw_Ci l y_A_lastBegin ws_A_lastBegin rm_A_lastBegin D (tyX cI cT) (wX cI cT ad M) [.ref (ad 4), .ref (ad (6 + x1.val)), .int a2, .int a3, .int a4] r0 (wX cI cT ad M) := by
  intro sz
  refine gw_meti (cc := b_A_lastBegin) (maxL := 9) (by decide) rfl (Nat.le_of_ble_eq_true rfl) ?_
  intro p e s m args below meth c A Q S H locs hw hend ls hl
  have S : CallFix p m c b_A_lastBegin 9 s args ws_A_lastBegin R_A := S
  have hx := S.1
  have hb := S.2.1
  have hts := S.2.2.2.2
  have hl : lv_has ls 9 [(0, .ref (ad 4)), (1, .ref (ad (6 + x1.val))), (2, .int a2), (3, .int a3), (4, .int a4)] := hl
  have n_T_T : ∀ w ∈ u_ws R_T T_T 13, w ∈ ws_A_lastBegin := fun w h => List.mem_cons_of_mem _ (uT_T w h)
  have f_82 : Cond.fieldLink R_A 82 (T_T 7).1 (T_T 7).2.1 (T_T 7).2.2.1 ∈ ws_A_lastBegin := List.mem_cons_of_mem _ xw_117
  have w_68 : CallW rm_A_lastBegin s args R_A R_T 68 y_T_lastSegment b_T_lastSegment 1 (some .int) ws_T_lastSegment rm_T_lastSegment 0 0 0 := cwV 0 hts (wB_callV (fun w h => List.mem_cons_of_mem _ h) xw_128 xw_129 xw_130 xw_131 xw_21) rfl rfl rfl (by decide +kernel) ⟨Nat.le_of_ble_eq_true rfl, Nat.le_of_ble_eq_true rfl⟩
  have w_136 : CallW rm_A_lastBegin s args R_A R_A 136 y_A_higherWorkBy b_A_higherWorkBy 6 (some .int) ws_A_higherWorkBy rm_A_higherWorkBy 0 0 2 := cwV 2 hts (wB_callV (fun w h => List.mem_cons_of_mem _ h) xw_123 xw_124 xw_125 xw_126 xw_127) rfl rfl rfl (by decide +kernel) ⟨Nat.le_of_ble_eq_true rfl, Nat.le_of_ble_eq_true rfl⟩
  have L24 : ∀ (z5_24 : Int32) (f24 : Nat) (v6_24 : Int32) (v7_24 : Int32), j_A_lastBegin_L24 n M x1 a2 a3 a4 z5_24 f24 v6_24 v7_24 = some r0 → ∀ (H : Heap) (locs : List Loc), gw_W D (tyX cI cT) A (wX cI cT ad M) s H locs → ∀ ls : Array Slot, lv_has ls 9 [(0, .ref (ad 4)), (1, .ref (ad (6 + x1.val))), (2, .int a2), (3, .int a3), (4, .int a4), (5, .int z5_24), (6, .int v6_24), (7, .int v7_24)] → W p l e rm_A_lastBegin s m args below meth c H locs 0 0 Q (F0 m 24 ls []) := by
    intro z5_24 f24
    induction f24 with
    | zero =>
      intro v6_24 v7_24 hj
      exact nomatch (show (none : Option Int32) = some r0 from hj)
    | succ f24 ih24 =>
      intro v6_24 v7_24 hj H locs hw ls hl
      rw [j_A_lastBegin_L24] at hj
      refine lv_iload hx hb d_A_lastBegin_24 (lv_at hl 7 rfl) ?_
      refine lv_sipush (v := 20000) hx hb d_A_lastBegin_26 (by decide) ?_
      refine lv_icmp_gt (tgt := 64) hx hb d_A_lastBegin_29 (by decide) (fun c_3 => ?_) (fun c_3 => ?_)
      · rw [if_pos c_3] at hj
        refine lv_iload hx hb d_A_lastBegin_64 (lv_at hl 6 rfl) ?_
        exact hend H locs ls 66 _ _ (Option.some.inj hj) rfl hw d_A_lastBegin_66
      · rw [if_neg c_3] at hj
        refine lv_iload hx hb d_A_lastBegin_32 (lv_at hl 5 rfl) ?_
        refine lv_aload_n hx hb d_A_lastBegin_34 rfl (lv_at hl 0 rfl) ?_
        refine lv_aload_n hx hb d_A_lastBegin_35 rfl (lv_at hl 1 rfl) ?_
        refine lv_iload hx hb d_A_lastBegin_36 (lv_at hl 6 rfl) ?_
        obtain ⟨r_5, e_4, hj⟩ := Option.bind_eq_some_iff.mp hj
        refine gw_calli (As := [.ref (ad (6 + x1.val)), .int v6_24]) (rest := [.int z5_24]) S hw (c_A_higherWorkBy e_4) w_136 xa_A rfl rfl hl.1 rfl (Nat.le_of_ble_eq_true rfl) d_A_lastBegin_38 (fun H locs hw => ?_)
        refine lv_iadd hx hb d_A_lastBegin_41 ?_
        refine lv_istore (lv' := [(8, .int (z5_24 + r_5)), (0, .ref (ad 4)), (1, .ref (ad (6 + x1.val))), (2, .int a2), (3, .int a3), (4, .int a4), (5, .int z5_24), (6, .int v6_24), (7, .int v7_24)]) hx hb d_A_lastBegin_42 hl (by decide) rfl (fun ls hl => ?_)
        refine lv_iload hx hb d_A_lastBegin_44 (lv_at hl 0 rfl) ?_
        refine lv_iload hx hb d_A_lastBegin_46 (lv_at hl 7 rfl) ?_
        refine lv_icmp_gt (tgt := 54) hx hb d_A_lastBegin_48 (by decide) (fun c_6 => ?_) (fun c_6 => ?_)
        · rw [if_pos c_6] at hj
          refine lv_iload hx hb d_A_lastBegin_54 (lv_at hl 0 rfl) ?_
          refine lv_istore (lv' := [(6, .int (z5_24 + r_5)), (8, .int (z5_24 + r_5)), (0, .ref (ad 4)), (1, .ref (ad (6 + x1.val))), (2, .int a2), (3, .int a3), (4, .int a4), (5, .int z5_24), (7, .int v7_24)]) hx hb d_A_lastBegin_56 hl (by decide) rfl (fun ls hl => ?_)
          refine lv_iinc (v := (v7_24 + 1)) (lv' := [(7, .int (v7_24 + 1)), (6, .int (z5_24 + r_5)), (8, .int (z5_24 + r_5)), (0, .ref (ad 4)), (1, .ref (ad (6 + x1.val))), (2, .int a2), (3, .int a3), (4, .int a4), (5, .int z5_24)]) hx hb d_A_lastBegin_58 hl (k := 8) rfl rfl (by decide) rfl (fun ls hl => ?_)
          refine lv_goto (tgt := 24) hx hb d_A_lastBegin_61 (by decide) ?_
          exact ih24 (z5_24 + r_5) (v7_24 + 1) hj H locs hw ls (lv_sub hl [3, 4, 5, 6, 7, 8, 1, 0] rfl)
        · rw [if_neg c_6] at hj
          refine lv_iload hx hb d_A_lastBegin_51 (lv_at hl 7 rfl) ?_
          exact hend H locs ls 53 _ _ (Option.some.inj hj) rfl hw d_A_lastBegin_53
  unfold j_A_lastBegin at hj
  refine lv_iload_n hx hb d_A_lastBegin_0 rfl (lv_at hl 2 rfl) ?_
  refine lv_iload_n hx hb d_A_lastBegin_1 rfl (lv_at hl 3 rfl) ?_
  refine lv_iconst (v := 1) hx hb d_A_lastBegin_2 (by decide) ?_
  refine lv_iadd hx hb d_A_lastBegin_3 ?_
  refine lv_aload_n hx hb d_A_lastBegin_4 rfl (lv_at hl 1 rfl) ?_
  refine gw_get (v := .int (M.1 0 x1 7)) S hw (xa_T x1) rfl (by decide) n_T_T f_82 rfl d_A_lastBegin_5 ?_
  refine lv_imul hx hb d_A_lastBegin_8 ?_
  refine lv_iadd hx hb d_A_lastBegin_9 ?_
  refine lv_aload_n hx hb d_A_lastBegin_10 rfl (lv_at hl 1 rfl) ?_
  obtain ⟨r_2, e_1, hj⟩ := Option.bind_eq_some_iff.mp hj
  refine gw_calli (As := []) (rest := [.int (a2 + ((a3 + 1) * (M.1 0 x1 7)))]) S hw (c_T_lastSegment e_1) w_68 (xa_T x1) rfl rfl hl.1 rfl (Nat.le_of_ble_eq_true rfl) d_A_lastBegin_11 (fun H locs hw => ?_)
  refine lv_isub hx hb d_A_lastBegin_14 ?_
  refine lv_istore (lv' := [(5, .int ((a2 + ((a3 + 1) * (M.1 0 x1 7))) - r_2)), (0, .ref (ad 4)), (1, .ref (ad (6 + x1.val))), (2, .int a2), (3, .int a3), (4, .int a4)]) hx hb d_A_lastBegin_15 hl (by decide) rfl (fun ls hl => ?_)
  refine lv_iload hx hb d_A_lastBegin_17 (lv_at hl 5 rfl) ?_
  refine lv_istore (lv' := [(6, .int a4), (5, .int ((a2 + ((a3 + 1) * (M.1 0 x1 7))) - r_2)), (0, .ref (ad 4)), (1, .ref (ad (6 + x1.val))), (2, .int a2), (3, .int a3), (4, .int a4)]) hx hb d_A_lastBegin_19 hl (by decide) rfl (fun ls hl => ?_)
  refine lv_iconst (v := 0) hx hb d_A_lastBegin_21 (by decide) ?_
  refine lv_istore (lv' := [(7, .int 0), (6, .int a4), (5, .int ((a2 + ((a3 + 1) * (M.1 0 x1 7))) - r_2)), (0, .ref (ad 4)), (1, .ref (ad (6 + x1.val))), (2, .int a2), (3, .int a3), (4, .int a4)]) hx hb d_A_lastBegin_22 hl (by decide) rfl (fun ls hl => ?_)
  exact L24 ((a2 + ((a3 + 1) * (M.1 0 x1 7))) - r_2) n a4 0 hj H locs hw ls (lv_sub hl [3, 4, 5, 6, 7, 2, 1, 0] rfl)
abbrev rm_A_greatestWith : Room := { frames := 3, cells := 0, slots := 0, locals := 74 }
def ws_A_greatestWith : List Cond := Cond.code y_A_greatestWith b_A_greatestWith 8 (some .int) :: wB
set_option maxHeartbeats 4000000 in
set_option maxRecDepth 100000 in
theorem c_A_greatestWith {l : Launch} {D : va_G} {cI cT : ClassId} {ad : Nat → Nat} {n : Nat} {M : MX} {x1 : Fin 8} {a2 : Int32} {r0 : Int32} {M0 : MX} (hj : j_A_greatestWith n M x1 a2 = some (r0, M0)) : gw_Ci l y_A_greatestWith ws_A_greatestWith rm_A_greatestWith D (tyX cI cT) (wX cI cT ad M) [.ref (ad 4), .ref (ad (6 + x1.val)), .int a2] r0 (wX cI cT ad M0) := by
  intro sz
  refine gw_meti (cc := b_A_greatestWith) (maxL := 8) (by decide) rfl (Nat.le_of_ble_eq_true rfl) ?_
  intro p e s m args below meth c A Q S H locs hw hend ls hl
  have S : CallFix p m c b_A_greatestWith 8 s args ws_A_greatestWith R_A := S
  have hx := S.1
  have hb := S.2.1
  have hts := S.2.2.2.2
  have hl : lv_has ls 8 [(0, .ref (ad 4)), (1, .ref (ad (6 + x1.val))), (2, .int a2)] := hl
  have n_T_A : ∀ w ∈ u_ws R_A T_A 3, w ∈ ws_A_greatestWith := fun w h => List.mem_cons_of_mem _ (uT_A w h)
  have n_T_T : ∀ w ∈ u_ws R_T T_T 13, w ∈ ws_A_greatestWith := fun w h => List.mem_cons_of_mem _ (uT_T w h)
  have f_31 : Cond.fieldLink R_A 31 (T_A 1).1 (T_A 1).2.1 (T_A 1).2.2.1 ∈ ws_A_greatestWith := List.mem_cons_of_mem _ xw_132
  have f_37 : Cond.fieldLink R_A 37 (T_A 2).1 (T_A 2).2.1 (T_A 2).2.2.1 ∈ ws_A_greatestWith := List.mem_cons_of_mem _ xw_133
  have f_72 : Cond.fieldLink R_A 72 (T_T 3).1 (T_T 3).2.1 (T_T 3).2.2.1 ∈ ws_A_greatestWith := List.mem_cons_of_mem _ xw_134
  have k_81 := hts _ (List.mem_cons_of_mem _ xw_135)
  have w_64 : CallW rm_A_greatestWith s args R_A R_A 64 y_A_lastBegin b_A_lastBegin 9 (some .int) ws_A_lastBegin rm_A_lastBegin 0 0 4 := cwV 4 hts (wB_callV (fun w h => List.mem_cons_of_mem _ h) xw_136 xw_137 xw_138 xw_139 xw_127) rfl rfl rfl (by decide +kernel) ⟨Nat.le_of_ble_eq_true rfl, Nat.le_of_ble_eq_true rfl⟩
  have w_68 : CallW rm_A_greatestWith s args R_A R_T 68 y_T_lastSegment b_T_lastSegment 1 (some .int) ws_T_lastSegment rm_T_lastSegment 0 0 0 := cwV 0 hts (wB_callV (fun w h => List.mem_cons_of_mem _ h) xw_128 xw_129 xw_130 xw_131 xw_21) rfl rfl rfl (by decide +kernel) ⟨Nat.le_of_ble_eq_true rfl, Nat.le_of_ble_eq_true rfl⟩
  have w_124 : CallW rm_A_greatestWith s args R_A R_T 124 y_T_arrivalsBy b_T_arrivalsBy 2 (some .int) ws_T_arrivalsBy rm_T_arrivalsBy 0 0 1 := cwV 1 hts (wB_callV (fun w h => List.mem_cons_of_mem _ h) xw_119 xw_120 xw_121 xw_122 xw_21) rfl rfl rfl (by decide +kernel) ⟨Nat.le_of_ble_eq_true rfl, Nat.le_of_ble_eq_true rfl⟩
  have w_133 : CallW rm_A_greatestWith s args R_A R_A 133 y_A_busyWith b_A_busyWith 6 (some .int) ws_A_busyWith rm_A_busyWith 0 0 2 := cwV 2 hts (wB_callV (fun w h => List.mem_cons_of_mem _ h) xw_140 xw_141 xw_142 xw_143 xw_127) rfl rfl rfl (by decide +kernel) ⟨Nat.le_of_ble_eq_true rfl, Nat.le_of_ble_eq_true rfl⟩
  have L43 : ∀ (z3_43 : Int32) (f43 : Nat) (v4_43 : Int32) (v5_43 : Int32) (v6_43 : Int32) (M43 : MX), j_A_greatestWith_L43 n x1 a2 z3_43 f43 v4_43 v5_43 v6_43 M43 = some (r0, M0) → ∀ (H : Heap) (locs : List Loc), gw_W D (tyX cI cT) A (wX cI cT ad M43) s H locs → ∀ ls : Array Slot, lv_has ls 8 [(0, .ref (ad 4)), (1, .ref (ad (6 + x1.val))), (2, .int a2), (3, .int z3_43), (4, .int v4_43), (5, .int v5_43), (6, .int v6_43)] → W p l e rm_A_greatestWith s m args below meth c H locs 0 0 Q (F0 m 43 ls []) := by
    intro z3_43 f43
    induction f43 with
    | zero =>
      intro v4_43 v5_43 v6_43 M43 hj
      exact nomatch (show (none : Option (Int32 × MX)) = some (r0, M0) from hj)
    | succ f43 ih43 =>
      intro v4_43 v5_43 v6_43 M43 hj H locs hw ls hl
      rw [j_A_greatestWith_L43] at hj
      refine lv_iload hx hb d_A_greatestWith_43 (lv_at hl 6 rfl) ?_
      refine lv_aload_n hx hb d_A_greatestWith_45 rfl (lv_at hl 0 rfl) ?_
      refine gw_get (v := .int (M43.2.1 1 2)) S hw xa_A rfl (by decide) n_T_A f_37 rfl d_A_greatestWith_46 ?_
      refine lv_icmp_ge (tgt := 104) hx hb d_A_greatestWith_49 (by decide) (fun c_6 => ?_) (fun c_6 => ?_)
      · rw [if_pos c_6] at hj
        refine lv_aload_n hx hb d_A_greatestWith_104 rfl (lv_at hl 0 rfl) ?_
        refine gw_get (v := .int (M43.2.1 1 2)) S hw xa_A rfl (by decide) n_T_A f_37 rfl d_A_greatestWith_105 ?_
        refine lv_if_ne (tgt := 116) hx hb d_A_greatestWith_108 (by decide) (fun c_7 => ?_) (fun c_7 => ?_)
        · rw [if_neg c_7] at hj
          refine lv_iload hx hb d_A_greatestWith_116 (lv_at hl 4 rfl) ?_
          exact hend H locs ls 118 _ _ (Prod.mk.inj (Option.some.inj hj)).1 (congrArg (wX cI cT ad) (Prod.mk.inj (Option.some.inj hj)).2) hw d_A_greatestWith_118
        · rw [if_pos c_7] at hj
          refine lv_ldc (v := 1000000000) hx hb S.2.2.2.1 k_81 d_A_greatestWith_111 ?_
          refine lv_goto (tgt := 118) hx hb d_A_greatestWith_113 (by decide) ?_
          exact hend H locs ls 118 _ _ (Prod.mk.inj (Option.some.inj hj)).1 (congrArg (wX cI cT ad) (Prod.mk.inj (Option.some.inj hj)).2) hw d_A_greatestWith_118
      · rw [if_neg c_6] at hj
        refine lv_aload_n hx hb d_A_greatestWith_52 rfl (lv_at hl 0 rfl) ?_
        refine lv_aload_n hx hb d_A_greatestWith_53 rfl (lv_at hl 1 rfl) ?_
        refine lv_iload_n hx hb d_A_greatestWith_54 rfl (lv_at hl 2 rfl) ?_
        refine lv_iload hx hb d_A_greatestWith_55 (lv_at hl 6 rfl) ?_
        refine lv_iload hx hb d_A_greatestWith_57 (lv_at hl 5 rfl) ?_
        obtain ⟨r_9, e_8, hj⟩ := Option.bind_eq_some_iff.mp hj
        refine gw_calli (As := [.ref (ad (6 + x1.val)), .int a2, .int v6_43, .int v5_43]) (rest := []) S hw (c_A_lastBegin e_8) w_64 xa_A rfl rfl hl.1 rfl (Nat.le_of_ble_eq_true rfl) d_A_greatestWith_59 (fun H locs hw => ?_)
        refine lv_istore (lv' := [(5, .int r_9), (0, .ref (ad 4)), (1, .ref (ad (6 + x1.val))), (2, .int a2), (3, .int z3_43), (4, .int v4_43), (6, .int v6_43)]) hx hb d_A_greatestWith_62 hl (by decide) rfl (fun ls hl => ?_)
        refine lv_iload hx hb d_A_greatestWith_64 (lv_at hl 0 rfl) ?_
        refine lv_aload_n hx hb d_A_greatestWith_66 rfl (lv_at hl 2 rfl) ?_
        obtain ⟨r_11, e_10, hj⟩ := Option.bind_eq_some_iff.mp hj
        refine gw_calli (As := []) (rest := [.int r_9]) S hw (c_T_lastSegment e_10) w_68 (xa_T x1) rfl rfl hl.1 rfl (Nat.le_of_ble_eq_true rfl) d_A_greatestWith_67 (fun H locs hw => ?_)
        refine lv_iadd hx hb d_A_greatestWith_70 ?_
        refine lv_iload hx hb d_A_greatestWith_71 (lv_at hl 6 rfl) ?_
        refine lv_aload_n hx hb d_A_greatestWith_73 rfl (lv_at hl 2 rfl) ?_
        refine gw_get (v := .int (M43.1 0 x1 3)) S hw (xa_T x1) rfl (by decide) n_T_T f_72 rfl d_A_greatestWith_74 ?_
        refine lv_imul hx hb d_A_greatestWith_77 ?_
        refine lv_isub hx hb d_A_greatestWith_78 ?_
        refine lv_istore (lv' := [(7, .int ((r_9 + r_11) - (v6_43 * (M43.1 0 x1 3)))), (5, .int r_9), (0, .ref (ad 4)), (1, .ref (ad (6 + x1.val))), (2, .int a2), (3, .int z3_43), (4, .int v4_43), (6, .int v6_43)]) hx hb d_A_greatestWith_79 hl (by decide) rfl (fun ls hl => ?_)
        refine lv_iload hx hb d_A_greatestWith_81 (lv_at hl 0 rfl) ?_
        refine lv_iload hx hb d_A_greatestWith_83 (lv_at hl 6 rfl) ?_
        refine lv_icmp_le (tgt := 98) hx hb d_A_greatestWith_85 (by decide) (fun c_12 => ?_) (fun c_12 => ?_)
        · rw [if_pos c_12] at hj
          refine lv_iinc (v := (v6_43 + 1)) (lv' := [(6, .int (v6_43 + 1)), (7, .int ((r_9 + r_11) - (v6_43 * (M43.1 0 x1 3)))), (5, .int r_9), (0, .ref (ad 4)), (1, .ref (ad (6 + x1.val))), (2, .int a2), (3, .int z3_43), (4, .int v4_43)]) hx hb d_A_greatestWith_98 hl (k := 7) rfl rfl (by decide) rfl (fun ls hl => ?_)
          refine lv_goto (tgt := 43) hx hb d_A_greatestWith_101 (by decide) ?_
          exact ih43 v4_43 r_9 (v6_43 + 1) M43 hj H locs hw ls (lv_sub hl [3, 4, 5, 6, 7, 2, 0] rfl)
        · rw [if_neg c_12] at hj
          refine lv_iload hx hb d_A_greatestWith_88 (lv_at hl 0 rfl) ?_
          refine lv_istore (lv' := [(4, .int ((r_9 + r_11) - (v6_43 * (M43.1 0 x1 3)))), (7, .int ((r_9 + r_11) - (v6_43 * (M43.1 0 x1 3)))), (5, .int r_9), (0, .ref (ad 4)), (1, .ref (ad (6 + x1.val))), (2, .int a2), (3, .int z3_43), (6, .int v6_43)]) hx hb d_A_greatestWith_90 hl (by decide) rfl (fun ls hl => ?_)
          refine lv_aload_n hx hb d_A_greatestWith_92 rfl (lv_at hl 3 rfl) ?_
          refine lv_iload hx hb d_A_greatestWith_93 (lv_at hl 7 rfl) ?_
          refine gw_put (v := .int v6_43) (ty := .int) S hw xa_A rfl (by decide) n_T_A f_31 tk_A nm_A rfl (by decide +kernel) rfl rfl (Nat.le_of_ble_eq_true rfl) (xs_A 1 v6_43 (by decide)) d_A_greatestWith_95 (fun H locs hw => ?_)
          refine lv_iinc (v := (v6_43 + 1)) (lv' := [(6, .int (v6_43 + 1)), (4, .int ((r_9 + r_11) - (v6_43 * (M43.1 0 x1 3)))), (7, .int ((r_9 + r_11) - (v6_43 * (M43.1 0 x1 3)))), (5, .int r_9), (0, .ref (ad 4)), (1, .ref (ad (6 + x1.val))), (2, .int a2), (3, .int z3_43)]) hx hb d_A_greatestWith_98 hl (k := 7) rfl rfl (by decide) rfl (fun ls hl => ?_)
          refine lv_goto (tgt := 43) hx hb d_A_greatestWith_101 (by decide) ?_
          exact ih43 ((r_9 + r_11) - (v6_43 * (M43.1 0 x1 3))) r_9 (v6_43 + 1) (sG M43 1 1 v6_43) hj H locs hw ls (lv_sub hl [4, 5, 6, 7, 1, 3, 0] rfl)
  unfold j_A_greatestWith at hj
  refine lv_aload_n hx hb d_A_greatestWith_0 rfl (lv_at hl 0 rfl) ?_
  refine lv_aload_n hx hb d_A_greatestWith_1 rfl (lv_at hl 1 rfl) ?_
  refine lv_iload_n hx hb d_A_greatestWith_2 rfl (lv_at hl 2 rfl) ?_
  obtain ⟨r_2, e_1, hj⟩ := Option.bind_eq_some_iff.mp hj
  refine gw_calli (As := [.ref (ad (6 + x1.val)), .int a2]) (rest := []) S hw (c_A_busyWith e_1) w_133 xa_A rfl rfl hl.1 rfl (Nat.le_of_ble_eq_true rfl) d_A_greatestWith_3 (fun H locs hw => ?_)
  refine lv_istore_n (lv' := [(3, .int r_2), (0, .ref (ad 4)), (1, .ref (ad (6 + x1.val))), (2, .int a2)]) hx hb d_A_greatestWith_6 rfl hl (by decide) rfl (fun ls hl => ?_)
  refine lv_iconst (v := 0) hx hb d_A_greatestWith_7 (by decide) ?_
  refine lv_istore (lv' := [(4, .int 0), (3, .int r_2), (0, .ref (ad 4)), (1, .ref (ad (6 + x1.val))), (2, .int a2)]) hx hb d_A_greatestWith_8 hl (by decide) rfl (fun ls hl => ?_)
  refine lv_iconst (v := 0) hx hb d_A_greatestWith_10 (by decide) ?_
  refine lv_istore (lv' := [(5, .int 0), (4, .int 0), (3, .int r_2), (0, .ref (ad 4)), (1, .ref (ad (6 + x1.val))), (2, .int a2)]) hx hb d_A_greatestWith_11 hl (by decide) rfl (fun ls hl => ?_)
  refine lv_aload_n hx hb d_A_greatestWith_13 rfl (lv_at hl 3 rfl) ?_
  refine lv_iconst (v := 0) hx hb d_A_greatestWith_14 (by decide) ?_
  refine gw_put (v := .int 0) (ty := .int) S hw xa_A rfl (by decide) n_T_A f_31 tk_A nm_A rfl (by decide +kernel) rfl rfl (Nat.le_of_ble_eq_true rfl) (xs_A 1 0 (by decide)) d_A_greatestWith_15 (fun H locs hw => ?_)
  refine lv_aload_n hx hb d_A_greatestWith_18 rfl (lv_at hl 3 rfl) ?_
  refine lv_iload_n hx hb d_A_greatestWith_19 rfl (lv_at hl 2 rfl) ?_
  refine lv_sipush (v := 20000) hx hb d_A_greatestWith_20 (by decide) ?_
  refine lv_icmp_le (tgt := 30) hx hb d_A_greatestWith_23 (by decide) (fun c_3 => ?_) (fun c_3 => ?_)
  · rw [if_pos c_3] at hj
    refine lv_aload_n hx hb d_A_greatestWith_30 rfl (lv_at hl 4 rfl) ?_
    refine lv_iload_n hx hb d_A_greatestWith_31 rfl (lv_at hl 2 rfl) ?_
    refine lv_iconst (v := 1) hx hb d_A_greatestWith_32 (by decide) ?_
    refine lv_isub hx hb d_A_greatestWith_33 ?_
    obtain ⟨r_5, e_4, hj⟩ := Option.bind_eq_some_iff.mp hj
    refine gw_calli (As := [.int (r_2 - 1)]) (rest := [.ref (ad 4)]) S hw (c_T_arrivalsBy e_4) w_124 (xa_T x1) rfl rfl hl.1 rfl (Nat.le_of_ble_eq_true rfl) d_A_greatestWith_34 (fun H locs hw => ?_)
    refine gw_put (v := .int r_5) (ty := .int) S hw xa_A rfl (by decide) n_T_A f_37 tk_A nm_A rfl (by decide +kernel) rfl rfl (Nat.le_of_ble_eq_true rfl) (xs_A 2 r_5 (by decide)) d_A_greatestWith_37 (fun H locs hw => ?_)
    refine lv_iconst (v := 0) hx hb d_A_greatestWith_40 (by decide) ?_
    refine lv_istore (lv' := [(6, .int 0), (5, .int 0), (4, .int 0), (3, .int r_2), (0, .ref (ad 4)), (1, .ref (ad (6 + x1.val))), (2, .int a2)]) hx hb d_A_greatestWith_41 hl (by decide) rfl (fun ls hl => ?_)
    exact L43 r_2 n 0 0 0 (sG (sG M 1 1 0) 1 2 r_5) hj H locs hw ls (lv_sub hl [4, 5, 6, 3, 2, 1, 0] rfl)
  · rw [if_neg c_3] at hj
    refine lv_iconst (v := 0) hx hb d_A_greatestWith_26 (by decide) ?_
    refine lv_goto (tgt := 37) hx hb d_A_greatestWith_27 (by decide) ?_
    refine gw_put (v := .int 0) (ty := .int) S hw xa_A rfl (by decide) n_T_A f_37 tk_A nm_A rfl (by decide +kernel) rfl rfl (Nat.le_of_ble_eq_true rfl) (xs_A 2 0 (by decide)) d_A_greatestWith_37 (fun H locs hw => ?_)
    refine lv_iconst (v := 0) hx hb d_A_greatestWith_40 (by decide) ?_
    refine lv_istore (lv' := [(6, .int 0), (5, .int 0), (4, .int 0), (3, .int r_2), (0, .ref (ad 4)), (1, .ref (ad (6 + x1.val))), (2, .int a2)]) hx hb d_A_greatestWith_41 hl (by decide) rfl (fun ls hl => ?_)
    exact L43 r_2 n 0 0 0 (sG (sG M 1 1 0) 1 2 0) hj H locs hw ls (lv_sub hl [4, 5, 6, 3, 2, 1, 0] rfl)
abbrev rm_A_survey : Room := { frames := 4, cells := 0, slots := 0, locals := 101 }
def ws_A_survey : List Cond := Cond.code y_A_survey b_A_survey 2 none :: wB
set_option maxHeartbeats 4000000 in
set_option maxRecDepth 100000 in
theorem c_A_survey {l : Launch} {D : va_G} {cI cT : ClassId} {ad : Nat → Nat} {n : Nat} {M : MX} {x1 : Fin 8} {M0 : MX} (hj : j_A_survey n M x1 = some M0) : gw_Cv l y_A_survey ws_A_survey rm_A_survey D (tyX cI cT) (wX cI cT ad M) [.ref (ad 4), .ref (ad (6 + x1.val))] (wX cI cT ad M0) := by
  intro sz
  refine gw_metv (cc := b_A_survey) (maxL := 2) (by decide) rfl (Nat.le_of_ble_eq_true rfl) ?_
  intro p e s m args below meth c A Q S H locs hw hend ls hl
  have S : CallFix p m c b_A_survey 2 s args ws_A_survey R_A := S
  have hx := S.1
  have hb := S.2.1
  have hts := S.2.2.2.2
  have hl : lv_has ls 2 [(0, .ref (ad 4)), (1, .ref (ad (6 + x1.val)))] := hl
  have n_T_A : ∀ w ∈ u_ws R_A T_A 3, w ∈ ws_A_survey := fun w h => List.mem_cons_of_mem _ (uT_A w h)
  have n_T_T : ∀ w ∈ u_ws R_T T_T 13, w ∈ ws_A_survey := fun w h => List.mem_cons_of_mem _ (uT_T w h)
  have f_9 : Cond.fieldLink R_A 9 (T_A 0).1 (T_A 0).2.1 (T_A 0).2.2.1 ∈ ws_A_survey := List.mem_cons_of_mem _ xw_115
  have f_15 : Cond.fieldLink R_A 15 (T_T 9).1 (T_T 9).2.1 (T_T 9).2.2.1 ∈ ws_A_survey := List.mem_cons_of_mem _ xw_144
  have f_31 : Cond.fieldLink R_A 31 (T_A 1).1 (T_A 1).2.1 (T_A 1).2.2.1 ∈ ws_A_survey := List.mem_cons_of_mem _ xw_132
  have f_34 : Cond.fieldLink R_A 34 (T_T 10).1 (T_T 10).2.1 (T_T 10).2.2.1 ∈ ws_A_survey := List.mem_cons_of_mem _ xw_145
  have f_37 : Cond.fieldLink R_A 37 (T_A 2).1 (T_A 2).2.1 (T_A 2).2.2.1 ∈ ws_A_survey := List.mem_cons_of_mem _ xw_133
  have f_40 : Cond.fieldLink R_A 40 (T_T 11).1 (T_T 11).2.1 (T_T 11).2.2.1 ∈ ws_A_survey := List.mem_cons_of_mem _ xw_146
  have w_21 : CallW rm_A_survey s args R_A R_S 21 y_S_blockingOf b_S_blockingOf 2 (some .int) ws_S_blockingOf rm_S_blockingOf 0 0 1 := cwV 1 hts (wB_callV (fun w h => List.mem_cons_of_mem _ h) xw_106 xw_147 xw_108 xw_109 xw_14) rfl rfl rfl (by decide +kernel) ⟨Nat.le_of_ble_eq_true rfl, Nat.le_of_ble_eq_true rfl⟩
  have w_27 : CallW rm_A_survey s args R_A R_A 27 y_A_greatestWith b_A_greatestWith 8 (some .int) ws_A_greatestWith rm_A_greatestWith 0 0 2 := cwV 2 hts (wB_callV (fun w h => List.mem_cons_of_mem _ h) xw_148 xw_149 xw_150 xw_151 xw_127) rfl rfl rfl (by decide +kernel) ⟨Nat.le_of_ble_eq_true rfl, Nat.le_of_ble_eq_true rfl⟩
  unfold j_A_survey at hj
  refine lv_aload_n hx hb d_A_survey_0 rfl (lv_at hl 1 rfl) ?_
  refine gw_get (v := .int (M.1 0 x1 9)) S hw (xa_T x1) rfl (by decide) n_T_T f_15 rfl d_A_survey_1 ?_
  refine lv_bipush (v := -2) hx hb d_A_survey_4 (by decide) ?_
  refine lv_icmp_eq (tgt := 10) hx hb d_A_survey_6 (by decide) (fun c_1 => ?_) (fun c_1 => ?_)
  · rw [if_pos c_1] at hj
    refine lv_aload_n hx hb d_A_survey_10 rfl (lv_at hl 1 rfl) ?_
    refine lv_aload_n hx hb d_A_survey_11 rfl (lv_at hl 0 rfl) ?_
    refine lv_aload_n hx hb d_A_survey_12 rfl (lv_at hl 1 rfl) ?_
    refine lv_aload_n hx hb d_A_survey_13 rfl (lv_at hl 0 rfl) ?_
    refine gw_get (v := .ref (ad 1)) S hw xa_A rfl (by decide) n_T_A f_9 rfl d_A_survey_14 ?_
    refine lv_aload_n hx hb d_A_survey_17 rfl (lv_at hl 1 rfl) ?_
    obtain ⟨r_3, e_2, hj⟩ := Option.bind_eq_some_iff.mp hj
    refine gw_calli (As := [.ref (ad (6 + x1.val))]) (rest := [.ref (ad (6 + x1.val)), .ref (ad 4), .ref (ad (6 + x1.val))]) S hw (c_S_blockingOf e_2) w_21 xa_S rfl rfl hl.1 rfl (Nat.le_of_ble_eq_true rfl) d_A_survey_18 (fun H locs hw => ?_)
    obtain ⟨q_5, e_4, hj⟩ := Option.bind_eq_some_iff.mp hj
    refine gw_calli (As := [.ref (ad (6 + x1.val)), .int r_3]) (rest := [.ref (ad (6 + x1.val))]) S hw (c_A_greatestWith e_4) w_27 xa_A rfl rfl hl.1 rfl (Nat.le_of_ble_eq_true rfl) d_A_survey_21 (fun H locs hw => ?_)
    refine gw_put (v := .int q_5.1) (ty := .int) S hw (xa_T x1) rfl (by decide) n_T_T f_15 tk_T nm_T rfl (by decide +kernel) rfl rfl (Nat.le_of_ble_eq_true rfl) (xs_T x1 9 q_5.1 (by decide)) d_A_survey_24 (fun H locs hw => ?_)
    refine lv_aload_n hx hb d_A_survey_27 rfl (lv_at hl 1 rfl) ?_
    refine lv_aload_n hx hb d_A_survey_28 rfl (lv_at hl 0 rfl) ?_
    refine gw_get (v := .int ((sF q_5.2 0 x1 9 q_5.1).2.1 1 1)) S hw xa_A rfl (by decide) n_T_A f_31 rfl d_A_survey_29 ?_
    refine gw_put (v := .int ((sF q_5.2 0 x1 9 q_5.1).2.1 1 1)) (ty := .int) S hw (xa_T x1) rfl (by decide) n_T_T f_34 tk_T nm_T rfl (by decide +kernel) rfl rfl (Nat.le_of_ble_eq_true rfl) (xs_T x1 10 ((sF q_5.2 0 x1 9 q_5.1).2.1 1 1) (by decide)) d_A_survey_32 (fun H locs hw => ?_)
    refine lv_aload_n hx hb d_A_survey_35 rfl (lv_at hl 1 rfl) ?_
    refine lv_aload_n hx hb d_A_survey_36 rfl (lv_at hl 0 rfl) ?_
    refine gw_get (v := .int ((sF (sF q_5.2 0 x1 9 q_5.1) 0 x1 10 ((sF q_5.2 0 x1 9 q_5.1).2.1 1 1)).2.1 1 2)) S hw xa_A rfl (by decide) n_T_A f_37 rfl d_A_survey_37 ?_
    refine gw_put (v := .int ((sF (sF q_5.2 0 x1 9 q_5.1) 0 x1 10 ((sF q_5.2 0 x1 9 q_5.1).2.1 1 1)).2.1 1 2)) (ty := .int) S hw (xa_T x1) rfl (by decide) n_T_T f_40 tk_T nm_T rfl (by decide +kernel) rfl rfl (Nat.le_of_ble_eq_true rfl) (xs_T x1 11 ((sF (sF q_5.2 0 x1 9 q_5.1) 0 x1 10 ((sF q_5.2 0 x1 9 q_5.1).2.1 1 1)).2.1 1 2) (by decide)) d_A_survey_40 (fun H locs hw => ?_)
    exact hend H locs ls 43 _ (congrArg (wX cI cT ad) (Option.some.inj hj)) hw d_A_survey_43
  · rw [if_neg c_1] at hj
    exact hend H locs ls 9 _ (congrArg (wX cI cT ad) (Option.some.inj hj)) hw d_A_survey_9
abbrev rm_T_isTooLong : Room := { frames := 0, cells := 0, slots := 0, locals := 0 }
def ws_T_isTooLong : List Cond := Cond.code y_T_isTooLong b_T_isTooLong 1 (some .boolean) :: wB
set_option maxHeartbeats 4000000 in
set_option maxRecDepth 100000 in
theorem c_T_isTooLong {l : Launch} {D : va_G} {cI cT : ClassId} {ad : Nat → Nat} {n : Nat} {M : MX} {x0 : Fin 8} {r0 : Int32} (hj : j_T_isTooLong n M x0 = some r0) : gw_Cz l y_T_isTooLong ws_T_isTooLong rm_T_isTooLong D (tyX cI cT) (wX cI cT ad M) [.ref (ad (6 + x0.val))] r0 (wX cI cT ad M) := by
  intro sz
  refine gw_metz (cc := b_T_isTooLong) (maxL := 1) (by decide) rfl (Nat.le_of_ble_eq_true rfl) ?_
  intro p e s m args below meth c A Q S H locs hw hend ls hl
  have S : CallFix p m c b_T_isTooLong 1 s args ws_T_isTooLong R_T := S
  have hx := S.1
  have hb := S.2.1
  have hts := S.2.2.2.2
  have hl : lv_has ls 1 [(0, .ref (ad (6 + x0.val)))] := hl
  have n_T_T : ∀ w ∈ u_ws R_T T_T 13, w ∈ ws_T_isTooLong := fun w h => List.mem_cons_of_mem _ (uT_T w h)
  have f_22 : Cond.fieldLink R_T 22 (T_T 9).1 (T_T 9).2.1 (T_T 9).2.2.1 ∈ ws_T_isTooLong := List.mem_cons_of_mem _ xw_15
  have k_56 := hts _ (List.mem_cons_of_mem _ xw_152)
  unfold j_T_isTooLong at hj
  refine lv_aload_n hx hb d_T_isTooLong_0 rfl (lv_at hl 0 rfl) ?_
  refine gw_get (v := .int (M.1 0 x0 9)) S hw (xa_T x0) rfl (by decide) n_T_T f_22 rfl d_T_isTooLong_1 ?_
  refine lv_ldc (v := 1000000000) hx hb S.2.2.2.1 k_56 d_T_isTooLong_4 ?_
  refine lv_icmp_ne (tgt := 13) hx hb d_T_isTooLong_6 (by decide) (fun c_1 => ?_) (fun c_1 => ?_)
  · rw [if_neg c_1] at hj
    refine lv_iconst (v := 0) hx hb d_T_isTooLong_13 (by decide) ?_
    exact hend H locs ls 14 _ _ (Option.some.inj hj) rfl (Or.inl rfl) hw d_T_isTooLong_14
  · rw [if_pos c_1] at hj
    refine lv_iconst (v := 1) hx hb d_T_isTooLong_9 (by decide) ?_
    refine lv_goto (tgt := 14) hx hb d_T_isTooLong_10 (by decide) ?_
    exact hend H locs ls 14 _ _ (Option.some.inj hj) rfl (Or.inr rfl) hw d_T_isTooLong_14
abbrev rm_A_verdict : Room := { frames := 5, cells := 0, slots := 0, locals := 122 }
def ws_A_verdict : List Cond := Cond.code y_A_verdict b_A_verdict 3 (some .int) :: wB
set_option maxHeartbeats 4000000 in
set_option maxRecDepth 100000 in
theorem c_A_verdict {l : Launch} {D : va_G} {cI cT : ClassId} {ad : Nat → Nat} {n : Nat} {M : MX} {r0 : Int32} {M0 : MX} (hj : j_A_verdict n M = some (r0, M0)) : gw_Ci l y_A_verdict ws_A_verdict rm_A_verdict D (tyX cI cT) (wX cI cT ad M) [.ref (ad 4)] r0 (wX cI cT ad M0) := by
  intro sz
  refine gw_meti (cc := b_A_verdict) (maxL := 3) (by decide) rfl (Nat.le_of_ble_eq_true rfl) ?_
  intro p e s m args below meth c A Q S H locs hw hend ls hl
  have S : CallFix p m c b_A_verdict 3 s args ws_A_verdict R_A := S
  have hx := S.1
  have hb := S.2.1
  have hts := S.2.2.2.2
  have hl : lv_has ls 3 [(0, .ref (ad 4))] := hl
  have n_T_A : ∀ w ∈ u_ws R_A T_A 3, w ∈ ws_A_verdict := fun w h => List.mem_cons_of_mem _ (uT_A w h)
  have n_T_S : ∀ w ∈ u_ws R_S T_S 3, w ∈ ws_A_verdict := fun w h => List.mem_cons_of_mem _ (uT_S w h)
  have n_T_T : ∀ w ∈ u_ws R_T T_T 13, w ∈ ws_A_verdict := fun w h => List.mem_cons_of_mem _ (uT_T w h)
  have f_9 : Cond.fieldLink R_A 9 (T_A 0).1 (T_A 0).2.1 (T_A 0).2.2.1 ∈ ws_A_verdict := List.mem_cons_of_mem _ xw_115
  have f_15 : Cond.fieldLink R_A 15 (T_T 9).1 (T_T 9).2.1 (T_T 9).2.2.1 ∈ ws_A_verdict := List.mem_cons_of_mem _ xw_144
  have f_43 : Cond.fieldLink R_A 43 (T_S 2).1 (T_S 2).2.1 (T_S 2).2.2.1 ∈ ws_A_verdict := List.mem_cons_of_mem _ xw_153
  have f_46 : Cond.fieldLink R_A 46 (T_S 1).1 (T_S 1).2.1 (T_S 1).2.2.1 ∈ ws_A_verdict := List.mem_cons_of_mem _ xw_116
  have f_58 : Cond.fieldLink R_A 58 (T_T 0).1 (T_T 0).2.1 (T_T 0).2.2.1 ∈ ws_A_verdict := List.mem_cons_of_mem _ xw_154
  have f_61 : Cond.fieldLink R_A 61 (T_T 4).1 (T_T 4).2.1 (T_T 4).2.2.1 ∈ ws_A_verdict := List.mem_cons_of_mem _ xw_155
  have w_50 : CallW rm_A_verdict s args R_A R_A 50 y_A_survey b_A_survey 2 none ws_A_survey rm_A_survey 0 0 1 := cwV 1 hts (wB_callV (fun w h => List.mem_cons_of_mem _ h) xw_156 xw_157 xw_158 xw_159 xw_127) rfl rfl rfl (by decide +kernel) ⟨Nat.le_of_ble_eq_true rfl, Nat.le_of_ble_eq_true rfl⟩
  have w_54 : CallW rm_A_verdict s args R_A R_T 54 y_T_isTooLong b_T_isTooLong 1 (some .boolean) ws_T_isTooLong rm_T_isTooLong 0 0 0 := cwV 0 hts (wB_callV (fun w h => List.mem_cons_of_mem _ h) xw_160 xw_161 xw_162 xw_163 xw_21) rfl rfl rfl (by decide +kernel) ⟨Nat.le_of_ble_eq_true rfl, Nat.le_of_ble_eq_true rfl⟩
  have L2 : ∀ (f2 : Nat) (v1_2 : Int32) (M2 : MX), j_A_verdict_L2 n f2 v1_2 M2 = some (r0, M0) → ∀ (H : Heap) (locs : List Loc), gw_W D (tyX cI cT) A (wX cI cT ad M2) s H locs → ∀ ls : Array Slot, lv_has ls 3 [(0, .ref (ad 4)), (1, .int v1_2)] → W p l e rm_A_verdict s m args below meth c H locs 0 0 Q (F0 m 2 ls []) := by
    intro f2
    induction f2 with
    | zero =>
      intro v1_2 M2 hj
      exact nomatch (show (none : Option (Int32 × MX)) = some (r0, M0) from hj)
    | succ f2 ih2 =>
      intro v1_2 M2 hj H locs hw ls hl
      rw [j_A_verdict_L2] at hj
      refine lv_iload_n hx hb d_A_verdict_2 rfl (lv_at hl 1 rfl) ?_
      refine lv_aload_n hx hb d_A_verdict_3 rfl (lv_at hl 0 rfl) ?_
      refine gw_get (v := .ref (ad 1)) S hw xa_A rfl (by decide) n_T_A f_9 rfl d_A_verdict_4 ?_
      refine gw_get (v := .int (M2.2.1 0 2)) S hw xa_S rfl (by decide) n_T_S f_43 rfl d_A_verdict_7 ?_
      refine lv_icmp_ge (tgt := 67) hx hb d_A_verdict_10 (by decide) (fun c_1 => ?_) (fun c_1 => ?_)
      · rw [if_pos c_1] at hj
        refine lv_iconst (v := 1) hx hb d_A_verdict_67 (by decide) ?_
        exact hend H locs ls 68 _ _ (Prod.mk.inj (Option.some.inj hj)).1 (congrArg (wX cI cT ad) (Prod.mk.inj (Option.some.inj hj)).2) hw d_A_verdict_68
      · rw [if_neg c_1] at hj
        refine lv_aload_n hx hb d_A_verdict_13 rfl (lv_at hl 0 rfl) ?_
        refine gw_get (v := .ref (ad 1)) S hw xa_A rfl (by decide) n_T_A f_9 rfl d_A_verdict_14 ?_
        refine gw_get (v := .ref (ad 3)) S hw xa_S rfl (by decide) n_T_S f_46 rfl d_A_verdict_17 ?_
        refine lv_iload_n hx hb d_A_verdict_20 rfl (lv_at hl 1 rfl) ?_
        obtain ⟨g_2, hj⟩ := gw_if hj
        refine gw_aldq (t0 := 1) S hw ⟨xa_rk, rfl⟩ g_2 d_A_verdict_21 ?_
        refine lv_astore_n (lv' := [(2, .ref (ad (6 + (M2.2.2.1 v1_2.toNatClampNeg).val))), (0, .ref (ad 4)), (1, .int v1_2)]) hx hb d_A_verdict_22 rfl hl (by decide) rfl (fun ls hl => ?_)
        refine lv_aload_n hx hb d_A_verdict_23 rfl (lv_at hl 1 rfl) ?_
        refine lv_aload_n hx hb d_A_verdict_24 rfl (lv_at hl 0 rfl) ?_
        obtain ⟨M_4, e_3, hj⟩ := Option.bind_eq_some_iff.mp hj
        refine gw_callv (As := [.ref (ad (6 + (M2.2.2.1 v1_2.toNatClampNeg).val))]) (rest := []) S hw (c_A_survey e_3) w_50 xa_A rfl rfl hl.1 rfl (Nat.le_of_ble_eq_true rfl) d_A_verdict_25 (fun H locs hw => ?_)
        refine lv_aload_n hx hb d_A_verdict_28 rfl (lv_at hl 0 rfl) ?_
        obtain ⟨r_6, e_5, hj⟩ := Option.bind_eq_some_iff.mp hj
        refine gw_calli (As := []) (rest := []) S hw (c_T_isTooLong e_5) w_54 (xa_T (M2.2.2.1 v1_2.toNatClampNeg)) rfl rfl hl.1 rfl (Nat.le_of_ble_eq_true rfl) d_A_verdict_29 (fun H locs hw => ?_)
        refine lv_if_eq (tgt := 44) hx hb d_A_verdict_32 (by decide) (fun c_7 => ?_) (fun c_7 => ?_)
        · rw [if_pos c_7] at hj
          refine lv_aload_n hx hb d_A_verdict_44 rfl (lv_at hl 0 rfl) ?_
          refine gw_get (v := .int (M_4.1 0 (M2.2.2.1 v1_2.toNatClampNeg) 9)) S hw (xa_T (M2.2.2.1 v1_2.toNatClampNeg)) rfl (by decide) n_T_T f_15 rfl d_A_verdict_45 ?_
          refine lv_aload_n hx hb d_A_verdict_48 rfl (lv_at hl 0 rfl) ?_
          refine gw_get (v := .int (M_4.1 0 (M2.2.2.1 v1_2.toNatClampNeg) 4)) S hw (xa_T (M2.2.2.1 v1_2.toNatClampNeg)) rfl (by decide) n_T_T f_61 rfl d_A_verdict_49 ?_
          refine lv_icmp_le (tgt := 61) hx hb d_A_verdict_52 (by decide) (fun c_8 => ?_) (fun c_8 => ?_)
          · rw [if_pos c_8] at hj
            refine lv_iinc (v := (v1_2 + 1)) (lv' := [(1, .int (v1_2 + 1)), (2, .ref (ad (6 + (M2.2.2.1 v1_2.toNatClampNeg).val))), (0, .ref (ad 4))]) hx hb d_A_verdict_61 hl (k := 2) rfl rfl (by decide) rfl (fun ls hl => ?_)
            refine lv_goto (tgt := 2) hx hb d_A_verdict_64 (by decide) ?_
            exact ih2 (v1_2 + 1) M_4 hj H locs hw ls (lv_sub hl [2, 0] rfl)
          · rw [if_neg c_8] at hj
            refine lv_aload_n hx hb d_A_verdict_55 rfl (lv_at hl 0 rfl) ?_
            refine gw_get (v := .int (M_4.1 0 (M2.2.2.1 v1_2.toNatClampNeg) 0)) S hw (xa_T (M2.2.2.1 v1_2.toNatClampNeg)) rfl (by decide) n_T_T f_58 rfl d_A_verdict_56 ?_
            refine lv_ineg hx hb d_A_verdict_59 ?_
            exact hend H locs ls 60 _ _ (Prod.mk.inj (Option.some.inj hj)).1 (congrArg (wX cI cT ad) (Prod.mk.inj (Option.some.inj hj)).2) hw d_A_verdict_60
        · rw [if_neg c_7] at hj
          refine lv_aload_n hx hb d_A_verdict_35 rfl (lv_at hl 0 rfl) ?_
          refine gw_get (v := .int (M_4.1 0 (M2.2.2.1 v1_2.toNatClampNeg) 0)) S hw (xa_T (M2.2.2.1 v1_2.toNatClampNeg)) rfl (by decide) n_T_T f_58 rfl d_A_verdict_36 ?_
          refine lv_ineg hx hb d_A_verdict_39 ?_
          refine lv_bipush (v := 100) hx hb d_A_verdict_40 (by decide) ?_
          refine lv_isub hx hb d_A_verdict_42 ?_
          exact hend H locs ls 43 _ _ (Prod.mk.inj (Option.some.inj hj)).1 (congrArg (wX cI cT ad) (Prod.mk.inj (Option.some.inj hj)).2) hw d_A_verdict_43
  unfold j_A_verdict at hj
  refine lv_iconst (v := 0) hx hb d_A_verdict_0 (by decide) ?_
  refine lv_istore_n (lv' := [(1, .int 0), (0, .ref (ad 4))]) hx hb d_A_verdict_1 rfl hl (by decide) rfl (fun ls hl => ?_)
  exact L2 n 0 M hj H locs hw ls (lv_sub hl [1, 0] rfl)
abbrev rm_A_responseOfJob : Room := { frames := 4, cells := 0, slots := 0, locals := 87 }
def ws_A_responseOfJob : List Cond := Cond.code y_A_responseOfJob b_A_responseOfJob 3 (some .int) :: wB
set_option maxHeartbeats 4000000 in
set_option maxRecDepth 100000 in
theorem c_A_responseOfJob {l : Launch} {D : va_G} {cI cT : ClassId} {ad : Nat → Nat} {n : Nat} {M : MX} {x1 : Fin 8} {a2 : Int32} {r0 : Int32} (hj : j_A_responseOfJob n M x1 a2 = some r0) : gw_Ci l y_A_responseOfJob ws_A_responseOfJob rm_A_responseOfJob D (tyX cI cT) (wX cI cT ad M) [.ref (ad 4), .ref (ad (6 + x1.val)), .int a2] r0 (wX cI cT ad M) := by
  intro sz
  refine gw_meti (cc := b_A_responseOfJob) (maxL := 3) (by decide) rfl (Nat.le_of_ble_eq_true rfl) ?_
  intro p e s m args below meth c A Q S H locs hw hend ls hl
  have S : CallFix p m c b_A_responseOfJob 3 s args ws_A_responseOfJob R_A := S
  have hx := S.1
  have hb := S.2.1
  have hts := S.2.2.2.2
  have hl : lv_has ls 3 [(0, .ref (ad 4)), (1, .ref (ad (6 + x1.val))), (2, .int a2)] := hl
  have n_T_A : ∀ w ∈ u_ws R_A T_A 3, w ∈ ws_A_responseOfJob := fun w h => List.mem_cons_of_mem _ (uT_A w h)
  have n_T_T : ∀ w ∈ u_ws R_T T_T 13, w ∈ ws_A_responseOfJob := fun w h => List.mem_cons_of_mem _ (uT_T w h)
  have f_9 : Cond.fieldLink R_A 9 (T_A 0).1 (T_A 0).2.1 (T_A 0).2.2.1 ∈ ws_A_responseOfJob := List.mem_cons_of_mem _ xw_115
  have f_40 : Cond.fieldLink R_A 40 (T_T 11).1 (T_T 11).2.1 (T_T 11).2.2.1 ∈ ws_A_responseOfJob := List.mem_cons_of_mem _ xw_146
  have f_72 : Cond.fieldLink R_A 72 (T_T 3).1 (T_T 3).2.1 (T_T 3).2.2.1 ∈ ws_A_responseOfJob := List.mem_cons_of_mem _ xw_134
  have w_21 : CallW rm_A_responseOfJob s args R_A R_S 21 y_S_blockingOf b_S_blockingOf 2 (some .int) ws_S_blockingOf rm_S_blockingOf 0 0 1 := cwV 1 hts (wB_callV (fun w h => List.mem_cons_of_mem _ h) xw_106 xw_147 xw_108 xw_109 xw_14) rfl rfl rfl (by decide +kernel) ⟨Nat.le_of_ble_eq_true rfl, Nat.le_of_ble_eq_true rfl⟩
  have w_64 : CallW rm_A_responseOfJob s args R_A R_A 64 y_A_lastBegin b_A_lastBegin 9 (some .int) ws_A_lastBegin rm_A_lastBegin 0 0 4 := cwV 4 hts (wB_callV (fun w h => List.mem_cons_of_mem _ h) xw_136 xw_137 xw_138 xw_139 xw_127) rfl rfl rfl (by decide +kernel) ⟨Nat.le_of_ble_eq_true rfl, Nat.le_of_ble_eq_true rfl⟩
  have w_68 : CallW rm_A_responseOfJob s args R_A R_T 68 y_T_lastSegment b_T_lastSegment 1 (some .int) ws_T_lastSegment rm_T_lastSegment 0 0 0 := cwV 0 hts (wB_callV (fun w h => List.mem_cons_of_mem _ h) xw_128 xw_129 xw_130 xw_131 xw_21) rfl rfl rfl (by decide +kernel) ⟨Nat.le_of_ble_eq_true rfl, Nat.le_of_ble_eq_true rfl⟩
  unfold j_A_responseOfJob at hj
  refine lv_iload_n hx hb d_A_responseOfJob_0 rfl (lv_at hl 2 rfl) ?_
  refine lv_if_lt (tgt := 12) hx hb d_A_responseOfJob_1 (by decide) (fun c_1 => ?_) (fun c_1 => ?_)
  · rw [if_pos c_1] at hj
    refine lv_iconst (v := -1) hx hb d_A_responseOfJob_12 (by decide) ?_
    exact hend H locs ls 13 _ _ (Option.some.inj hj) rfl hw d_A_responseOfJob_13
  · rw [if_neg c_1] at hj
    refine lv_iload_n hx hb d_A_responseOfJob_4 rfl (lv_at hl 2 rfl) ?_
    refine lv_aload_n hx hb d_A_responseOfJob_5 rfl (lv_at hl 1 rfl) ?_
    refine gw_get (v := .int (M.1 0 x1 11)) S hw (xa_T x1) rfl (by decide) n_T_T f_40 rfl d_A_responseOfJob_6 ?_
    refine lv_icmp_lt (tgt := 14) hx hb d_A_responseOfJob_9 (by decide) (fun c_2 => ?_) (fun c_2 => ?_)
    · rw [if_pos c_2] at hj
      refine lv_aload_n hx hb d_A_responseOfJob_14 rfl (lv_at hl 0 rfl) ?_
      refine lv_aload_n hx hb d_A_responseOfJob_15 rfl (lv_at hl 1 rfl) ?_
      refine lv_aload_n hx hb d_A_responseOfJob_16 rfl (lv_at hl 0 rfl) ?_
      refine gw_get (v := .ref (ad 1)) S hw xa_A rfl (by decide) n_T_A f_9 rfl d_A_responseOfJob_17 ?_
      refine lv_aload_n hx hb d_A_responseOfJob_20 rfl (lv_at hl 1 rfl) ?_
      obtain ⟨r_4, e_3, hj⟩ := Option.bind_eq_some_iff.mp hj
      refine gw_calli (As := [.ref (ad (6 + x1.val))]) (rest := [.ref (ad (6 + x1.val)), .ref (ad 4)]) S hw (c_S_blockingOf e_3) w_21 xa_S rfl rfl hl.1 rfl (Nat.le_of_ble_eq_true rfl) d_A_responseOfJob_21 (fun H locs hw => ?_)
      refine lv_iload_n hx hb d_A_responseOfJob_24 rfl (lv_at hl 2 rfl) ?_
      refine lv_iconst (v := 0) hx hb d_A_responseOfJob_25 (by decide) ?_
      obtain ⟨r_6, e_5, hj⟩ := Option.bind_eq_some_iff.mp hj
      refine gw_calli (As := [.ref (ad (6 + x1.val)), .int r_4, .int a2, .int 0]) (rest := []) S hw (c_A_lastBegin e_5) w_64 xa_A rfl rfl hl.1 rfl (Nat.le_of_ble_eq_true rfl) d_A_responseOfJob_26 (fun H locs hw => ?_)
      refine lv_aload_n hx hb d_A_responseOfJob_29 rfl (lv_at hl 1 rfl) ?_
      obtain ⟨r_8, e_7, hj⟩ := Option.bind_eq_some_iff.mp hj
      refine gw_calli (As := []) (rest := [.int r_6]) S hw (c_T_lastSegment e_7) w_68 (xa_T x1) rfl rfl hl.1 rfl (Nat.le_of_ble_eq_true rfl) d_A_responseOfJob_30 (fun H locs hw => ?_)
      refine lv_iadd hx hb d_A_responseOfJob_33 ?_
      refine lv_iload_n hx hb d_A_responseOfJob_34 rfl (lv_at hl 2 rfl) ?_
      refine lv_aload_n hx hb d_A_responseOfJob_35 rfl (lv_at hl 1 rfl) ?_
      refine gw_get (v := .int (M.1 0 x1 3)) S hw (xa_T x1) rfl (by decide) n_T_T f_72 rfl d_A_responseOfJob_36 ?_
      refine lv_imul hx hb d_A_responseOfJob_39 ?_
      refine lv_isub hx hb d_A_responseOfJob_40 ?_
      exact hend H locs ls 41 _ _ (Option.some.inj hj) rfl hw d_A_responseOfJob_41
    · rw [if_neg c_2] at hj
      refine lv_iconst (v := -1) hx hb d_A_responseOfJob_12 (by decide) ?_
      exact hend H locs ls 13 _ _ (Option.some.inj hj) rfl hw d_A_responseOfJob_13
abbrev rm_A_greatestBorne : Room := { frames := 4, cells := 0, slots := 0, locals := 101 }
def ws_A_greatestBorne : List Cond := Cond.code y_A_greatestBorne b_A_greatestBorne 6 (some .int) :: wB
set_option maxHeartbeats 4000000 in
set_option maxRecDepth 100000 in
theorem c_A_greatestBorne {l : Launch} {D : va_G} {cI cT : ClassId} {ad : Nat → Nat} {n : Nat} {M : MX} {x1 : Fin 8} {r0 : Int32} {M0 : MX} (hj : j_A_greatestBorne n M x1 = some (r0, M0)) : gw_Ci l y_A_greatestBorne ws_A_greatestBorne rm_A_greatestBorne D (tyX cI cT) (wX cI cT ad M) [.ref (ad 4), .ref (ad (6 + x1.val))] r0 (wX cI cT ad M0) := by
  intro sz
  refine gw_meti (cc := b_A_greatestBorne) (maxL := 6) (by decide) rfl (Nat.le_of_ble_eq_true rfl) ?_
  intro p e s m args below meth c A Q S H locs hw hend ls hl
  have S : CallFix p m c b_A_greatestBorne 6 s args ws_A_greatestBorne R_A := S
  have hx := S.1
  have hb := S.2.1
  have hts := S.2.2.2.2
  have hl : lv_has ls 6 [(0, .ref (ad 4)), (1, .ref (ad (6 + x1.val)))] := hl
  have n_T_T : ∀ w ∈ u_ws R_T T_T 13, w ∈ ws_A_greatestBorne := fun w h => List.mem_cons_of_mem _ (uT_T w h)
  have f_61 : Cond.fieldLink R_A 61 (T_T 4).1 (T_T 4).2.1 (T_T 4).2.2.1 ∈ ws_A_greatestBorne := List.mem_cons_of_mem _ xw_155
  have f_82 : Cond.fieldLink R_A 82 (T_T 7).1 (T_T 7).2.1 (T_T 7).2.2.1 ∈ ws_A_greatestBorne := List.mem_cons_of_mem _ xw_117
  have m_130 := hts _ (List.mem_cons_of_mem _ xw_164)
  have ms_max := hts _ (List.mem_cons_of_mem _ xw_88)
  have mc_max := hts _ (List.mem_cons_of_mem _ xw_89)
  have mi_ := hts _ (List.mem_cons_of_mem _ xw_90)
  have w_27 : CallW rm_A_greatestBorne s args R_A R_A 27 y_A_greatestWith b_A_greatestWith 8 (some .int) ws_A_greatestWith rm_A_greatestWith 0 0 2 := cwV 2 hts (wB_callV (fun w h => List.mem_cons_of_mem _ h) xw_148 xw_149 xw_150 xw_151 xw_127) rfl rfl rfl (by decide +kernel) ⟨Nat.le_of_ble_eq_true rfl, Nat.le_of_ble_eq_true rfl⟩
  have L21 : ∀ (f21 : Nat) (v2_21 : Int32) (v3_21 : Int32) (v4_21 : Int32) (M21 : MX), j_A_greatestBorne_L21 n x1 f21 v2_21 v3_21 v4_21 M21 = some (r0, M0) → ∀ (H : Heap) (locs : List Loc), gw_W D (tyX cI cT) A (wX cI cT ad M21) s H locs → ∀ ls : Array Slot, lv_has ls 6 [(0, .ref (ad 4)), (1, .ref (ad (6 + x1.val))), (2, .int v2_21), (3, .int v3_21), (4, .int v4_21)] → W p l e rm_A_greatestBorne s m args below meth c H locs 0 0 Q (F0 m 21 ls []) := by
    intro f21
    induction f21 with
    | zero =>
      intro v2_21 v3_21 v4_21 M21 hj
      exact nomatch (show (none : Option (Int32 × MX)) = some (r0, M0) from hj)
    | succ f21 ih21 =>
      intro v2_21 v3_21 v4_21 M21 hj H locs hw ls hl
      rw [j_A_greatestBorne_L21] at hj
      refine lv_iload hx hb d_A_greatestBorne_21 (lv_at hl 4 rfl) ?_
      refine lv_bipush (v := 64) hx hb d_A_greatestBorne_23 (by decide) ?_
      refine lv_icmp_ge (tgt := 71) hx hb d_A_greatestBorne_25 (by decide) (fun c_1 => ?_) (fun c_1 => ?_)
      · rw [if_pos c_1] at hj
        refine lv_iload_n hx hb d_A_greatestBorne_71 rfl (lv_at hl 2 rfl) ?_
        exact hend H locs ls 72 _ _ (Prod.mk.inj (Option.some.inj hj)).1 (congrArg (wX cI cT ad) (Prod.mk.inj (Option.some.inj hj)).2) hw d_A_greatestBorne_72
      · rw [if_neg c_1] at hj
        refine lv_iload_n hx hb d_A_greatestBorne_28 rfl (lv_at hl 3 rfl) ?_
        refine lv_iload_n hx hb d_A_greatestBorne_29 rfl (lv_at hl 2 rfl) ?_
        refine lv_isub hx hb d_A_greatestBorne_30 ?_
        refine lv_iconst (v := 1) hx hb d_A_greatestBorne_31 (by decide) ?_
        refine lv_icmp_le (tgt := 71) hx hb d_A_greatestBorne_32 (by decide) (fun c_2 => ?_) (fun c_2 => ?_)
        · rw [if_pos c_2] at hj
          refine lv_iload_n hx hb d_A_greatestBorne_71 rfl (lv_at hl 2 rfl) ?_
          exact hend H locs ls 72 _ _ (Prod.mk.inj (Option.some.inj hj)).1 (congrArg (wX cI cT ad) (Prod.mk.inj (Option.some.inj hj)).2) hw d_A_greatestBorne_72
        · rw [if_neg c_2] at hj
          refine lv_iload_n hx hb d_A_greatestBorne_35 rfl (lv_at hl 2 rfl) ?_
          refine lv_iload_n hx hb d_A_greatestBorne_36 rfl (lv_at hl 3 rfl) ?_
          refine lv_iadd hx hb d_A_greatestBorne_37 ?_
          refine lv_iconst (v := 2) hx hb d_A_greatestBorne_38 (by decide) ?_
          refine lv_idiv hx hb d_A_greatestBorne_39 (by decide) ?_
          refine lv_istore (lv' := [(5, .int ((v2_21 + v3_21) / 2)), (0, .ref (ad 4)), (1, .ref (ad (6 + x1.val))), (2, .int v2_21), (3, .int v3_21), (4, .int v4_21)]) hx hb d_A_greatestBorne_40 hl (by decide) rfl (fun ls hl => ?_)
          refine lv_aload_n hx hb d_A_greatestBorne_42 rfl (lv_at hl 1 rfl) ?_
          refine lv_aload_n hx hb d_A_greatestBorne_43 rfl (lv_at hl 2 rfl) ?_
          refine lv_iload hx hb d_A_greatestBorne_44 (lv_at hl 0 rfl) ?_
          obtain ⟨q_4, e_3, hj⟩ := Option.bind_eq_some_iff.mp hj
          refine gw_calli (As := [.ref (ad (6 + x1.val)), .int ((v2_21 + v3_21) / 2)]) (rest := []) S hw (c_A_greatestWith e_3) w_27 xa_A rfl rfl hl.1 rfl (Nat.le_of_ble_eq_true rfl) d_A_greatestBorne_46 (fun H locs hw => ?_)
          refine lv_aload_n hx hb d_A_greatestBorne_49 rfl (lv_at hl 2 rfl) ?_
          refine gw_get (v := .int (q_4.2.1 0 x1 4)) S hw (xa_T x1) rfl (by decide) n_T_T f_61 rfl d_A_greatestBorne_50 ?_
          refine lv_icmp_gt (tgt := 62) hx hb d_A_greatestBorne_53 (by decide) (fun c_5 => ?_) (fun c_5 => ?_)
          · rw [if_pos c_5] at hj
            refine lv_iload hx hb d_A_greatestBorne_62 (lv_at hl 0 rfl) ?_
            refine lv_istore_n (lv' := [(3, .int ((v2_21 + v3_21) / 2)), (5, .int ((v2_21 + v3_21) / 2)), (0, .ref (ad 4)), (1, .ref (ad (6 + x1.val))), (2, .int v2_21), (4, .int v4_21)]) hx hb d_A_greatestBorne_64 rfl hl (by decide) rfl (fun ls hl => ?_)
            refine lv_iinc (v := (v4_21 + 1)) (lv' := [(4, .int (v4_21 + 1)), (3, .int ((v2_21 + v3_21) / 2)), (5, .int ((v2_21 + v3_21) / 2)), (0, .ref (ad 4)), (1, .ref (ad (6 + x1.val))), (2, .int v2_21)]) hx hb d_A_greatestBorne_65 hl (k := 5) rfl rfl (by decide) rfl (fun ls hl => ?_)
            refine lv_goto (tgt := 21) hx hb d_A_greatestBorne_68 (by decide) ?_
            exact ih21 v2_21 ((v2_21 + v3_21) / 2) (v4_21 + 1) q_4.2 hj H locs hw ls (lv_sub hl [3, 4, 5, 1, 0] rfl)
          · rw [if_neg c_5] at hj
            refine lv_iload hx hb d_A_greatestBorne_56 (lv_at hl 0 rfl) ?_
            refine lv_istore_n (lv' := [(2, .int ((v2_21 + v3_21) / 2)), (5, .int ((v2_21 + v3_21) / 2)), (0, .ref (ad 4)), (1, .ref (ad (6 + x1.val))), (3, .int v3_21), (4, .int v4_21)]) hx hb d_A_greatestBorne_58 rfl hl (by decide) rfl (fun ls hl => ?_)
            refine lv_goto (tgt := 65) hx hb d_A_greatestBorne_59 (by decide) ?_
            refine lv_iinc (v := (v4_21 + 1)) (lv' := [(4, .int (v4_21 + 1)), (2, .int ((v2_21 + v3_21) / 2)), (5, .int ((v2_21 + v3_21) / 2)), (0, .ref (ad 4)), (1, .ref (ad (6 + x1.val))), (3, .int v3_21)]) hx hb d_A_greatestBorne_65 hl (k := 5) rfl rfl (by decide) rfl (fun ls hl => ?_)
            refine lv_goto (tgt := 21) hx hb d_A_greatestBorne_68 (by decide) ?_
            exact ih21 ((v2_21 + v3_21) / 2) v3_21 (v4_21 + 1) q_4.2 hj H locs hw ls (lv_sub hl [3, 4, 1, 5, 0] rfl)
  unfold j_A_greatestBorne at hj
  refine lv_iconst (v := -1) hx hb d_A_greatestBorne_0 (by decide) ?_
  refine lv_istore_n (lv' := [(2, .int (-1)), (0, .ref (ad 4)), (1, .ref (ad (6 + x1.val)))]) hx hb d_A_greatestBorne_1 rfl hl (by decide) rfl (fun ls hl => ?_)
  refine lv_iconst (v := 0) hx hb d_A_greatestBorne_2 (by decide) ?_
  refine lv_aload_n hx hb d_A_greatestBorne_3 rfl (lv_at hl 2 rfl) ?_
  refine gw_get (v := .int (M.1 0 x1 4)) S hw (xa_T x1) rfl (by decide) n_T_T f_61 rfl d_A_greatestBorne_4 ?_
  refine lv_aload_n hx hb d_A_greatestBorne_7 rfl (lv_at hl 2 rfl) ?_
  refine gw_get (v := .int (M.1 0 x1 7)) S hw (xa_T x1) rfl (by decide) n_T_T f_82 rfl d_A_greatestBorne_8 ?_
  refine lv_isub hx hb d_A_greatestBorne_11 ?_
  refine lv_iconst (v := 1) hx hb d_A_greatestBorne_12 (by decide) ?_
  refine lv_iadd hx hb d_A_greatestBorne_13 ?_
  refine va_mmax hx hb (S.2.2.1.trans hl.1.symm) S.2.2.2.1 m_130 ms_max mi_ mc_max (by decide) (Nat.le_of_ble_eq_true rfl) (Nat.zero_le _) (Nat.zero_le _) d_A_greatestBorne_14 ?_
  refine lv_istore_n (lv' := [(3, .int (if 0 < (((M.1 0 x1 4) - (M.1 0 x1 7)) + 1) then (((M.1 0 x1 4) - (M.1 0 x1 7)) + 1) else 0)), (2, .int (-1)), (0, .ref (ad 4)), (1, .ref (ad (6 + x1.val)))]) hx hb d_A_greatestBorne_17 rfl hl (by decide) rfl (fun ls hl => ?_)
  refine lv_iconst (v := 0) hx hb d_A_greatestBorne_18 (by decide) ?_
  refine lv_istore (lv' := [(4, .int 0), (3, .int (if 0 < (((M.1 0 x1 4) - (M.1 0 x1 7)) + 1) then (((M.1 0 x1 4) - (M.1 0 x1 7)) + 1) else 0)), (2, .int (-1)), (0, .ref (ad 4)), (1, .ref (ad (6 + x1.val)))]) hx hb d_A_greatestBorne_19 hl (by decide) rfl (fun ls hl => ?_)
  exact L21 n (-1) (if 0 < (((M.1 0 x1 4) - (M.1 0 x1 7)) + 1) then (((M.1 0 x1 4) - (M.1 0 x1 7)) + 1) else 0) 0 M hj H locs hw ls (lv_sub hl [3, 4, 2, 1, 0] rfl)
abbrev rm_A_bearableBy : Room := { frames := 5, cells := 0, slots := 0, locals := 126 }
def ws_A_bearableBy : List Cond := Cond.code y_A_bearableBy b_A_bearableBy 2 (some .int) :: wB
set_option maxHeartbeats 4000000 in
set_option maxRecDepth 100000 in
theorem c_A_bearableBy {l : Launch} {D : va_G} {cI cT : ClassId} {ad : Nat → Nat} {n : Nat} {M : MX} {x1 : Fin 8} {r0 : Int32} {M0 : MX} (hj : j_A_bearableBy n M x1 = some (r0, M0)) : gw_Ci l y_A_bearableBy ws_A_bearableBy rm_A_bearableBy D (tyX cI cT) (wX cI cT ad M) [.ref (ad 4), .ref (ad (6 + x1.val))] r0 (wX cI cT ad M0) := by
  intro sz
  refine gw_meti (cc := b_A_bearableBy) (maxL := 2) (by decide) rfl (Nat.le_of_ble_eq_true rfl) ?_
  intro p e s m args below meth c A Q S H locs hw hend ls hl
  have S : CallFix p m c b_A_bearableBy 2 s args ws_A_bearableBy R_A := S
  have hx := S.1
  have hb := S.2.1
  have hts := S.2.2.2.2
  have hl : lv_has ls 2 [(0, .ref (ad 4)), (1, .ref (ad (6 + x1.val)))] := hl
  have n_T_T : ∀ w ∈ u_ws R_T T_T 13, w ∈ ws_A_bearableBy := fun w h => List.mem_cons_of_mem _ (uT_T w h)
  have f_75 : Cond.fieldLink R_A 75 (T_T 12).1 (T_T 12).2.1 (T_T 12).2.2.1 ∈ ws_A_bearableBy := List.mem_cons_of_mem _ xw_165
  have w_78 : CallW rm_A_bearableBy s args R_A R_A 78 y_A_greatestBorne b_A_greatestBorne 6 (some .int) ws_A_greatestBorne rm_A_greatestBorne 0 0 1 := cwV 1 hts (wB_callV (fun w h => List.mem_cons_of_mem _ h) xw_166 xw_167 xw_168 xw_169 xw_127) rfl rfl rfl (by decide +kernel) ⟨Nat.le_of_ble_eq_true rfl, Nat.le_of_ble_eq_true rfl⟩
  unfold j_A_bearableBy at hj
  refine lv_aload_n hx hb d_A_bearableBy_0 rfl (lv_at hl 1 rfl) ?_
  refine gw_get (v := .int (M.1 0 x1 12)) S hw (xa_T x1) rfl (by decide) n_T_T f_75 rfl d_A_bearableBy_1 ?_
  refine lv_bipush (v := -2) hx hb d_A_bearableBy_4 (by decide) ?_
  refine lv_icmp_ne (tgt := 18) hx hb d_A_bearableBy_6 (by decide) (fun c_1 => ?_) (fun c_1 => ?_)
  · rw [if_neg c_1] at hj
    refine lv_aload_n hx hb d_A_bearableBy_18 rfl (lv_at hl 1 rfl) ?_
    refine gw_get (v := .int (M.1 0 x1 12)) S hw (xa_T x1) rfl (by decide) n_T_T f_75 rfl d_A_bearableBy_19 ?_
    exact hend H locs ls 22 _ _ (Prod.mk.inj (Option.some.inj hj)).1 (congrArg (wX cI cT ad) (Prod.mk.inj (Option.some.inj hj)).2) hw d_A_bearableBy_22
  · rw [if_pos c_1] at hj
    refine lv_aload_n hx hb d_A_bearableBy_9 rfl (lv_at hl 1 rfl) ?_
    refine lv_aload_n hx hb d_A_bearableBy_10 rfl (lv_at hl 0 rfl) ?_
    refine lv_aload_n hx hb d_A_bearableBy_11 rfl (lv_at hl 1 rfl) ?_
    obtain ⟨q_3, e_2, hj⟩ := Option.bind_eq_some_iff.mp hj
    refine gw_calli (As := [.ref (ad (6 + x1.val))]) (rest := [.ref (ad (6 + x1.val))]) S hw (c_A_greatestBorne e_2) w_78 xa_A rfl rfl hl.1 rfl (Nat.le_of_ble_eq_true rfl) d_A_bearableBy_12 (fun H locs hw => ?_)
    refine gw_put (v := .int q_3.1) (ty := .int) S hw (xa_T x1) rfl (by decide) n_T_T f_75 tk_T nm_T rfl (by decide +kernel) rfl rfl (Nat.le_of_ble_eq_true rfl) (xs_T x1 12 q_3.1 (by decide)) d_A_bearableBy_15 (fun H locs hw => ?_)
    refine lv_aload_n hx hb d_A_bearableBy_18 rfl (lv_at hl 1 rfl) ?_
    refine gw_get (v := .int ((sF q_3.2 0 x1 12 q_3.1).1 0 x1 12)) S hw (xa_T x1) rfl (by decide) n_T_T f_75 rfl d_A_bearableBy_19 ?_
    exact hend H locs ls 22 _ _ (Prod.mk.inj (Option.some.inj hj)).1 (congrArg (wX cI cT ad) (Prod.mk.inj (Option.some.inj hj)).2) hw d_A_bearableBy_22
abbrev rm_T_growLast : Room := { frames := 0, cells := 0, slots := 0, locals := 0 }
def ws_T_growLast : List Cond := Cond.code y_T_growLast b_T_growLast 5 (some .int) :: wB
set_option maxHeartbeats 4000000 in
set_option maxRecDepth 100000 in
theorem c_T_growLast {l : Launch} {D : va_G} {cI cT : ClassId} {ad : Nat → Nat} {n : Nat} {M : MX} {x0 : Fin 8} {a1 : Int32} {r0 : Int32} {M0 : MX} (hj : j_T_growLast n M x0 a1 = some (r0, M0)) : gw_Ci l y_T_growLast ws_T_growLast rm_T_growLast D (tyX cI cT) (wX cI cT ad M) [.ref (ad (6 + x0.val)), .int a1] r0 (wX cI cT ad M0) := by
  intro sz
  refine gw_meti (cc := b_T_growLast) (maxL := 5) (by decide) rfl (Nat.le_of_ble_eq_true rfl) ?_
  intro p e s m args below meth c A Q S H locs hw hend ls hl
  have S : CallFix p m c b_T_growLast 5 s args ws_T_growLast R_T := S
  have hx := S.1
  have hb := S.2.1
  have hts := S.2.2.2.2
  have hl : lv_has ls 5 [(0, .ref (ad (6 + x0.val))), (1, .int a1)] := hl
  have n_T_T : ∀ w ∈ u_ws R_T T_T 13, w ∈ ws_T_growLast := fun w h => List.mem_cons_of_mem _ (uT_T w h)
  have f_18 : Cond.fieldLink R_T 18 (T_T 2).1 (T_T 2).2.1 (T_T 2).2.2.1 ∈ ws_T_growLast := List.mem_cons_of_mem _ xw_49
  have f_44 : Cond.fieldLink R_T 44 (T_T 6).1 (T_T 6).2.1 (T_T 6).2.2.1 ∈ ws_T_growLast := List.mem_cons_of_mem _ xw_8
  have f_47 : Cond.fieldLink R_T 47 (T_T 7).1 (T_T 7).2.1 (T_T 7).2.2.1 ∈ ws_T_growLast := List.mem_cons_of_mem _ xw_9
  have L15 : ∀ (z2_15 : Int32) (f15 : Nat) (v3_15 : Int32) (v4_15 : Int32) (M15 : MX), j_T_growLast_L15 n x0 a1 z2_15 f15 v3_15 v4_15 M15 = some (r0, M0) → ∀ (H : Heap) (locs : List Loc), gw_W D (tyX cI cT) A (wX cI cT ad M15) s H locs → ∀ ls : Array Slot, lv_has ls 5 [(0, .ref (ad (6 + x0.val))), (1, .int a1), (2, .int z2_15), (3, .int v3_15), (4, .int v4_15)] → W p l e rm_T_growLast s m args below meth c H locs 0 0 Q (F0 m 15 ls []) := by
    intro z2_15 f15
    induction f15 with
    | zero =>
      intro v3_15 v4_15 M15 hj
      exact nomatch (show (none : Option (Int32 × MX)) = some (r0, M0) from hj)
    | succ f15 ih15 =>
      intro v3_15 v4_15 M15 hj H locs hw ls hl
      rw [j_T_growLast_L15] at hj
      refine lv_iload hx hb d_T_growLast_15 (lv_at hl 4 rfl) ?_
      refine lv_iload_n hx hb d_T_growLast_17 rfl (lv_at hl 2 rfl) ?_
      refine lv_iconst (v := 1) hx hb d_T_growLast_18 (by decide) ?_
      refine lv_isub hx hb d_T_growLast_19 ?_
      refine lv_icmp_ge (tgt := 50) hx hb d_T_growLast_20 (by decide) (fun c_1 => ?_) (fun c_1 => ?_)
      · rw [if_pos c_1] at hj
        refine lv_iload_n hx hb d_T_growLast_50 rfl (lv_at hl 3 rfl) ?_
        refine lv_if_le (tgt := 73) hx hb d_T_growLast_51 (by decide) (fun c_2 => ?_) (fun c_2 => ?_)
        · rw [if_pos c_2] at hj
          refine lv_aload_n hx hb d_T_growLast_73 rfl (lv_at hl 0 rfl) ?_
          refine gw_get (v := .ref (ad (22 + x0.val))) S hw (xa_T x0) rfl (by decide) n_T_T f_18 rfl d_T_growLast_74 ?_
          refine lv_iload hx hb d_T_growLast_77 (lv_at hl 4 rfl) ?_
          refine lv_iload_n hx hb d_T_growLast_79 rfl (lv_at hl 1 rfl) ?_
          obtain ⟨g_3, hj⟩ := gw_if hj
          refine gw_iast (t0 := 0) S hw ⟨xa_sg x0, rfl⟩ g_3 (xs_sg x0 v4_15.toNatClampNeg a1) d_T_growLast_80 (fun H locs hw => ?_)
          refine lv_aload_n hx hb d_T_growLast_81 rfl (lv_at hl 0 rfl) ?_
          refine lv_iload hx hb d_T_growLast_82 (lv_at hl 4 rfl) ?_
          refine lv_iconst (v := 1) hx hb d_T_growLast_84 (by decide) ?_
          refine lv_iadd hx hb d_T_growLast_85 ?_
          refine gw_put (v := .int (v4_15 + 1)) (ty := .int) S hw (xa_T x0) rfl (by decide) n_T_T f_44 tk_T nm_T rfl (by decide +kernel) rfl rfl (Nat.le_of_ble_eq_true rfl) (xs_T x0 6 (v4_15 + 1) (by decide)) d_T_growLast_86 (fun H locs hw => ?_)
          refine lv_iload_n hx hb d_T_growLast_89 rfl (lv_at hl 2 rfl) ?_
          refine lv_aload_n hx hb d_T_growLast_90 rfl (lv_at hl 0 rfl) ?_
          refine gw_get (v := .int ((sF (sF M15 2 x0 v4_15.toNatClampNeg a1) 0 x0 6 (v4_15 + 1)).1 0 x0 6)) S hw (xa_T x0) rfl (by decide) n_T_T f_44 rfl d_T_growLast_91 ?_
          refine lv_isub hx hb d_T_growLast_94 ?_
          exact hend H locs ls 95 _ _ (Prod.mk.inj (Option.some.inj hj)).1 (congrArg (wX cI cT ad) (Prod.mk.inj (Option.some.inj hj)).2) hw d_T_growLast_95
        · rw [if_neg c_2] at hj
          refine lv_iload hx hb d_T_growLast_54 (lv_at hl 4 rfl) ?_
          refine lv_iload_n hx hb d_T_growLast_56 rfl (lv_at hl 2 rfl) ?_
          refine lv_iconst (v := 1) hx hb d_T_growLast_57 (by decide) ?_
          refine lv_isub hx hb d_T_growLast_58 ?_
          refine lv_icmp_ge (tgt := 73) hx hb d_T_growLast_59 (by decide) (fun c_4 => ?_) (fun c_4 => ?_)
          · rw [if_pos c_4] at hj
            refine lv_aload_n hx hb d_T_growLast_73 rfl (lv_at hl 0 rfl) ?_
            refine gw_get (v := .ref (ad (22 + x0.val))) S hw (xa_T x0) rfl (by decide) n_T_T f_18 rfl d_T_growLast_74 ?_
            refine lv_iload hx hb d_T_growLast_77 (lv_at hl 4 rfl) ?_
            refine lv_iload_n hx hb d_T_growLast_79 rfl (lv_at hl 1 rfl) ?_
            obtain ⟨g_5, hj⟩ := gw_if hj
            refine gw_iast (t0 := 0) S hw ⟨xa_sg x0, rfl⟩ g_5 (xs_sg x0 v4_15.toNatClampNeg a1) d_T_growLast_80 (fun H locs hw => ?_)
            refine lv_aload_n hx hb d_T_growLast_81 rfl (lv_at hl 0 rfl) ?_
            refine lv_iload hx hb d_T_growLast_82 (lv_at hl 4 rfl) ?_
            refine lv_iconst (v := 1) hx hb d_T_growLast_84 (by decide) ?_
            refine lv_iadd hx hb d_T_growLast_85 ?_
            refine gw_put (v := .int (v4_15 + 1)) (ty := .int) S hw (xa_T x0) rfl (by decide) n_T_T f_44 tk_T nm_T rfl (by decide +kernel) rfl rfl (Nat.le_of_ble_eq_true rfl) (xs_T x0 6 (v4_15 + 1) (by decide)) d_T_growLast_86 (fun H locs hw => ?_)
            refine lv_iload_n hx hb d_T_growLast_89 rfl (lv_at hl 2 rfl) ?_
            refine lv_aload_n hx hb d_T_growLast_90 rfl (lv_at hl 0 rfl) ?_
            refine gw_get (v := .int ((sF (sF M15 2 x0 v4_15.toNatClampNeg a1) 0 x0 6 (v4_15 + 1)).1 0 x0 6)) S hw (xa_T x0) rfl (by decide) n_T_T f_44 rfl d_T_growLast_91 ?_
            refine lv_isub hx hb d_T_growLast_94 ?_
            exact hend H locs ls 95 _ _ (Prod.mk.inj (Option.some.inj hj)).1 (congrArg (wX cI cT ad) (Prod.mk.inj (Option.some.inj hj)).2) hw d_T_growLast_95
          · rw [if_neg c_4] at hj
            refine lv_aload_n hx hb d_T_growLast_62 rfl (lv_at hl 0 rfl) ?_
            refine gw_get (v := .ref (ad (22 + x0.val))) S hw (xa_T x0) rfl (by decide) n_T_T f_18 rfl d_T_growLast_63 ?_
            refine lv_iload hx hb d_T_growLast_66 (lv_at hl 4 rfl) ?_
            refine lv_iload_n hx hb d_T_growLast_68 rfl (lv_at hl 3 rfl) ?_
            obtain ⟨g_6, hj⟩ := gw_if hj
            refine gw_iast (t0 := 0) S hw ⟨xa_sg x0, rfl⟩ g_6 (xs_sg x0 v4_15.toNatClampNeg v3_15) d_T_growLast_69 (fun H locs hw => ?_)
            refine lv_iinc (v := (v4_15 + 1)) (lv' := [(4, .int (v4_15 + 1)), (0, .ref (ad (6 + x0.val))), (1, .int a1), (2, .int z2_15), (3, .int v3_15)]) hx hb d_T_growLast_70 hl (k := 4) rfl rfl (by decide) rfl (fun ls hl => ?_)
            refine lv_aload_n hx hb d_T_growLast_73 rfl (lv_at hl 1 rfl) ?_
            refine gw_get (v := .ref (ad (22 + x0.val))) S hw (xa_T x0) rfl (by decide) n_T_T f_18 rfl d_T_growLast_74 ?_
            refine lv_iload hx hb d_T_growLast_77 (lv_at hl 0 rfl) ?_
            refine lv_iload_n hx hb d_T_growLast_79 rfl (lv_at hl 2 rfl) ?_
            obtain ⟨g_7, hj⟩ := gw_if hj
            refine gw_iast (t0 := 0) S hw ⟨xa_sg x0, rfl⟩ g_7 (xs_sg x0 (v4_15 + 1).toNatClampNeg a1) d_T_growLast_80 (fun H locs hw => ?_)
            refine lv_aload_n hx hb d_T_growLast_81 rfl (lv_at hl 1 rfl) ?_
            refine lv_iload hx hb d_T_growLast_82 (lv_at hl 0 rfl) ?_
            refine lv_iconst (v := 1) hx hb d_T_growLast_84 (by decide) ?_
            refine lv_iadd hx hb d_T_growLast_85 ?_
            refine gw_put (v := .int ((v4_15 + 1) + 1)) (ty := .int) S hw (xa_T x0) rfl (by decide) n_T_T f_44 tk_T nm_T rfl (by decide +kernel) rfl rfl (Nat.le_of_ble_eq_true rfl) (xs_T x0 6 ((v4_15 + 1) + 1) (by decide)) d_T_growLast_86 (fun H locs hw => ?_)
            refine lv_iload_n hx hb d_T_growLast_89 rfl (lv_at hl 3 rfl) ?_
            refine lv_aload_n hx hb d_T_growLast_90 rfl (lv_at hl 1 rfl) ?_
            refine gw_get (v := .int ((sF (sF (sF M15 2 x0 v4_15.toNatClampNeg v3_15) 2 x0 (v4_15 + 1).toNatClampNeg a1) 0 x0 6 ((v4_15 + 1) + 1)).1 0 x0 6)) S hw (xa_T x0) rfl (by decide) n_T_T f_44 rfl d_T_growLast_91 ?_
            refine lv_isub hx hb d_T_growLast_94 ?_
            exact hend H locs ls 95 _ _ (Prod.mk.inj (Option.some.inj hj)).1 (congrArg (wX cI cT ad) (Prod.mk.inj (Option.some.inj hj)).2) hw d_T_growLast_95
      · rw [if_neg c_1] at hj
        refine lv_aload_n hx hb d_T_growLast_23 rfl (lv_at hl 0 rfl) ?_
        refine gw_get (v := .ref (ad (22 + x0.val))) S hw (xa_T x0) rfl (by decide) n_T_T f_18 rfl d_T_growLast_24 ?_
        refine lv_iload hx hb d_T_growLast_27 (lv_at hl 4 rfl) ?_
        obtain ⟨g_8, hj⟩ := gw_if hj
        refine gw_iald (t0 := 0) S hw ⟨xa_sg x0, rfl⟩ g_8 d_T_growLast_29 ?_
        refine lv_iload_n hx hb d_T_growLast_30 rfl (lv_at hl 3 rfl) ?_
        refine lv_icmp_gt (tgt := 50) hx hb d_T_growLast_31 (by decide) (fun c_9 => ?_) (fun c_9 => ?_)
        · rw [if_pos c_9] at hj
          refine lv_iload_n hx hb d_T_growLast_50 rfl (lv_at hl 3 rfl) ?_
          refine lv_if_le (tgt := 73) hx hb d_T_growLast_51 (by decide) (fun c_10 => ?_) (fun c_10 => ?_)
          · rw [if_pos c_10] at hj
            refine lv_aload_n hx hb d_T_growLast_73 rfl (lv_at hl 0 rfl) ?_
            refine gw_get (v := .ref (ad (22 + x0.val))) S hw (xa_T x0) rfl (by decide) n_T_T f_18 rfl d_T_growLast_74 ?_
            refine lv_iload hx hb d_T_growLast_77 (lv_at hl 4 rfl) ?_
            refine lv_iload_n hx hb d_T_growLast_79 rfl (lv_at hl 1 rfl) ?_
            obtain ⟨g_11, hj⟩ := gw_if hj
            refine gw_iast (t0 := 0) S hw ⟨xa_sg x0, rfl⟩ g_11 (xs_sg x0 v4_15.toNatClampNeg a1) d_T_growLast_80 (fun H locs hw => ?_)
            refine lv_aload_n hx hb d_T_growLast_81 rfl (lv_at hl 0 rfl) ?_
            refine lv_iload hx hb d_T_growLast_82 (lv_at hl 4 rfl) ?_
            refine lv_iconst (v := 1) hx hb d_T_growLast_84 (by decide) ?_
            refine lv_iadd hx hb d_T_growLast_85 ?_
            refine gw_put (v := .int (v4_15 + 1)) (ty := .int) S hw (xa_T x0) rfl (by decide) n_T_T f_44 tk_T nm_T rfl (by decide +kernel) rfl rfl (Nat.le_of_ble_eq_true rfl) (xs_T x0 6 (v4_15 + 1) (by decide)) d_T_growLast_86 (fun H locs hw => ?_)
            refine lv_iload_n hx hb d_T_growLast_89 rfl (lv_at hl 2 rfl) ?_
            refine lv_aload_n hx hb d_T_growLast_90 rfl (lv_at hl 0 rfl) ?_
            refine gw_get (v := .int ((sF (sF M15 2 x0 v4_15.toNatClampNeg a1) 0 x0 6 (v4_15 + 1)).1 0 x0 6)) S hw (xa_T x0) rfl (by decide) n_T_T f_44 rfl d_T_growLast_91 ?_
            refine lv_isub hx hb d_T_growLast_94 ?_
            exact hend H locs ls 95 _ _ (Prod.mk.inj (Option.some.inj hj)).1 (congrArg (wX cI cT ad) (Prod.mk.inj (Option.some.inj hj)).2) hw d_T_growLast_95
          · rw [if_neg c_10] at hj
            refine lv_iload hx hb d_T_growLast_54 (lv_at hl 4 rfl) ?_
            refine lv_iload_n hx hb d_T_growLast_56 rfl (lv_at hl 2 rfl) ?_
            refine lv_iconst (v := 1) hx hb d_T_growLast_57 (by decide) ?_
            refine lv_isub hx hb d_T_growLast_58 ?_
            refine lv_icmp_ge (tgt := 73) hx hb d_T_growLast_59 (by decide) (fun c_12 => ?_) (fun c_12 => ?_)
            · rw [if_pos c_12] at hj
              refine lv_aload_n hx hb d_T_growLast_73 rfl (lv_at hl 0 rfl) ?_
              refine gw_get (v := .ref (ad (22 + x0.val))) S hw (xa_T x0) rfl (by decide) n_T_T f_18 rfl d_T_growLast_74 ?_
              refine lv_iload hx hb d_T_growLast_77 (lv_at hl 4 rfl) ?_
              refine lv_iload_n hx hb d_T_growLast_79 rfl (lv_at hl 1 rfl) ?_
              obtain ⟨g_13, hj⟩ := gw_if hj
              refine gw_iast (t0 := 0) S hw ⟨xa_sg x0, rfl⟩ g_13 (xs_sg x0 v4_15.toNatClampNeg a1) d_T_growLast_80 (fun H locs hw => ?_)
              refine lv_aload_n hx hb d_T_growLast_81 rfl (lv_at hl 0 rfl) ?_
              refine lv_iload hx hb d_T_growLast_82 (lv_at hl 4 rfl) ?_
              refine lv_iconst (v := 1) hx hb d_T_growLast_84 (by decide) ?_
              refine lv_iadd hx hb d_T_growLast_85 ?_
              refine gw_put (v := .int (v4_15 + 1)) (ty := .int) S hw (xa_T x0) rfl (by decide) n_T_T f_44 tk_T nm_T rfl (by decide +kernel) rfl rfl (Nat.le_of_ble_eq_true rfl) (xs_T x0 6 (v4_15 + 1) (by decide)) d_T_growLast_86 (fun H locs hw => ?_)
              refine lv_iload_n hx hb d_T_growLast_89 rfl (lv_at hl 2 rfl) ?_
              refine lv_aload_n hx hb d_T_growLast_90 rfl (lv_at hl 0 rfl) ?_
              refine gw_get (v := .int ((sF (sF M15 2 x0 v4_15.toNatClampNeg a1) 0 x0 6 (v4_15 + 1)).1 0 x0 6)) S hw (xa_T x0) rfl (by decide) n_T_T f_44 rfl d_T_growLast_91 ?_
              refine lv_isub hx hb d_T_growLast_94 ?_
              exact hend H locs ls 95 _ _ (Prod.mk.inj (Option.some.inj hj)).1 (congrArg (wX cI cT ad) (Prod.mk.inj (Option.some.inj hj)).2) hw d_T_growLast_95
            · rw [if_neg c_12] at hj
              refine lv_aload_n hx hb d_T_growLast_62 rfl (lv_at hl 0 rfl) ?_
              refine gw_get (v := .ref (ad (22 + x0.val))) S hw (xa_T x0) rfl (by decide) n_T_T f_18 rfl d_T_growLast_63 ?_
              refine lv_iload hx hb d_T_growLast_66 (lv_at hl 4 rfl) ?_
              refine lv_iload_n hx hb d_T_growLast_68 rfl (lv_at hl 3 rfl) ?_
              obtain ⟨g_14, hj⟩ := gw_if hj
              refine gw_iast (t0 := 0) S hw ⟨xa_sg x0, rfl⟩ g_14 (xs_sg x0 v4_15.toNatClampNeg v3_15) d_T_growLast_69 (fun H locs hw => ?_)
              refine lv_iinc (v := (v4_15 + 1)) (lv' := [(4, .int (v4_15 + 1)), (0, .ref (ad (6 + x0.val))), (1, .int a1), (2, .int z2_15), (3, .int v3_15)]) hx hb d_T_growLast_70 hl (k := 4) rfl rfl (by decide) rfl (fun ls hl => ?_)
              refine lv_aload_n hx hb d_T_growLast_73 rfl (lv_at hl 1 rfl) ?_
              refine gw_get (v := .ref (ad (22 + x0.val))) S hw (xa_T x0) rfl (by decide) n_T_T f_18 rfl d_T_growLast_74 ?_
              refine lv_iload hx hb d_T_growLast_77 (lv_at hl 0 rfl) ?_
              refine lv_iload_n hx hb d_T_growLast_79 rfl (lv_at hl 2 rfl) ?_
              obtain ⟨g_15, hj⟩ := gw_if hj
              refine gw_iast (t0 := 0) S hw ⟨xa_sg x0, rfl⟩ g_15 (xs_sg x0 (v4_15 + 1).toNatClampNeg a1) d_T_growLast_80 (fun H locs hw => ?_)
              refine lv_aload_n hx hb d_T_growLast_81 rfl (lv_at hl 1 rfl) ?_
              refine lv_iload hx hb d_T_growLast_82 (lv_at hl 0 rfl) ?_
              refine lv_iconst (v := 1) hx hb d_T_growLast_84 (by decide) ?_
              refine lv_iadd hx hb d_T_growLast_85 ?_
              refine gw_put (v := .int ((v4_15 + 1) + 1)) (ty := .int) S hw (xa_T x0) rfl (by decide) n_T_T f_44 tk_T nm_T rfl (by decide +kernel) rfl rfl (Nat.le_of_ble_eq_true rfl) (xs_T x0 6 ((v4_15 + 1) + 1) (by decide)) d_T_growLast_86 (fun H locs hw => ?_)
              refine lv_iload_n hx hb d_T_growLast_89 rfl (lv_at hl 3 rfl) ?_
              refine lv_aload_n hx hb d_T_growLast_90 rfl (lv_at hl 1 rfl) ?_
              refine gw_get (v := .int ((sF (sF (sF M15 2 x0 v4_15.toNatClampNeg v3_15) 2 x0 (v4_15 + 1).toNatClampNeg a1) 0 x0 6 ((v4_15 + 1) + 1)).1 0 x0 6)) S hw (xa_T x0) rfl (by decide) n_T_T f_44 rfl d_T_growLast_91 ?_
              refine lv_isub hx hb d_T_growLast_94 ?_
              exact hend H locs ls 95 _ _ (Prod.mk.inj (Option.some.inj hj)).1 (congrArg (wX cI cT ad) (Prod.mk.inj (Option.some.inj hj)).2) hw d_T_growLast_95
        · rw [if_neg c_9] at hj
          refine lv_iload_n hx hb d_T_growLast_34 rfl (lv_at hl 3 rfl) ?_
          refine lv_aload_n hx hb d_T_growLast_35 rfl (lv_at hl 0 rfl) ?_
          refine gw_get (v := .ref (ad (22 + x0.val))) S hw (xa_T x0) rfl (by decide) n_T_T f_18 rfl d_T_growLast_36 ?_
          refine lv_iload hx hb d_T_growLast_39 (lv_at hl 4 rfl) ?_
          obtain ⟨g_16, hj⟩ := gw_if hj
          refine gw_iald (t0 := 0) S hw ⟨xa_sg x0, rfl⟩ g_16 d_T_growLast_41 ?_
          refine lv_isub hx hb d_T_growLast_42 ?_
          refine lv_istore_n (lv' := [(3, .int (v3_15 - (M15.1 2 x0 v4_15.toNatClampNeg))), (0, .ref (ad (6 + x0.val))), (1, .int a1), (2, .int z2_15), (4, .int v4_15)]) hx hb d_T_growLast_43 rfl hl (by decide) rfl (fun ls hl => ?_)
          refine lv_iinc (v := (v4_15 + 1)) (lv' := [(4, .int (v4_15 + 1)), (3, .int (v3_15 - (M15.1 2 x0 v4_15.toNatClampNeg))), (0, .ref (ad (6 + x0.val))), (1, .int a1), (2, .int z2_15)]) hx hb d_T_growLast_44 hl (k := 4) rfl rfl (by decide) rfl (fun ls hl => ?_)
          refine lv_goto (tgt := 15) hx hb d_T_growLast_47 (by decide) ?_
          exact ih15 (v3_15 - (M15.1 2 x0 v4_15.toNatClampNeg)) (v4_15 + 1) M15 hj H locs hw ls (lv_sub hl [2, 3, 4, 1, 0] rfl)
  unfold j_T_growLast at hj
  refine lv_aload_n hx hb d_T_growLast_0 rfl (lv_at hl 0 rfl) ?_
  refine gw_get (v := .int (M.1 0 x0 6)) S hw (xa_T x0) rfl (by decide) n_T_T f_44 rfl d_T_growLast_1 ?_
  refine lv_istore_n (lv' := [(2, .int (M.1 0 x0 6)), (0, .ref (ad (6 + x0.val))), (1, .int a1)]) hx hb d_T_growLast_4 rfl hl (by decide) rfl (fun ls hl => ?_)
  refine lv_aload_n hx hb d_T_growLast_5 rfl (lv_at hl 1 rfl) ?_
  refine gw_get (v := .int (M.1 0 x0 7)) S hw (xa_T x0) rfl (by decide) n_T_T f_47 rfl d_T_growLast_6 ?_
  refine lv_iload_n hx hb d_T_growLast_9 rfl (lv_at hl 2 rfl) ?_
  refine lv_isub hx hb d_T_growLast_10 ?_
  refine lv_istore_n (lv' := [(3, .int ((M.1 0 x0 7) - a1)), (2, .int (M.1 0 x0 6)), (0, .ref (ad (6 + x0.val))), (1, .int a1)]) hx hb d_T_growLast_11 rfl hl (by decide) rfl (fun ls hl => ?_)
  refine lv_iconst (v := 0) hx hb d_T_growLast_12 (by decide) ?_
  refine lv_istore (lv' := [(4, .int 0), (3, .int ((M.1 0 x0 7) - a1)), (2, .int (M.1 0 x0 6)), (0, .ref (ad (6 + x0.val))), (1, .int a1)]) hx hb d_T_growLast_13 hl (by decide) rfl (fun ls hl => ?_)
  exact L15 (M.1 0 x0 6) n ((M.1 0 x0 7) - a1) 0 M hj H locs hw ls (lv_sub hl [3, 4, 2, 1, 0] rfl)
