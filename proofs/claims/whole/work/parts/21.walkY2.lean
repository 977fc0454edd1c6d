abbrev rm_Y_isReady : Room := { frames := 0, cells := 0, slots := 0, locals := 0 }
def ws_Y_isReady : List Cond := Cond.code y_Y_isReady b_Y_isReady 3 (some .boolean) :: wB
set_option maxHeartbeats 4000000 in
set_option maxRecDepth 100000 in
theorem c_Y_isReady {l : Launch} {D : va_G} {cI cZ : ClassId} {ad : Nat → Nat} {n : Nat} {M : MY} {r0 : Int32} (hj : j_Y_isReady n M = some r0) : gw_Cz l y_Y_isReady ws_Y_isReady rm_Y_isReady D (tyY cI cZ) (wY cI cZ ad M) [.ref (ad 0)] r0 (wY cI cZ ad M) := by
  intro sz
  refine gw_metz (cc := b_Y_isReady) (maxL := 3) (by decide) rfl (Nat.le_of_ble_eq_true rfl) ?_
  intro p e s m args below meth c A Q S H locs hw hend ls hl
  have S : CallFix p m c b_Y_isReady 3 s args ws_Y_isReady R_Y := S
  have hx := S.1
  have hb := S.2.1
  have hts := S.2.2.2.2
  have hl : lv_has ls 3 [(0, .ref (ad 0))] := hl
  have n_T_Y : ∀ w ∈ u_ws R_Y T_Y 29, w ∈ ws_Y_isReady := fun w h => List.mem_cons_of_mem _ (uT_Y w h)
  have f_7 : Cond.fieldLink R_Y 7 (T_Y 1).1 (T_Y 1).2.1 (T_Y 1).2.2.1 ∈ ws_Y_isReady := List.mem_cons_of_mem _ xw_267
  have f_23 : Cond.fieldLink R_Y 23 (T_Y 5).1 (T_Y 5).2.1 (T_Y 5).2.2.1 ∈ ws_Y_isReady := List.mem_cons_of_mem _ xw_271
  have L4 : ∀ (f4 : Nat) (v1_4 : Int32) (v2_4 : Int32), j_Y_isReady_L4 n M f4 v1_4 v2_4 = some r0 → ∀ (H : Heap) (locs : List Loc), gw_W D (tyY cI cZ) A (wY cI cZ ad M) s H locs → ∀ ls : Array Slot, lv_has ls 3 [(0, .ref (ad 0)), (1, .int v1_4), (2, .int v2_4)] → W p l e rm_Y_isReady s m args below meth c H locs 0 0 Q (F0 m 4 ls []) := by
    intro f4
    induction f4 with
    | zero =>
      intro v1_4 v2_4 hj
      exact nomatch (show (none : Option Int32) = some r0 from hj)
    | succ f4 ih4 =>
      intro v1_4 v2_4 hj H locs hw ls hl
      rw [j_Y_isReady_L4] at hj
      refine lv_iload_n hx hb d_Y_isReady_4 rfl (lv_at hl 2 rfl) ?_
      refine lv_bipush (v := 8) hx hb d_Y_isReady_5 (by decide) ?_
      refine lv_icmp_gt (tgt := 55) hx hb d_Y_isReady_7 (by decide) (fun c_1 => ?_) (fun c_1 => ?_)
      · rw [if_pos c_1] at hj
        refine lv_iload_n hx hb d_Y_isReady_55 rfl (lv_at hl 1 rfl) ?_
        obtain ⟨g_2, hj⟩ := gw_if hj
        exact hend H locs ls 56 _ _ (Option.some.inj hj) rfl g_2 hw d_Y_isReady_56
      · rw [if_neg c_1] at hj
        refine lv_aload_n hx hb d_Y_isReady_10 rfl (lv_at hl 0 rfl) ?_
        refine gw_get (v := .ref (ad 1)) S hw ya_R rfl (by decide) n_T_Y f_7 rfl d_Y_isReady_11 ?_
        refine lv_iload_n hx hb d_Y_isReady_14 rfl (lv_at hl 2 rfl) ?_
        obtain ⟨g_3, hj⟩ := gw_if hj
        refine gw_zald (t0 := 1) S hw ⟨ya_a1, rfl⟩ g_3 d_Y_isReady_15 ?_
        refine lv_if_eq (tgt := 30) hx hb d_Y_isReady_16 (by decide) (fun c_4 => ?_) (fun c_4 => ?_)
        · rw [if_pos c_4] at hj
          refine lv_iload_n hx hb d_Y_isReady_30 rfl (lv_at hl 1 rfl) ?_
          refine lv_if_ne (tgt := 43) hx hb d_Y_isReady_31 (by decide) (fun c_5 => ?_) (fun c_5 => ?_)
          · rw [if_neg c_5] at hj
            refine lv_iconst (v := 1) hx hb d_Y_isReady_43 (by decide) ?_
            refine lv_goto (tgt := 48) hx hb d_Y_isReady_44 (by decide) ?_
            refine lv_istore_n (lv' := [(1, .int 1), (0, .ref (ad 0)), (2, .int v2_4)]) hx hb d_Y_isReady_48 rfl hl (by decide) rfl (fun ls hl => ?_)
            refine lv_iinc (v := (v2_4 + 1)) (lv' := [(2, .int (v2_4 + 1)), (1, .int 1), (0, .ref (ad 0))]) hx hb d_Y_isReady_49 hl (k := 2) rfl rfl (by decide) rfl (fun ls hl => ?_)
            refine lv_goto (tgt := 4) hx hb d_Y_isReady_52 (by decide) ?_
            exact ih4 1 (v2_4 + 1) hj H locs hw ls (lv_sub hl [2, 1, 0] rfl)
          · rw [if_pos c_5] at hj
            refine lv_aload_n hx hb d_Y_isReady_34 rfl (lv_at hl 0 rfl) ?_
            refine gw_get (v := .ref (ad 1)) S hw ya_R rfl (by decide) n_T_Y f_7 rfl d_Y_isReady_35 ?_
            refine lv_iload_n hx hb d_Y_isReady_38 rfl (lv_at hl 2 rfl) ?_
            obtain ⟨g_6, hj⟩ := gw_if hj
            refine gw_zald (t0 := 1) S hw ⟨ya_a1, rfl⟩ g_6 d_Y_isReady_39 ?_
            refine lv_if_eq (tgt := 47) hx hb d_Y_isReady_40 (by decide) (fun c_7 => ?_) (fun c_7 => ?_)
            · rw [if_pos c_7] at hj
              refine lv_iconst (v := 0) hx hb d_Y_isReady_47 (by decide) ?_
              refine lv_istore_n (lv' := [(1, .int 0), (0, .ref (ad 0)), (2, .int v2_4)]) hx hb d_Y_isReady_48 rfl hl (by decide) rfl (fun ls hl => ?_)
              refine lv_iinc (v := (v2_4 + 1)) (lv' := [(2, .int (v2_4 + 1)), (1, .int 0), (0, .ref (ad 0))]) hx hb d_Y_isReady_49 hl (k := 2) rfl rfl (by decide) rfl (fun ls hl => ?_)
              refine lv_goto (tgt := 4) hx hb d_Y_isReady_52 (by decide) ?_
              exact ih4 0 (v2_4 + 1) hj H locs hw ls (lv_sub hl [2, 1, 0] rfl)
            · rw [if_neg c_7] at hj
              refine lv_iconst (v := 1) hx hb d_Y_isReady_43 (by decide) ?_
              refine lv_goto (tgt := 48) hx hb d_Y_isReady_44 (by decide) ?_
              refine lv_istore_n (lv' := [(1, .int 1), (0, .ref (ad 0)), (2, .int v2_4)]) hx hb d_Y_isReady_48 rfl hl (by decide) rfl (fun ls hl => ?_)
              refine lv_iinc (v := (v2_4 + 1)) (lv' := [(2, .int (v2_4 + 1)), (1, .int 1), (0, .ref (ad 0))]) hx hb d_Y_isReady_49 hl (k := 2) rfl rfl (by decide) rfl (fun ls hl => ?_)
              refine lv_goto (tgt := 4) hx hb d_Y_isReady_52 (by decide) ?_
              exact ih4 1 (v2_4 + 1) hj H locs hw ls (lv_sub hl [2, 1, 0] rfl)
        · rw [if_neg c_4] at hj
          refine lv_aload_n hx hb d_Y_isReady_19 rfl (lv_at hl 0 rfl) ?_
          refine gw_get (v := .ref (ad 5)) S hw ya_R rfl (by decide) n_T_Y f_23 rfl d_Y_isReady_20 ?_
          refine lv_iload_n hx hb d_Y_isReady_23 rfl (lv_at hl 2 rfl) ?_
          obtain ⟨g_8, hj⟩ := gw_if hj
          refine gw_iald (t0 := 0) S hw ⟨ya_a5, rfl⟩ g_8 d_Y_isReady_24 ?_
          refine lv_if_ne (tgt := 30) hx hb d_Y_isReady_25 (by decide) (fun c_9 => ?_) (fun c_9 => ?_)
          · rw [if_neg c_9] at hj
            refine lv_iload_n hx hb d_Y_isReady_30 rfl (lv_at hl 1 rfl) ?_
            refine lv_if_ne (tgt := 43) hx hb d_Y_isReady_31 (by decide) (fun c_10 => ?_) (fun c_10 => ?_)
            · rw [if_neg c_10] at hj
              refine lv_iconst (v := 1) hx hb d_Y_isReady_43 (by decide) ?_
              refine lv_goto (tgt := 48) hx hb d_Y_isReady_44 (by decide) ?_
              refine lv_istore_n (lv' := [(1, .int 1), (0, .ref (ad 0)), (2, .int v2_4)]) hx hb d_Y_isReady_48 rfl hl (by decide) rfl (fun ls hl => ?_)
              refine lv_iinc (v := (v2_4 + 1)) (lv' := [(2, .int (v2_4 + 1)), (1, .int 1), (0, .ref (ad 0))]) hx hb d_Y_isReady_49 hl (k := 2) rfl rfl (by decide) rfl (fun ls hl => ?_)
              refine lv_goto (tgt := 4) hx hb d_Y_isReady_52 (by decide) ?_
              exact ih4 1 (v2_4 + 1) hj H locs hw ls (lv_sub hl [2, 1, 0] rfl)
            · rw [if_pos c_10] at hj
              refine lv_aload_n hx hb d_Y_isReady_34 rfl (lv_at hl 0 rfl) ?_
              refine gw_get (v := .ref (ad 1)) S hw ya_R rfl (by decide) n_T_Y f_7 rfl d_Y_isReady_35 ?_
              refine lv_iload_n hx hb d_Y_isReady_38 rfl (lv_at hl 2 rfl) ?_
              obtain ⟨g_11, hj⟩ := gw_if hj
              refine gw_zald (t0 := 1) S hw ⟨ya_a1, rfl⟩ g_11 d_Y_isReady_39 ?_
              refine lv_if_eq (tgt := 47) hx hb d_Y_isReady_40 (by decide) (fun c_12 => ?_) (fun c_12 => ?_)
              · rw [if_pos c_12] at hj
                refine lv_iconst (v := 0) hx hb d_Y_isReady_47 (by decide) ?_
                refine lv_istore_n (lv' := [(1, .int 0), (0, .ref (ad 0)), (2, .int v2_4)]) hx hb d_Y_isReady_48 rfl hl (by decide) rfl (fun ls hl => ?_)
                refine lv_iinc (v := (v2_4 + 1)) (lv' := [(2, .int (v2_4 + 1)), (1, .int 0), (0, .ref (ad 0))]) hx hb d_Y_isReady_49 hl (k := 2) rfl rfl (by decide) rfl (fun ls hl => ?_)
                refine lv_goto (tgt := 4) hx hb d_Y_isReady_52 (by decide) ?_
                exact ih4 0 (v2_4 + 1) hj H locs hw ls (lv_sub hl [2, 1, 0] rfl)
              · rw [if_neg c_12] at hj
                refine lv_iconst (v := 1) hx hb d_Y_isReady_43 (by decide) ?_
                refine lv_goto (tgt := 48) hx hb d_Y_isReady_44 (by decide) ?_
                refine lv_istore_n (lv' := [(1, .int 1), (0, .ref (ad 0)), (2, .int v2_4)]) hx hb d_Y_isReady_48 rfl hl (by decide) rfl (fun ls hl => ?_)
                refine lv_iinc (v := (v2_4 + 1)) (lv' := [(2, .int (v2_4 + 1)), (1, .int 1), (0, .ref (ad 0))]) hx hb d_Y_isReady_49 hl (k := 2) rfl rfl (by decide) rfl (fun ls hl => ?_)
                refine lv_goto (tgt := 4) hx hb d_Y_isReady_52 (by decide) ?_
                exact ih4 1 (v2_4 + 1) hj H locs hw ls (lv_sub hl [2, 1, 0] rfl)
          · rw [if_pos c_9] at hj
            refine lv_iconst (v := 0) hx hb d_Y_isReady_28 (by decide) ?_
            exact hend H locs ls 29 _ _ (Option.some.inj hj) rfl (Or.inl rfl) hw d_Y_isReady_29
  unfold j_Y_isReady at hj
  refine lv_iconst (v := 0) hx hb d_Y_isReady_0 (by decide) ?_
  refine lv_istore_n (lv' := [(1, .int 0), (0, .ref (ad 0))]) hx hb d_Y_isReady_1 rfl hl (by decide) rfl (fun ls hl => ?_)
  refine lv_iconst (v := 1) hx hb d_Y_isReady_2 (by decide) ?_
  refine lv_istore_n (lv' := [(2, .int 1), (1, .int 0), (0, .ref (ad 0))]) hx hb d_Y_isReady_3 rfl hl (by decide) rfl (fun ls hl => ?_)
  exact L4 n 0 1 hj H locs hw ls (lv_sub hl [2, 1, 0] rfl)
abbrev rm_Y_workBefore : Room := { frames := 0, cells := 0, slots := 0, locals := 0 }
def ws_Y_workBefore : List Cond := Cond.code y_Y_workBefore b_Y_workBefore 5 (some .int) :: wB
set_option maxHeartbeats 4000000 in
set_option maxRecDepth 100000 in
theorem c_Y_workBefore {l : Launch} {D : va_G} {cI cZ : ClassId} {ad : Nat → Nat} {n : Nat} {M : MY} {a1 : Int32} {a2 : Int32} {r0 : Int32} (hj : j_Y_workBefore n M a1 a2 = some r0) : gw_Ci l y_Y_workBefore ws_Y_workBefore rm_Y_workBefore D (tyY cI cZ) (wY cI cZ ad M) [.ref (ad 0), .int a1, .int a2] r0 (wY cI cZ ad M) := by
  intro sz
  refine gw_meti (cc := b_Y_workBefore) (maxL := 5) (by decide) rfl (Nat.le_of_ble_eq_true rfl) ?_
  intro p e s m args below meth c A Q S H locs hw hend ls hl
  have S : CallFix p m c b_Y_workBefore 5 s args ws_Y_workBefore R_Y := S
  have hx := S.1
  have hb := S.2.1
  have hts := S.2.2.2.2
  have hl : lv_has ls 5 [(0, .ref (ad 0)), (1, .int a1), (2, .int a2)] := hl
  have n_T_Y : ∀ w ∈ u_ws R_Y T_Y 29, w ∈ ws_Y_workBefore := fun w h => List.mem_cons_of_mem _ (uT_Y w h)
  have f_26 : Cond.fieldLink R_Y 26 (T_Y 6).1 (T_Y 6).2.1 (T_Y 6).2.2.1 ∈ ws_Y_workBefore := List.mem_cons_of_mem _ xw_273
  have L5 : ∀ (f5 : Nat) (v3_5 : Int32) (v4_5 : Int32), j_Y_workBefore_L5 n M a1 a2 f5 v3_5 v4_5 = some r0 → ∀ (H : Heap) (locs : List Loc), gw_W D (tyY cI cZ) A (wY cI cZ ad M) s H locs → ∀ ls : Array Slot, lv_has ls 5 [(0, .ref (ad 0)), (1, .int a1), (2, .int a2), (3, .int v3_5), (4, .int v4_5)] → W p l e rm_Y_workBefore s m args below meth c H locs 0 0 Q (F0 m 5 ls []) := by
    intro f5
    induction f5 with
    | zero =>
      intro v3_5 v4_5 hj
      exact nomatch (show (none : Option Int32) = some r0 from hj)
    | succ f5 ih5 =>
      intro v3_5 v4_5 hj H locs hw ls hl
      rw [j_Y_workBefore_L5] at hj
      refine lv_iload hx hb d_Y_workBefore_5 (lv_at hl 4 rfl) ?_
      refine lv_iload_n hx hb d_Y_workBefore_7 rfl (lv_at hl 2 rfl) ?_
      refine lv_icmp_ge (tgt := 32) hx hb d_Y_workBefore_8 (by decide) (fun c_1 => ?_) (fun c_1 => ?_)
      · rw [if_pos c_1] at hj
        refine lv_iload_n hx hb d_Y_workBefore_32 rfl (lv_at hl 3 rfl) ?_
        exact hend H locs ls 33 _ _ (Option.some.inj hj) rfl hw d_Y_workBefore_33
      · rw [if_neg c_1] at hj
        refine lv_iload_n hx hb d_Y_workBefore_11 rfl (lv_at hl 3 rfl) ?_
        refine lv_aload_n hx hb d_Y_workBefore_12 rfl (lv_at hl 0 rfl) ?_
        refine gw_get (v := .ref (ad 6)) S hw ya_R rfl (by decide) n_T_Y f_26 rfl d_Y_workBefore_13 ?_
        refine lv_bipush (v := 8) hx hb d_Y_workBefore_16 (by decide) ?_
        refine lv_iload_n hx hb d_Y_workBefore_18 rfl (lv_at hl 1 rfl) ?_
        refine lv_imul hx hb d_Y_workBefore_19 ?_
        refine lv_iload hx hb d_Y_workBefore_20 (lv_at hl 4 rfl) ?_
        refine lv_iadd hx hb d_Y_workBefore_22 ?_
        obtain ⟨g_2, hj⟩ := gw_if hj
        refine gw_iald (t0 := 0) S hw ⟨ya_a6, rfl⟩ g_2 d_Y_workBefore_23 ?_
        refine lv_iadd hx hb d_Y_workBefore_24 ?_
        refine lv_istore_n (lv' := [(3, .int (v3_5 + (M.1 6 ((8 * a1) + v4_5).toNatClampNeg))), (0, .ref (ad 0)), (1, .int a1), (2, .int a2), (4, .int v4_5)]) hx hb d_Y_workBefore_25 rfl hl (by decide) rfl (fun ls hl => ?_)
        refine lv_iinc (v := (v4_5 + 1)) (lv' := [(4, .int (v4_5 + 1)), (3, .int (v3_5 + (M.1 6 ((8 * a1) + v4_5).toNatClampNeg))), (0, .ref (ad 0)), (1, .int a1), (2, .int a2)]) hx hb d_Y_workBefore_26 hl (k := 4) rfl rfl (by decide) rfl (fun ls hl => ?_)
        refine lv_goto (tgt := 5) hx hb d_Y_workBefore_29 (by decide) ?_
        exact ih5 (v3_5 + (M.1 6 ((8 * a1) + v4_5).toNatClampNeg)) (v4_5 + 1) hj H locs hw ls (lv_sub hl [2, 3, 4, 1, 0] rfl)
  unfold j_Y_workBefore at hj
  refine lv_iconst (v := 0) hx hb d_Y_workBefore_0 (by decide) ?_
  refine lv_istore_n (lv' := [(3, .int 0), (0, .ref (ad 0)), (1, .int a1), (2, .int a2)]) hx hb d_Y_workBefore_1 rfl hl (by decide) rfl (fun ls hl => ?_)
  refine lv_iconst (v := 0) hx hb d_Y_workBefore_2 (by decide) ?_
  refine lv_istore (lv' := [(4, .int 0), (3, .int 0), (0, .ref (ad 0)), (1, .int a1), (2, .int a2)]) hx hb d_Y_workBefore_3 hl (by decide) rfl (fun ls hl => ?_)
  exact L5 n 0 0 hj H locs hw ls (lv_sub hl [2, 3, 4, 1, 0] rfl)
abbrev rm_Y_work : Room := { frames := 1, cells := 0, slots := 0, locals := 24 }
def ws_Y_work : List Cond := Cond.code y_Y_work b_Y_work 2 (some .int) :: wB
set_option maxHeartbeats 4000000 in
set_option maxRecDepth 100000 in
theorem c_Y_work {l : Launch} {D : va_G} {cI cZ : ClassId} {ad : Nat → Nat} {n : Nat} {M : MY} {a1 : Int32} {r0 : Int32} (hj : j_Y_work n M a1 = some r0) : gw_Ci l y_Y_work ws_Y_work rm_Y_work D (tyY cI cZ) (wY cI cZ ad M) [.ref (ad 0), .int a1] r0 (wY cI cZ ad M) := by
  intro sz
  refine gw_meti (cc := b_Y_work) (maxL := 2) (by decide) rfl (Nat.le_of_ble_eq_true rfl) ?_
  intro p e s m args below meth c A Q S H locs hw hend ls hl
  have S : CallFix p m c b_Y_work 2 s args ws_Y_work R_Y := S
  have hx := S.1
  have hb := S.2.1
  have hts := S.2.2.2.2
  have hl : lv_has ls 2 [(0, .ref (ad 0)), (1, .int a1)] := hl
  have n_T_Y : ∀ w ∈ u_ws R_Y T_Y 29, w ∈ ws_Y_work := fun w h => List.mem_cons_of_mem _ (uT_Y w h)
  have f_23 : Cond.fieldLink R_Y 23 (T_Y 5).1 (T_Y 5).2.1 (T_Y 5).2.2.1 ∈ ws_Y_work := List.mem_cons_of_mem _ xw_271
  have w_89 : CallW rm_Y_work s args R_Y R_Y 89 y_Y_workBefore b_Y_workBefore 5 (some .int) ws_Y_workBefore rm_Y_workBefore 0 0 2 := cwV 2 hts (wB_callV (fun w h => List.mem_cons_of_mem _ h) xw_293 xw_294 xw_295 xw_296 xw_278) rfl rfl rfl (by decide +kernel) ⟨Nat.le_of_ble_eq_true rfl, Nat.le_of_ble_eq_true rfl⟩
  unfold j_Y_work at hj
  refine lv_aload_n hx hb d_Y_work_0 rfl (lv_at hl 0 rfl) ?_
  refine lv_iload_n hx hb d_Y_work_1 rfl (lv_at hl 1 rfl) ?_
  refine lv_aload_n hx hb d_Y_work_2 rfl (lv_at hl 0 rfl) ?_
  refine gw_get (v := .ref (ad 5)) S hw ya_R rfl (by decide) n_T_Y f_23 rfl d_Y_work_3 ?_
  refine lv_iload_n hx hb d_Y_work_6 rfl (lv_at hl 1 rfl) ?_
  obtain ⟨g_1, hj⟩ := gw_if hj
  refine gw_iald (t0 := 0) S hw ⟨ya_a5, rfl⟩ g_1 d_Y_work_7 ?_
  obtain ⟨r_3, e_2, hj⟩ := Option.bind_eq_some_iff.mp hj
  refine gw_calli (As := [.int a1, .int (M.1 5 a1.toNatClampNeg)]) (rest := []) S hw (c_Y_workBefore e_2) w_89 ya_R rfl rfl hl.1 rfl (Nat.le_of_ble_eq_true rfl) d_Y_work_8 (fun H locs hw => ?_)
  exact hend H locs ls 11 _ _ (Option.some.inj hj) rfl hw d_Y_work_11
abbrev rm_Y_longestOf : Room := { frames := 0, cells := 0, slots := 0, locals := 0 }
def ws_Y_longestOf : List Cond := Cond.code y_Y_longestOf b_Y_longestOf 4 (some .int) :: wB
set_option maxHeartbeats 4000000 in
set_option maxRecDepth 100000 in
theorem c_Y_longestOf {l : Launch} {D : va_G} {cI cZ : ClassId} {ad : Nat → Nat} {n : Nat} {M : MY} {a1 : Int32} {r0 : Int32} (hj : j_Y_longestOf n M a1 = some r0) : gw_Ci l y_Y_longestOf ws_Y_longestOf rm_Y_longestOf D (tyY cI cZ) (wY cI cZ ad M) [.ref (ad 0), .int a1] r0 (wY cI cZ ad M) := by
  intro sz
  refine gw_meti (cc := b_Y_longestOf) (maxL := 4) (by decide) rfl (Nat.le_of_ble_eq_true rfl) ?_
  intro p e s m args below meth c A Q S H locs hw hend ls hl
  have S : CallFix p m c b_Y_longestOf 4 s args ws_Y_longestOf R_Y := S
  have hx := S.1
  have hb := S.2.1
  have hts := S.2.2.2.2
  have hl : lv_has ls 4 [(0, .ref (ad 0)), (1, .int a1)] := hl
  have n_T_Y : ∀ w ∈ u_ws R_Y T_Y 29, w ∈ ws_Y_longestOf := fun w h => List.mem_cons_of_mem _ (uT_Y w h)
  have f_23 : Cond.fieldLink R_Y 23 (T_Y 5).1 (T_Y 5).2.1 (T_Y 5).2.2.1 ∈ ws_Y_longestOf := List.mem_cons_of_mem _ xw_271
  have f_26 : Cond.fieldLink R_Y 26 (T_Y 6).1 (T_Y 6).2.1 (T_Y 6).2.2.1 ∈ ws_Y_longestOf := List.mem_cons_of_mem _ xw_273
  have L4 : ∀ (f4 : Nat) (v2_4 : Int32) (v3_4 : Int32), j_Y_longestOf_L4 n M a1 f4 v2_4 v3_4 = some r0 → ∀ (H : Heap) (locs : List Loc), gw_W D (tyY cI cZ) A (wY cI cZ ad M) s H locs → ∀ ls : Array Slot, lv_has ls 4 [(0, .ref (ad 0)), (1, .int a1), (2, .int v2_4), (3, .int v3_4)] → W p l e rm_Y_longestOf s m args below meth c H locs 0 0 Q (F0 m 4 ls []) := by
    intro f4
    induction f4 with
    | zero =>
      intro v2_4 v3_4 hj
      exact nomatch (show (none : Option Int32) = some r0 from hj)
    | succ f4 ih4 =>
      intro v2_4 v3_4 hj H locs hw ls hl
      rw [j_Y_longestOf_L4] at hj
      refine lv_iload_n hx hb d_Y_longestOf_4 rfl (lv_at hl 3 rfl) ?_
      refine lv_aload_n hx hb d_Y_longestOf_5 rfl (lv_at hl 0 rfl) ?_
      refine gw_get (v := .ref (ad 5)) S hw ya_R rfl (by decide) n_T_Y f_23 rfl d_Y_longestOf_6 ?_
      refine lv_iload_n hx hb d_Y_longestOf_9 rfl (lv_at hl 1 rfl) ?_
      obtain ⟨g_1, hj⟩ := gw_if hj
      refine gw_iald (t0 := 0) S hw ⟨ya_a5, rfl⟩ g_1 d_Y_longestOf_10 ?_
      refine lv_icmp_ge (tgt := 51) hx hb d_Y_longestOf_11 (by decide) (fun c_2 => ?_) (fun c_2 => ?_)
      · rw [if_pos c_2] at hj
        refine lv_iload_n hx hb d_Y_longestOf_51 rfl (lv_at hl 2 rfl) ?_
        exact hend H locs ls 52 _ _ (Option.some.inj hj) rfl hw d_Y_longestOf_52
      · rw [if_neg c_2] at hj
        refine lv_aload_n hx hb d_Y_longestOf_14 rfl (lv_at hl 0 rfl) ?_
        refine gw_get (v := .ref (ad 6)) S hw ya_R rfl (by decide) n_T_Y f_26 rfl d_Y_longestOf_15 ?_
        refine lv_bipush (v := 8) hx hb d_Y_longestOf_18 (by decide) ?_
        refine lv_iload_n hx hb d_Y_longestOf_20 rfl (lv_at hl 1 rfl) ?_
        refine lv_imul hx hb d_Y_longestOf_21 ?_
        refine lv_iload_n hx hb d_Y_longestOf_22 rfl (lv_at hl 3 rfl) ?_
        refine lv_iadd hx hb d_Y_longestOf_23 ?_
        obtain ⟨g_3, hj⟩ := gw_if hj
        refine gw_iald (t0 := 0) S hw ⟨ya_a6, rfl⟩ g_3 d_Y_longestOf_24 ?_
        refine lv_iload_n hx hb d_Y_longestOf_25 rfl (lv_at hl 2 rfl) ?_
        refine lv_icmp_le (tgt := 43) hx hb d_Y_longestOf_26 (by decide) (fun c_4 => ?_) (fun c_4 => ?_)
        · rw [if_pos c_4] at hj
          refine lv_iload_n hx hb d_Y_longestOf_43 rfl (lv_at hl 2 rfl) ?_
          refine lv_istore_n (lv' := [(2, .int v2_4), (0, .ref (ad 0)), (1, .int a1), (3, .int v3_4)]) hx hb d_Y_longestOf_44 rfl hl (by decide) rfl (fun ls hl => ?_)
          refine lv_iinc (v := (v3_4 + 1)) (lv' := [(3, .int (v3_4 + 1)), (2, .int v2_4), (0, .ref (ad 0)), (1, .int a1)]) hx hb d_Y_longestOf_45 hl (k := 3) rfl rfl (by decide) rfl (fun ls hl => ?_)
          refine lv_goto (tgt := 4) hx hb d_Y_longestOf_48 (by decide) ?_
          exact ih4 v2_4 (v3_4 + 1) hj H locs hw ls (lv_sub hl [2, 3, 1, 0] rfl)
        · rw [if_neg c_4] at hj
          refine lv_aload_n hx hb d_Y_longestOf_29 rfl (lv_at hl 0 rfl) ?_
          refine gw_get (v := .ref (ad 6)) S hw ya_R rfl (by decide) n_T_Y f_26 rfl d_Y_longestOf_30 ?_
          refine lv_bipush (v := 8) hx hb d_Y_longestOf_33 (by decide) ?_
          refine lv_iload_n hx hb d_Y_longestOf_35 rfl (lv_at hl 1 rfl) ?_
          refine lv_imul hx hb d_Y_longestOf_36 ?_
          refine lv_iload_n hx hb d_Y_longestOf_37 rfl (lv_at hl 3 rfl) ?_
          refine lv_iadd hx hb d_Y_longestOf_38 ?_
          obtain ⟨g_5, hj⟩ := gw_if hj
          refine gw_iald (t0 := 0) S hw ⟨ya_a6, rfl⟩ g_5 d_Y_longestOf_39 ?_
          refine lv_goto (tgt := 44) hx hb d_Y_longestOf_40 (by decide) ?_
          refine lv_istore_n (lv' := [(2, .int (M.1 6 ((8 * a1) + v3_4).toNatClampNeg)), (0, .ref (ad 0)), (1, .int a1), (3, .int v3_4)]) hx hb d_Y_longestOf_44 rfl hl (by decide) rfl (fun ls hl => ?_)
          refine lv_iinc (v := (v3_4 + 1)) (lv' := [(3, .int (v3_4 + 1)), (2, .int (M.1 6 ((8 * a1) + v3_4).toNatClampNeg)), (0, .ref (ad 0)), (1, .int a1)]) hx hb d_Y_longestOf_45 hl (k := 3) rfl rfl (by decide) rfl (fun ls hl => ?_)
          refine lv_goto (tgt := 4) hx hb d_Y_longestOf_48 (by decide) ?_
          exact ih4 (M.1 6 ((8 * a1) + v3_4).toNatClampNeg) (v3_4 + 1) hj H locs hw ls (lv_sub hl [2, 3, 1, 0] rfl)
  unfold j_Y_longestOf at hj
  refine lv_iconst (v := 0) hx hb d_Y_longestOf_0 (by decide) ?_
  refine lv_istore_n (lv' := [(2, .int 0), (0, .ref (ad 0)), (1, .int a1)]) hx hb d_Y_longestOf_1 rfl hl (by decide) rfl (fun ls hl => ?_)
  refine lv_iconst (v := 0) hx hb d_Y_longestOf_2 (by decide) ?_
  refine lv_istore_n (lv' := [(3, .int 0), (2, .int 0), (0, .ref (ad 0)), (1, .int a1)]) hx hb d_Y_longestOf_3 rfl hl (by decide) rfl (fun ls hl => ?_)
  exact L4 n 0 0 hj H locs hw ls (lv_sub hl [2, 3, 1, 0] rfl)
abbrev rm_Y_longestBelow : Room := { frames := 1, cells := 0, slots := 0, locals := 23 }
def ws_Y_longestBelow : List Cond := Cond.code y_Y_longestBelow b_Y_longestBelow 4 (some .int) :: wB
set_option maxHeartbeats 4000000 in
set_option maxRecDepth 100000 in
theorem c_Y_longestBelow {l : Launch} {D : va_G} {cI cZ : ClassId} {ad : Nat → Nat} {n : Nat} {M : MY} {a1 : Int32} {r0 : Int32} (hj : j_Y_longestBelow n M a1 = some r0) : gw_Ci l y_Y_longestBelow ws_Y_longestBelow rm_Y_longestBelow D (tyY cI cZ) (wY cI cZ ad M) [.ref (ad 0), .int a1] r0 (wY cI cZ ad M) := by
  intro sz
  refine gw_meti (cc := b_Y_longestBelow) (maxL := 4) (by decide) rfl (Nat.le_of_ble_eq_true rfl) ?_
  intro p e s m args below meth c A Q S H locs hw hend ls hl
  have S : CallFix p m c b_Y_longestBelow 4 s args ws_Y_longestBelow R_Y := S
  have hx := S.1
  have hb := S.2.1
  have hts := S.2.2.2.2
  have hl : lv_has ls 4 [(0, .ref (ad 0)), (1, .int a1)] := hl
  have n_T_Y : ∀ w ∈ u_ws R_Y T_Y 29, w ∈ ws_Y_longestBelow := fun w h => List.mem_cons_of_mem _ (uT_Y w h)
  have f_7 : Cond.fieldLink R_Y 7 (T_Y 1).1 (T_Y 1).2.1 (T_Y 1).2.2.1 ∈ ws_Y_longestBelow := List.mem_cons_of_mem _ xw_267
  have f_20 : Cond.fieldLink R_Y 20 (T_Y 4).1 (T_Y 4).2.1 (T_Y 4).2.2.1 ∈ ws_Y_longestBelow := List.mem_cons_of_mem _ xw_270
  have w_93 : CallW rm_Y_longestBelow s args R_Y R_Y 93 y_Y_longestOf b_Y_longestOf 4 (some .int) ws_Y_longestOf rm_Y_longestOf 0 0 1 := cwV 1 hts (wB_callV (fun w h => List.mem_cons_of_mem _ h) xw_297 xw_298 xw_299 xw_300 xw_278) rfl rfl rfl (by decide +kernel) ⟨Nat.le_of_ble_eq_true rfl, Nat.le_of_ble_eq_true rfl⟩
  have L4 : ∀ (f4 : Nat) (v2_4 : Int32) (v3_4 : Int32), j_Y_longestBelow_L4 n M a1 f4 v2_4 v3_4 = some r0 → ∀ (H : Heap) (locs : List Loc), gw_W D (tyY cI cZ) A (wY cI cZ ad M) s H locs → ∀ ls : Array Slot, lv_has ls 4 [(0, .ref (ad 0)), (1, .int a1), (2, .int v2_4), (3, .int v3_4)] → W p l e rm_Y_longestBelow s m args below meth c H locs 0 0 Q (F0 m 4 ls []) := by
    intro f4
    induction f4 with
    | zero =>
      intro v2_4 v3_4 hj
      exact nomatch (show (none : Option Int32) = some r0 from hj)
    | succ f4 ih4 =>
      intro v2_4 v3_4 hj H locs hw ls hl
      rw [j_Y_longestBelow_L4] at hj
      refine lv_iload_n hx hb d_Y_longestBelow_4 rfl (lv_at hl 3 rfl) ?_
      refine lv_bipush (v := 8) hx hb d_Y_longestBelow_5 (by decide) ?_
      refine lv_icmp_gt (tgt := 55) hx hb d_Y_longestBelow_7 (by decide) (fun c_1 => ?_) (fun c_1 => ?_)
      · rw [if_pos c_1] at hj
        refine lv_iload_n hx hb d_Y_longestBelow_55 rfl (lv_at hl 2 rfl) ?_
        exact hend H locs ls 56 _ _ (Option.some.inj hj) rfl hw d_Y_longestBelow_56
      · rw [if_neg c_1] at hj
        refine lv_aload_n hx hb d_Y_longestBelow_10 rfl (lv_at hl 0 rfl) ?_
        refine gw_get (v := .ref (ad 1)) S hw ya_R rfl (by decide) n_T_Y f_7 rfl d_Y_longestBelow_11 ?_
        refine lv_iload_n hx hb d_Y_longestBelow_14 rfl (lv_at hl 3 rfl) ?_
        obtain ⟨g_2, hj⟩ := gw_if hj
        refine gw_zald (t0 := 1) S hw ⟨ya_a1, rfl⟩ g_2 d_Y_longestBelow_15 ?_
        refine lv_if_eq (tgt := 49) hx hb d_Y_longestBelow_16 (by decide) (fun c_3 => ?_) (fun c_3 => ?_)
        · rw [if_pos c_3] at hj
          refine lv_iinc (v := (v3_4 + 1)) (lv' := [(3, .int (v3_4 + 1)), (0, .ref (ad 0)), (1, .int a1), (2, .int v2_4)]) hx hb d_Y_longestBelow_49 hl (k := 3) rfl rfl (by decide) rfl (fun ls hl => ?_)
          refine lv_goto (tgt := 4) hx hb d_Y_longestBelow_52 (by decide) ?_
          exact ih4 v2_4 (v3_4 + 1) hj H locs hw ls (lv_sub hl [1, 2, 3, 0] rfl)
        · rw [if_neg c_3] at hj
          refine lv_aload_n hx hb d_Y_longestBelow_19 rfl (lv_at hl 0 rfl) ?_
          refine gw_get (v := .ref (ad 4)) S hw ya_R rfl (by decide) n_T_Y f_20 rfl d_Y_longestBelow_20 ?_
          refine lv_iload_n hx hb d_Y_longestBelow_23 rfl (lv_at hl 3 rfl) ?_
          obtain ⟨g_4, hj⟩ := gw_if hj
          refine gw_iald (t0 := 0) S hw ⟨ya_a4, rfl⟩ g_4 d_Y_longestBelow_24 ?_
          refine lv_aload_n hx hb d_Y_longestBelow_25 rfl (lv_at hl 0 rfl) ?_
          refine gw_get (v := .ref (ad 4)) S hw ya_R rfl (by decide) n_T_Y f_20 rfl d_Y_longestBelow_26 ?_
          refine lv_iload_n hx hb d_Y_longestBelow_29 rfl (lv_at hl 1 rfl) ?_
          obtain ⟨g_5, hj⟩ := gw_if hj
          refine gw_iald (t0 := 0) S hw ⟨ya_a4, rfl⟩ g_5 d_Y_longestBelow_30 ?_
          refine lv_icmp_ge (tgt := 49) hx hb d_Y_longestBelow_31 (by decide) (fun c_6 => ?_) (fun c_6 => ?_)
          · rw [if_pos c_6] at hj
            refine lv_iinc (v := (v3_4 + 1)) (lv' := [(3, .int (v3_4 + 1)), (0, .ref (ad 0)), (1, .int a1), (2, .int v2_4)]) hx hb d_Y_longestBelow_49 hl (k := 3) rfl rfl (by decide) rfl (fun ls hl => ?_)
            refine lv_goto (tgt := 4) hx hb d_Y_longestBelow_52 (by decide) ?_
            exact ih4 v2_4 (v3_4 + 1) hj H locs hw ls (lv_sub hl [1, 2, 3, 0] rfl)
          · rw [if_neg c_6] at hj
            refine lv_aload_n hx hb d_Y_longestBelow_34 rfl (lv_at hl 0 rfl) ?_
            refine lv_iload_n hx hb d_Y_longestBelow_35 rfl (lv_at hl 3 rfl) ?_
            obtain ⟨r_8, e_7, hj⟩ := Option.bind_eq_some_iff.mp hj
            refine gw_calli (As := [.int v3_4]) (rest := []) S hw (c_Y_longestOf e_7) w_93 ya_R rfl rfl hl.1 rfl (Nat.le_of_ble_eq_true rfl) d_Y_longestBelow_36 (fun H locs hw => ?_)
            refine lv_iload_n hx hb d_Y_longestBelow_39 rfl (lv_at hl 2 rfl) ?_
            refine lv_icmp_le (tgt := 49) hx hb d_Y_longestBelow_40 (by decide) (fun c_9 => ?_) (fun c_9 => ?_)
            · rw [if_pos c_9] at hj
              refine lv_iinc (v := (v3_4 + 1)) (lv' := [(3, .int (v3_4 + 1)), (0, .ref (ad 0)), (1, .int a1), (2, .int v2_4)]) hx hb d_Y_longestBelow_49 hl (k := 3) rfl rfl (by decide) rfl (fun ls hl => ?_)
              refine lv_goto (tgt := 4) hx hb d_Y_longestBelow_52 (by decide) ?_
              exact ih4 v2_4 (v3_4 + 1) hj H locs hw ls (lv_sub hl [1, 2, 3, 0] rfl)
            · rw [if_neg c_9] at hj
              refine lv_aload_n hx hb d_Y_longestBelow_43 rfl (lv_at hl 0 rfl) ?_
              refine lv_iload_n hx hb d_Y_longestBelow_44 rfl (lv_at hl 3 rfl) ?_
              obtain ⟨r_11, e_10, hj⟩ := Option.bind_eq_some_iff.mp hj
              refine gw_calli (As := [.int v3_4]) (rest := []) S hw (c_Y_longestOf e_10) w_93 ya_R rfl rfl hl.1 rfl (Nat.le_of_ble_eq_true rfl) d_Y_longestBelow_45 (fun H locs hw => ?_)
              refine lv_istore_n (lv' := [(2, .int r_11), (0, .ref (ad 0)), (1, .int a1), (3, .int v3_4)]) hx hb d_Y_longestBelow_48 rfl hl (by decide) rfl (fun ls hl => ?_)
              refine lv_iinc (v := (v3_4 + 1)) (lv' := [(3, .int (v3_4 + 1)), (2, .int r_11), (0, .ref (ad 0)), (1, .int a1)]) hx hb d_Y_longestBelow_49 hl (k := 3) rfl rfl (by decide) rfl (fun ls hl => ?_)
              refine lv_goto (tgt := 4) hx hb d_Y_longestBelow_52 (by decide) ?_
              exact ih4 r_11 (v3_4 + 1) hj H locs hw ls (lv_sub hl [2, 3, 1, 0] rfl)
  unfold j_Y_longestBelow at hj
  refine lv_iconst (v := 0) hx hb d_Y_longestBelow_0 (by decide) ?_
  refine lv_istore_n (lv' := [(2, .int 0), (0, .ref (ad 0)), (1, .int a1)]) hx hb d_Y_longestBelow_1 rfl hl (by decide) rfl (fun ls hl => ?_)
  refine lv_iconst (v := 1) hx hb d_Y_longestBelow_2 (by decide) ?_
  refine lv_istore_n (lv' := [(3, .int 1), (2, .int 0), (0, .ref (ad 0)), (1, .int a1)]) hx hb d_Y_longestBelow_3 rfl hl (by decide) rfl (fun ls hl => ?_)
  exact L4 n 0 1 hj H locs hw ls (lv_sub hl [2, 3, 1, 0] rfl)
abbrev rm_Y_blocking : Room := { frames := 2, cells := 0, slots := 0, locals := 46 }
def ws_Y_blocking : List Cond := Cond.code y_Y_blocking b_Y_blocking 2 (some .int) :: wB
set_option maxHeartbeats 4000000 in
set_option maxRecDepth 100000 in
theorem c_Y_blocking {l : Launch} {D : va_G} {cI cZ : ClassId} {ad : Nat → Nat} {n : Nat} {M : MY} {a1 : Int32} {r0 : Int32} (hj : j_Y_blocking n M a1 = some r0) : gw_Ci l y_Y_blocking ws_Y_blocking rm_Y_blocking D (tyY cI cZ) (wY cI cZ ad M) [.ref (ad 0), .int a1] r0 (wY cI cZ ad M) := by
  intro sz
  refine gw_meti (cc := b_Y_blocking) (maxL := 2) (by decide) rfl (Nat.le_of_ble_eq_true rfl) ?_
  intro p e s m args below meth c A Q S H locs hw hend ls hl
  have S : CallFix p m c b_Y_blocking 2 s args ws_Y_blocking R_Y := S
  have hx := S.1
  have hb := S.2.1
  have hts := S.2.2.2.2
  have hl : lv_has ls 2 [(0, .ref (ad 0)), (1, .int a1)] := hl
  have w_97 : CallW rm_Y_blocking s args R_Y R_Y 97 y_Y_longestBelow b_Y_longestBelow 4 (some .int) ws_Y_longestBelow rm_Y_longestBelow 0 0 1 := cwV 1 hts (wB_callV (fun w h => List.mem_cons_of_mem _ h) xw_301 xw_302 xw_303 xw_304 xw_278) rfl rfl rfl (by decide +kernel) ⟨Nat.le_of_ble_eq_true rfl, Nat.le_of_ble_eq_true rfl⟩
  unfold j_Y_blocking at hj
  refine lv_aload_n hx hb d_Y_blocking_0 rfl (lv_at hl 0 rfl) ?_
  refine lv_iload_n hx hb d_Y_blocking_1 rfl (lv_at hl 1 rfl) ?_
  obtain ⟨r_2, e_1, hj⟩ := Option.bind_eq_some_iff.mp hj
  refine gw_calli (As := [.int a1]) (rest := []) S hw (c_Y_longestBelow e_1) w_97 ya_R rfl rfl hl.1 rfl (Nat.le_of_ble_eq_true rfl) d_Y_blocking_2 (fun H locs hw => ?_)
  refine lv_if_ne (tgt := 12) hx hb d_Y_blocking_5 (by decide) (fun c_3 => ?_) (fun c_3 => ?_)
  · rw [if_neg c_3] at hj
    refine lv_aload_n hx hb d_Y_blocking_12 rfl (lv_at hl 0 rfl) ?_
    refine lv_iload_n hx hb d_Y_blocking_13 rfl (lv_at hl 1 rfl) ?_
    obtain ⟨r_5, e_4, hj⟩ := Option.bind_eq_some_iff.mp hj
    refine gw_calli (As := [.int a1]) (rest := []) S hw (c_Y_longestBelow e_4) w_97 ya_R rfl rfl hl.1 rfl (Nat.le_of_ble_eq_true rfl) d_Y_blocking_14 (fun H locs hw => ?_)
    refine lv_iconst (v := 1) hx hb d_Y_blocking_17 (by decide) ?_
    refine lv_isub hx hb d_Y_blocking_18 ?_
    exact hend H locs ls 19 _ _ (Option.some.inj hj) rfl hw d_Y_blocking_19
  · rw [if_pos c_3] at hj
    refine lv_iconst (v := 0) hx hb d_Y_blocking_8 (by decide) ?_
    refine lv_goto (tgt := 19) hx hb d_Y_blocking_9 (by decide) ?_
    exact hend H locs ls 19 _ _ (Option.some.inj hj) rfl hw d_Y_blocking_19
abbrev rm_Y_about : Room := { frames := 3, cells := 0, slots := 0, locals := 67 }
def ws_Y_about : List Cond := Cond.code y_Y_about b_Y_about 3 (some .int) :: wB
set_option maxHeartbeats 4000000 in
set_option maxRecDepth 100000 in
theorem c_Y_about {l : Launch} {D : va_G} {cI cZ : ClassId} {ad : Nat → Nat} {n : Nat} {M : MY} {a1 : Int32} {a2 : Int32} {r0 : Int32} {M0 : MY} (hj : j_Y_about n M a1 a2 = some (r0, M0)) : gw_Ci l y_Y_about ws_Y_about rm_Y_about D (tyY cI cZ) (wY cI cZ ad M) [.ref (ad 0), .int a1, .int a2] r0 (wY cI cZ ad M0) := by
  intro sz
  refine gw_meti (cc := b_Y_about) (maxL := 3) (by decide) rfl (Nat.le_of_ble_eq_true rfl) ?_
  intro p e s m args below meth c A Q S H locs hw hend ls hl
  have S : CallFix p m c b_Y_about 3 s args ws_Y_about R_Y := S
  have hx := S.1
  have hb := S.2.1
  have hts := S.2.2.2.2
  have hl : lv_has ls 3 [(0, .ref (ad 0)), (1, .int a1), (2, .int a2)] := hl
  have n_T_Y : ∀ w ∈ u_ws R_Y T_Y 29, w ∈ ws_Y_about := fun w h => List.mem_cons_of_mem _ (uT_Y w h)
  have f_13 : Cond.fieldLink R_Y 13 (T_Y 2).1 (T_Y 2).2.1 (T_Y 2).2.2.1 ∈ ws_Y_about := List.mem_cons_of_mem _ xw_268
  have f_17 : Cond.fieldLink R_Y 17 (T_Y 3).1 (T_Y 3).2.1 (T_Y 3).2.2.1 ∈ ws_Y_about := List.mem_cons_of_mem _ xw_269
  have f_20 : Cond.fieldLink R_Y 20 (T_Y 4).1 (T_Y 4).2.1 (T_Y 4).2.2.1 ∈ ws_Y_about := List.mem_cons_of_mem _ xw_270
  have f_23 : Cond.fieldLink R_Y 23 (T_Y 5).1 (T_Y 5).2.1 (T_Y 5).2.2.1 ∈ ws_Y_about := List.mem_cons_of_mem _ xw_271
  have f_26 : Cond.fieldLink R_Y 26 (T_Y 6).1 (T_Y 6).2.1 (T_Y 6).2.2.1 ∈ ws_Y_about := List.mem_cons_of_mem _ xw_273
  have f_62 : Cond.fieldLink R_Y 62 (T_Y 0).1 (T_Y 0).2.1 (T_Y 0).2.2.1 ∈ ws_Y_about := List.mem_cons_of_mem _ xw_266
  have w_70 : CallW rm_Y_about s args R_Y R_Y 70 y_Y_isTask b_Y_isTask 2 (some .boolean) ws_Y_isTask rm_Y_isTask 0 0 1 := cwV 1 hts (wB_callV (fun w h => List.mem_cons_of_mem _ h) xw_274 xw_275 xw_276 xw_277 xw_278) rfl rfl rfl (by decide +kernel) ⟨Nat.le_of_ble_eq_true rfl, Nat.le_of_ble_eq_true rfl⟩
  have w_100 : CallW rm_Y_about s args R_Y R_Y 100 y_Y_work b_Y_work 2 (some .int) ws_Y_work rm_Y_work 0 0 1 := cwV 1 hts (wB_callV (fun w h => List.mem_cons_of_mem _ h) xw_305 xw_306 xw_307 xw_308 xw_278) rfl rfl rfl (by decide +kernel) ⟨Nat.le_of_ble_eq_true rfl, Nat.le_of_ble_eq_true rfl⟩
  have w_103 : CallW rm_Y_about s args R_Y R_Y 103 y_Y_blocking b_Y_blocking 2 (some .int) ws_Y_blocking rm_Y_blocking 0 0 1 := cwV 1 hts (wB_callV (fun w h => List.mem_cons_of_mem _ h) xw_309 xw_310 xw_311 xw_312 xw_278) rfl rfl rfl (by decide +kernel) ⟨Nat.le_of_ble_eq_true rfl, Nat.le_of_ble_eq_true rfl⟩
  unfold j_Y_about at hj
  refine lv_aload_n hx hb d_Y_about_0 rfl (lv_at hl 0 rfl) ?_
  refine lv_iconst (v := 0) hx hb d_Y_about_1 (by decide) ?_
  refine gw_put (v := .int 0) (ty := .int) S hw ya_R rfl (by decide) n_T_Y f_62 tk_Y nm_Y rfl (by decide +kernel) rfl rfl (Nat.le_of_ble_eq_true rfl) (ys_R 0 0 (by decide)) d_Y_about_2 (fun H locs hw => ?_)
  refine lv_aload_n hx hb d_Y_about_5 rfl (lv_at hl 0 rfl) ?_
  refine lv_iload_n hx hb d_Y_about_6 rfl (lv_at hl 1 rfl) ?_
  obtain ⟨r_2, e_1, hj⟩ := Option.bind_eq_some_iff.mp hj
  refine gw_calli (As := [.int a1]) (rest := []) S hw (c_Y_isTask e_1) w_70 ya_R rfl rfl hl.1 rfl (Nat.le_of_ble_eq_true rfl) d_Y_about_7 (fun H locs hw => ?_)
  refine lv_if_ne (tgt := 15) hx hb d_Y_about_10 (by decide) (fun c_3 => ?_) (fun c_3 => ?_)
  · rw [if_neg c_3] at hj
    refine lv_iload_n hx hb d_Y_about_15 rfl (lv_at hl 2 rfl) ?_
    by_cases c_5 : a2 = 0
    · rw [if_pos c_5] at hj
      refine lv_tableIn (tgt := 56) hx hb d_Y_about_16 (by rw [c_5]; decide) (by rw [c_5]; decide) (by rw [c_5]; rfl) (by decide) ?_
      refine lv_aload_n hx hb d_Y_about_56 rfl (lv_at hl 0 rfl) ?_
      refine gw_get (v := .ref (ad 2)) S hw ya_R rfl (by decide) n_T_Y f_13 rfl d_Y_about_57 ?_
      refine lv_iload_n hx hb d_Y_about_60 rfl (lv_at hl 1 rfl) ?_
      obtain ⟨g_4, hj⟩ := gw_if hj
      refine gw_iald (t0 := 0) S hw ⟨ya_a2, rfl⟩ g_4 d_Y_about_61 ?_
      exact hend H locs ls 62 _ _ (Prod.mk.inj (Option.some.inj hj)).1 (congrArg (wY cI cZ ad) (Prod.mk.inj (Option.some.inj hj)).2) hw d_Y_about_62
    rw [if_neg c_5] at hj
    by_cases c_7 : a2 = 1
    · rw [if_pos c_7] at hj
      refine lv_tableIn (tgt := 63) hx hb d_Y_about_16 (by rw [c_7]; decide) (by rw [c_7]; decide) (by rw [c_7]; rfl) (by decide) ?_
      refine lv_aload_n hx hb d_Y_about_63 rfl (lv_at hl 0 rfl) ?_
      refine gw_get (v := .ref (ad 3)) S hw ya_R rfl (by decide) n_T_Y f_17 rfl d_Y_about_64 ?_
      refine lv_iload_n hx hb d_Y_about_67 rfl (lv_at hl 1 rfl) ?_
      obtain ⟨g_6, hj⟩ := gw_if hj
      refine gw_iald (t0 := 0) S hw ⟨ya_a3, rfl⟩ g_6 d_Y_about_68 ?_
      exact hend H locs ls 69 _ _ (Prod.mk.inj (Option.some.inj hj)).1 (congrArg (wY cI cZ ad) (Prod.mk.inj (Option.some.inj hj)).2) hw d_Y_about_69
    rw [if_neg c_7] at hj
    by_cases c_9 : a2 = 2
    · rw [if_pos c_9] at hj
      refine lv_tableIn (tgt := 70) hx hb d_Y_about_16 (by rw [c_9]; decide) (by rw [c_9]; decide) (by rw [c_9]; rfl) (by decide) ?_
      refine lv_aload_n hx hb d_Y_about_70 rfl (lv_at hl 0 rfl) ?_
      refine gw_get (v := .ref (ad 4)) S hw ya_R rfl (by decide) n_T_Y f_20 rfl d_Y_about_71 ?_
      refine lv_iload_n hx hb d_Y_about_74 rfl (lv_at hl 1 rfl) ?_
      obtain ⟨g_8, hj⟩ := gw_if hj
      refine gw_iald (t0 := 0) S hw ⟨ya_a4, rfl⟩ g_8 d_Y_about_75 ?_
      exact hend H locs ls 76 _ _ (Prod.mk.inj (Option.some.inj hj)).1 (congrArg (wY cI cZ ad) (Prod.mk.inj (Option.some.inj hj)).2) hw d_Y_about_76
    rw [if_neg c_9] at hj
    by_cases c_11 : a2 = 3
    · rw [if_pos c_11] at hj
      refine lv_tableIn (tgt := 77) hx hb d_Y_about_16 (by rw [c_11]; decide) (by rw [c_11]; decide) (by rw [c_11]; rfl) (by decide) ?_
      refine lv_aload_n hx hb d_Y_about_77 rfl (lv_at hl 0 rfl) ?_
      refine gw_get (v := .ref (ad 5)) S hw ya_R rfl (by decide) n_T_Y f_23 rfl d_Y_about_78 ?_
      refine lv_iload_n hx hb d_Y_about_81 rfl (lv_at hl 1 rfl) ?_
      obtain ⟨g_10, hj⟩ := gw_if hj
      refine gw_iald (t0 := 0) S hw ⟨ya_a5, rfl⟩ g_10 d_Y_about_82 ?_
      exact hend H locs ls 83 _ _ (Prod.mk.inj (Option.some.inj hj)).1 (congrArg (wY cI cZ ad) (Prod.mk.inj (Option.some.inj hj)).2) hw d_Y_about_83
    rw [if_neg c_11] at hj
    by_cases c_14 : a2 = 4
    · rw [if_pos c_14] at hj
      refine lv_tableIn (tgt := 84) hx hb d_Y_about_16 (by rw [c_14]; decide) (by rw [c_14]; decide) (by rw [c_14]; rfl) (by decide) ?_
      refine lv_aload_n hx hb d_Y_about_84 rfl (lv_at hl 0 rfl) ?_
      refine lv_iload_n hx hb d_Y_about_85 rfl (lv_at hl 1 rfl) ?_
      obtain ⟨r_13, e_12, hj⟩ := Option.bind_eq_some_iff.mp hj
      refine gw_calli (As := [.int a1]) (rest := []) S hw (c_Y_work e_12) w_100 ya_R rfl rfl hl.1 rfl (Nat.le_of_ble_eq_true rfl) d_Y_about_86 (fun H locs hw => ?_)
      exact hend H locs ls 89 _ _ (Prod.mk.inj (Option.some.inj hj)).1 (congrArg (wY cI cZ ad) (Prod.mk.inj (Option.some.inj hj)).2) hw d_Y_about_89
    rw [if_neg c_14] at hj
    by_cases c_17 : a2 = 5
    · rw [if_pos c_17] at hj
      refine lv_tableIn (tgt := 90) hx hb d_Y_about_16 (by rw [c_17]; decide) (by rw [c_17]; decide) (by rw [c_17]; rfl) (by decide) ?_
      refine lv_aload_n hx hb d_Y_about_90 rfl (lv_at hl 0 rfl) ?_
      refine lv_iload_n hx hb d_Y_about_91 rfl (lv_at hl 1 rfl) ?_
      obtain ⟨r_16, e_15, hj⟩ := Option.bind_eq_some_iff.mp hj
      refine gw_calli (As := [.int a1]) (rest := []) S hw (c_Y_blocking e_15) w_103 ya_R rfl rfl hl.1 rfl (Nat.le_of_ble_eq_true rfl) d_Y_about_92 (fun H locs hw => ?_)
      exact hend H locs ls 95 _ _ (Prod.mk.inj (Option.some.inj hj)).1 (congrArg (wY cI cZ ad) (Prod.mk.inj (Option.some.inj hj)).2) hw d_Y_about_95
    rw [if_neg c_17] at hj
    refine lv_tableOut (tgt := 96) hx hb d_Y_about_16 (gw_out6 c_5 c_7 c_9 c_11 c_14 c_17) (by decide) ?_
    refine lv_iload_n hx hb d_Y_about_96 rfl (lv_at hl 2 rfl) ?_
    refine lv_bipush (v := 10) hx hb d_Y_about_97 (by decide) ?_
    refine lv_icmp_lt (tgt := 115) hx hb d_Y_about_99 (by decide) (fun c_18 => ?_) (fun c_18 => ?_)
    · rw [if_pos c_18] at hj
      refine lv_iconst (v := -1) hx hb d_Y_about_115 (by decide) ?_
      refine lv_goto (tgt := 133) hx hb d_Y_about_116 (by decide) ?_
      exact hend H locs ls 133 _ _ (Prod.mk.inj (Option.some.inj hj)).1 (congrArg (wY cI cZ ad) (Prod.mk.inj (Option.some.inj hj)).2) hw d_Y_about_133
    · rw [if_neg c_18] at hj
      refine lv_iload_n hx hb d_Y_about_102 rfl (lv_at hl 2 rfl) ?_
      refine lv_bipush (v := 10) hx hb d_Y_about_103 (by decide) ?_
      refine lv_aload_n hx hb d_Y_about_105 rfl (lv_at hl 0 rfl) ?_
      refine gw_get (v := .ref (ad 5)) S hw ya_R rfl (by decide) n_T_Y f_23 rfl d_Y_about_106 ?_
      refine lv_iload_n hx hb d_Y_about_109 rfl (lv_at hl 1 rfl) ?_
      obtain ⟨g_19, hj⟩ := gw_if hj
      refine gw_iald (t0 := 0) S hw ⟨ya_a5, rfl⟩ g_19 d_Y_about_110 ?_
      refine lv_iadd hx hb d_Y_about_111 ?_
      refine lv_icmp_lt (tgt := 119) hx hb d_Y_about_112 (by decide) (fun c_20 => ?_) (fun c_20 => ?_)
      · rw [if_pos c_20] at hj
        refine lv_aload_n hx hb d_Y_about_119 rfl (lv_at hl 0 rfl) ?_
        refine gw_get (v := .ref (ad 6)) S hw ya_R rfl (by decide) n_T_Y f_26 rfl d_Y_about_120 ?_
        refine lv_bipush (v := 8) hx hb d_Y_about_123 (by decide) ?_
        refine lv_iload_n hx hb d_Y_about_125 rfl (lv_at hl 1 rfl) ?_
        refine lv_imul hx hb d_Y_about_126 ?_
        refine lv_iload_n hx hb d_Y_about_127 rfl (lv_at hl 2 rfl) ?_
        refine lv_iadd hx hb d_Y_about_128 ?_
        refine lv_bipush (v := 10) hx hb d_Y_about_129 (by decide) ?_
        refine lv_isub hx hb d_Y_about_131 ?_
        obtain ⟨g_21, hj⟩ := gw_if hj
        refine gw_iald (t0 := 0) S hw ⟨ya_a6, rfl⟩ g_21 d_Y_about_132 ?_
        exact hend H locs ls 133 _ _ (Prod.mk.inj (Option.some.inj hj)).1 (congrArg (wY cI cZ ad) (Prod.mk.inj (Option.some.inj hj)).2) hw d_Y_about_133
      · rw [if_neg c_20] at hj
        refine lv_iconst (v := -1) hx hb d_Y_about_115 (by decide) ?_
        refine lv_goto (tgt := 133) hx hb d_Y_about_116 (by decide) ?_
        exact hend H locs ls 133 _ _ (Prod.mk.inj (Option.some.inj hj)).1 (congrArg (wY cI cZ ad) (Prod.mk.inj (Option.some.inj hj)).2) hw d_Y_about_133
  · rw [if_pos c_3] at hj
    refine lv_iconst (v := -1) hx hb d_Y_about_13 (by decide) ?_
    exact hend H locs ls 14 _ _ (Prod.mk.inj (Option.some.inj hj)).1 (congrArg (wY cI cZ ad) (Prod.mk.inj (Option.some.inj hj)).2) hw d_Y_about_14
abbrev rm_Y_counts : Room := { frames := 0, cells := 0, slots := 0, locals := 0 }
def ws_Y_counts : List Cond := Cond.code y_Y_counts b_Y_counts 3 (some .boolean) :: wB
set_option maxHeartbeats 4000000 in
set_option maxRecDepth 100000 in
theorem c_Y_counts {l : Launch} {D : va_G} {cI cZ : ClassId} {ad : Nat → Nat} {n : Nat} {M : MY} {a1 : Int32} {a2 : Int32} {r0 : Int32} (hj : j_Y_counts n M a1 a2 = some r0) : gw_Cz l y_Y_counts ws_Y_counts rm_Y_counts D (tyY cI cZ) (wY cI cZ ad M) [.ref (ad 0), .int a1, .int a2] r0 (wY cI cZ ad M) := by
  intro sz
  refine gw_metz (cc := b_Y_counts) (maxL := 3) (by decide) rfl (Nat.le_of_ble_eq_true rfl) ?_
  intro p e s m args below meth c A Q S H locs hw hend ls hl
  have S : CallFix p m c b_Y_counts 3 s args ws_Y_counts R_Y := S
  have hx := S.1
  have hb := S.2.1
  have hts := S.2.2.2.2
  have hl : lv_has ls 3 [(0, .ref (ad 0)), (1, .int a1), (2, .int a2)] := hl
  have n_T_Y : ∀ w ∈ u_ws R_Y T_Y 29, w ∈ ws_Y_counts := fun w h => List.mem_cons_of_mem _ (uT_Y w h)
  have f_7 : Cond.fieldLink R_Y 7 (T_Y 1).1 (T_Y 1).2.1 (T_Y 1).2.2.1 ∈ ws_Y_counts := List.mem_cons_of_mem _ xw_267
  have f_20 : Cond.fieldLink R_Y 20 (T_Y 4).1 (T_Y 4).2.1 (T_Y 4).2.2.1 ∈ ws_Y_counts := List.mem_cons_of_mem _ xw_270
  unfold j_Y_counts at hj
  refine lv_aload_n hx hb d_Y_counts_0 rfl (lv_at hl 0 rfl) ?_
  refine gw_get (v := .ref (ad 1)) S hw ya_R rfl (by decide) n_T_Y f_7 rfl d_Y_counts_1 ?_
  refine lv_iload_n hx hb d_Y_counts_4 rfl (lv_at hl 1 rfl) ?_
  obtain ⟨g_1, hj⟩ := gw_if hj
  refine gw_zald (t0 := 1) S hw ⟨ya_a1, rfl⟩ g_1 d_Y_counts_5 ?_
  refine lv_if_eq (tgt := 28) hx hb d_Y_counts_6 (by decide) (fun c_2 => ?_) (fun c_2 => ?_)
  · rw [if_pos c_2] at hj
    refine lv_iconst (v := 0) hx hb d_Y_counts_28 (by decide) ?_
    exact hend H locs ls 29 _ _ (Option.some.inj hj) rfl (Or.inl rfl) hw d_Y_counts_29
  · rw [if_neg c_2] at hj
    refine lv_aload_n hx hb d_Y_counts_9 rfl (lv_at hl 0 rfl) ?_
    refine gw_get (v := .ref (ad 4)) S hw ya_R rfl (by decide) n_T_Y f_20 rfl d_Y_counts_10 ?_
    refine lv_iload_n hx hb d_Y_counts_13 rfl (lv_at hl 1 rfl) ?_
    obtain ⟨g_3, hj⟩ := gw_if hj
    refine gw_iald (t0 := 0) S hw ⟨ya_a4, rfl⟩ g_3 d_Y_counts_14 ?_
    refine lv_aload_n hx hb d_Y_counts_15 rfl (lv_at hl 0 rfl) ?_
    refine gw_get (v := .ref (ad 4)) S hw ya_R rfl (by decide) n_T_Y f_20 rfl d_Y_counts_16 ?_
    refine lv_iload_n hx hb d_Y_counts_19 rfl (lv_at hl 2 rfl) ?_
    obtain ⟨g_4, hj⟩ := gw_if hj
    refine gw_iald (t0 := 0) S hw ⟨ya_a4, rfl⟩ g_4 d_Y_counts_20 ?_
    refine lv_icmp_lt (tgt := 28) hx hb d_Y_counts_21 (by decide) (fun c_5 => ?_) (fun c_5 => ?_)
    · rw [if_pos c_5] at hj
      refine lv_iconst (v := 0) hx hb d_Y_counts_28 (by decide) ?_
      exact hend H locs ls 29 _ _ (Option.some.inj hj) rfl (Or.inl rfl) hw d_Y_counts_29
    · rw [if_neg c_5] at hj
      refine lv_iconst (v := 1) hx hb d_Y_counts_24 (by decide) ?_
      refine lv_goto (tgt := 29) hx hb d_Y_counts_25 (by decide) ?_
      exact hend H locs ls 29 _ _ (Option.some.inj hj) rfl (Or.inr rfl) hw d_Y_counts_29
