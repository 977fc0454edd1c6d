abbrev rm_J_forget : Room := { frames := 0, cells := 0, slots := 0, locals := 0 }
def ws_J_forget : List Cond := Cond.code y_J_forget b_J_forget 1 none :: wB
set_option maxHeartbeats 4000000 in
set_option maxRecDepth 100000 in
theorem c_J_forget {l : Launch} {D : va_G} {cI cT : ClassId} {ad : Nat → Nat} {n : Nat} {M : MX} {x0 : Fin 8} {M0 : MX} (hj : j_J_forget n M x0 = some M0) : gw_Cv l y_J_forget ws_J_forget rm_J_forget D (tyX cI cT) (wX cI cT ad M) [.ref (ad (14 + x0.val))] (wX cI cT ad M0) := by
  intro sz
  refine gw_metv (cc := b_J_forget) (maxL := 1) (by decide) rfl (Nat.le_of_ble_eq_true rfl) ?_
  intro p e s m args below meth c A Q S H locs hw hend ls hl
  have S : CallFix p m c b_J_forget 1 s args ws_J_forget R_J := S
  have hx := S.1
  have hb := S.2.1
  have hts := S.2.2.2.2
  have hl : lv_has ls 1 [(0, .ref (ad (14 + x0.val)))] := hl
  have n_T_J : ∀ w ∈ u_ws R_J T_J 8, w ∈ ws_J_forget := fun w h => List.mem_cons_of_mem _ (uT_J w h)
  have f_18 : Cond.fieldLink R_J 18 (T_J 2).1 (T_J 2).2.1 (T_J 2).2.2.1 ∈ ws_J_forget := List.mem_cons_of_mem _ xw_58
  have f_22 : Cond.fieldLink R_J 22 (T_J 3).1 (T_J 3).2.1 (T_J 3).2.2.1 ∈ ws_J_forget := List.mem_cons_of_mem _ xw_59
  have f_25 : Cond.fieldLink R_J 25 (T_J 4).1 (T_J 4).2.1 (T_J 4).2.2.1 ∈ ws_J_forget := List.mem_cons_of_mem _ xw_60
  have f_28 : Cond.fieldLink R_J 28 (T_J 5).1 (T_J 5).2.1 (T_J 5).2.2.1 ∈ ws_J_forget := List.mem_cons_of_mem _ xw_61
  have f_31 : Cond.fieldLink R_J 31 (T_J 6).1 (T_J 6).2.1 (T_J 6).2.2.1 ∈ ws_J_forget := List.mem_cons_of_mem _ xw_62
  have f_34 : Cond.fieldLink R_J 34 (T_J 7).1 (T_J 7).2.1 (T_J 7).2.2.1 ∈ ws_J_forget := List.mem_cons_of_mem _ xw_63
  unfold j_J_forget at hj
  refine lv_aload_n hx hb d_J_forget_0 rfl (lv_at hl 0 rfl) ?_
  refine lv_iconst (v := 0) hx hb d_J_forget_1 (by decide) ?_
  refine gw_put (v := .int 0) (ty := .int) S hw (xa_J x0) rfl (by decide) n_T_J f_18 tk_J nm_J rfl (by decide +kernel) rfl rfl (Nat.le_of_ble_eq_true rfl) (xs_J x0 2 0 (by decide)) d_J_forget_2 (fun H locs hw => ?_)
  refine lv_aload_n hx hb d_J_forget_5 rfl (lv_at hl 0 rfl) ?_
  refine lv_iconst (v := 0) hx hb d_J_forget_6 (by decide) ?_
  refine gw_put (v := .int 0) (ty := .int) S hw (xa_J x0) rfl (by decide) n_T_J f_22 tk_J nm_J rfl (by decide +kernel) rfl rfl (Nat.le_of_ble_eq_true rfl) (xs_J x0 3 0 (by decide)) d_J_forget_7 (fun H locs hw => ?_)
  refine lv_aload_n hx hb d_J_forget_10 rfl (lv_at hl 0 rfl) ?_
  refine lv_iconst (v := 0) hx hb d_J_forget_11 (by decide) ?_
  refine gw_put (v := .int 0) (ty := .int) S hw (xa_J x0) rfl (by decide) n_T_J f_25 tk_J nm_J rfl (by decide +kernel) rfl rfl (Nat.le_of_ble_eq_true rfl) (xs_J x0 4 0 (by decide)) d_J_forget_12 (fun H locs hw => ?_)
  refine lv_aload_n hx hb d_J_forget_15 rfl (lv_at hl 0 rfl) ?_
  refine lv_iconst (v := 0) hx hb d_J_forget_16 (by decide) ?_
  refine gw_put (v := .int 0) (ty := .int) S hw (xa_J x0) rfl (by decide) n_T_J f_28 tk_J nm_J rfl (by decide +kernel) rfl rfl (Nat.le_of_ble_eq_true rfl) (xs_J x0 5 0 (by decide)) d_J_forget_17 (fun H locs hw => ?_)
  refine lv_aload_n hx hb d_J_forget_20 rfl (lv_at hl 0 rfl) ?_
  refine lv_iconst (v := 0) hx hb d_J_forget_21 (by decide) ?_
  refine gw_put (v := .int 0) (ty := .int) S hw (xa_J x0) rfl (by decide) n_T_J f_31 tk_J nm_J rfl (by decide +kernel) rfl rfl (Nat.le_of_ble_eq_true rfl) (xs_J x0 6 0 (by decide)) d_J_forget_22 (fun H locs hw => ?_)
  refine lv_aload_n hx hb d_J_forget_25 rfl (lv_at hl 0 rfl) ?_
  refine lv_iconst (v := 0) hx hb d_J_forget_26 (by decide) ?_
  refine gw_put (v := .int 0) (ty := .int) S hw (xa_J x0) rfl (by decide) n_T_J f_34 tk_J nm_J rfl (by decide +kernel) rfl rfl (Nat.le_of_ble_eq_true rfl) (xs_J x0 7 0 (by decide)) d_J_forget_27 (fun H locs hw => ?_)
  exact hend H locs ls 30 _ (congrArg (wX cI cT ad) (Option.some.inj hj)) hw d_J_forget_30
abbrev rm_K_forgetJobs : Room := { frames := 1, cells := 0, slots := 0, locals := 20 }
def ws_K_forgetJobs : List Cond := Cond.code y_K_forgetJobs b_K_forgetJobs 2 none :: wB
set_option maxHeartbeats 4000000 in
set_option maxRecDepth 100000 in
theorem c_K_forgetJobs {l : Launch} {D : va_G} {cI cT : ClassId} {ad : Nat → Nat} {n : Nat} {M : MX} {M0 : MX} (hj : j_K_forgetJobs n M = some M0) : gw_Cv l y_K_forgetJobs ws_K_forgetJobs rm_K_forgetJobs D (tyX cI cT) (wX cI cT ad M) [.ref (ad 5)] (wX cI cT ad M0) := by
  intro sz
  refine gw_metv (cc := b_K_forgetJobs) (maxL := 2) (by decide) rfl (Nat.le_of_ble_eq_true rfl) ?_
  intro p e s m args below meth c A Q S H locs hw hend ls hl
  have S : CallFix p m c b_K_forgetJobs 2 s args ws_K_forgetJobs R_K := S
  have hx := S.1
  have hb := S.2.1
  have hts := S.2.2.2.2
  have hl : lv_has ls 2 [(0, .ref (ad 5))] := hl
  have n_T_K : ∀ w ∈ u_ws R_K T_K 6, w ∈ ws_K_forgetJobs := fun w h => List.mem_cons_of_mem _ (uT_K w h)
  have n_T_S : ∀ w ∈ u_ws R_S T_S 3, w ∈ ws_K_forgetJobs := fun w h => List.mem_cons_of_mem _ (uT_S w h)
  have n_T_T : ∀ w ∈ u_ws R_T T_T 13, w ∈ ws_K_forgetJobs := fun w h => List.mem_cons_of_mem _ (uT_T w h)
  have f_7 : Cond.fieldLink R_K 7 (T_K 0).1 (T_K 0).2.1 (T_K 0).2.2.1 ∈ ws_K_forgetJobs := List.mem_cons_of_mem _ xw_64
  have f_13 : Cond.fieldLink R_K 13 (T_S 2).1 (T_S 2).2.1 (T_S 2).2.2.1 ∈ ws_K_forgetJobs := List.mem_cons_of_mem _ xw_65
  have f_19 : Cond.fieldLink R_K 19 (T_S 1).1 (T_S 1).2.1 (T_S 1).2.2.1 ∈ ws_K_forgetJobs := List.mem_cons_of_mem _ xw_66
  have f_23 : Cond.fieldLink R_K 23 (T_T 1).1 (T_T 1).2.1 (T_T 1).2.2.1 ∈ ws_K_forgetJobs := List.mem_cons_of_mem _ xw_67
  have f_34 : Cond.fieldLink R_K 34 (T_K 1).1 (T_K 1).2.1 (T_K 1).2.2.1 ∈ ws_K_forgetJobs := List.mem_cons_of_mem _ xw_68
  have f_38 : Cond.fieldLink R_K 38 (T_K 2).1 (T_K 2).2.1 (T_K 2).2.2.1 ∈ ws_K_forgetJobs := List.mem_cons_of_mem _ xw_69
  have f_41 : Cond.fieldLink R_K 41 (T_K 3).1 (T_K 3).2.1 (T_K 3).2.2.1 ∈ ws_K_forgetJobs := List.mem_cons_of_mem _ xw_70
  have f_44 : Cond.fieldLink R_K 44 (T_K 4).1 (T_K 4).2.1 (T_K 4).2.2.1 ∈ ws_K_forgetJobs := List.mem_cons_of_mem _ xw_71
  have f_48 : Cond.fieldLink R_K 48 (T_K 5).1 (T_K 5).2.1 (T_K 5).2.2.1 ∈ ws_K_forgetJobs := List.mem_cons_of_mem _ xw_72
  have w_29 : CallW rm_K_forgetJobs s args R_K R_J 29 y_J_forget b_J_forget 1 none ws_J_forget rm_J_forget 0 0 0 := cwV 0 hts (wB_callV (fun w h => List.mem_cons_of_mem _ h) xw_73 xw_74 xw_75 xw_76 xw_77) rfl rfl rfl (by decide +kernel) ⟨Nat.le_of_ble_eq_true rfl, Nat.le_of_ble_eq_true rfl⟩
  have L2 : ∀ (f2 : Nat) (v1_2 : Int32) (M2 : MX), j_K_forgetJobs_L2 n f2 v1_2 M2 = some M0 → ∀ (H : Heap) (locs : List Loc), gw_W D (tyX cI cT) A (wX cI cT ad M2) s H locs → ∀ ls : Array Slot, lv_has ls 2 [(0, .ref (ad 5)), (1, .int v1_2)] → W p l e rm_K_forgetJobs s m args below meth c H locs 0 0 Q (F0 m 2 ls []) := by
    intro f2
    induction f2 with
    | zero =>
      intro v1_2 M2 hj
      exact nomatch (show (none : Option MX) = some M0 from hj)
    | succ f2 ih2 =>
      intro v1_2 M2 hj H locs hw ls hl
      rw [j_K_forgetJobs_L2] at hj
      refine lv_iload_n hx hb d_K_forgetJobs_2 rfl (lv_at hl 1 rfl) ?_
      refine lv_aload_n hx hb d_K_forgetJobs_3 rfl (lv_at hl 0 rfl) ?_
      refine gw_get (v := .ref (ad 1)) S hw xa_K rfl (by decide) n_T_K f_7 rfl d_K_forgetJobs_4 ?_
      refine gw_get (v := .int (M2.2.1 0 2)) S hw xa_S rfl (by decide) n_T_S f_13 rfl d_K_forgetJobs_7 ?_
      refine lv_icmp_ge (tgt := 34) hx hb d_K_forgetJobs_10 (by decide) (fun c_1 => ?_) (fun c_1 => ?_)
      · rw [if_pos c_1] at hj
        refine lv_aload_n hx hb d_K_forgetJobs_34 rfl (lv_at hl 0 rfl) ?_
        refine lv_iconst (v := 0) hx hb d_K_forgetJobs_35 (by decide) ?_
        refine gw_put (v := .int 0) (ty := .boolean) S hw xa_K rfl (by decide) n_T_K f_34 tk_K nm_K rfl (by decide +kernel) rfl rfl (Nat.le_of_ble_eq_true rfl) (xs_K 1 0 (by decide)) d_K_forgetJobs_36 (fun H locs hw => ?_)
        refine lv_aload_n hx hb d_K_forgetJobs_39 rfl (lv_at hl 0 rfl) ?_
        refine lv_iconst (v := 0) hx hb d_K_forgetJobs_40 (by decide) ?_
        refine gw_put (v := .int 0) (ty := .int) S hw xa_K rfl (by decide) n_T_K f_38 tk_K nm_K rfl (by decide +kernel) rfl rfl (Nat.le_of_ble_eq_true rfl) (xs_K 2 0 (by decide)) d_K_forgetJobs_41 (fun H locs hw => ?_)
        refine lv_aload_n hx hb d_K_forgetJobs_44 rfl (lv_at hl 0 rfl) ?_
        refine lv_iconst (v := 0) hx hb d_K_forgetJobs_45 (by decide) ?_
        refine gw_put (v := .int 0) (ty := .int) S hw xa_K rfl (by decide) n_T_K f_41 tk_K nm_K rfl (by decide +kernel) rfl rfl (Nat.le_of_ble_eq_true rfl) (xs_K 3 0 (by decide)) d_K_forgetJobs_46 (fun H locs hw => ?_)
        refine lv_aload_n hx hb d_K_forgetJobs_49 rfl (lv_at hl 0 rfl) ?_
        refine lv_null hx hb d_K_forgetJobs_50 ?_
        refine gw_put (v := .null) (ty := (.object "SegmentKernel$Task")) S hw xa_K rfl (by decide) n_T_K f_44 tk_K nm_K rfl (by decide +kernel) rfl rfl (Nat.le_of_ble_eq_true rfl) (xs_U none) d_K_forgetJobs_51 (fun H locs hw => ?_)
        refine lv_aload_n hx hb d_K_forgetJobs_54 rfl (lv_at hl 0 rfl) ?_
        refine lv_null hx hb d_K_forgetJobs_55 ?_
        refine gw_put (v := .null) (ty := (.object "SegmentKernel$Task")) S hw xa_K rfl (by decide) n_T_K f_48 tk_K nm_K rfl (by decide +kernel) rfl rfl (Nat.le_of_ble_eq_true rfl) (xs_P none) d_K_forgetJobs_56 (fun H locs hw => ?_)
        exact hend H locs ls 59 _ (congrArg (wX cI cT ad) (Option.some.inj hj)) hw d_K_forgetJobs_59
      · rw [if_neg c_1] at hj
        refine lv_aload_n hx hb d_K_forgetJobs_13 rfl (lv_at hl 0 rfl) ?_
        refine gw_get (v := .ref (ad 1)) S hw xa_K rfl (by decide) n_T_K f_7 rfl d_K_forgetJobs_14 ?_
        refine gw_get (v := .ref (ad 3)) S hw xa_S rfl (by decide) n_T_S f_19 rfl d_K_forgetJobs_17 ?_
        refine lv_iload_n hx hb d_K_forgetJobs_20 rfl (lv_at hl 1 rfl) ?_
        obtain ⟨g_2, hj⟩ := gw_if hj
        refine gw_aldq (t0 := 1) S hw ⟨xa_rk, rfl⟩ g_2 d_K_forgetJobs_21 ?_
        refine gw_get (v := .ref (ad (14 + (M2.2.2.1 v1_2.toNatClampNeg).val))) S hw (xa_T (M2.2.2.1 v1_2.toNatClampNeg)) rfl (by decide) n_T_T f_23 rfl d_K_forgetJobs_22 ?_
        obtain ⟨M_4, e_3, hj⟩ := Option.bind_eq_some_iff.mp hj
        refine gw_callv (As := []) (rest := []) S hw (c_J_forget e_3) w_29 (xa_J (M2.2.2.1 v1_2.toNatClampNeg)) rfl rfl hl.1 rfl (Nat.le_of_ble_eq_true rfl) d_K_forgetJobs_25 (fun H locs hw => ?_)
        refine lv_iinc (v := (v1_2 + 1)) (lv' := [(1, .int (v1_2 + 1)), (0, .ref (ad 5))]) hx hb d_K_forgetJobs_28 hl (k := 1) rfl rfl (by decide) rfl (fun ls hl => ?_)
        refine lv_goto (tgt := 2) hx hb d_K_forgetJobs_31 (by decide) ?_
        exact ih2 (v1_2 + 1) M_4 hj H locs hw ls (lv_sub hl [1, 0] rfl)
  unfold j_K_forgetJobs at hj
  refine lv_iconst (v := 0) hx hb d_K_forgetJobs_0 (by decide) ?_
  refine lv_istore_n (lv' := [(1, .int 0), (0, .ref (ad 5))]) hx hb d_K_forgetJobs_1 rfl hl (by decide) rfl (fun ls hl => ?_)
  exact L2 n 0 M hj H locs hw ls (lv_sub hl [1, 0] rfl)
abbrev rm_S_forgetTasks : Room := { frames := 0, cells := 0, slots := 0, locals := 0 }
def ws_S_forgetTasks : List Cond := Cond.code y_S_forgetTasks b_S_forgetTasks 1 none :: wB
set_option maxHeartbeats 4000000 in
set_option maxRecDepth 100000 in
theorem c_S_forgetTasks {l : Launch} {D : va_G} {cI cT : ClassId} {ad : Nat → Nat} {n : Nat} {M : MX} {M0 : MX} (hj : j_S_forgetTasks n M = some M0) : gw_Cv l y_S_forgetTasks ws_S_forgetTasks rm_S_forgetTasks D (tyX cI cT) (wX cI cT ad M) [.ref (ad 1)] (wX cI cT ad M0) := by
  intro sz
  refine gw_metv (cc := b_S_forgetTasks) (maxL := 1) (by decide) rfl (Nat.le_of_ble_eq_true rfl) ?_
  intro p e s m args below meth c A Q S H locs hw hend ls hl
  have S : CallFix p m c b_S_forgetTasks 1 s args ws_S_forgetTasks R_S := S
  have hx := S.1
  have hb := S.2.1
  have hts := S.2.2.2.2
  have hl : lv_has ls 1 [(0, .ref (ad 1))] := hl
  have n_T_S : ∀ w ∈ u_ws R_S T_S 3, w ∈ ws_S_forgetTasks := fun w h => List.mem_cons_of_mem _ (uT_S w h)
  have f_27 : Cond.fieldLink R_S 27 (T_S 2).1 (T_S 2).2.1 (T_S 2).2.2.1 ∈ ws_S_forgetTasks := List.mem_cons_of_mem _ xw_1
  unfold j_S_forgetTasks at hj
  refine lv_aload_n hx hb d_S_forgetTasks_0 rfl (lv_at hl 0 rfl) ?_
  refine lv_iconst (v := 0) hx hb d_S_forgetTasks_1 (by decide) ?_
  refine gw_put (v := .int 0) (ty := .int) S hw xa_S rfl (by decide) n_T_S f_27 tk_S nm_S rfl (by decide +kernel) rfl rfl (Nat.le_of_ble_eq_true rfl) (xs_S 2 0 (by decide)) d_S_forgetTasks_2 (fun H locs hw => ?_)
  exact hend H locs ls 5 _ (congrArg (wX cI cT ad) (Option.some.inj hj)) hw d_S_forgetTasks_5
abbrev rm_O_clear : Room := { frames := 2, cells := 0, slots := 0, locals := 41 }
def ws_O_clear : List Cond := Cond.code y_O_clear b_O_clear 1 none :: wB
set_option maxHeartbeats 4000000 in
set_option maxRecDepth 100000 in
theorem c_O_clear {l : Launch} {D : va_G} {cI cT : ClassId} {ad : Nat → Nat} {n : Nat} {M : MX} {M0 : MX} (hj : j_O_clear n M = some M0) : gw_Cv l y_O_clear ws_O_clear rm_O_clear D (tyX cI cT) (wX cI cT ad M) [.ref (ad 0)] (wX cI cT ad M0) := by
  intro sz
  refine gw_metv (cc := b_O_clear) (maxL := 1) (by decide) rfl (Nat.le_of_ble_eq_true rfl) ?_
  intro p e s m args below meth c A Q S H locs hw hend ls hl
  have S : CallFix p m c b_O_clear 1 s args ws_O_clear R_O := S
  have hx := S.1
  have hb := S.2.1
  have hts := S.2.2.2.2
  have hl : lv_has ls 1 [(0, .ref (ad 0))] := hl
  have n_T_O : ∀ w ∈ u_ws R_O T_O 3, w ∈ ws_O_clear := fun w h => List.mem_cons_of_mem _ (uT_O w h)
  have f_10 : Cond.fieldLink R_O 10 (T_O 0).1 (T_O 0).2.1 (T_O 0).2.2.1 ∈ ws_O_clear := List.mem_cons_of_mem _ xw_42
  have f_28 : Cond.fieldLink R_O 28 (T_O 2).1 (T_O 2).2.1 (T_O 2).2.2.1 ∈ ws_O_clear := List.mem_cons_of_mem _ xw_43
  have w_44 : CallW rm_O_clear s args R_O R_K 44 y_K_forgetJobs b_K_forgetJobs 2 none ws_K_forgetJobs rm_K_forgetJobs 0 0 0 := cwV 0 hts (wB_callV (fun w h => List.mem_cons_of_mem _ h) xw_78 xw_79 xw_80 xw_81 xw_82) rfl rfl rfl (by decide +kernel) ⟨Nat.le_of_ble_eq_true rfl, Nat.le_of_ble_eq_true rfl⟩
  have w_47 : CallW rm_O_clear s args R_O R_S 47 y_S_forgetTasks b_S_forgetTasks 1 none ws_S_forgetTasks rm_S_forgetTasks 0 0 0 := cwV 0 hts (wB_callV (fun w h => List.mem_cons_of_mem _ h) xw_83 xw_84 xw_85 xw_86 xw_14) rfl rfl rfl (by decide +kernel) ⟨Nat.le_of_ble_eq_true rfl, Nat.le_of_ble_eq_true rfl⟩
  unfold j_O_clear at hj
  refine lv_aload_n hx hb d_O_clear_0 rfl (lv_at hl 0 rfl) ?_
  refine gw_get (v := .ref (ad 5)) S hw xa_O rfl (by decide) n_T_O f_28 rfl d_O_clear_1 ?_
  obtain ⟨M_2, e_1, hj⟩ := Option.bind_eq_some_iff.mp hj
  refine gw_callv (As := []) (rest := []) S hw (c_K_forgetJobs e_1) w_44 xa_K rfl rfl hl.1 rfl (Nat.le_of_ble_eq_true rfl) d_O_clear_4 (fun H locs hw => ?_)
  refine lv_aload_n hx hb d_O_clear_7 rfl (lv_at hl 0 rfl) ?_
  refine gw_get (v := .ref (ad 1)) S hw xa_O rfl (by decide) n_T_O f_10 rfl d_O_clear_8 ?_
  obtain ⟨M_4, e_3, hj⟩ := Option.bind_eq_some_iff.mp hj
  refine gw_callv (As := []) (rest := []) S hw (c_S_forgetTasks e_3) w_47 xa_S rfl rfl hl.1 rfl (Nat.le_of_ble_eq_true rfl) d_O_clear_11 (fun H locs hw => ?_)
  exact hend H locs ls 14 _ (congrArg (wX cI cT ad) (Option.some.inj hj)) hw d_O_clear_14
abbrev rm_O_reset : Room := { frames := 2, cells := 0, slots := 0, locals := 41 }
def ws_O_reset : List Cond := Cond.code y_O_reset b_O_reset 1 none :: wB
set_option maxHeartbeats 4000000 in
set_option maxRecDepth 100000 in
theorem c_O_reset {l : Launch} {D : va_G} {cI cT : ClassId} {ad : Nat → Nat} {n : Nat} {M : MX} {M0 : MX} (hj : j_O_reset n M = some M0) : gw_Cv l y_O_reset ws_O_reset rm_O_reset D (tyX cI cT) (wX cI cT ad M) [.ref (ad 0)] (wX cI cT ad M0) := by
  intro sz
  refine gw_metv (cc := b_O_reset) (maxL := 1) (by decide) rfl (Nat.le_of_ble_eq_true rfl) ?_
  intro p e s m args below meth c A Q S H locs hw hend ls hl
  have S : CallFix p m c b_O_reset 1 s args ws_O_reset R_O := S
  have hx := S.1
  have hb := S.2.1
  have hts := S.2.2.2.2
  have hl : lv_has ls 1 [(0, .ref (ad 0))] := hl
  have n_T_O : ∀ w ∈ u_ws R_O T_O 3, w ∈ ws_O_reset := fun w h => List.mem_cons_of_mem _ (uT_O w h)
  have f_28 : Cond.fieldLink R_O 28 (T_O 2).1 (T_O 2).2.1 (T_O 2).2.2.1 ∈ ws_O_reset := List.mem_cons_of_mem _ xw_43
  have w_44 : CallW rm_O_reset s args R_O R_K 44 y_K_forgetJobs b_K_forgetJobs 2 none ws_K_forgetJobs rm_K_forgetJobs 0 0 0 := cwV 0 hts (wB_callV (fun w h => List.mem_cons_of_mem _ h) xw_78 xw_79 xw_80 xw_81 xw_82) rfl rfl rfl (by decide +kernel) ⟨Nat.le_of_ble_eq_true rfl, Nat.le_of_ble_eq_true rfl⟩
  unfold j_O_reset at hj
  refine lv_aload_n hx hb d_O_reset_0 rfl (lv_at hl 0 rfl) ?_
  refine gw_get (v := .ref (ad 5)) S hw xa_O rfl (by decide) n_T_O f_28 rfl d_O_reset_1 ?_
  obtain ⟨M_2, e_1, hj⟩ := Option.bind_eq_some_iff.mp hj
  refine gw_callv (As := []) (rest := []) S hw (c_K_forgetJobs e_1) w_44 xa_K rfl rfl hl.1 rfl (Nat.le_of_ble_eq_true rfl) d_O_reset_4 (fun H locs hw => ?_)
  exact hend H locs ls 7 _ (congrArg (wX cI cT ad) (Option.some.inj hj)) hw d_O_reset_7
abbrev rm_T_longestSegment : Room := { frames := 1, cells := 0, slots := 0, locals := 21 }
def ws_T_longestSegment : List Cond := Cond.code y_T_longestSegment b_T_longestSegment 3 (some .int) :: wB
set_option maxHeartbeats 4000000 in
set_option maxRecDepth 100000 in
theorem c_T_longestSegment {l : Launch} {D : va_G} {cI cT : ClassId} {ad : Nat → Nat} {n : Nat} {M : MX} {x0 : Fin 8} {r0 : Int32} (hj : j_T_longestSegment n M x0 = some r0) : gw_Ci l y_T_longestSegment ws_T_longestSegment rm_T_longestSegment D (tyX cI cT) (wX cI cT ad M) [.ref (ad (6 + x0.val))] r0 (wX cI cT ad M) := by
  intro sz
  refine gw_meti (cc := b_T_longestSegment) (maxL := 3) (by decide) rfl (Nat.le_of_ble_eq_true rfl) ?_
  intro p e s m args below meth c A Q S H locs hw hend ls hl
  have S : CallFix p m c b_T_longestSegment 3 s args ws_T_longestSegment R_T := S
  have hx := S.1
  have hb := S.2.1
  have hts := S.2.2.2.2
  have hl : lv_has ls 3 [(0, .ref (ad (6 + x0.val)))] := hl
  have n_T_T : ∀ w ∈ u_ws R_T T_T 13, w ∈ ws_T_longestSegment := fun w h => List.mem_cons_of_mem _ (uT_T w h)
  have f_18 : Cond.fieldLink R_T 18 (T_T 2).1 (T_T 2).2.1 (T_T 2).2.2.1 ∈ ws_T_longestSegment := List.mem_cons_of_mem _ xw_49
  have f_44 : Cond.fieldLink R_T 44 (T_T 6).1 (T_T 6).2.1 (T_T 6).2.2.1 ∈ ws_T_longestSegment := List.mem_cons_of_mem _ xw_8
  have m_50 := hts _ (List.mem_cons_of_mem _ xw_87)
  have ms_max := hts _ (List.mem_cons_of_mem _ xw_88)
  have mc_max := hts _ (List.mem_cons_of_mem _ xw_89)
  have mi_ := hts _ (List.mem_cons_of_mem _ xw_90)
  have L4 : ∀ (f4 : Nat) (v1_4 : Int32) (v2_4 : Int32), j_T_longestSegment_L4 n M x0 f4 v1_4 v2_4 = some r0 → ∀ (H : Heap) (locs : List Loc), gw_W D (tyX cI cT) A (wX cI cT ad M) s H locs → ∀ ls : Array Slot, lv_has ls 3 [(0, .ref (ad (6 + x0.val))), (1, .int v1_4), (2, .int v2_4)] → W p l e rm_T_longestSegment s m args below meth c H locs 0 0 Q (F0 m 4 ls []) := by
    intro f4
    induction f4 with
    | zero =>
      intro v1_4 v2_4 hj
      exact nomatch (show (none : Option Int32) = some r0 from hj)
    | succ f4 ih4 =>
      intro v1_4 v2_4 hj H locs hw ls hl
      rw [j_T_longestSegment_L4] at hj
      refine lv_iload_n hx hb d_T_longestSegment_4 rfl (lv_at hl 2 rfl) ?_
      refine lv_aload_n hx hb d_T_longestSegment_5 rfl (lv_at hl 0 rfl) ?_
      refine gw_get (v := .int (M.1 0 x0 6)) S hw (xa_T x0) rfl (by decide) n_T_T f_44 rfl d_T_longestSegment_6 ?_
      refine lv_icmp_ge (tgt := 29) hx hb d_T_longestSegment_9 (by decide) (fun c_1 => ?_) (fun c_1 => ?_)
      · rw [if_pos c_1] at hj
        refine lv_iload_n hx hb d_T_longestSegment_29 rfl (lv_at hl 1 rfl) ?_
        exact hend H locs ls 30 _ _ (Option.some.inj hj) rfl hw d_T_longestSegment_30
      · rw [if_neg c_1] at hj
        refine lv_iload_n hx hb d_T_longestSegment_12 rfl (lv_at hl 1 rfl) ?_
        refine lv_aload_n hx hb d_T_longestSegment_13 rfl (lv_at hl 0 rfl) ?_
        refine gw_get (v := .ref (ad (22 + x0.val))) S hw (xa_T x0) rfl (by decide) n_T_T f_18 rfl d_T_longestSegment_14 ?_
        refine lv_iload_n hx hb d_T_longestSegment_17 rfl (lv_at hl 2 rfl) ?_
        obtain ⟨g_2, hj⟩ := gw_if hj
        refine gw_iald (t0 := 0) S hw ⟨xa_sg x0, rfl⟩ g_2 d_T_longestSegment_18 ?_
        refine va_mmax hx hb (S.2.2.1.trans hl.1.symm) S.2.2.2.1 m_50 ms_max mi_ mc_max (by decide) (Nat.le_of_ble_eq_true rfl) (Nat.zero_le _) (Nat.zero_le _) d_T_longestSegment_19 ?_
        refine lv_istore_n (lv' := [(1, .int (if v1_4 < (M.1 2 x0 v2_4.toNatClampNeg) then (M.1 2 x0 v2_4.toNatClampNeg) else v1_4)), (0, .ref (ad (6 + x0.val))), (2, .int v2_4)]) hx hb d_T_longestSegment_22 rfl hl (by decide) rfl (fun ls hl => ?_)
        refine lv_iinc (v := (v2_4 + 1)) (lv' := [(2, .int (v2_4 + 1)), (1, .int (if v1_4 < (M.1 2 x0 v2_4.toNatClampNeg) then (M.1 2 x0 v2_4.toNatClampNeg) else v1_4)), (0, .ref (ad (6 + x0.val)))]) hx hb d_T_longestSegment_23 hl (k := 2) rfl rfl (by decide) rfl (fun ls hl => ?_)
        refine lv_goto (tgt := 4) hx hb d_T_longestSegment_26 (by decide) ?_
        exact ih4 (if v1_4 < (M.1 2 x0 v2_4.toNatClampNeg) then (M.1 2 x0 v2_4.toNatClampNeg) else v1_4) (v2_4 + 1) hj H locs hw ls (lv_sub hl [2, 1, 0] rfl)
  unfold j_T_longestSegment at hj
  refine lv_iconst (v := 0) hx hb d_T_longestSegment_0 (by decide) ?_
  refine lv_istore_n (lv' := [(1, .int 0), (0, .ref (ad (6 + x0.val)))]) hx hb d_T_longestSegment_1 rfl hl (by decide) rfl (fun ls hl => ?_)
  refine lv_iconst (v := 0) hx hb d_T_longestSegment_2 (by decide) ?_
  refine lv_istore_n (lv' := [(2, .int 0), (1, .int 0), (0, .ref (ad (6 + x0.val)))]) hx hb d_T_longestSegment_3 rfl hl (by decide) rfl (fun ls hl => ?_)
  exact L4 n 0 0 hj H locs hw ls (lv_sub hl [2, 1, 0] rfl)
abbrev rm_S_longestBelow : Room := { frames := 2, cells := 0, slots := 0, locals := 43 }
def ws_S_longestBelow : List Cond := Cond.code y_S_longestBelow b_S_longestBelow 4 (some .int) :: wB
set_option maxHeartbeats 4000000 in
set_option maxRecDepth 100000 in
theorem c_S_longestBelow {l : Launch} {D : va_G} {cI cT : ClassId} {ad : Nat → Nat} {n : Nat} {M : MX} {x1 : Fin 8} {r0 : Int32} (hj : j_S_longestBelow n M x1 = some r0) : gw_Ci l y_S_longestBelow ws_S_longestBelow rm_S_longestBelow D (tyX cI cT) (wX cI cT ad M) [.ref (ad 1), .ref (ad (6 + x1.val))] r0 (wX cI cT ad M) := by
  intro sz
  refine gw_meti (cc := b_S_longestBelow) (maxL := 4) (by decide) rfl (Nat.le_of_ble_eq_true rfl) ?_
  intro p e s m args below meth c A Q S H locs hw hend ls hl
  have S : CallFix p m c b_S_longestBelow 4 s args ws_S_longestBelow R_S := S
  have hx := S.1
  have hb := S.2.1
  have hts := S.2.2.2.2
  have hl : lv_has ls 4 [(0, .ref (ad 1)), (1, .ref (ad (6 + x1.val)))] := hl
  have n_T_S : ∀ w ∈ u_ws R_S T_S 3, w ∈ ws_S_longestBelow := fun w h => List.mem_cons_of_mem _ (uT_S w h)
  have n_T_T : ∀ w ∈ u_ws R_T T_T 13, w ∈ ws_S_longestBelow := fun w h => List.mem_cons_of_mem _ (uT_T w h)
  have f_17 : Cond.fieldLink R_S 17 (T_S 1).1 (T_S 1).2.1 (T_S 1).2.2.1 ∈ ws_S_longestBelow := List.mem_cons_of_mem _ xw_0
  have f_23 : Cond.fieldLink R_S 23 (T_T 8).1 (T_T 8).2.1 (T_T 8).2.2.1 ∈ ws_S_longestBelow := List.mem_cons_of_mem _ xw_4
  have f_27 : Cond.fieldLink R_S 27 (T_S 2).1 (T_S 2).2.1 (T_S 2).2.2.1 ∈ ws_S_longestBelow := List.mem_cons_of_mem _ xw_1
  have m_60 := hts _ (List.mem_cons_of_mem _ xw_91)
  have ms_max := hts _ (List.mem_cons_of_mem _ xw_88)
  have mc_max := hts _ (List.mem_cons_of_mem _ xw_89)
  have mi_ := hts _ (List.mem_cons_of_mem _ xw_90)
  have w_56 : CallW rm_S_longestBelow s args R_S R_T 56 y_T_longestSegment b_T_longestSegment 3 (some .int) ws_T_longestSegment rm_T_longestSegment 0 0 0 := cwV 0 hts (wB_callV (fun w h => List.mem_cons_of_mem _ h) xw_92 xw_93 xw_94 xw_95 xw_21) rfl rfl rfl (by decide +kernel) ⟨Nat.le_of_ble_eq_true rfl, Nat.le_of_ble_eq_true rfl⟩
  have L9 : ∀ (f9 : Nat) (v2_9 : Int32) (v3_9 : Int32), j_S_longestBelow_L9 n M x1 f9 v2_9 v3_9 = some r0 → ∀ (H : Heap) (locs : List Loc), gw_W D (tyX cI cT) A (wX cI cT ad M) s H locs → ∀ ls : Array Slot, lv_has ls 4 [(0, .ref (ad 1)), (1, .ref (ad (6 + x1.val))), (2, .int v2_9), (3, .int v3_9)] → W p l e rm_S_longestBelow s m args below meth c H locs 0 0 Q (F0 m 9 ls []) := by
    intro f9
    induction f9 with
    | zero =>
      intro v2_9 v3_9 hj
      exact nomatch (show (none : Option Int32) = some r0 from hj)
    | succ f9 ih9 =>
      intro v2_9 v3_9 hj H locs hw ls hl
      rw [j_S_longestBelow_L9] at hj
      refine lv_iload_n hx hb d_S_longestBelow_9 rfl (lv_at hl 3 rfl) ?_
      refine lv_aload_n hx hb d_S_longestBelow_10 rfl (lv_at hl 0 rfl) ?_
      refine gw_get (v := .int (M.2.1 0 2)) S hw xa_S rfl (by decide) n_T_S f_27 rfl d_S_longestBelow_11 ?_
      refine lv_icmp_ge (tgt := 37) hx hb d_S_longestBelow_14 (by decide) (fun c_1 => ?_) (fun c_1 => ?_)
      · rw [if_pos c_1] at hj
        refine lv_iload_n hx hb d_S_longestBelow_37 rfl (lv_at hl 2 rfl) ?_
        exact hend H locs ls 38 _ _ (Option.some.inj hj) rfl hw d_S_longestBelow_38
      · rw [if_neg c_1] at hj
        refine lv_iload_n hx hb d_S_longestBelow_17 rfl (lv_at hl 2 rfl) ?_
        refine lv_aload_n hx hb d_S_longestBelow_18 rfl (lv_at hl 0 rfl) ?_
        refine gw_get (v := .ref (ad 3)) S hw xa_S rfl (by decide) n_T_S f_17 rfl d_S_longestBelow_19 ?_
        refine lv_iload_n hx hb d_S_longestBelow_22 rfl (lv_at hl 3 rfl) ?_
        obtain ⟨g_2, hj⟩ := gw_if hj
        refine gw_aldq (t0 := 1) S hw ⟨xa_rk, rfl⟩ g_2 d_S_longestBelow_23 ?_
        obtain ⟨r_4, e_3, hj⟩ := Option.bind_eq_some_iff.mp hj
        refine gw_calli (As := []) (rest := [.int v2_9]) S hw (c_T_longestSegment e_3) w_56 (xa_T (M.2.2.1 v3_9.toNatClampNeg)) rfl rfl hl.1 rfl (Nat.le_of_ble_eq_true rfl) d_S_longestBelow_24 (fun H locs hw => ?_)
        refine va_mmax hx hb (S.2.2.1.trans hl.1.symm) S.2.2.2.1 m_60 ms_max mi_ mc_max (by decide) (Nat.le_of_ble_eq_true rfl) (Nat.zero_le _) (Nat.zero_le _) d_S_longestBelow_27 ?_
        refine lv_istore_n (lv' := [(2, .int (if v2_9 < r_4 then r_4 else v2_9)), (0, .ref (ad 1)), (1, .ref (ad (6 + x1.val))), (3, .int v3_9)]) hx hb d_S_longestBelow_30 rfl hl (by decide) rfl (fun ls hl => ?_)
        refine lv_iinc (v := (v3_9 + 1)) (lv' := [(3, .int (v3_9 + 1)), (2, .int (if v2_9 < r_4 then r_4 else v2_9)), (0, .ref (ad 1)), (1, .ref (ad (6 + x1.val)))]) hx hb d_S_longestBelow_31 hl (k := 3) rfl rfl (by decide) rfl (fun ls hl => ?_)
        refine lv_goto (tgt := 9) hx hb d_S_longestBelow_34 (by decide) ?_
        exact ih9 (if v2_9 < r_4 then r_4 else v2_9) (v3_9 + 1) hj H locs hw ls (lv_sub hl [2, 3, 1, 0] rfl)
  unfold j_S_longestBelow at hj
  refine lv_iconst (v := 0) hx hb d_S_longestBelow_0 (by decide) ?_
  refine lv_istore_n (lv' := [(2, .int 0), (0, .ref (ad 1)), (1, .ref (ad (6 + x1.val)))]) hx hb d_S_longestBelow_1 rfl hl (by decide) rfl (fun ls hl => ?_)
  refine lv_aload_n hx hb d_S_longestBelow_2 rfl (lv_at hl 2 rfl) ?_
  refine gw_get (v := .int (M.1 0 x1 8)) S hw (xa_T x1) rfl (by decide) n_T_T f_23 rfl d_S_longestBelow_3 ?_
  refine lv_iconst (v := 1) hx hb d_S_longestBelow_6 (by decide) ?_
  refine lv_iadd hx hb d_S_longestBelow_7 ?_
  refine lv_istore_n (lv' := [(3, .int ((M.1 0 x1 8) + 1)), (2, .int 0), (0, .ref (ad 1)), (1, .ref (ad (6 + x1.val)))]) hx hb d_S_longestBelow_8 rfl hl (by decide) rfl (fun ls hl => ?_)
  exact L9 n 0 ((M.1 0 x1 8) + 1) hj H locs hw ls (lv_sub hl [2, 3, 1, 0] rfl)
abbrev rm_S_blockingOf : Room := { frames := 3, cells := 0, slots := 0, locals := 66 }
def ws_S_blockingOf : List Cond := Cond.code y_S_blockingOf b_S_blockingOf 2 (some .int) :: wB
set_option maxHeartbeats 4000000 in
set_option maxRecDepth 100000 in
theorem c_S_blockingOf {l : Launch} {D : va_G} {cI cT : ClassId} {ad : Nat → Nat} {n : Nat} {M : MX} {x1 : Fin 8} {r0 : Int32} (hj : j_S_blockingOf n M x1 = some r0) : gw_Ci l y_S_blockingOf ws_S_blockingOf rm_S_blockingOf D (tyX cI cT) (wX cI cT ad M) [.ref (ad 1), .ref (ad (6 + x1.val))] r0 (wX cI cT ad M) := by
  intro sz
  refine gw_meti (cc := b_S_blockingOf) (maxL := 2) (by decide) rfl (Nat.le_of_ble_eq_true rfl) ?_
  intro p e s m args below meth c A Q S H locs hw hend ls hl
  have S : CallFix p m c b_S_blockingOf 2 s args ws_S_blockingOf R_S := S
  have hx := S.1
  have hb := S.2.1
  have hts := S.2.2.2.2
  have hl : lv_has ls 2 [(0, .ref (ad 1)), (1, .ref (ad (6 + x1.val)))] := hl
  have m_60 := hts _ (List.mem_cons_of_mem _ xw_91)
  have ms_max := hts _ (List.mem_cons_of_mem _ xw_88)
  have mc_max := hts _ (List.mem_cons_of_mem _ xw_89)
  have mi_ := hts _ (List.mem_cons_of_mem _ xw_90)
  have w_66 : CallW rm_S_blockingOf s args R_S R_S 66 y_S_longestBelow b_S_longestBelow 4 (some .int) ws_S_longestBelow rm_S_longestBelow 0 0 1 := cwV 1 hts (wB_callV (fun w h => List.mem_cons_of_mem _ h) xw_96 xw_97 xw_98 xw_99 xw_14) rfl rfl rfl (by decide +kernel) ⟨Nat.le_of_ble_eq_true rfl, Nat.le_of_ble_eq_true rfl⟩
  unfold j_S_blockingOf at hj
  refine lv_iconst (v := 0) hx hb d_S_blockingOf_0 (by decide) ?_
  refine lv_aload_n hx hb d_S_blockingOf_1 rfl (lv_at hl 0 rfl) ?_
  refine lv_aload_n hx hb d_S_blockingOf_2 rfl (lv_at hl 1 rfl) ?_
  obtain ⟨r_2, e_1, hj⟩ := Option.bind_eq_some_iff.mp hj
  refine gw_calli (As := [.ref (ad (6 + x1.val))]) (rest := [.int 0]) S hw (c_S_longestBelow e_1) w_66 xa_S rfl rfl hl.1 rfl (Nat.le_of_ble_eq_true rfl) d_S_blockingOf_3 (fun H locs hw => ?_)
  refine lv_iconst (v := 1) hx hb d_S_blockingOf_6 (by decide) ?_
  refine lv_isub hx hb d_S_blockingOf_7 ?_
  refine va_mmax hx hb (S.2.2.1.trans hl.1.symm) S.2.2.2.1 m_60 ms_max mi_ mc_max (by decide) (Nat.le_of_ble_eq_true rfl) (Nat.zero_le _) (Nat.zero_le _) d_S_blockingOf_8 ?_
  exact hend H locs ls 11 _ _ (Option.some.inj hj) rfl hw d_S_blockingOf_11
abbrev rm_T_segmentAt : Room := { frames := 0, cells := 0, slots := 0, locals := 0 }
def ws_T_segmentAt : List Cond := Cond.code y_T_segmentAt b_T_segmentAt 2 (some .int) :: wB
set_option maxHeartbeats 4000000 in
set_option maxRecDepth 100000 in
theorem c_T_segmentAt {l : Launch} {D : va_G} {cI cT : ClassId} {ad : Nat → Nat} {n : Nat} {M : MX} {x0 : Fin 8} {a1 : Int32} {r0 : Int32} (hj : j_T_segmentAt n M x0 a1 = some r0) : gw_Ci l y_T_segmentAt ws_T_segmentAt rm_T_segmentAt D (tyX cI cT) (wX cI cT ad M) [.ref (ad (6 + x0.val)), .int a1] r0 (wX cI cT ad M) := by
  intro sz
  refine gw_meti (cc := b_T_segmentAt) (maxL := 2) (by decide) rfl (Nat.le_of_ble_eq_true rfl) ?_
  intro p e s m args below meth c A Q S H locs hw hend ls hl
  have S : CallFix p m c b_T_segmentAt 2 s args ws_T_segmentAt R_T := S
  have hx := S.1
  have hb := S.2.1
  have hts := S.2.2.2.2
  have hl : lv_has ls 2 [(0, .ref (ad (6 + x0.val))), (1, .int a1)] := hl
  have n_T_T : ∀ w ∈ u_ws R_T T_T 13, w ∈ ws_T_segmentAt := fun w h => List.mem_cons_of_mem _ (uT_T w h)
  have f_18 : Cond.fieldLink R_T 18 (T_T 2).1 (T_T 2).2.1 (T_T 2).2.2.1 ∈ ws_T_segmentAt := List.mem_cons_of_mem _ xw_49
  have f_44 : Cond.fieldLink R_T 44 (T_T 6).1 (T_T 6).2.1 (T_T 6).2.2.1 ∈ ws_T_segmentAt := List.mem_cons_of_mem _ xw_8
  unfold j_T_segmentAt at hj
  refine lv_iload_n hx hb d_T_segmentAt_0 rfl (lv_at hl 1 rfl) ?_
  refine lv_if_lt (tgt := 12) hx hb d_T_segmentAt_1 (by decide) (fun c_1 => ?_) (fun c_1 => ?_)
  · rw [if_pos c_1] at hj
    refine lv_iconst (v := -1) hx hb d_T_segmentAt_12 (by decide) ?_
    refine lv_goto (tgt := 22) hx hb d_T_segmentAt_13 (by decide) ?_
    exact hend H locs ls 22 _ _ (Option.some.inj hj) rfl hw d_T_segmentAt_22
  · rw [if_neg c_1] at hj
    refine lv_iload_n hx hb d_T_segmentAt_4 rfl (lv_at hl 1 rfl) ?_
    refine lv_aload_n hx hb d_T_segmentAt_5 rfl (lv_at hl 0 rfl) ?_
    refine gw_get (v := .int (M.1 0 x0 6)) S hw (xa_T x0) rfl (by decide) n_T_T f_44 rfl d_T_segmentAt_6 ?_
    refine lv_icmp_lt (tgt := 16) hx hb d_T_segmentAt_9 (by decide) (fun c_2 => ?_) (fun c_2 => ?_)
    · rw [if_pos c_2] at hj
      refine lv_aload_n hx hb d_T_segmentAt_16 rfl (lv_at hl 0 rfl) ?_
      refine gw_get (v := .ref (ad (22 + x0.val))) S hw (xa_T x0) rfl (by decide) n_T_T f_18 rfl d_T_segmentAt_17 ?_
      refine lv_iload_n hx hb d_T_segmentAt_20 rfl (lv_at hl 1 rfl) ?_
      obtain ⟨g_3, hj⟩ := gw_if hj
      refine gw_iald (t0 := 0) S hw ⟨xa_sg x0, rfl⟩ g_3 d_T_segmentAt_21 ?_
      exact hend H locs ls 22 _ _ (Option.some.inj hj) rfl hw d_T_segmentAt_22
    · rw [if_neg c_2] at hj
      refine lv_iconst (v := -1) hx hb d_T_segmentAt_12 (by decide) ?_
      refine lv_goto (tgt := 22) hx hb d_T_segmentAt_13 (by decide) ?_
      exact hend H locs ls 22 _ _ (Option.some.inj hj) rfl hw d_T_segmentAt_22
abbrev rm_O_about : Room := { frames := 4, cells := 0, slots := 0, locals := 87 }
def ws_O_about : List Cond := Cond.code y_O_about b_O_about 4 (some .int) :: wB
set_option maxHeartbeats 4000000 in
set_option maxRecDepth 100000 in
theorem c_O_about {l : Launch} {D : va_G} {cI cT : ClassId} {ad : Nat → Nat} {n : Nat} {M : MX} {a1 : Int32} {a2 : Int32} {r0 : Int32} (hj : j_O_about n M a1 a2 = some r0) : gw_Ci l y_O_about ws_O_about rm_O_about D (tyX cI cT) (wX cI cT ad M) [.ref (ad 0), .int a1, .int a2] r0 (wX cI cT ad M) := by
  intro sz
  refine gw_meti (cc := b_O_about) (maxL := 4) (by decide) rfl (Nat.le_of_ble_eq_true rfl) ?_
  intro p e s m args below meth c A Q S H locs hw hend ls hl
  have S : CallFix p m c b_O_about 4 s args ws_O_about R_O := S
  have hx := S.1
  have hb := S.2.1
  have hts := S.2.2.2.2
  have hl : lv_has ls 4 [(0, .ref (ad 0)), (1, .int a1), (2, .int a2)] := hl
  have n_T_O : ∀ w ∈ u_ws R_O T_O 3, w ∈ ws_O_about := fun w h => List.mem_cons_of_mem _ (uT_O w h)
  have n_T_T : ∀ w ∈ u_ws R_T T_T 13, w ∈ ws_O_about := fun w h => List.mem_cons_of_mem _ (uT_T w h)
  have f_10 : Cond.fieldLink R_O 10 (T_O 0).1 (T_O 0).2.1 (T_O 0).2.2.1 ∈ ws_O_about := List.mem_cons_of_mem _ xw_42
  have f_54 : Cond.fieldLink R_O 54 (T_T 3).1 (T_T 3).2.1 (T_T 3).2.2.1 ∈ ws_O_about := List.mem_cons_of_mem _ xw_100
  have f_60 : Cond.fieldLink R_O 60 (T_T 4).1 (T_T 4).2.1 (T_T 4).2.2.1 ∈ ws_O_about := List.mem_cons_of_mem _ xw_101
  have f_63 : Cond.fieldLink R_O 63 (T_T 5).1 (T_T 5).2.1 (T_T 5).2.2.1 ∈ ws_O_about := List.mem_cons_of_mem _ xw_102
  have f_66 : Cond.fieldLink R_O 66 (T_T 6).1 (T_T 6).2.1 (T_T 6).2.2.1 ∈ ws_O_about := List.mem_cons_of_mem _ xw_103
  have f_69 : Cond.fieldLink R_O 69 (T_T 7).1 (T_T 7).2.1 (T_T 7).2.2.1 ∈ ws_O_about := List.mem_cons_of_mem _ xw_104
  have w_50 : CallW rm_O_about s args R_O R_S 50 y_S_find b_S_find 3 (some (.object "SegmentKernel$Task")) ws_S_find rm_S_find 0 0 1 := cwV 1 hts (wB_callV (fun w h => List.mem_cons_of_mem _ h) xw_26 xw_105 xw_28 xw_29 xw_14) rfl rfl rfl (by decide +kernel) ⟨Nat.le_of_ble_eq_true rfl, Nat.le_of_ble_eq_true rfl⟩
  have w_72 : CallW rm_O_about s args R_O R_S 72 y_S_blockingOf b_S_blockingOf 2 (some .int) ws_S_blockingOf rm_S_blockingOf 0 0 1 := cwV 1 hts (wB_callV (fun w h => List.mem_cons_of_mem _ h) xw_106 xw_107 xw_108 xw_109 xw_14) rfl rfl rfl (by decide +kernel) ⟨Nat.le_of_ble_eq_true rfl, Nat.le_of_ble_eq_true rfl⟩
  have w_76 : CallW rm_O_about s args R_O R_T 76 y_T_segmentAt b_T_segmentAt 2 (some .int) ws_T_segmentAt rm_T_segmentAt 0 0 1 := cwV 1 hts (wB_callV (fun w h => List.mem_cons_of_mem _ h) xw_110 xw_111 xw_112 xw_113 xw_21) rfl rfl rfl (by decide +kernel) ⟨Nat.le_of_ble_eq_true rfl, Nat.le_of_ble_eq_true rfl⟩
  unfold j_O_about at hj
  refine lv_aload_n hx hb d_O_about_0 rfl (lv_at hl 0 rfl) ?_
  refine gw_get (v := .ref (ad 1)) S hw xa_O rfl (by decide) n_T_O f_10 rfl d_O_about_1 ?_
  refine lv_iload_n hx hb d_O_about_4 rfl (lv_at hl 1 rfl) ?_
  obtain ⟨r_2, e_1, hj⟩ := Option.bind_eq_some_iff.mp hj
  refine gw_callq (As := [.int a1]) (rest := []) S hw (c_S_find e_1) w_50 xa_S rfl rfl hl.1 rfl (Nat.le_of_ble_eq_true rfl) d_O_about_5 (fun H locs hw => ?_)
  refine gw_astore_n (lv' := [(3, va_rf (gw_oa ad r_2)), (0, .ref (ad 0)), (1, .int a1), (2, .int a2)]) hx hb d_O_about_8 rfl hl (by decide) rfl (fun ls hl => ?_)
  refine gw_aload_n hx hb d_O_about_9 rfl (lv_at hl 0 rfl) ?_
  rcases r_2 with _ | y_3
  · rw [gw_oc_none rfl] at hj
    refine lv_ifnonnullN hx hb d_O_about_10 ?_
    refine lv_iconst (v := -1) hx hb d_O_about_13 (by decide) ?_
    exact hend H locs ls 14 _ _ (Option.some.inj hj) rfl hw d_O_about_14
  · rw [gw_oc_some rfl] at hj
    refine lv_ifnonnull (tgt := 15) hx hb d_O_about_10 (by decide) ?_
    refine lv_iload_n hx hb d_O_about_15 rfl (lv_at hl 3 rfl) ?_
    by_cases c_4 : a2 = 0
    · rw [if_pos c_4] at hj
      refine lv_tableIn (tgt := 56) hx hb d_O_about_16 (by rw [c_4]; decide) (by rw [c_4]; decide) (by rw [c_4]; rfl) (by decide) ?_
      refine lv_aload_n hx hb d_O_about_56 rfl (lv_at hl 0 rfl) ?_
      refine gw_get (v := .int (M.1 0 y_3 3)) S hw (xa_T y_3) rfl (by decide) n_T_T f_54 rfl d_O_about_57 ?_
      exact hend H locs ls 60 _ _ (Option.some.inj hj) rfl hw d_O_about_60
    rw [if_neg c_4] at hj
    by_cases c_5 : a2 = 1
    · rw [if_pos c_5] at hj
      refine lv_tableIn (tgt := 61) hx hb d_O_about_16 (by rw [c_5]; decide) (by rw [c_5]; decide) (by rw [c_5]; rfl) (by decide) ?_
      refine lv_aload_n hx hb d_O_about_61 rfl (lv_at hl 0 rfl) ?_
      refine gw_get (v := .int (M.1 0 y_3 4)) S hw (xa_T y_3) rfl (by decide) n_T_T f_60 rfl d_O_about_62 ?_
      exact hend H locs ls 65 _ _ (Option.some.inj hj) rfl hw d_O_about_65
    rw [if_neg c_5] at hj
    by_cases c_6 : a2 = 2
    · rw [if_pos c_6] at hj
      refine lv_tableIn (tgt := 66) hx hb d_O_about_16 (by rw [c_6]; decide) (by rw [c_6]; decide) (by rw [c_6]; rfl) (by decide) ?_
      refine lv_aload_n hx hb d_O_about_66 rfl (lv_at hl 0 rfl) ?_
      refine gw_get (v := .int (M.1 0 y_3 5)) S hw (xa_T y_3) rfl (by decide) n_T_T f_63 rfl d_O_about_67 ?_
      exact hend H locs ls 70 _ _ (Option.some.inj hj) rfl hw d_O_about_70
    rw [if_neg c_6] at hj
    by_cases c_7 : a2 = 3
    · rw [if_pos c_7] at hj
      refine lv_tableIn (tgt := 71) hx hb d_O_about_16 (by rw [c_7]; decide) (by rw [c_7]; decide) (by rw [c_7]; rfl) (by decide) ?_
      refine lv_aload_n hx hb d_O_about_71 rfl (lv_at hl 0 rfl) ?_
      refine gw_get (v := .int (M.1 0 y_3 6)) S hw (xa_T y_3) rfl (by decide) n_T_T f_66 rfl d_O_about_72 ?_
      exact hend H locs ls 75 _ _ (Option.some.inj hj) rfl hw d_O_about_75
    rw [if_neg c_7] at hj
    by_cases c_8 : a2 = 4
    · rw [if_pos c_8] at hj
      refine lv_tableIn (tgt := 76) hx hb d_O_about_16 (by rw [c_8]; decide) (by rw [c_8]; decide) (by rw [c_8]; rfl) (by decide) ?_
      refine lv_aload_n hx hb d_O_about_76 rfl (lv_at hl 0 rfl) ?_
      refine gw_get (v := .int (M.1 0 y_3 7)) S hw (xa_T y_3) rfl (by decide) n_T_T f_69 rfl d_O_about_77 ?_
      exact hend H locs ls 80 _ _ (Option.some.inj hj) rfl hw d_O_about_80
    rw [if_neg c_8] at hj
    by_cases c_11 : a2 = 5
    · rw [if_pos c_11] at hj
      refine lv_tableIn (tgt := 81) hx hb d_O_about_16 (by rw [c_11]; decide) (by rw [c_11]; decide) (by rw [c_11]; rfl) (by decide) ?_
      refine lv_aload_n hx hb d_O_about_81 rfl (lv_at hl 1 rfl) ?_
      refine gw_get (v := .ref (ad 1)) S hw xa_O rfl (by decide) n_T_O f_10 rfl d_O_about_82 ?_
      refine lv_aload_n hx hb d_O_about_85 rfl (lv_at hl 0 rfl) ?_
      obtain ⟨r_10, e_9, hj⟩ := Option.bind_eq_some_iff.mp hj
      refine gw_calli (As := [.ref (ad (6 + y_3.val))]) (rest := []) S hw (c_S_blockingOf e_9) w_72 xa_S rfl rfl hl.1 rfl (Nat.le_of_ble_eq_true rfl) d_O_about_86 (fun H locs hw => ?_)
      exact hend H locs ls 89 _ _ (Option.some.inj hj) rfl hw d_O_about_89
    rw [if_neg c_11] at hj
    refine lv_tableOut (tgt := 90) hx hb d_O_about_16 (gw_out6 c_4 c_5 c_6 c_7 c_8 c_11) (by decide) ?_
    refine lv_iload_n hx hb d_O_about_90 rfl (lv_at hl 3 rfl) ?_
    refine lv_bipush (v := 10) hx hb d_O_about_91 (by decide) ?_
    refine lv_icmp_ge (tgt := 100) hx hb d_O_about_93 (by decide) (fun c_12 => ?_) (fun c_12 => ?_)
    · rw [if_pos c_12] at hj
      refine lv_aload_n hx hb d_O_about_100 rfl (lv_at hl 0 rfl) ?_
      refine lv_iload_n hx hb d_O_about_101 rfl (lv_at hl 3 rfl) ?_
      refine lv_bipush (v := 10) hx hb d_O_about_102 (by decide) ?_
      refine lv_isub hx hb d_O_about_104 ?_
      obtain ⟨r_14, e_13, hj⟩ := Option.bind_eq_some_iff.mp hj
      refine gw_calli (As := [.int (a2 - 10)]) (rest := []) S hw (c_T_segmentAt e_13) w_76 (xa_T y_3) rfl rfl hl.1 rfl (Nat.le_of_ble_eq_true rfl) d_O_about_105 (fun H locs hw => ?_)
      exact hend H locs ls 108 _ _ (Option.some.inj hj) rfl hw d_O_about_108
    · rw [if_neg c_12] at hj
      refine lv_iconst (v := -1) hx hb d_O_about_96 (by decide) ?_
      refine lv_goto (tgt := 108) hx hb d_O_about_97 (by decide) ?_
      exact hend H locs ls 108 _ _ (Option.some.inj hj) rfl hw d_O_about_108
abbrev rm_S_isReady : Room := { frames := 0, cells := 0, slots := 0, locals := 0 }
def ws_S_isReady : List Cond := Cond.code y_S_isReady b_S_isReady 2 (some .boolean) :: wB
set_option maxHeartbeats 4000000 in
set_option maxRecDepth 100000 in
theorem c_S_isReady {l : Launch} {D : va_G} {cI cT : ClassId} {ad : Nat → Nat} {n : Nat} {M : MX} {r0 : Int32} (hj : j_S_isReady n M = some r0) : gw_Cz l y_S_isReady ws_S_isReady rm_S_isReady D (tyX cI cT) (wX cI cT ad M) [.ref (ad 1)] r0 (wX cI cT ad M) := by
  intro sz
  refine gw_metz (cc := b_S_isReady) (maxL := 2) (by decide) rfl (Nat.le_of_ble_eq_true rfl) ?_
  intro p e s m args below meth c A Q S H locs hw hend ls hl
  have S : CallFix p m c b_S_isReady 2 s args ws_S_isReady R_S := S
  have hx := S.1
  have hb := S.2.1
  have hts := S.2.2.2.2
  have hl : lv_has ls 2 [(0, .ref (ad 1))] := hl
  have n_T_S : ∀ w ∈ u_ws R_S T_S 3, w ∈ ws_S_isReady := fun w h => List.mem_cons_of_mem _ (uT_S w h)
  have n_T_T : ∀ w ∈ u_ws R_T T_T 13, w ∈ ws_S_isReady := fun w h => List.mem_cons_of_mem _ (uT_T w h)
  have f_17 : Cond.fieldLink R_S 17 (T_S 1).1 (T_S 1).2.1 (T_S 1).2.2.1 ∈ ws_S_isReady := List.mem_cons_of_mem _ xw_0
  have f_27 : Cond.fieldLink R_S 27 (T_S 2).1 (T_S 2).2.1 (T_S 2).2.2.1 ∈ ws_S_isReady := List.mem_cons_of_mem _ xw_1
  have f_53 : Cond.fieldLink R_S 53 (T_T 6).1 (T_T 6).2.1 (T_T 6).2.2.1 ∈ ws_S_isReady := List.mem_cons_of_mem _ xw_114
  have L2 : ∀ (f2 : Nat) (v1_2 : Int32), j_S_isReady_L2 n M f2 v1_2 = some r0 → ∀ (H : Heap) (locs : List Loc), gw_W D (tyX cI cT) A (wX cI cT ad M) s H locs → ∀ ls : Array Slot, lv_has ls 2 [(0, .ref (ad 1)), (1, .int v1_2)] → W p l e rm_S_isReady s m args below meth c H locs 0 0 Q (F0 m 2 ls []) := by
    intro f2
    induction f2 with
    | zero =>
      intro v1_2 hj
      exact nomatch (show (none : Option Int32) = some r0 from hj)
    | succ f2 ih2 =>
      intro v1_2 hj H locs hw ls hl
      rw [j_S_isReady_L2] at hj
      refine lv_iload_n hx hb d_S_isReady_2 rfl (lv_at hl 1 rfl) ?_
      refine lv_aload_n hx hb d_S_isReady_3 rfl (lv_at hl 0 rfl) ?_
      refine gw_get (v := .int (M.2.1 0 2)) S hw xa_S rfl (by decide) n_T_S f_27 rfl d_S_isReady_4 ?_
      refine lv_icmp_ge (tgt := 30) hx hb d_S_isReady_7 (by decide) (fun c_1 => ?_) (fun c_1 => ?_)
      · rw [if_pos c_1] at hj
        refine lv_aload_n hx hb d_S_isReady_30 rfl (lv_at hl 0 rfl) ?_
        refine gw_get (v := .int (M.2.1 0 2)) S hw xa_S rfl (by decide) n_T_S f_27 rfl d_S_isReady_31 ?_
        refine lv_if_le (tgt := 41) hx hb d_S_isReady_34 (by decide) (fun c_2 => ?_) (fun c_2 => ?_)
        · rw [if_pos c_2] at hj
          refine lv_iconst (v := 0) hx hb d_S_isReady_41 (by decide) ?_
          exact hend H locs ls 42 _ _ (Option.some.inj hj) rfl (Or.inl rfl) hw d_S_isReady_42
        · rw [if_neg c_2] at hj
          refine lv_iconst (v := 1) hx hb d_S_isReady_37 (by decide) ?_
          refine lv_goto (tgt := 42) hx hb d_S_isReady_38 (by decide) ?_
          exact hend H locs ls 42 _ _ (Option.some.inj hj) rfl (Or.inr rfl) hw d_S_isReady_42
      · rw [if_neg c_1] at hj
        refine lv_aload_n hx hb d_S_isReady_10 rfl (lv_at hl 0 rfl) ?_
        refine gw_get (v := .ref (ad 3)) S hw xa_S rfl (by decide) n_T_S f_17 rfl d_S_isReady_11 ?_
        refine lv_iload_n hx hb d_S_isReady_14 rfl (lv_at hl 1 rfl) ?_
        obtain ⟨g_3, hj⟩ := gw_if hj
        refine gw_aldq (t0 := 1) S hw ⟨xa_rk, rfl⟩ g_3 d_S_isReady_15 ?_
        refine gw_get (v := .int (M.1 0 (M.2.2.1 v1_2.toNatClampNeg) 6)) S hw (xa_T (M.2.2.1 v1_2.toNatClampNeg)) rfl (by decide) n_T_T f_53 rfl d_S_isReady_16 ?_
        refine lv_if_ne (tgt := 24) hx hb d_S_isReady_19 (by decide) (fun c_4 => ?_) (fun c_4 => ?_)
        · rw [if_neg c_4] at hj
          refine lv_iinc (v := (v1_2 + 1)) (lv' := [(1, .int (v1_2 + 1)), (0, .ref (ad 1))]) hx hb d_S_isReady_24 hl (k := 1) rfl rfl (by decide) rfl (fun ls hl => ?_)
          refine lv_goto (tgt := 2) hx hb d_S_isReady_27 (by decide) ?_
          exact ih2 (v1_2 + 1) hj H locs hw ls (lv_sub hl [1, 0] rfl)
        · rw [if_pos c_4] at hj
          refine lv_iconst (v := 0) hx hb d_S_isReady_22 (by decide) ?_
          exact hend H locs ls 23 _ _ (Option.some.inj hj) rfl (Or.inl rfl) hw d_S_isReady_23
  unfold j_S_isReady at hj
  refine lv_iconst (v := 0) hx hb d_S_isReady_0 (by decide) ?_
  refine lv_istore_n (lv' := [(1, .int 0), (0, .ref (ad 1))]) hx hb d_S_isReady_1 rfl hl (by decide) rfl (fun ls hl => ?_)
  exact L2 n 0 hj H locs hw ls (lv_sub hl [1, 0] rfl)
abbrev rm_T_arrivalsBy : Room := { frames := 0, cells := 0, slots := 0, locals := 0 }
def ws_T_arrivalsBy : List Cond := Cond.code y_T_arrivalsBy b_T_arrivalsBy 2 (some .int) :: wB
set_option maxHeartbeats 4000000 in
set_option maxRecDepth 100000 in
theorem c_T_arrivalsBy {l : Launch} {D : va_G} {cI cT : ClassId} {ad : Nat → Nat} {n : Nat} {M : MX} {x0 : Fin 8} {a1 : Int32} {r0 : Int32} (hj : j_T_arrivalsBy n M x0 a1 = some r0) : gw_Ci l y_T_arrivalsBy ws_T_arrivalsBy rm_T_arrivalsBy D (tyX cI cT) (wX cI cT ad M) [.ref (ad (6 + x0.val)), .int a1] r0 (wX cI cT ad M) := by
  intro sz
  refine gw_meti (cc := b_T_arrivalsBy) (maxL := 2) (by decide) rfl (Nat.le_of_ble_eq_true rfl) ?_
  intro p e s m args below meth c A Q S H locs hw hend ls hl
  have S : CallFix p m c b_T_arrivalsBy 2 s args ws_T_arrivalsBy R_T := S
  have hx := S.1
  have hb := S.2.1
  have hts := S.2.2.2.2
  have hl : lv_has ls 2 [(0, .ref (ad (6 + x0.val))), (1, .int a1)] := hl
  have n_T_T : ∀ w ∈ u_ws R_T T_T 13, w ∈ ws_T_arrivalsBy := fun w h => List.mem_cons_of_mem _ (uT_T w h)
  have f_35 : Cond.fieldLink R_T 35 (T_T 3).1 (T_T 3).2.1 (T_T 3).2.2.1 ∈ ws_T_arrivalsBy := List.mem_cons_of_mem _ xw_5
  unfold j_T_arrivalsBy at hj
  refine lv_iload_n hx hb d_T_arrivalsBy_0 rfl (lv_at hl 1 rfl) ?_
  refine lv_if_lt (tgt := 12) hx hb d_T_arrivalsBy_1 (by decide) (fun c_1 => ?_) (fun c_1 => ?_)
  · rw [if_pos c_1] at hj
    refine lv_iconst (v := 0) hx hb d_T_arrivalsBy_12 (by decide) ?_
    refine lv_goto (tgt := 24) hx hb d_T_arrivalsBy_13 (by decide) ?_
    exact hend H locs ls 24 _ _ (Option.some.inj hj) rfl hw d_T_arrivalsBy_24
  · rw [if_neg c_1] at hj
    refine lv_aload_n hx hb d_T_arrivalsBy_4 rfl (lv_at hl 0 rfl) ?_
    refine gw_get (v := .int (M.1 0 x0 3)) S hw (xa_T x0) rfl (by decide) n_T_T f_35 rfl d_T_arrivalsBy_5 ?_
    refine lv_iconst (v := 1) hx hb d_T_arrivalsBy_8 (by decide) ?_
    refine lv_icmp_ge (tgt := 16) hx hb d_T_arrivalsBy_9 (by decide) (fun c_2 => ?_) (fun c_2 => ?_)
    · rw [if_pos c_2] at hj
      refine lv_iload_n hx hb d_T_arrivalsBy_16 rfl (lv_at hl 1 rfl) ?_
      refine lv_aload_n hx hb d_T_arrivalsBy_17 rfl (lv_at hl 0 rfl) ?_
      refine gw_get (v := .int (M.1 0 x0 3)) S hw (xa_T x0) rfl (by decide) n_T_T f_35 rfl d_T_arrivalsBy_18 ?_
      obtain ⟨g_3, hj⟩ := gw_if hj
      refine lv_idiv hx hb d_T_arrivalsBy_21 g_3 ?_
      refine lv_iconst (v := 1) hx hb d_T_arrivalsBy_22 (by decide) ?_
      refine lv_iadd hx hb d_T_arrivalsBy_23 ?_
      exact hend H locs ls 24 _ _ (Option.some.inj hj) rfl hw d_T_arrivalsBy_24
    · rw [if_neg c_2] at hj
      refine lv_iconst (v := 0) hx hb d_T_arrivalsBy_12 (by decide) ?_
      refine lv_goto (tgt := 24) hx hb d_T_arrivalsBy_13 (by decide) ?_
      exact hend H locs ls 24 _ _ (Option.some.inj hj) rfl hw d_T_arrivalsBy_24
