abbrev rm_Y_begin : Room := { frames := 1, cells := 0, slots := 0, locals := 22 }
def ws_Y_begin : List Cond := Cond.code y_Y_begin b_Y_begin 2 none :: wB
set_option maxHeartbeats 4000000 in
set_option maxRecDepth 100000 in
theorem c_Y_begin {l : Launch} {D : va_G} {cI cZ : ClassId} {ad : Nat → Nat} {n : Nat} {M : MY} {M0 : MY} (hj : j_Y_begin n M = some M0) : gw_Cv l y_Y_begin ws_Y_begin rm_Y_begin D (tyY cI cZ) (wY cI cZ ad M) [.ref (ad 0)] (wY cI cZ ad M0) := by
  intro sz
  refine gw_metv (cc := b_Y_begin) (maxL := 2) (by decide) rfl (Nat.le_of_ble_eq_true rfl) ?_
  intro p e s m args below meth c A Q S H locs hw hend ls hl
  have S : CallFix p m c b_Y_begin 2 s args ws_Y_begin R_Y := S
  have hx := S.1
  have hb := S.2.1
  have hts := S.2.2.2.2
  have hl : lv_has ls 2 [(0, .ref (ad 0))] := hl
  have n_T_Y : ∀ w ∈ u_ws R_Y T_Y 29, w ∈ ws_Y_begin := fun w h => List.mem_cons_of_mem _ (uT_Y w h)
  have f_26 : Cond.fieldLink R_Y 26 (T_Y 6).1 (T_Y 6).2.1 (T_Y 6).2.2.1 ∈ ws_Y_begin := List.mem_cons_of_mem _ xw_273
  have f_47 : Cond.fieldLink R_Y 47 (T_Y 20).1 (T_Y 20).2.1 (T_Y 20).2.2.1 ∈ ws_Y_begin := List.mem_cons_of_mem _ xw_281
  have f_53 : Cond.fieldLink R_Y 53 (T_Y 22).1 (T_Y 22).2.1 (T_Y 22).2.2.1 ∈ ws_Y_begin := List.mem_cons_of_mem _ xw_283
  have f_77 : Cond.fieldLink R_Y 77 (T_Y 26).1 (T_Y 26).2.1 (T_Y 26).2.2.1 ∈ ws_Y_begin := List.mem_cons_of_mem _ xw_286
  have f_80 : Cond.fieldLink R_Y 80 (T_Y 27).1 (T_Y 27).2.1 (T_Y 27).2.2.1 ∈ ws_Y_begin := List.mem_cons_of_mem _ xw_287
  have f_83 : Cond.fieldLink R_Y 83 (T_Y 28).1 (T_Y 28).2.1 (T_Y 28).2.2.1 ∈ ws_Y_begin := List.mem_cons_of_mem _ xw_288
  have w_161 : CallW rm_Y_begin s args R_Y R_Y 161 y_Y_waiting b_Y_waiting 3 (some .int) ws_Y_waiting rm_Y_waiting 0 0 0 := cwV 0 hts (wB_callV (fun w h => List.mem_cons_of_mem _ h) xw_367 xw_368 xw_369 xw_370 xw_278) rfl rfl rfl (by decide +kernel) ⟨Nat.le_of_ble_eq_true rfl, Nat.le_of_ble_eq_true rfl⟩
  unfold j_Y_begin at hj
  refine lv_aload_n hx hb d_Y_begin_0 rfl (lv_at hl 0 rfl) ?_
  obtain ⟨r_2, e_1, hj⟩ := Option.bind_eq_some_iff.mp hj
  refine gw_calli (As := []) (rest := []) S hw (c_Y_waiting e_1) w_161 ya_R rfl rfl hl.1 rfl (Nat.le_of_ble_eq_true rfl) d_Y_begin_1 (fun H locs hw => ?_)
  refine lv_istore_n (lv' := [(1, .int r_2), (0, .ref (ad 0))]) hx hb d_Y_begin_4 rfl hl (by decide) rfl (fun ls hl => ?_)
  refine lv_iload_n hx hb d_Y_begin_5 rfl (lv_at hl 0 rfl) ?_
  refine lv_if_ne (tgt := 10) hx hb d_Y_begin_6 (by decide) (fun c_3 => ?_) (fun c_3 => ?_)
  · rw [if_neg c_3] at hj
    refine lv_aload_n hx hb d_Y_begin_10 rfl (lv_at hl 1 rfl) ?_
    refine gw_get (v := .int (M.2 28)) S hw ya_R rfl (by decide) n_T_Y f_83 rfl d_Y_begin_11 ?_
    refine lv_if_eq (tgt := 38) hx hb d_Y_begin_14 (by decide) (fun c_4 => ?_) (fun c_4 => ?_)
    · rw [if_pos c_4] at hj
      refine lv_aload_n hx hb d_Y_begin_38 rfl (lv_at hl 1 rfl) ?_
      refine lv_iconst (v := 0) hx hb d_Y_begin_39 (by decide) ?_
      refine gw_put (v := .int 0) (ty := .int) S hw ya_R rfl (by decide) n_T_Y f_83 tk_Y nm_Y rfl (by decide +kernel) rfl rfl (Nat.le_of_ble_eq_true rfl) (ys_R 28 0 (by decide)) d_Y_begin_40 (fun H locs hw => ?_)
      refine lv_aload_n hx hb d_Y_begin_43 rfl (lv_at hl 1 rfl) ?_
      refine lv_iload_n hx hb d_Y_begin_44 rfl (lv_at hl 0 rfl) ?_
      refine gw_put (v := .int r_2) (ty := .int) S hw ya_R rfl (by decide) n_T_Y f_77 tk_Y nm_Y rfl (by decide +kernel) rfl rfl (Nat.le_of_ble_eq_true rfl) (ys_R 26 r_2 (by decide)) d_Y_begin_45 (fun H locs hw => ?_)
      refine lv_aload_n hx hb d_Y_begin_48 rfl (lv_at hl 1 rfl) ?_
      refine lv_aload_n hx hb d_Y_begin_49 rfl (lv_at hl 1 rfl) ?_
      refine gw_get (v := .ref (ad 6)) S hw ya_R rfl (by decide) n_T_Y f_26 rfl d_Y_begin_50 ?_
      refine lv_bipush (v := 8) hx hb d_Y_begin_53 (by decide) ?_
      refine lv_iload_n hx hb d_Y_begin_55 rfl (lv_at hl 0 rfl) ?_
      refine lv_imul hx hb d_Y_begin_56 ?_
      refine lv_aload_n hx hb d_Y_begin_57 rfl (lv_at hl 1 rfl) ?_
      refine gw_get (v := .ref (ad 13)) S hw ya_R rfl (by decide) n_T_Y f_47 rfl d_Y_begin_58 ?_
      refine lv_iload_n hx hb d_Y_begin_61 rfl (lv_at hl 0 rfl) ?_
      obtain ⟨g_5, hj⟩ := gw_if hj
      refine gw_iald (t0 := 0) S hw ⟨ya_a13, rfl⟩ g_5 d_Y_begin_62 ?_
      refine lv_iadd hx hb d_Y_begin_63 ?_
      obtain ⟨g_6, hj⟩ := gw_if hj
      refine gw_iald (t0 := 0) S hw ⟨ya_a6, rfl⟩ g_6 d_Y_begin_64 ?_
      refine gw_put (v := .int ((sV (sV M 28 0) 26 r_2).1 6 ((8 * r_2) + ((sV (sV M 28 0) 26 r_2).1 13 r_2.toNatClampNeg)).toNatClampNeg)) (ty := .int) S hw ya_R rfl (by decide) n_T_Y f_80 tk_Y nm_Y rfl (by decide +kernel) rfl rfl (Nat.le_of_ble_eq_true rfl) (ys_R 27 ((sV (sV M 28 0) 26 r_2).1 6 ((8 * r_2) + ((sV (sV M 28 0) 26 r_2).1 13 r_2.toNatClampNeg)).toNatClampNeg) (by decide)) d_Y_begin_65 (fun H locs hw => ?_)
      refine lv_aload_n hx hb d_Y_begin_68 rfl (lv_at hl 1 rfl) ?_
      refine gw_get (v := .ref (ad 13)) S hw ya_R rfl (by decide) n_T_Y f_47 rfl d_Y_begin_69 ?_
      refine lv_iload_n hx hb d_Y_begin_72 rfl (lv_at hl 0 rfl) ?_
      refine lv_dup2_11 hx hb d_Y_begin_73 rfl rfl ?_
      obtain ⟨g_7, hj⟩ := gw_if hj
      refine gw_iald (t0 := 0) S hw ⟨ya_a13, rfl⟩ g_7 d_Y_begin_74 ?_
      refine lv_iconst (v := 1) hx hb d_Y_begin_75 (by decide) ?_
      refine lv_iadd hx hb d_Y_begin_76 ?_
      obtain ⟨g_8, hj⟩ := gw_if hj
      refine gw_iast (t0 := 0) S hw ⟨ya_a13, rfl⟩ g_8 (ys_a13 r_2.toNatClampNeg (((sV (sV (sV M 28 0) 26 r_2) 27 ((sV (sV M 28 0) 26 r_2).1 6 ((8 * r_2) + ((sV (sV M 28 0) 26 r_2).1 13 r_2.toNatClampNeg)).toNatClampNeg)).1 13 r_2.toNatClampNeg) + 1)) d_Y_begin_77 (fun H locs hw => ?_)
      exact hend H locs ls 78 _ (congrArg (wY cI cZ ad) (Option.some.inj hj)) hw d_Y_begin_78
    · rw [if_neg c_4] at hj
      refine lv_aload_n hx hb d_Y_begin_17 rfl (lv_at hl 1 rfl) ?_
      refine gw_get (v := .int (M.2 28)) S hw ya_R rfl (by decide) n_T_Y f_83 rfl d_Y_begin_18 ?_
      refine lv_iload_n hx hb d_Y_begin_21 rfl (lv_at hl 0 rfl) ?_
      refine lv_icmp_eq (tgt := 38) hx hb d_Y_begin_22 (by decide) (fun c_9 => ?_) (fun c_9 => ?_)
      · rw [if_pos c_9] at hj
        refine lv_aload_n hx hb d_Y_begin_38 rfl (lv_at hl 1 rfl) ?_
        refine lv_iconst (v := 0) hx hb d_Y_begin_39 (by decide) ?_
        refine gw_put (v := .int 0) (ty := .int) S hw ya_R rfl (by decide) n_T_Y f_83 tk_Y nm_Y rfl (by decide +kernel) rfl rfl (Nat.le_of_ble_eq_true rfl) (ys_R 28 0 (by decide)) d_Y_begin_40 (fun H locs hw => ?_)
        refine lv_aload_n hx hb d_Y_begin_43 rfl (lv_at hl 1 rfl) ?_
        refine lv_iload_n hx hb d_Y_begin_44 rfl (lv_at hl 0 rfl) ?_
        refine gw_put (v := .int r_2) (ty := .int) S hw ya_R rfl (by decide) n_T_Y f_77 tk_Y nm_Y rfl (by decide +kernel) rfl rfl (Nat.le_of_ble_eq_true rfl) (ys_R 26 r_2 (by decide)) d_Y_begin_45 (fun H locs hw => ?_)
        refine lv_aload_n hx hb d_Y_begin_48 rfl (lv_at hl 1 rfl) ?_
        refine lv_aload_n hx hb d_Y_begin_49 rfl (lv_at hl 1 rfl) ?_
        refine gw_get (v := .ref (ad 6)) S hw ya_R rfl (by decide) n_T_Y f_26 rfl d_Y_begin_50 ?_
        refine lv_bipush (v := 8) hx hb d_Y_begin_53 (by decide) ?_
        refine lv_iload_n hx hb d_Y_begin_55 rfl (lv_at hl 0 rfl) ?_
        refine lv_imul hx hb d_Y_begin_56 ?_
        refine lv_aload_n hx hb d_Y_begin_57 rfl (lv_at hl 1 rfl) ?_
        refine gw_get (v := .ref (ad 13)) S hw ya_R rfl (by decide) n_T_Y f_47 rfl d_Y_begin_58 ?_
        refine lv_iload_n hx hb d_Y_begin_61 rfl (lv_at hl 0 rfl) ?_
        obtain ⟨g_10, hj⟩ := gw_if hj
        refine gw_iald (t0 := 0) S hw ⟨ya_a13, rfl⟩ g_10 d_Y_begin_62 ?_
        refine lv_iadd hx hb d_Y_begin_63 ?_
        obtain ⟨g_11, hj⟩ := gw_if hj
        refine gw_iald (t0 := 0) S hw ⟨ya_a6, rfl⟩ g_11 d_Y_begin_64 ?_
        refine gw_put (v := .int ((sV (sV M 28 0) 26 r_2).1 6 ((8 * r_2) + ((sV (sV M 28 0) 26 r_2).1 13 r_2.toNatClampNeg)).toNatClampNeg)) (ty := .int) S hw ya_R rfl (by decide) n_T_Y f_80 tk_Y nm_Y rfl (by decide +kernel) rfl rfl (Nat.le_of_ble_eq_true rfl) (ys_R 27 ((sV (sV M 28 0) 26 r_2).1 6 ((8 * r_2) + ((sV (sV M 28 0) 26 r_2).1 13 r_2.toNatClampNeg)).toNatClampNeg) (by decide)) d_Y_begin_65 (fun H locs hw => ?_)
        refine lv_aload_n hx hb d_Y_begin_68 rfl (lv_at hl 1 rfl) ?_
        refine gw_get (v := .ref (ad 13)) S hw ya_R rfl (by decide) n_T_Y f_47 rfl d_Y_begin_69 ?_
        refine lv_iload_n hx hb d_Y_begin_72 rfl (lv_at hl 0 rfl) ?_
        refine lv_dup2_11 hx hb d_Y_begin_73 rfl rfl ?_
        obtain ⟨g_12, hj⟩ := gw_if hj
        refine gw_iald (t0 := 0) S hw ⟨ya_a13, rfl⟩ g_12 d_Y_begin_74 ?_
        refine lv_iconst (v := 1) hx hb d_Y_begin_75 (by decide) ?_
        refine lv_iadd hx hb d_Y_begin_76 ?_
        obtain ⟨g_13, hj⟩ := gw_if hj
        refine gw_iast (t0 := 0) S hw ⟨ya_a13, rfl⟩ g_13 (ys_a13 r_2.toNatClampNeg (((sV (sV (sV M 28 0) 26 r_2) 27 ((sV (sV M 28 0) 26 r_2).1 6 ((8 * r_2) + ((sV (sV M 28 0) 26 r_2).1 13 r_2.toNatClampNeg)).toNatClampNeg)).1 13 r_2.toNatClampNeg) + 1)) d_Y_begin_77 (fun H locs hw => ?_)
        exact hend H locs ls 78 _ (congrArg (wY cI cZ ad) (Option.some.inj hj)) hw d_Y_begin_78
      · rw [if_neg c_9] at hj
        refine lv_aload_n hx hb d_Y_begin_25 rfl (lv_at hl 1 rfl) ?_
        refine gw_get (v := .ref (ad 15)) S hw ya_R rfl (by decide) n_T_Y f_53 rfl d_Y_begin_26 ?_
        refine lv_aload_n hx hb d_Y_begin_29 rfl (lv_at hl 1 rfl) ?_
        refine gw_get (v := .int (M.2 28)) S hw ya_R rfl (by decide) n_T_Y f_83 rfl d_Y_begin_30 ?_
        refine lv_dup2_11 hx hb d_Y_begin_33 rfl rfl ?_
        obtain ⟨g_14, hj⟩ := gw_if hj
        refine gw_iald (t0 := 0) S hw ⟨ya_a15, rfl⟩ g_14 d_Y_begin_34 ?_
        refine lv_iconst (v := 1) hx hb d_Y_begin_35 (by decide) ?_
        refine lv_iadd hx hb d_Y_begin_36 ?_
        obtain ⟨g_15, hj⟩ := gw_if hj
        refine gw_iast (t0 := 0) S hw ⟨ya_a15, rfl⟩ g_15 (ys_a15 (M.2 28).toNatClampNeg ((M.1 15 (M.2 28).toNatClampNeg) + 1)) d_Y_begin_37 (fun H locs hw => ?_)
        refine lv_aload_n hx hb d_Y_begin_38 rfl (lv_at hl 1 rfl) ?_
        refine lv_iconst (v := 0) hx hb d_Y_begin_39 (by decide) ?_
        refine gw_put (v := .int 0) (ty := .int) S hw ya_R rfl (by decide) n_T_Y f_83 tk_Y nm_Y rfl (by decide +kernel) rfl rfl (Nat.le_of_ble_eq_true rfl) (ys_R 28 0 (by decide)) d_Y_begin_40 (fun H locs hw => ?_)
        refine lv_aload_n hx hb d_Y_begin_43 rfl (lv_at hl 1 rfl) ?_
        refine lv_iload_n hx hb d_Y_begin_44 rfl (lv_at hl 0 rfl) ?_
        refine gw_put (v := .int r_2) (ty := .int) S hw ya_R rfl (by decide) n_T_Y f_77 tk_Y nm_Y rfl (by decide +kernel) rfl rfl (Nat.le_of_ble_eq_true rfl) (ys_R 26 r_2 (by decide)) d_Y_begin_45 (fun H locs hw => ?_)
        refine lv_aload_n hx hb d_Y_begin_48 rfl (lv_at hl 1 rfl) ?_
        refine lv_aload_n hx hb d_Y_begin_49 rfl (lv_at hl 1 rfl) ?_
        refine gw_get (v := .ref (ad 6)) S hw ya_R rfl (by decide) n_T_Y f_26 rfl d_Y_begin_50 ?_
        refine lv_bipush (v := 8) hx hb d_Y_begin_53 (by decide) ?_
        refine lv_iload_n hx hb d_Y_begin_55 rfl (lv_at hl 0 rfl) ?_
        refine lv_imul hx hb d_Y_begin_56 ?_
        refine lv_aload_n hx hb d_Y_begin_57 rfl (lv_at hl 1 rfl) ?_
        refine gw_get (v := .ref (ad 13)) S hw ya_R rfl (by decide) n_T_Y f_47 rfl d_Y_begin_58 ?_
        refine lv_iload_n hx hb d_Y_begin_61 rfl (lv_at hl 0 rfl) ?_
        obtain ⟨g_16, hj⟩ := gw_if hj
        refine gw_iald (t0 := 0) S hw ⟨ya_a13, rfl⟩ g_16 d_Y_begin_62 ?_
        refine lv_iadd hx hb d_Y_begin_63 ?_
        obtain ⟨g_17, hj⟩ := gw_if hj
        refine gw_iald (t0 := 0) S hw ⟨ya_a6, rfl⟩ g_17 d_Y_begin_64 ?_
        refine gw_put (v := .int ((sV (sV (sA M 15 (M.2 28).toNatClampNeg ((M.1 15 (M.2 28).toNatClampNeg) + 1)) 28 0) 26 r_2).1 6 ((8 * r_2) + ((sV (sV (sA M 15 (M.2 28).toNatClampNeg ((M.1 15 (M.2 28).toNatClampNeg) + 1)) 28 0) 26 r_2).1 13 r_2.toNatClampNeg)).toNatClampNeg)) (ty := .int) S hw ya_R rfl (by decide) n_T_Y f_80 tk_Y nm_Y rfl (by decide +kernel) rfl rfl (Nat.le_of_ble_eq_true rfl) (ys_R 27 ((sV (sV (sA M 15 (M.2 28).toNatClampNeg ((M.1 15 (M.2 28).toNatClampNeg) + 1)) 28 0) 26 r_2).1 6 ((8 * r_2) + ((sV (sV (sA M 15 (M.2 28).toNatClampNeg ((M.1 15 (M.2 28).toNatClampNeg) + 1)) 28 0) 26 r_2).1 13 r_2.toNatClampNeg)).toNatClampNeg) (by decide)) d_Y_begin_65 (fun H locs hw => ?_)
        refine lv_aload_n hx hb d_Y_begin_68 rfl (lv_at hl 1 rfl) ?_
        refine gw_get (v := .ref (ad 13)) S hw ya_R rfl (by decide) n_T_Y f_47 rfl d_Y_begin_69 ?_
        refine lv_iload_n hx hb d_Y_begin_72 rfl (lv_at hl 0 rfl) ?_
        refine lv_dup2_11 hx hb d_Y_begin_73 rfl rfl ?_
        obtain ⟨g_18, hj⟩ := gw_if hj
        refine gw_iald (t0 := 0) S hw ⟨ya_a13, rfl⟩ g_18 d_Y_begin_74 ?_
        refine lv_iconst (v := 1) hx hb d_Y_begin_75 (by decide) ?_
        refine lv_iadd hx hb d_Y_begin_76 ?_
        obtain ⟨g_19, hj⟩ := gw_if hj
        refine gw_iast (t0 := 0) S hw ⟨ya_a13, rfl⟩ g_19 (ys_a13 r_2.toNatClampNeg (((sV (sV (sV (sA M 15 (M.2 28).toNatClampNeg ((M.1 15 (M.2 28).toNatClampNeg) + 1)) 28 0) 26 r_2) 27 ((sV (sV (sA M 15 (M.2 28).toNatClampNeg ((M.1 15 (M.2 28).toNatClampNeg) + 1)) 28 0) 26 r_2).1 6 ((8 * r_2) + ((sV (sV (sA M 15 (M.2 28).toNatClampNeg ((M.1 15 (M.2 28).toNatClampNeg) + 1)) 28 0) 26 r_2).1 13 r_2.toNatClampNeg)).toNatClampNeg)).1 13 r_2.toNatClampNeg) + 1)) d_Y_begin_77 (fun H locs hw => ?_)
        exact hend H locs ls 78 _ (congrArg (wY cI cZ ad) (Option.some.inj hj)) hw d_Y_begin_78
  · rw [if_pos c_3] at hj
    exact hend H locs ls 9 _ (congrArg (wY cI cZ ad) (Option.some.inj hj)) hw d_Y_begin_9
abbrev rm_Y_finish : Room := { frames := 0, cells := 0, slots := 0, locals := 0 }
def ws_Y_finish : List Cond := Cond.code y_Y_finish b_Y_finish 3 none :: wB
set_option maxHeartbeats 4000000 in
set_option maxRecDepth 100000 in
theorem c_Y_finish {l : Launch} {D : va_G} {cI cZ : ClassId} {ad : Nat → Nat} {n : Nat} {M : MY} {a1 : Int32} {M0 : MY} (hj : j_Y_finish n M a1 = some M0) : gw_Cv l y_Y_finish ws_Y_finish rm_Y_finish D (tyY cI cZ) (wY cI cZ ad M) [.ref (ad 0), .int a1] (wY cI cZ ad M0) := by
  intro sz
  refine gw_metv (cc := b_Y_finish) (maxL := 3) (by decide) rfl (Nat.le_of_ble_eq_true rfl) ?_
  intro p e s m args below meth c A Q S H locs hw hend ls hl
  have S : CallFix p m c b_Y_finish 3 s args ws_Y_finish R_Y := S
  have hx := S.1
  have hb := S.2.1
  have hts := S.2.2.2.2
  have hl : lv_has ls 3 [(0, .ref (ad 0)), (1, .int a1)] := hl
  have n_T_Y : ∀ w ∈ u_ws R_Y T_Y 29, w ∈ ws_Y_finish := fun w h => List.mem_cons_of_mem _ (uT_Y w h)
  have f_17 : Cond.fieldLink R_Y 17 (T_Y 3).1 (T_Y 3).2.1 (T_Y 3).2.2.1 ∈ ws_Y_finish := List.mem_cons_of_mem _ xw_269
  have f_38 : Cond.fieldLink R_Y 38 (T_Y 17).1 (T_Y 17).2.1 (T_Y 17).2.2.1 ∈ ws_Y_finish := List.mem_cons_of_mem _ xw_280
  have f_44 : Cond.fieldLink R_Y 44 (T_Y 19).1 (T_Y 19).2.1 (T_Y 19).2.2.1 ∈ ws_Y_finish := List.mem_cons_of_mem _ xw_366
  have f_47 : Cond.fieldLink R_Y 47 (T_Y 20).1 (T_Y 20).2.1 (T_Y 20).2.2.1 ∈ ws_Y_finish := List.mem_cons_of_mem _ xw_281
  have f_50 : Cond.fieldLink R_Y 50 (T_Y 21).1 (T_Y 21).2.1 (T_Y 21).2.2.1 ∈ ws_Y_finish := List.mem_cons_of_mem _ xw_282
  have f_56 : Cond.fieldLink R_Y 56 (T_Y 23).1 (T_Y 23).2.1 (T_Y 23).2.2.1 ∈ ws_Y_finish := List.mem_cons_of_mem _ xw_284
  have f_59 : Cond.fieldLink R_Y 59 (T_Y 24).1 (T_Y 24).2.1 (T_Y 24).2.2.1 ∈ ws_Y_finish := List.mem_cons_of_mem _ xw_371
  have f_74 : Cond.fieldLink R_Y 74 (T_Y 15).1 (T_Y 15).2.1 (T_Y 15).2.2.1 ∈ ws_Y_finish := List.mem_cons_of_mem _ xw_285
  unfold j_Y_finish at hj
  refine lv_aload_n hx hb d_Y_finish_0 rfl (lv_at hl 0 rfl) ?_
  refine gw_get (v := .int (M.2 15)) S hw ya_R rfl (by decide) n_T_Y f_74 rfl d_Y_finish_1 ?_
  refine lv_aload_n hx hb d_Y_finish_4 rfl (lv_at hl 0 rfl) ?_
  refine gw_get (v := .ref (ad 12)) S hw ya_R rfl (by decide) n_T_Y f_44 rfl d_Y_finish_5 ?_
  refine lv_bipush (v := 9) hx hb d_Y_finish_8 (by decide) ?_
  refine lv_iload_n hx hb d_Y_finish_10 rfl (lv_at hl 1 rfl) ?_
  refine lv_imul hx hb d_Y_finish_11 ?_
  refine lv_aload_n hx hb d_Y_finish_12 rfl (lv_at hl 0 rfl) ?_
  refine gw_get (v := .ref (ad 10)) S hw ya_R rfl (by decide) n_T_Y f_38 rfl d_Y_finish_13 ?_
  refine lv_iload_n hx hb d_Y_finish_16 rfl (lv_at hl 1 rfl) ?_
  obtain ⟨g_1, hj⟩ := gw_if hj
  refine gw_iald (t0 := 0) S hw ⟨ya_a10, rfl⟩ g_1 d_Y_finish_17 ?_
  refine lv_bipush (v := 9) hx hb d_Y_finish_18 (by decide) ?_
  refine lv_irem hx hb d_Y_finish_20 (by decide) ?_
  refine lv_iadd hx hb d_Y_finish_21 ?_
  obtain ⟨g_2, hj⟩ := gw_if hj
  refine gw_iald (t0 := 0) S hw ⟨ya_a12, rfl⟩ g_2 d_Y_finish_22 ?_
  refine lv_isub hx hb d_Y_finish_23 ?_
  refine lv_istore_n (lv' := [(2, .int ((M.2 15) - (M.1 12 ((9 * a1) + ((M.1 10 a1.toNatClampNeg) - (M.1 10 a1.toNatClampNeg) / 9 * 9)).toNatClampNeg))), (0, .ref (ad 0)), (1, .int a1)]) hx hb d_Y_finish_24 rfl hl (by decide) rfl (fun ls hl => ?_)
  refine lv_aload_n hx hb d_Y_finish_25 rfl (lv_at hl 1 rfl) ?_
  refine gw_get (v := .ref (ad 10)) S hw ya_R rfl (by decide) n_T_Y f_38 rfl d_Y_finish_26 ?_
  refine lv_iload_n hx hb d_Y_finish_29 rfl (lv_at hl 2 rfl) ?_
  obtain ⟨g_3, hj⟩ := gw_if hj
  refine gw_iald (t0 := 0) S hw ⟨ya_a10, rfl⟩ g_3 d_Y_finish_30 ?_
  refine lv_sipush (v := 200) hx hb d_Y_finish_31 (by decide) ?_
  refine lv_icmp_ge (tgt := 55) hx hb d_Y_finish_34 (by decide) (fun c_4 => ?_) (fun c_4 => ?_)
  · rw [if_pos c_4] at hj
    refine lv_aload_n hx hb d_Y_finish_55 rfl (lv_at hl 1 rfl) ?_
    refine gw_get (v := .ref (ad 10)) S hw ya_R rfl (by decide) n_T_Y f_38 rfl d_Y_finish_56 ?_
    refine lv_iload_n hx hb d_Y_finish_59 rfl (lv_at hl 2 rfl) ?_
    refine lv_dup2_11 hx hb d_Y_finish_60 rfl rfl ?_
    obtain ⟨g_5, hj⟩ := gw_if hj
    refine gw_iald (t0 := 0) S hw ⟨ya_a10, rfl⟩ g_5 d_Y_finish_61 ?_
    refine lv_iconst (v := 1) hx hb d_Y_finish_62 (by decide) ?_
    refine lv_iadd hx hb d_Y_finish_63 ?_
    obtain ⟨g_6, hj⟩ := gw_if hj
    refine gw_iast (t0 := 0) S hw ⟨ya_a10, rfl⟩ g_6 (ys_a10 a1.toNatClampNeg ((M.1 10 a1.toNatClampNeg) + 1)) d_Y_finish_64 (fun H locs hw => ?_)
    refine lv_aload_n hx hb d_Y_finish_65 rfl (lv_at hl 1 rfl) ?_
    refine gw_get (v := .ref (ad 13)) S hw ya_R rfl (by decide) n_T_Y f_47 rfl d_Y_finish_66 ?_
    refine lv_iload_n hx hb d_Y_finish_69 rfl (lv_at hl 2 rfl) ?_
    refine lv_iconst (v := 0) hx hb d_Y_finish_70 (by decide) ?_
    obtain ⟨g_7, hj⟩ := gw_if hj
    refine gw_iast (t0 := 0) S hw ⟨ya_a13, rfl⟩ g_7 (ys_a13 a1.toNatClampNeg 0) d_Y_finish_71 (fun H locs hw => ?_)
    refine lv_iload_n hx hb d_Y_finish_72 rfl (lv_at hl 0 rfl) ?_
    refine lv_aload_n hx hb d_Y_finish_73 rfl (lv_at hl 1 rfl) ?_
    refine gw_get (v := .ref (ad 14)) S hw ya_R rfl (by decide) n_T_Y f_50 rfl d_Y_finish_74 ?_
    refine lv_iload_n hx hb d_Y_finish_77 rfl (lv_at hl 2 rfl) ?_
    obtain ⟨g_8, hj⟩ := gw_if hj
    refine gw_iald (t0 := 0) S hw ⟨ya_a14, rfl⟩ g_8 d_Y_finish_78 ?_
    refine lv_icmp_le (tgt := 89) hx hb d_Y_finish_79 (by decide) (fun c_9 => ?_) (fun c_9 => ?_)
    · rw [if_pos c_9] at hj
      refine lv_iload_n hx hb d_Y_finish_89 rfl (lv_at hl 0 rfl) ?_
      refine lv_aload_n hx hb d_Y_finish_90 rfl (lv_at hl 1 rfl) ?_
      refine gw_get (v := .ref (ad 3)) S hw ya_R rfl (by decide) n_T_Y f_17 rfl d_Y_finish_91 ?_
      refine lv_iload_n hx hb d_Y_finish_94 rfl (lv_at hl 2 rfl) ?_
      obtain ⟨g_10, hj⟩ := gw_if hj
      refine gw_iald (t0 := 0) S hw ⟨ya_a3, rfl⟩ g_10 d_Y_finish_95 ?_
      refine lv_icmp_le (tgt := 109) hx hb d_Y_finish_96 (by decide) (fun c_11 => ?_) (fun c_11 => ?_)
      · rw [if_pos c_11] at hj
        exact hend H locs ls 109 _ (congrArg (wY cI cZ ad) (Option.some.inj hj)) hw d_Y_finish_109
      · rw [if_neg c_11] at hj
        refine lv_aload_n hx hb d_Y_finish_99 rfl (lv_at hl 1 rfl) ?_
        refine gw_get (v := .ref (ad 16)) S hw ya_R rfl (by decide) n_T_Y f_56 rfl d_Y_finish_100 ?_
        refine lv_iload_n hx hb d_Y_finish_103 rfl (lv_at hl 2 rfl) ?_
        refine lv_dup2_11 hx hb d_Y_finish_104 rfl rfl ?_
        obtain ⟨g_12, hj⟩ := gw_if hj
        refine gw_iald (t0 := 0) S hw ⟨ya_a16, rfl⟩ g_12 d_Y_finish_105 ?_
        refine lv_iconst (v := 1) hx hb d_Y_finish_106 (by decide) ?_
        refine lv_iadd hx hb d_Y_finish_107 ?_
        obtain ⟨g_13, hj⟩ := gw_if hj
        refine gw_iast (t0 := 0) S hw ⟨ya_a16, rfl⟩ g_13 (ys_a16 a1.toNatClampNeg (((sA (sA M 10 a1.toNatClampNeg ((M.1 10 a1.toNatClampNeg) + 1)) 13 a1.toNatClampNeg 0).1 16 a1.toNatClampNeg) + 1)) d_Y_finish_108 (fun H locs hw => ?_)
        exact hend H locs ls 109 _ (congrArg (wY cI cZ ad) (Option.some.inj hj)) hw d_Y_finish_109
    · rw [if_neg c_9] at hj
      refine lv_aload_n hx hb d_Y_finish_82 rfl (lv_at hl 1 rfl) ?_
      refine gw_get (v := .ref (ad 14)) S hw ya_R rfl (by decide) n_T_Y f_50 rfl d_Y_finish_83 ?_
      refine lv_iload_n hx hb d_Y_finish_86 rfl (lv_at hl 2 rfl) ?_
      refine lv_iload_n hx hb d_Y_finish_87 rfl (lv_at hl 0 rfl) ?_
      obtain ⟨g_14, hj⟩ := gw_if hj
      refine gw_iast (t0 := 0) S hw ⟨ya_a14, rfl⟩ g_14 (ys_a14 a1.toNatClampNeg ((M.2 15) - (M.1 12 ((9 * a1) + ((M.1 10 a1.toNatClampNeg) - (M.1 10 a1.toNatClampNeg) / 9 * 9)).toNatClampNeg))) d_Y_finish_88 (fun H locs hw => ?_)
      refine lv_iload_n hx hb d_Y_finish_89 rfl (lv_at hl 0 rfl) ?_
      refine lv_aload_n hx hb d_Y_finish_90 rfl (lv_at hl 1 rfl) ?_
      refine gw_get (v := .ref (ad 3)) S hw ya_R rfl (by decide) n_T_Y f_17 rfl d_Y_finish_91 ?_
      refine lv_iload_n hx hb d_Y_finish_94 rfl (lv_at hl 2 rfl) ?_
      obtain ⟨g_15, hj⟩ := gw_if hj
      refine gw_iald (t0 := 0) S hw ⟨ya_a3, rfl⟩ g_15 d_Y_finish_95 ?_
      refine lv_icmp_le (tgt := 109) hx hb d_Y_finish_96 (by decide) (fun c_16 => ?_) (fun c_16 => ?_)
      · rw [if_pos c_16] at hj
        exact hend H locs ls 109 _ (congrArg (wY cI cZ ad) (Option.some.inj hj)) hw d_Y_finish_109
      · rw [if_neg c_16] at hj
        refine lv_aload_n hx hb d_Y_finish_99 rfl (lv_at hl 1 rfl) ?_
        refine gw_get (v := .ref (ad 16)) S hw ya_R rfl (by decide) n_T_Y f_56 rfl d_Y_finish_100 ?_
        refine lv_iload_n hx hb d_Y_finish_103 rfl (lv_at hl 2 rfl) ?_
        refine lv_dup2_11 hx hb d_Y_finish_104 rfl rfl ?_
        obtain ⟨g_17, hj⟩ := gw_if hj
        refine gw_iald (t0 := 0) S hw ⟨ya_a16, rfl⟩ g_17 d_Y_finish_105 ?_
        refine lv_iconst (v := 1) hx hb d_Y_finish_106 (by decide) ?_
        refine lv_iadd hx hb d_Y_finish_107 ?_
        obtain ⟨g_18, hj⟩ := gw_if hj
        refine gw_iast (t0 := 0) S hw ⟨ya_a16, rfl⟩ g_18 (ys_a16 a1.toNatClampNeg (((sA (sA (sA M 10 a1.toNatClampNeg ((M.1 10 a1.toNatClampNeg) + 1)) 13 a1.toNatClampNeg 0) 14 a1.toNatClampNeg ((M.2 15) - (M.1 12 ((9 * a1) + ((M.1 10 a1.toNatClampNeg) - (M.1 10 a1.toNatClampNeg) / 9 * 9)).toNatClampNeg))).1 16 a1.toNatClampNeg) + 1)) d_Y_finish_108 (fun H locs hw => ?_)
        exact hend H locs ls 109 _ (congrArg (wY cI cZ ad) (Option.some.inj hj)) hw d_Y_finish_109
  · rw [if_neg c_4] at hj
    refine lv_aload_n hx hb d_Y_finish_37 rfl (lv_at hl 1 rfl) ?_
    refine gw_get (v := .ref (ad 17)) S hw ya_R rfl (by decide) n_T_Y f_59 rfl d_Y_finish_38 ?_
    refine lv_sipush (v := 200) hx hb d_Y_finish_41 (by decide) ?_
    refine lv_iload_n hx hb d_Y_finish_44 rfl (lv_at hl 2 rfl) ?_
    refine lv_imul hx hb d_Y_finish_45 ?_
    refine lv_aload_n hx hb d_Y_finish_46 rfl (lv_at hl 1 rfl) ?_
    refine gw_get (v := .ref (ad 10)) S hw ya_R rfl (by decide) n_T_Y f_38 rfl d_Y_finish_47 ?_
    refine lv_iload_n hx hb d_Y_finish_50 rfl (lv_at hl 2 rfl) ?_
    obtain ⟨g_19, hj⟩ := gw_if hj
    refine gw_iald (t0 := 0) S hw ⟨ya_a10, rfl⟩ g_19 d_Y_finish_51 ?_
    refine lv_iadd hx hb d_Y_finish_52 ?_
    refine lv_iload_n hx hb d_Y_finish_53 rfl (lv_at hl 0 rfl) ?_
    obtain ⟨g_20, hj⟩ := gw_if hj
    refine gw_iast (t0 := 0) S hw ⟨ya_a17, rfl⟩ g_20 (ys_a17 ((200 * a1) + (M.1 10 a1.toNatClampNeg)).toNatClampNeg ((M.2 15) - (M.1 12 ((9 * a1) + ((M.1 10 a1.toNatClampNeg) - (M.1 10 a1.toNatClampNeg) / 9 * 9)).toNatClampNeg))) d_Y_finish_54 (fun H locs hw => ?_)
    refine lv_aload_n hx hb d_Y_finish_55 rfl (lv_at hl 1 rfl) ?_
    refine gw_get (v := .ref (ad 10)) S hw ya_R rfl (by decide) n_T_Y f_38 rfl d_Y_finish_56 ?_
    refine lv_iload_n hx hb d_Y_finish_59 rfl (lv_at hl 2 rfl) ?_
    refine lv_dup2_11 hx hb d_Y_finish_60 rfl rfl ?_
    obtain ⟨g_21, hj⟩ := gw_if hj
    refine gw_iald (t0 := 0) S hw ⟨ya_a10, rfl⟩ g_21 d_Y_finish_61 ?_
    refine lv_iconst (v := 1) hx hb d_Y_finish_62 (by decide) ?_
    refine lv_iadd hx hb d_Y_finish_63 ?_
    obtain ⟨g_22, hj⟩ := gw_if hj
    refine gw_iast (t0 := 0) S hw ⟨ya_a10, rfl⟩ g_22 (ys_a10 a1.toNatClampNeg (((sA M 17 ((200 * a1) + (M.1 10 a1.toNatClampNeg)).toNatClampNeg ((M.2 15) - (M.1 12 ((9 * a1) + ((M.1 10 a1.toNatClampNeg) - (M.1 10 a1.toNatClampNeg) / 9 * 9)).toNatClampNeg))).1 10 a1.toNatClampNeg) + 1)) d_Y_finish_64 (fun H locs hw => ?_)
    refine lv_aload_n hx hb d_Y_finish_65 rfl (lv_at hl 1 rfl) ?_
    refine gw_get (v := .ref (ad 13)) S hw ya_R rfl (by decide) n_T_Y f_47 rfl d_Y_finish_66 ?_
    refine lv_iload_n hx hb d_Y_finish_69 rfl (lv_at hl 2 rfl) ?_
    refine lv_iconst (v := 0) hx hb d_Y_finish_70 (by decide) ?_
    obtain ⟨g_23, hj⟩ := gw_if hj
    refine gw_iast (t0 := 0) S hw ⟨ya_a13, rfl⟩ g_23 (ys_a13 a1.toNatClampNeg 0) d_Y_finish_71 (fun H locs hw => ?_)
    refine lv_iload_n hx hb d_Y_finish_72 rfl (lv_at hl 0 rfl) ?_
    refine lv_aload_n hx hb d_Y_finish_73 rfl (lv_at hl 1 rfl) ?_
    refine gw_get (v := .ref (ad 14)) S hw ya_R rfl (by decide) n_T_Y f_50 rfl d_Y_finish_74 ?_
    refine lv_iload_n hx hb d_Y_finish_77 rfl (lv_at hl 2 rfl) ?_
    obtain ⟨g_24, hj⟩ := gw_if hj
    refine gw_iald (t0 := 0) S hw ⟨ya_a14, rfl⟩ g_24 d_Y_finish_78 ?_
    refine lv_icmp_le (tgt := 89) hx hb d_Y_finish_79 (by decide) (fun c_25 => ?_) (fun c_25 => ?_)
    · rw [if_pos c_25] at hj
      refine lv_iload_n hx hb d_Y_finish_89 rfl (lv_at hl 0 rfl) ?_
      refine lv_aload_n hx hb d_Y_finish_90 rfl (lv_at hl 1 rfl) ?_
      refine gw_get (v := .ref (ad 3)) S hw ya_R rfl (by decide) n_T_Y f_17 rfl d_Y_finish_91 ?_
      refine lv_iload_n hx hb d_Y_finish_94 rfl (lv_at hl 2 rfl) ?_
      obtain ⟨g_26, hj⟩ := gw_if hj
      refine gw_iald (t0 := 0) S hw ⟨ya_a3, rfl⟩ g_26 d_Y_finish_95 ?_
      refine lv_icmp_le (tgt := 109) hx hb d_Y_finish_96 (by decide) (fun c_27 => ?_) (fun c_27 => ?_)
      · rw [if_pos c_27] at hj
        exact hend H locs ls 109 _ (congrArg (wY cI cZ ad) (Option.some.inj hj)) hw d_Y_finish_109
      · rw [if_neg c_27] at hj
        refine lv_aload_n hx hb d_Y_finish_99 rfl (lv_at hl 1 rfl) ?_
        refine gw_get (v := .ref (ad 16)) S hw ya_R rfl (by decide) n_T_Y f_56 rfl d_Y_finish_100 ?_
        refine lv_iload_n hx hb d_Y_finish_103 rfl (lv_at hl 2 rfl) ?_
        refine lv_dup2_11 hx hb d_Y_finish_104 rfl rfl ?_
        obtain ⟨g_28, hj⟩ := gw_if hj
        refine gw_iald (t0 := 0) S hw ⟨ya_a16, rfl⟩ g_28 d_Y_finish_105 ?_
        refine lv_iconst (v := 1) hx hb d_Y_finish_106 (by decide) ?_
        refine lv_iadd hx hb d_Y_finish_107 ?_
        obtain ⟨g_29, hj⟩ := gw_if hj
        refine gw_iast (t0 := 0) S hw ⟨ya_a16, rfl⟩ g_29 (ys_a16 a1.toNatClampNeg (((sA (sA (sA M 17 ((200 * a1) + (M.1 10 a1.toNatClampNeg)).toNatClampNeg ((M.2 15) - (M.1 12 ((9 * a1) + ((M.1 10 a1.toNatClampNeg) - (M.1 10 a1.toNatClampNeg) / 9 * 9)).toNatClampNeg))) 10 a1.toNatClampNeg (((sA M 17 ((200 * a1) + (M.1 10 a1.toNatClampNeg)).toNatClampNeg ((M.2 15) - (M.1 12 ((9 * a1) + ((M.1 10 a1.toNatClampNeg) - (M.1 10 a1.toNatClampNeg) / 9 * 9)).toNatClampNeg))).1 10 a1.toNatClampNeg) + 1)) 13 a1.toNatClampNeg 0).1 16 a1.toNatClampNeg) + 1)) d_Y_finish_108 (fun H locs hw => ?_)
        exact hend H locs ls 109 _ (congrArg (wY cI cZ ad) (Option.some.inj hj)) hw d_Y_finish_109
    · rw [if_neg c_25] at hj
      refine lv_aload_n hx hb d_Y_finish_82 rfl (lv_at hl 1 rfl) ?_
      refine gw_get (v := .ref (ad 14)) S hw ya_R rfl (by decide) n_T_Y f_50 rfl d_Y_finish_83 ?_
      refine lv_iload_n hx hb d_Y_finish_86 rfl (lv_at hl 2 rfl) ?_
      refine lv_iload_n hx hb d_Y_finish_87 rfl (lv_at hl 0 rfl) ?_
      obtain ⟨g_30, hj⟩ := gw_if hj
      refine gw_iast (t0 := 0) S hw ⟨ya_a14, rfl⟩ g_30 (ys_a14 a1.toNatClampNeg ((M.2 15) - (M.1 12 ((9 * a1) + ((M.1 10 a1.toNatClampNeg) - (M.1 10 a1.toNatClampNeg) / 9 * 9)).toNatClampNeg))) d_Y_finish_88 (fun H locs hw => ?_)
      refine lv_iload_n hx hb d_Y_finish_89 rfl (lv_at hl 0 rfl) ?_
      refine lv_aload_n hx hb d_Y_finish_90 rfl (lv_at hl 1 rfl) ?_
      refine gw_get (v := .ref (ad 3)) S hw ya_R rfl (by decide) n_T_Y f_17 rfl d_Y_finish_91 ?_
      refine lv_iload_n hx hb d_Y_finish_94 rfl (lv_at hl 2 rfl) ?_
      obtain ⟨g_31, hj⟩ := gw_if hj
      refine gw_iald (t0 := 0) S hw ⟨ya_a3, rfl⟩ g_31 d_Y_finish_95 ?_
      refine lv_icmp_le (tgt := 109) hx hb d_Y_finish_96 (by decide) (fun c_32 => ?_) (fun c_32 => ?_)
      · rw [if_pos c_32] at hj
        exact hend H locs ls 109 _ (congrArg (wY cI cZ ad) (Option.some.inj hj)) hw d_Y_finish_109
      · rw [if_neg c_32] at hj
        refine lv_aload_n hx hb d_Y_finish_99 rfl (lv_at hl 1 rfl) ?_
        refine gw_get (v := .ref (ad 16)) S hw ya_R rfl (by decide) n_T_Y f_56 rfl d_Y_finish_100 ?_
        refine lv_iload_n hx hb d_Y_finish_103 rfl (lv_at hl 2 rfl) ?_
        refine lv_dup2_11 hx hb d_Y_finish_104 rfl rfl ?_
        obtain ⟨g_33, hj⟩ := gw_if hj
        refine gw_iald (t0 := 0) S hw ⟨ya_a16, rfl⟩ g_33 d_Y_finish_105 ?_
        refine lv_iconst (v := 1) hx hb d_Y_finish_106 (by decide) ?_
        refine lv_iadd hx hb d_Y_finish_107 ?_
        obtain ⟨g_34, hj⟩ := gw_if hj
        refine gw_iast (t0 := 0) S hw ⟨ya_a16, rfl⟩ g_34 (ys_a16 a1.toNatClampNeg (((sA (sA (sA (sA M 17 ((200 * a1) + (M.1 10 a1.toNatClampNeg)).toNatClampNeg ((M.2 15) - (M.1 12 ((9 * a1) + ((M.1 10 a1.toNatClampNeg) - (M.1 10 a1.toNatClampNeg) / 9 * 9)).toNatClampNeg))) 10 a1.toNatClampNeg (((sA M 17 ((200 * a1) + (M.1 10 a1.toNatClampNeg)).toNatClampNeg ((M.2 15) - (M.1 12 ((9 * a1) + ((M.1 10 a1.toNatClampNeg) - (M.1 10 a1.toNatClampNeg) / 9 * 9)).toNatClampNeg))).1 10 a1.toNatClampNeg) + 1)) 13 a1.toNatClampNeg 0) 14 a1.toNatClampNeg ((M.2 15) - (M.1 12 ((9 * a1) + ((M.1 10 a1.toNatClampNeg) - (M.1 10 a1.toNatClampNeg) / 9 * 9)).toNatClampNeg))).1 16 a1.toNatClampNeg) + 1)) d_Y_finish_108 (fun H locs hw => ?_)
        exact hend H locs ls 109 _ (congrArg (wY cI cZ ad) (Option.some.inj hj)) hw d_Y_finish_109
abbrev rm_Y_step : Room := { frames := 2, cells := 0, slots := 0, locals := 43 }
def ws_Y_step : List Cond := Cond.code y_Y_step b_Y_step 2 (some .int) :: wB
set_option maxHeartbeats 4000000 in
set_option maxRecDepth 100000 in
theorem c_Y_step {l : Launch} {D : va_G} {cI cZ : ClassId} {ad : Nat → Nat} {n : Nat} {M : MY} {r0 : Int32} {M0 : MY} (hj : j_Y_step n M = some (r0, M0)) : gw_Ci l y_Y_step ws_Y_step rm_Y_step D (tyY cI cZ) (wY cI cZ ad M) [.ref (ad 0)] r0 (wY cI cZ ad M0) := by
  intro sz
  refine gw_meti (cc := b_Y_step) (maxL := 2) (by decide) rfl (Nat.le_of_ble_eq_true rfl) ?_
  intro p e s m args below meth c A Q S H locs hw hend ls hl
  have S : CallFix p m c b_Y_step 2 s args ws_Y_step R_Y := S
  have hx := S.1
  have hb := S.2.1
  have hts := S.2.2.2.2
  have hl : lv_has ls 2 [(0, .ref (ad 0))] := hl
  have n_T_Y : ∀ w ∈ u_ws R_Y T_Y 29, w ∈ ws_Y_step := fun w h => List.mem_cons_of_mem _ (uT_Y w h)
  have f_23 : Cond.fieldLink R_Y 23 (T_Y 5).1 (T_Y 5).2.1 (T_Y 5).2.2.1 ∈ ws_Y_step := List.mem_cons_of_mem _ xw_271
  have f_47 : Cond.fieldLink R_Y 47 (T_Y 20).1 (T_Y 20).2.1 (T_Y 20).2.2.1 ∈ ws_Y_step := List.mem_cons_of_mem _ xw_281
  have f_74 : Cond.fieldLink R_Y 74 (T_Y 15).1 (T_Y 15).2.1 (T_Y 15).2.2.1 ∈ ws_Y_step := List.mem_cons_of_mem _ xw_285
  have f_77 : Cond.fieldLink R_Y 77 (T_Y 26).1 (T_Y 26).2.1 (T_Y 26).2.2.1 ∈ ws_Y_step := List.mem_cons_of_mem _ xw_286
  have f_80 : Cond.fieldLink R_Y 80 (T_Y 27).1 (T_Y 27).2.1 (T_Y 27).2.2.1 ∈ ws_Y_step := List.mem_cons_of_mem _ xw_287
  have f_83 : Cond.fieldLink R_Y 83 (T_Y 28).1 (T_Y 28).2.1 (T_Y 28).2.2.1 ∈ ws_Y_step := List.mem_cons_of_mem _ xw_288
  have w_164 : CallW rm_Y_step s args R_Y R_Y 164 y_Y_begin b_Y_begin 2 none ws_Y_begin rm_Y_begin 0 0 0 := cwV 0 hts (wB_callV (fun w h => List.mem_cons_of_mem _ h) xw_372 xw_373 xw_374 xw_375 xw_278) rfl rfl rfl (by decide +kernel) ⟨Nat.le_of_ble_eq_true rfl, Nat.le_of_ble_eq_true rfl⟩
  have w_167 : CallW rm_Y_step s args R_Y R_Y 167 y_Y_finish b_Y_finish 3 none ws_Y_finish rm_Y_finish 0 0 1 := cwV 1 hts (wB_callV (fun w h => List.mem_cons_of_mem _ h) xw_376 xw_377 xw_378 xw_379 xw_278) rfl rfl rfl (by decide +kernel) ⟨Nat.le_of_ble_eq_true rfl, Nat.le_of_ble_eq_true rfl⟩
  unfold j_Y_step at hj
  refine lv_aload_n hx hb d_Y_step_0 rfl (lv_at hl 0 rfl) ?_
  refine gw_get (v := .int (M.2 26)) S hw ya_R rfl (by decide) n_T_Y f_77 rfl d_Y_step_1 ?_
  refine lv_if_ne (tgt := 11) hx hb d_Y_step_4 (by decide) (fun c_1 => ?_) (fun c_1 => ?_)
  · rw [if_neg c_1] at hj
    refine lv_aload_n hx hb d_Y_step_11 rfl (lv_at hl 0 rfl) ?_
    refine lv_dup hx hb d_Y_step_12 rfl ?_
    refine gw_get (v := .int (M.2 15)) S hw ya_R rfl (by decide) n_T_Y f_74 rfl d_Y_step_13 ?_
    refine lv_iconst (v := 1) hx hb d_Y_step_16 (by decide) ?_
    refine lv_iadd hx hb d_Y_step_17 ?_
    refine gw_put (v := .int ((M.2 15) + 1)) (ty := .int) S hw ya_R rfl (by decide) n_T_Y f_74 tk_Y nm_Y rfl (by decide +kernel) rfl rfl (Nat.le_of_ble_eq_true rfl) (ys_R 15 ((M.2 15) + 1) (by decide)) d_Y_step_18 (fun H locs hw => ?_)
    refine lv_aload_n hx hb d_Y_step_21 rfl (lv_at hl 0 rfl) ?_
    refine gw_get (v := .int ((sV M 15 ((M.2 15) + 1)).2 26)) S hw ya_R rfl (by decide) n_T_Y f_77 rfl d_Y_step_22 ?_
    refine lv_istore_n (lv' := [(1, .int ((sV M 15 ((M.2 15) + 1)).2 26)), (0, .ref (ad 0))]) hx hb d_Y_step_25 rfl hl (by decide) rfl (fun ls hl => ?_)
    refine lv_iload_n hx hb d_Y_step_26 rfl (lv_at hl 0 rfl) ?_
    refine lv_if_ne (tgt := 32) hx hb d_Y_step_27 (by decide) (fun c_2 => ?_) (fun c_2 => ?_)
    · rw [if_neg c_2] at hj
      refine lv_aload_n hx hb d_Y_step_32 rfl (lv_at hl 1 rfl) ?_
      refine lv_dup hx hb d_Y_step_33 rfl ?_
      refine gw_get (v := .int ((sV M 15 ((M.2 15) + 1)).2 27)) S hw ya_R rfl (by decide) n_T_Y f_80 rfl d_Y_step_34 ?_
      refine lv_iconst (v := 1) hx hb d_Y_step_37 (by decide) ?_
      refine lv_isub hx hb d_Y_step_38 ?_
      refine gw_put (v := .int (((sV M 15 ((M.2 15) + 1)).2 27) - 1)) (ty := .int) S hw ya_R rfl (by decide) n_T_Y f_80 tk_Y nm_Y rfl (by decide +kernel) rfl rfl (Nat.le_of_ble_eq_true rfl) (ys_R 27 (((sV M 15 ((M.2 15) + 1)).2 27) - 1) (by decide)) d_Y_step_39 (fun H locs hw => ?_)
      refine lv_aload_n hx hb d_Y_step_42 rfl (lv_at hl 1 rfl) ?_
      refine gw_get (v := .int ((sV (sV M 15 ((M.2 15) + 1)) 27 (((sV M 15 ((M.2 15) + 1)).2 27) - 1)).2 27)) S hw ya_R rfl (by decide) n_T_Y f_80 rfl d_Y_step_43 ?_
      refine lv_if_le (tgt := 51) hx hb d_Y_step_46 (by decide) (fun c_3 => ?_) (fun c_3 => ?_)
      · rw [if_pos c_3] at hj
        refine lv_aload_n hx hb d_Y_step_51 rfl (lv_at hl 1 rfl) ?_
        refine lv_iconst (v := 0) hx hb d_Y_step_52 (by decide) ?_
        refine gw_put (v := .int 0) (ty := .int) S hw ya_R rfl (by decide) n_T_Y f_77 tk_Y nm_Y rfl (by decide +kernel) rfl rfl (Nat.le_of_ble_eq_true rfl) (ys_R 26 0 (by decide)) d_Y_step_53 (fun H locs hw => ?_)
        refine lv_aload_n hx hb d_Y_step_56 rfl (lv_at hl 1 rfl) ?_
        refine gw_get (v := .ref (ad 13)) S hw ya_R rfl (by decide) n_T_Y f_47 rfl d_Y_step_57 ?_
        refine lv_iload_n hx hb d_Y_step_60 rfl (lv_at hl 0 rfl) ?_
        obtain ⟨g_4, hj⟩ := gw_if hj
        refine gw_iald (t0 := 0) S hw ⟨ya_a13, rfl⟩ g_4 d_Y_step_61 ?_
        refine lv_aload_n hx hb d_Y_step_62 rfl (lv_at hl 1 rfl) ?_
        refine gw_get (v := .ref (ad 5)) S hw ya_R rfl (by decide) n_T_Y f_23 rfl d_Y_step_63 ?_
        refine lv_iload_n hx hb d_Y_step_66 rfl (lv_at hl 0 rfl) ?_
        obtain ⟨g_5, hj⟩ := gw_if hj
        refine gw_iald (t0 := 0) S hw ⟨ya_a5, rfl⟩ g_5 d_Y_step_67 ?_
        refine lv_icmp_ne (tgt := 79) hx hb d_Y_step_68 (by decide) (fun c_6 => ?_) (fun c_6 => ?_)
        · rw [if_neg c_6] at hj
          refine lv_aload_n hx hb d_Y_step_79 rfl (lv_at hl 1 rfl) ?_
          refine lv_iload_n hx hb d_Y_step_80 rfl (lv_at hl 0 rfl) ?_
          refine gw_put (v := .int ((sV M 15 ((M.2 15) + 1)).2 26)) (ty := .int) S hw ya_R rfl (by decide) n_T_Y f_83 tk_Y nm_Y rfl (by decide +kernel) rfl rfl (Nat.le_of_ble_eq_true rfl) (ys_R 28 ((sV M 15 ((M.2 15) + 1)).2 26) (by decide)) d_Y_step_81 (fun H locs hw => ?_)
          refine lv_iload_n hx hb d_Y_step_84 rfl (lv_at hl 0 rfl) ?_
          exact hend H locs ls 85 _ _ (Prod.mk.inj (Option.some.inj hj)).1 (congrArg (wY cI cZ ad) (Prod.mk.inj (Option.some.inj hj)).2) hw d_Y_step_85
        · rw [if_pos c_6] at hj
          refine lv_aload_n hx hb d_Y_step_71 rfl (lv_at hl 1 rfl) ?_
          refine lv_iload_n hx hb d_Y_step_72 rfl (lv_at hl 0 rfl) ?_
          obtain ⟨M_8, e_7, hj⟩ := Option.bind_eq_some_iff.mp hj
          refine gw_callv (As := [.int ((sV M 15 ((M.2 15) + 1)).2 26)]) (rest := []) S hw (c_Y_finish e_7) w_167 ya_R rfl rfl hl.1 rfl (Nat.le_of_ble_eq_true rfl) d_Y_step_73 (fun H locs hw => ?_)
          refine lv_goto (tgt := 84) hx hb d_Y_step_76 (by decide) ?_
          refine lv_iload_n hx hb d_Y_step_84 rfl (lv_at hl 0 rfl) ?_
          exact hend H locs ls 85 _ _ (Prod.mk.inj (Option.some.inj hj)).1 (congrArg (wY cI cZ ad) (Prod.mk.inj (Option.some.inj hj)).2) hw d_Y_step_85
      · rw [if_neg c_3] at hj
        refine lv_iload_n hx hb d_Y_step_49 rfl (lv_at hl 0 rfl) ?_
        exact hend H locs ls 50 _ _ (Prod.mk.inj (Option.some.inj hj)).1 (congrArg (wY cI cZ ad) (Prod.mk.inj (Option.some.inj hj)).2) hw d_Y_step_50
    · rw [if_pos c_2] at hj
      refine lv_iconst (v := 0) hx hb d_Y_step_30 (by decide) ?_
      exact hend H locs ls 31 _ _ (Prod.mk.inj (Option.some.inj hj)).1 (congrArg (wY cI cZ ad) (Prod.mk.inj (Option.some.inj hj)).2) hw d_Y_step_31
  · rw [if_pos c_1] at hj
    refine lv_aload_n hx hb d_Y_step_7 rfl (lv_at hl 0 rfl) ?_
    obtain ⟨M_10, e_9, hj⟩ := Option.bind_eq_some_iff.mp hj
    refine gw_callv (As := []) (rest := []) S hw (c_Y_begin e_9) w_164 ya_R rfl rfl hl.1 rfl (Nat.le_of_ble_eq_true rfl) d_Y_step_8 (fun H locs hw => ?_)
    refine lv_aload_n hx hb d_Y_step_11 rfl (lv_at hl 0 rfl) ?_
    refine lv_dup hx hb d_Y_step_12 rfl ?_
    refine gw_get (v := .int (M_10.2 15)) S hw ya_R rfl (by decide) n_T_Y f_74 rfl d_Y_step_13 ?_
    refine lv_iconst (v := 1) hx hb d_Y_step_16 (by decide) ?_
    refine lv_iadd hx hb d_Y_step_17 ?_
    refine gw_put (v := .int ((M_10.2 15) + 1)) (ty := .int) S hw ya_R rfl (by decide) n_T_Y f_74 tk_Y nm_Y rfl (by decide +kernel) rfl rfl (Nat.le_of_ble_eq_true rfl) (ys_R 15 ((M_10.2 15) + 1) (by decide)) d_Y_step_18 (fun H locs hw => ?_)
    refine lv_aload_n hx hb d_Y_step_21 rfl (lv_at hl 0 rfl) ?_
    refine gw_get (v := .int ((sV M_10 15 ((M_10.2 15) + 1)).2 26)) S hw ya_R rfl (by decide) n_T_Y f_77 rfl d_Y_step_22 ?_
    refine lv_istore_n (lv' := [(1, .int ((sV M_10 15 ((M_10.2 15) + 1)).2 26)), (0, .ref (ad 0))]) hx hb d_Y_step_25 rfl hl (by decide) rfl (fun ls hl => ?_)
    refine lv_iload_n hx hb d_Y_step_26 rfl (lv_at hl 0 rfl) ?_
    refine lv_if_ne (tgt := 32) hx hb d_Y_step_27 (by decide) (fun c_11 => ?_) (fun c_11 => ?_)
    · rw [if_neg c_11] at hj
      refine lv_aload_n hx hb d_Y_step_32 rfl (lv_at hl 1 rfl) ?_
      refine lv_dup hx hb d_Y_step_33 rfl ?_
      refine gw_get (v := .int ((sV M_10 15 ((M_10.2 15) + 1)).2 27)) S hw ya_R rfl (by decide) n_T_Y f_80 rfl d_Y_step_34 ?_
      refine lv_iconst (v := 1) hx hb d_Y_step_37 (by decide) ?_
      refine lv_isub hx hb d_Y_step_38 ?_
      refine gw_put (v := .int (((sV M_10 15 ((M_10.2 15) + 1)).2 27) - 1)) (ty := .int) S hw ya_R rfl (by decide) n_T_Y f_80 tk_Y nm_Y rfl (by decide +kernel) rfl rfl (Nat.le_of_ble_eq_true rfl) (ys_R 27 (((sV M_10 15 ((M_10.2 15) + 1)).2 27) - 1) (by decide)) d_Y_step_39 (fun H locs hw => ?_)
      refine lv_aload_n hx hb d_Y_step_42 rfl (lv_at hl 1 rfl) ?_
      refine gw_get (v := .int ((sV (sV M_10 15 ((M_10.2 15) + 1)) 27 (((sV M_10 15 ((M_10.2 15) + 1)).2 27) - 1)).2 27)) S hw ya_R rfl (by decide) n_T_Y f_80 rfl d_Y_step_43 ?_
      refine lv_if_le (tgt := 51) hx hb d_Y_step_46 (by decide) (fun c_12 => ?_) (fun c_12 => ?_)
      · rw [if_pos c_12] at hj
        refine lv_aload_n hx hb d_Y_step_51 rfl (lv_at hl 1 rfl) ?_
        refine lv_iconst (v := 0) hx hb d_Y_step_52 (by decide) ?_
        refine gw_put (v := .int 0) (ty := .int) S hw ya_R rfl (by decide) n_T_Y f_77 tk_Y nm_Y rfl (by decide +kernel) rfl rfl (Nat.le_of_ble_eq_true rfl) (ys_R 26 0 (by decide)) d_Y_step_53 (fun H locs hw => ?_)
        refine lv_aload_n hx hb d_Y_step_56 rfl (lv_at hl 1 rfl) ?_
        refine gw_get (v := .ref (ad 13)) S hw ya_R rfl (by decide) n_T_Y f_47 rfl d_Y_step_57 ?_
        refine lv_iload_n hx hb d_Y_step_60 rfl (lv_at hl 0 rfl) ?_
        obtain ⟨g_13, hj⟩ := gw_if hj
        refine gw_iald (t0 := 0) S hw ⟨ya_a13, rfl⟩ g_13 d_Y_step_61 ?_
        refine lv_aload_n hx hb d_Y_step_62 rfl (lv_at hl 1 rfl) ?_
        refine gw_get (v := .ref (ad 5)) S hw ya_R rfl (by decide) n_T_Y f_23 rfl d_Y_step_63 ?_
        refine lv_iload_n hx hb d_Y_step_66 rfl (lv_at hl 0 rfl) ?_
        obtain ⟨g_14, hj⟩ := gw_if hj
        refine gw_iald (t0 := 0) S hw ⟨ya_a5, rfl⟩ g_14 d_Y_step_67 ?_
        refine lv_icmp_ne (tgt := 79) hx hb d_Y_step_68 (by decide) (fun c_15 => ?_) (fun c_15 => ?_)
        · rw [if_neg c_15] at hj
          refine lv_aload_n hx hb d_Y_step_79 rfl (lv_at hl 1 rfl) ?_
          refine lv_iload_n hx hb d_Y_step_80 rfl (lv_at hl 0 rfl) ?_
          refine gw_put (v := .int ((sV M_10 15 ((M_10.2 15) + 1)).2 26)) (ty := .int) S hw ya_R rfl (by decide) n_T_Y f_83 tk_Y nm_Y rfl (by decide +kernel) rfl rfl (Nat.le_of_ble_eq_true rfl) (ys_R 28 ((sV M_10 15 ((M_10.2 15) + 1)).2 26) (by decide)) d_Y_step_81 (fun H locs hw => ?_)
          refine lv_iload_n hx hb d_Y_step_84 rfl (lv_at hl 0 rfl) ?_
          exact hend H locs ls 85 _ _ (Prod.mk.inj (Option.some.inj hj)).1 (congrArg (wY cI cZ ad) (Prod.mk.inj (Option.some.inj hj)).2) hw d_Y_step_85
        · rw [if_pos c_15] at hj
          refine lv_aload_n hx hb d_Y_step_71 rfl (lv_at hl 1 rfl) ?_
          refine lv_iload_n hx hb d_Y_step_72 rfl (lv_at hl 0 rfl) ?_
          obtain ⟨M_17, e_16, hj⟩ := Option.bind_eq_some_iff.mp hj
          refine gw_callv (As := [.int ((sV M_10 15 ((M_10.2 15) + 1)).2 26)]) (rest := []) S hw (c_Y_finish e_16) w_167 ya_R rfl rfl hl.1 rfl (Nat.le_of_ble_eq_true rfl) d_Y_step_73 (fun H locs hw => ?_)
          refine lv_goto (tgt := 84) hx hb d_Y_step_76 (by decide) ?_
          refine lv_iload_n hx hb d_Y_step_84 rfl (lv_at hl 0 rfl) ?_
          exact hend H locs ls 85 _ _ (Prod.mk.inj (Option.some.inj hj)).1 (congrArg (wY cI cZ ad) (Prod.mk.inj (Option.some.inj hj)).2) hw d_Y_step_85
      · rw [if_neg c_12] at hj
        refine lv_iload_n hx hb d_Y_step_49 rfl (lv_at hl 0 rfl) ?_
        exact hend H locs ls 50 _ _ (Prod.mk.inj (Option.some.inj hj)).1 (congrArg (wY cI cZ ad) (Prod.mk.inj (Option.some.inj hj)).2) hw d_Y_step_50
    · rw [if_pos c_11] at hj
      refine lv_iconst (v := 0) hx hb d_Y_step_30 (by decide) ?_
      exact hend H locs ls 31 _ _ (Prod.mk.inj (Option.some.inj hj)).1 (congrArg (wY cI cZ ad) (Prod.mk.inj (Option.some.inj hj)).2) hw d_Y_step_31
abbrev rm_Y_tick : Room := { frames := 3, cells := 0, slots := 0, locals := 64 }
def ws_Y_tick : List Cond := Cond.code y_Y_tick b_Y_tick 4 (some .int) :: wB
set_option maxHeartbeats 4000000 in
set_option maxRecDepth 100000 in
theorem c_Y_tick {l : Launch} {D : va_G} {cI cZ : ClassId} {ad : Nat → Nat} {n : Nat} {M : MY} {a1 : Int32} {r0 : Int32} {M0 : MY} (hj : j_Y_tick n M a1 = some (r0, M0)) : gw_Ci l y_Y_tick ws_Y_tick rm_Y_tick D (tyY cI cZ) (wY cI cZ ad M) [.ref (ad 0), .int a1] r0 (wY cI cZ ad M0) := by
  intro sz
  refine gw_meti (cc := b_Y_tick) (maxL := 4) (by decide) rfl (Nat.le_of_ble_eq_true rfl) ?_
  intro p e s m args below meth c A Q S H locs hw hend ls hl
  have S : CallFix p m c b_Y_tick 4 s args ws_Y_tick R_Y := S
  have hx := S.1
  have hb := S.2.1
  have hts := S.2.2.2.2
  have hl : lv_has ls 4 [(0, .ref (ad 0)), (1, .int a1)] := hl
  have n_T_Y : ∀ w ∈ u_ws R_Y T_Y 29, w ∈ ws_Y_tick := fun w h => List.mem_cons_of_mem _ (uT_Y w h)
  have f_62 : Cond.fieldLink R_Y 62 (T_Y 0).1 (T_Y 0).2.1 (T_Y 0).2.2.1 ∈ ws_Y_tick := List.mem_cons_of_mem _ xw_266
  have w_145 : CallW rm_Y_tick s args R_Y R_Y 145 y_Y_raise b_Y_raise 2 (some .int) ws_Y_raise rm_Y_raise 0 0 1 := cwV 1 hts (wB_callV (fun w h => List.mem_cons_of_mem _ h) xw_345 xw_346 xw_347 xw_348 xw_278) rfl rfl rfl (by decide +kernel) ⟨Nat.le_of_ble_eq_true rfl, Nat.le_of_ble_eq_true rfl⟩
  have w_171 : CallW rm_Y_tick s args R_Y R_Y 171 y_Y_step b_Y_step 2 (some .int) ws_Y_step rm_Y_step 0 0 0 := cwV 0 hts (wB_callV (fun w h => List.mem_cons_of_mem _ h) xw_380 xw_381 xw_382 xw_383 xw_278) rfl rfl rfl (by decide +kernel) ⟨Nat.le_of_ble_eq_true rfl, Nat.le_of_ble_eq_true rfl⟩
  have L27 : ∀ (f27 : Nat) (v2_27 : Int32) (v3_27 : Int32) (M27 : MY), j_Y_tick_L27 n a1 f27 v2_27 v3_27 M27 = some (r0, M0) → ∀ (H : Heap) (locs : List Loc), gw_W D (tyY cI cZ) A (wY cI cZ ad M27) s H locs → ∀ ls : Array Slot, lv_has ls 4 [(0, .ref (ad 0)), (1, .int a1), (2, .int v2_27), (3, .int v3_27)] → W p l e rm_Y_tick s m args below meth c H locs 0 0 Q (F0 m 27 ls []) := by
    intro f27
    induction f27 with
    | zero =>
      intro v2_27 v3_27 M27 hj
      exact nomatch (show (none : Option (Int32 × MY)) = some (r0, M0) from hj)
    | succ f27 ih27 =>
      intro v2_27 v3_27 M27 hj H locs hw ls hl
      rw [j_Y_tick_L27] at hj
      refine lv_iload_n hx hb d_Y_tick_27 rfl (lv_at hl 3 rfl) ?_
      refine lv_iload_n hx hb d_Y_tick_28 rfl (lv_at hl 1 rfl) ?_
      refine lv_icmp_ge (tgt := 43) hx hb d_Y_tick_29 (by decide) (fun c_5 => ?_) (fun c_5 => ?_)
      · rw [if_pos c_5] at hj
        refine lv_iload_n hx hb d_Y_tick_43 rfl (lv_at hl 2 rfl) ?_
        exact hend H locs ls 44 _ _ (Prod.mk.inj (Option.some.inj hj)).1 (congrArg (wY cI cZ ad) (Prod.mk.inj (Option.some.inj hj)).2) hw d_Y_tick_44
      · rw [if_neg c_5] at hj
        refine lv_aload_n hx hb d_Y_tick_32 rfl (lv_at hl 0 rfl) ?_
        obtain ⟨q_7, e_6, hj⟩ := Option.bind_eq_some_iff.mp hj
        refine gw_calli (As := []) (rest := []) S hw (c_Y_step e_6) w_171 ya_R rfl rfl hl.1 rfl (Nat.le_of_ble_eq_true rfl) d_Y_tick_33 (fun H locs hw => ?_)
        refine lv_istore_n (lv' := [(2, .int q_7.1), (0, .ref (ad 0)), (1, .int a1), (3, .int v3_27)]) hx hb d_Y_tick_36 rfl hl (by decide) rfl (fun ls hl => ?_)
        refine lv_iinc (v := (v3_27 + 1)) (lv' := [(3, .int (v3_27 + 1)), (2, .int q_7.1), (0, .ref (ad 0)), (1, .int a1)]) hx hb d_Y_tick_37 hl (k := 3) rfl rfl (by decide) rfl (fun ls hl => ?_)
        refine lv_goto (tgt := 27) hx hb d_Y_tick_40 (by decide) ?_
        exact ih27 q_7.1 (v3_27 + 1) q_7.2 hj H locs hw ls (lv_sub hl [2, 3, 1, 0] rfl)
  unfold j_Y_tick at hj
  refine lv_iload_n hx hb d_Y_tick_0 rfl (lv_at hl 1 rfl) ?_
  refine lv_iconst (v := 1) hx hb d_Y_tick_1 (by decide) ?_
  refine lv_icmp_lt (tgt := 12) hx hb d_Y_tick_2 (by decide) (fun c_1 => ?_) (fun c_1 => ?_)
  · rw [if_pos c_1] at hj
    refine lv_aload_n hx hb d_Y_tick_12 rfl (lv_at hl 0 rfl) ?_
    refine lv_iconst (v := 1) hx hb d_Y_tick_13 (by decide) ?_
    obtain ⟨q_3, e_2, hj⟩ := Option.bind_eq_some_iff.mp hj
    refine gw_calli (As := [.int 1]) (rest := []) S hw (c_Y_raise e_2) w_145 ya_R rfl rfl hl.1 rfl (Nat.le_of_ble_eq_true rfl) d_Y_tick_14 (fun H locs hw => ?_)
    exact hend H locs ls 17 _ _ (Prod.mk.inj (Option.some.inj hj)).1 (congrArg (wY cI cZ ad) (Prod.mk.inj (Option.some.inj hj)).2) hw d_Y_tick_17
  · rw [if_neg c_1] at hj
    refine lv_iload_n hx hb d_Y_tick_5 rfl (lv_at hl 1 rfl) ?_
    refine lv_sipush (v := 2000) hx hb d_Y_tick_6 (by decide) ?_
    refine lv_icmp_le (tgt := 18) hx hb d_Y_tick_9 (by decide) (fun c_4 => ?_) (fun c_4 => ?_)
    · rw [if_pos c_4] at hj
      refine lv_aload_n hx hb d_Y_tick_18 rfl (lv_at hl 0 rfl) ?_
      refine lv_iconst (v := 0) hx hb d_Y_tick_19 (by decide) ?_
      refine gw_put (v := .int 0) (ty := .int) S hw ya_R rfl (by decide) n_T_Y f_62 tk_Y nm_Y rfl (by decide +kernel) rfl rfl (Nat.le_of_ble_eq_true rfl) (ys_R 0 0 (by decide)) d_Y_tick_20 (fun H locs hw => ?_)
      refine lv_iconst (v := 0) hx hb d_Y_tick_23 (by decide) ?_
      refine lv_istore_n (lv' := [(2, .int 0), (0, .ref (ad 0)), (1, .int a1)]) hx hb d_Y_tick_24 rfl hl (by decide) rfl (fun ls hl => ?_)
      refine lv_iconst (v := 0) hx hb d_Y_tick_25 (by decide) ?_
      refine lv_istore_n (lv' := [(3, .int 0), (2, .int 0), (0, .ref (ad 0)), (1, .int a1)]) hx hb d_Y_tick_26 rfl hl (by decide) rfl (fun ls hl => ?_)
      exact L27 n 0 0 (sV M 0 0) hj H locs hw ls (lv_sub hl [2, 3, 1, 0] rfl)
    · rw [if_neg c_4] at hj
      refine lv_aload_n hx hb d_Y_tick_12 rfl (lv_at hl 0 rfl) ?_
      refine lv_iconst (v := 1) hx hb d_Y_tick_13 (by decide) ?_
      obtain ⟨q_9, e_8, hj⟩ := Option.bind_eq_some_iff.mp hj
      refine gw_calli (As := [.int 1]) (rest := []) S hw (c_Y_raise e_8) w_145 ya_R rfl rfl hl.1 rfl (Nat.le_of_ble_eq_true rfl) d_Y_tick_14 (fun H locs hw => ?_)
      exact hend H locs ls 17 _ _ (Prod.mk.inj (Option.some.inj hj)).1 (congrArg (wY cI cZ ad) (Prod.mk.inj (Option.some.inj hj)).2) hw d_Y_tick_17
abbrev rm_Y_now : Room := { frames := 0, cells := 0, slots := 0, locals := 0 }
def ws_Y_now : List Cond := Cond.code y_Y_now b_Y_now 1 (some .int) :: wB
set_option maxHeartbeats 4000000 in
set_option maxRecDepth 100000 in
theorem c_Y_now {l : Launch} {D : va_G} {cI cZ : ClassId} {ad : Nat → Nat} {n : Nat} {M : MY} {r0 : Int32} {M0 : MY} (hj : j_Y_now n M = some (r0, M0)) : gw_Ci l y_Y_now ws_Y_now rm_Y_now D (tyY cI cZ) (wY cI cZ ad M) [.ref (ad 0)] r0 (wY cI cZ ad M0) := by
  intro sz
  refine gw_meti (cc := b_Y_now) (maxL := 1) (by decide) rfl (Nat.le_of_ble_eq_true rfl) ?_
  intro p e s m args below meth c A Q S H locs hw hend ls hl
  have S : CallFix p m c b_Y_now 1 s args ws_Y_now R_Y := S
  have hx := S.1
  have hb := S.2.1
  have hts := S.2.2.2.2
  have hl : lv_has ls 1 [(0, .ref (ad 0))] := hl
  have n_T_Y : ∀ w ∈ u_ws R_Y T_Y 29, w ∈ ws_Y_now := fun w h => List.mem_cons_of_mem _ (uT_Y w h)
  have f_62 : Cond.fieldLink R_Y 62 (T_Y 0).1 (T_Y 0).2.1 (T_Y 0).2.2.1 ∈ ws_Y_now := List.mem_cons_of_mem _ xw_266
  have f_74 : Cond.fieldLink R_Y 74 (T_Y 15).1 (T_Y 15).2.1 (T_Y 15).2.2.1 ∈ ws_Y_now := List.mem_cons_of_mem _ xw_285
  unfold j_Y_now at hj
  refine lv_aload_n hx hb d_Y_now_0 rfl (lv_at hl 0 rfl) ?_
  refine lv_iconst (v := 0) hx hb d_Y_now_1 (by decide) ?_
  refine gw_put (v := .int 0) (ty := .int) S hw ya_R rfl (by decide) n_T_Y f_62 tk_Y nm_Y rfl (by decide +kernel) rfl rfl (Nat.le_of_ble_eq_true rfl) (ys_R 0 0 (by decide)) d_Y_now_2 (fun H locs hw => ?_)
  refine lv_aload_n hx hb d_Y_now_5 rfl (lv_at hl 0 rfl) ?_
  refine gw_get (v := .int ((sV M 0 0).2 15)) S hw ya_R rfl (by decide) n_T_Y f_74 rfl d_Y_now_6 ?_
  exact hend H locs ls 9 _ _ (Prod.mk.inj (Option.some.inj hj)).1 (congrArg (wY cI cZ ad) (Prod.mk.inj (Option.some.inj hj)).2) hw d_Y_now_9
abbrev rm_Y_ended : Room := { frames := 1, cells := 0, slots := 0, locals := 21 }
def ws_Y_ended : List Cond := Cond.code y_Y_ended b_Y_ended 3 (some .int) :: wB
set_option maxHeartbeats 4000000 in
set_option maxRecDepth 100000 in
theorem c_Y_ended {l : Launch} {D : va_G} {cI cZ : ClassId} {ad : Nat → Nat} {n : Nat} {M : MY} {a1 : Int32} {a2 : Int32} {r0 : Int32} {M0 : MY} (hj : j_Y_ended n M a1 a2 = some (r0, M0)) : gw_Ci l y_Y_ended ws_Y_ended rm_Y_ended D (tyY cI cZ) (wY cI cZ ad M) [.ref (ad 0), .int a1, .int a2] r0 (wY cI cZ ad M0) := by
  intro sz
  refine gw_meti (cc := b_Y_ended) (maxL := 3) (by decide) rfl (Nat.le_of_ble_eq_true rfl) ?_
  intro p e s m args below meth c A Q S H locs hw hend ls hl
  have S : CallFix p m c b_Y_ended 3 s args ws_Y_ended R_Y := S
  have hx := S.1
  have hb := S.2.1
  have hts := S.2.2.2.2
  have hl : lv_has ls 3 [(0, .ref (ad 0)), (1, .int a1), (2, .int a2)] := hl
  have n_T_Y : ∀ w ∈ u_ws R_Y T_Y 29, w ∈ ws_Y_ended := fun w h => List.mem_cons_of_mem _ (uT_Y w h)
  have f_38 : Cond.fieldLink R_Y 38 (T_Y 17).1 (T_Y 17).2.1 (T_Y 17).2.2.1 ∈ ws_Y_ended := List.mem_cons_of_mem _ xw_280
  have f_59 : Cond.fieldLink R_Y 59 (T_Y 24).1 (T_Y 24).2.1 (T_Y 24).2.2.1 ∈ ws_Y_ended := List.mem_cons_of_mem _ xw_371
  have f_62 : Cond.fieldLink R_Y 62 (T_Y 0).1 (T_Y 0).2.1 (T_Y 0).2.2.1 ∈ ws_Y_ended := List.mem_cons_of_mem _ xw_266
  have w_70 : CallW rm_Y_ended s args R_Y R_Y 70 y_Y_isTask b_Y_isTask 2 (some .boolean) ws_Y_isTask rm_Y_isTask 0 0 1 := cwV 1 hts (wB_callV (fun w h => List.mem_cons_of_mem _ h) xw_274 xw_275 xw_276 xw_277 xw_278) rfl rfl rfl (by decide +kernel) ⟨Nat.le_of_ble_eq_true rfl, Nat.le_of_ble_eq_true rfl⟩
  unfold j_Y_ended at hj
  refine lv_aload_n hx hb d_Y_ended_0 rfl (lv_at hl 0 rfl) ?_
  refine lv_iconst (v := 0) hx hb d_Y_ended_1 (by decide) ?_
  refine gw_put (v := .int 0) (ty := .int) S hw ya_R rfl (by decide) n_T_Y f_62 tk_Y nm_Y rfl (by decide +kernel) rfl rfl (Nat.le_of_ble_eq_true rfl) (ys_R 0 0 (by decide)) d_Y_ended_2 (fun H locs hw => ?_)
  refine lv_aload_n hx hb d_Y_ended_5 rfl (lv_at hl 0 rfl) ?_
  refine lv_iload_n hx hb d_Y_ended_6 rfl (lv_at hl 1 rfl) ?_
  obtain ⟨r_2, e_1, hj⟩ := Option.bind_eq_some_iff.mp hj
  refine gw_calli (As := [.int a1]) (rest := []) S hw (c_Y_isTask e_1) w_70 ya_R rfl rfl hl.1 rfl (Nat.le_of_ble_eq_true rfl) d_Y_ended_7 (fun H locs hw => ?_)
  refine lv_if_eq (tgt := 34) hx hb d_Y_ended_10 (by decide) (fun c_3 => ?_) (fun c_3 => ?_)
  · rw [if_pos c_3] at hj
    refine lv_iconst (v := -1) hx hb d_Y_ended_34 (by decide) ?_
    refine lv_goto (tgt := 50) hx hb d_Y_ended_35 (by decide) ?_
    exact hend H locs ls 50 _ _ (Prod.mk.inj (Option.some.inj hj)).1 (congrArg (wY cI cZ ad) (Prod.mk.inj (Option.some.inj hj)).2) hw d_Y_ended_50
  · rw [if_neg c_3] at hj
    refine lv_iload_n hx hb d_Y_ended_13 rfl (lv_at hl 2 rfl) ?_
    refine lv_if_lt (tgt := 34) hx hb d_Y_ended_14 (by decide) (fun c_4 => ?_) (fun c_4 => ?_)
    · rw [if_pos c_4] at hj
      refine lv_iconst (v := -1) hx hb d_Y_ended_34 (by decide) ?_
      refine lv_goto (tgt := 50) hx hb d_Y_ended_35 (by decide) ?_
      exact hend H locs ls 50 _ _ (Prod.mk.inj (Option.some.inj hj)).1 (congrArg (wY cI cZ ad) (Prod.mk.inj (Option.some.inj hj)).2) hw d_Y_ended_50
    · rw [if_neg c_4] at hj
      refine lv_iload_n hx hb d_Y_ended_17 rfl (lv_at hl 2 rfl) ?_
      refine lv_aload_n hx hb d_Y_ended_18 rfl (lv_at hl 0 rfl) ?_
      refine gw_get (v := .ref (ad 10)) S hw ya_R rfl (by decide) n_T_Y f_38 rfl d_Y_ended_19 ?_
      refine lv_iload_n hx hb d_Y_ended_22 rfl (lv_at hl 1 rfl) ?_
      obtain ⟨g_5, hj⟩ := gw_if hj
      refine gw_iald (t0 := 0) S hw ⟨ya_a10, rfl⟩ g_5 d_Y_ended_23 ?_
      refine lv_icmp_ge (tgt := 34) hx hb d_Y_ended_24 (by decide) (fun c_6 => ?_) (fun c_6 => ?_)
      · rw [if_pos c_6] at hj
        refine lv_iconst (v := -1) hx hb d_Y_ended_34 (by decide) ?_
        refine lv_goto (tgt := 50) hx hb d_Y_ended_35 (by decide) ?_
        exact hend H locs ls 50 _ _ (Prod.mk.inj (Option.some.inj hj)).1 (congrArg (wY cI cZ ad) (Prod.mk.inj (Option.some.inj hj)).2) hw d_Y_ended_50
      · rw [if_neg c_6] at hj
        refine lv_iload_n hx hb d_Y_ended_27 rfl (lv_at hl 2 rfl) ?_
        refine lv_sipush (v := 200) hx hb d_Y_ended_28 (by decide) ?_
        refine lv_icmp_lt (tgt := 38) hx hb d_Y_ended_31 (by decide) (fun c_7 => ?_) (fun c_7 => ?_)
        · rw [if_pos c_7] at hj
          refine lv_aload_n hx hb d_Y_ended_38 rfl (lv_at hl 0 rfl) ?_
          refine gw_get (v := .ref (ad 17)) S hw ya_R rfl (by decide) n_T_Y f_59 rfl d_Y_ended_39 ?_
          refine lv_sipush (v := 200) hx hb d_Y_ended_42 (by decide) ?_
          refine lv_iload_n hx hb d_Y_ended_45 rfl (lv_at hl 1 rfl) ?_
          refine lv_imul hx hb d_Y_ended_46 ?_
          refine lv_iload_n hx hb d_Y_ended_47 rfl (lv_at hl 2 rfl) ?_
          refine lv_iadd hx hb d_Y_ended_48 ?_
          obtain ⟨g_8, hj⟩ := gw_if hj
          refine gw_iald (t0 := 0) S hw ⟨ya_a17, rfl⟩ g_8 d_Y_ended_49 ?_
          exact hend H locs ls 50 _ _ (Prod.mk.inj (Option.some.inj hj)).1 (congrArg (wY cI cZ ad) (Prod.mk.inj (Option.some.inj hj)).2) hw d_Y_ended_50
        · rw [if_neg c_7] at hj
          refine lv_iconst (v := -1) hx hb d_Y_ended_34 (by decide) ?_
          refine lv_goto (tgt := 50) hx hb d_Y_ended_35 (by decide) ?_
          exact hend H locs ls 50 _ _ (Prod.mk.inj (Option.some.inj hj)).1 (congrArg (wY cI cZ ad) (Prod.mk.inj (Option.some.inj hj)).2) hw d_Y_ended_50
abbrev rm_Y_seen : Room := { frames := 1, cells := 0, slots := 0, locals := 21 }
def ws_Y_seen : List Cond := Cond.code y_Y_seen b_Y_seen 3 (some .int) :: wB
set_option maxHeartbeats 4000000 in
set_option maxRecDepth 100000 in
theorem c_Y_seen {l : Launch} {D : va_G} {cI cZ : ClassId} {ad : Nat → Nat} {n : Nat} {M : MY} {a1 : Int32} {a2 : Int32} {r0 : Int32} {M0 : MY} (hj : j_Y_seen n M a1 a2 = some (r0, M0)) : gw_Ci l y_Y_seen ws_Y_seen rm_Y_seen D (tyY cI cZ) (wY cI cZ ad M) [.ref (ad 0), .int a1, .int a2] r0 (wY cI cZ ad M0) := by
  intro sz
  refine gw_meti (cc := b_Y_seen) (maxL := 3) (by decide) rfl (Nat.le_of_ble_eq_true rfl) ?_
  intro p e s m args below meth c A Q S H locs hw hend ls hl
  have S : CallFix p m c b_Y_seen 3 s args ws_Y_seen R_Y := S
  have hx := S.1
  have hb := S.2.1
  have hts := S.2.2.2.2
  have hl : lv_has ls 3 [(0, .ref (ad 0)), (1, .int a1), (2, .int a2)] := hl
  have n_T_Y : ∀ w ∈ u_ws R_Y T_Y 29, w ∈ ws_Y_seen := fun w h => List.mem_cons_of_mem _ (uT_Y w h)
  have f_35 : Cond.fieldLink R_Y 35 (T_Y 16).1 (T_Y 16).2.1 (T_Y 16).2.2.1 ∈ ws_Y_seen := List.mem_cons_of_mem _ xw_279
  have f_38 : Cond.fieldLink R_Y 38 (T_Y 17).1 (T_Y 17).2.1 (T_Y 17).2.2.1 ∈ ws_Y_seen := List.mem_cons_of_mem _ xw_280
  have f_50 : Cond.fieldLink R_Y 50 (T_Y 21).1 (T_Y 21).2.1 (T_Y 21).2.2.1 ∈ ws_Y_seen := List.mem_cons_of_mem _ xw_282
  have f_53 : Cond.fieldLink R_Y 53 (T_Y 22).1 (T_Y 22).2.1 (T_Y 22).2.2.1 ∈ ws_Y_seen := List.mem_cons_of_mem _ xw_283
  have f_56 : Cond.fieldLink R_Y 56 (T_Y 23).1 (T_Y 23).2.1 (T_Y 23).2.2.1 ∈ ws_Y_seen := List.mem_cons_of_mem _ xw_284
  have f_62 : Cond.fieldLink R_Y 62 (T_Y 0).1 (T_Y 0).2.1 (T_Y 0).2.2.1 ∈ ws_Y_seen := List.mem_cons_of_mem _ xw_266
  have f_77 : Cond.fieldLink R_Y 77 (T_Y 26).1 (T_Y 26).2.1 (T_Y 26).2.2.1 ∈ ws_Y_seen := List.mem_cons_of_mem _ xw_286
  have f_80 : Cond.fieldLink R_Y 80 (T_Y 27).1 (T_Y 27).2.1 (T_Y 27).2.2.1 ∈ ws_Y_seen := List.mem_cons_of_mem _ xw_287
  have w_70 : CallW rm_Y_seen s args R_Y R_Y 70 y_Y_isTask b_Y_isTask 2 (some .boolean) ws_Y_isTask rm_Y_isTask 0 0 1 := cwV 1 hts (wB_callV (fun w h => List.mem_cons_of_mem _ h) xw_274 xw_275 xw_276 xw_277 xw_278) rfl rfl rfl (by decide +kernel) ⟨Nat.le_of_ble_eq_true rfl, Nat.le_of_ble_eq_true rfl⟩
  unfold j_Y_seen at hj
  refine lv_aload_n hx hb d_Y_seen_0 rfl (lv_at hl 0 rfl) ?_
  refine lv_iconst (v := 0) hx hb d_Y_seen_1 (by decide) ?_
  refine gw_put (v := .int 0) (ty := .int) S hw ya_R rfl (by decide) n_T_Y f_62 tk_Y nm_Y rfl (by decide +kernel) rfl rfl (Nat.le_of_ble_eq_true rfl) (ys_R 0 0 (by decide)) d_Y_seen_2 (fun H locs hw => ?_)
  refine lv_aload_n hx hb d_Y_seen_5 rfl (lv_at hl 0 rfl) ?_
  refine lv_iload_n hx hb d_Y_seen_6 rfl (lv_at hl 1 rfl) ?_
  obtain ⟨r_2, e_1, hj⟩ := Option.bind_eq_some_iff.mp hj
  refine gw_calli (As := [.int a1]) (rest := []) S hw (c_Y_isTask e_1) w_70 ya_R rfl rfl hl.1 rfl (Nat.le_of_ble_eq_true rfl) d_Y_seen_7 (fun H locs hw => ?_)
  refine lv_if_ne (tgt := 15) hx hb d_Y_seen_10 (by decide) (fun c_3 => ?_) (fun c_3 => ?_)
  · rw [if_neg c_3] at hj
    refine lv_iload_n hx hb d_Y_seen_15 rfl (lv_at hl 2 rfl) ?_
    by_cases c_5 : a2 = 0
    · rw [if_pos c_5] at hj
      refine lv_tableIn (tgt := 56) hx hb d_Y_seen_16 (by rw [c_5]; decide) (by rw [c_5]; decide) (by rw [c_5]; rfl) (by decide) ?_
      refine lv_aload_n hx hb d_Y_seen_56 rfl (lv_at hl 0 rfl) ?_
      refine gw_get (v := .ref (ad 9)) S hw ya_R rfl (by decide) n_T_Y f_35 rfl d_Y_seen_57 ?_
      refine lv_iload_n hx hb d_Y_seen_60 rfl (lv_at hl 1 rfl) ?_
      obtain ⟨g_4, hj⟩ := gw_if hj
      refine gw_iald (t0 := 0) S hw ⟨ya_a9, rfl⟩ g_4 d_Y_seen_61 ?_
      exact hend H locs ls 62 _ _ (Prod.mk.inj (Option.some.inj hj)).1 (congrArg (wY cI cZ ad) (Prod.mk.inj (Option.some.inj hj)).2) hw d_Y_seen_62
    rw [if_neg c_5] at hj
    by_cases c_7 : a2 = 1
    · rw [if_pos c_7] at hj
      refine lv_tableIn (tgt := 63) hx hb d_Y_seen_16 (by rw [c_7]; decide) (by rw [c_7]; decide) (by rw [c_7]; rfl) (by decide) ?_
      refine lv_aload_n hx hb d_Y_seen_63 rfl (lv_at hl 0 rfl) ?_
      refine gw_get (v := .ref (ad 10)) S hw ya_R rfl (by decide) n_T_Y f_38 rfl d_Y_seen_64 ?_
      refine lv_iload_n hx hb d_Y_seen_67 rfl (lv_at hl 1 rfl) ?_
      obtain ⟨g_6, hj⟩ := gw_if hj
      refine gw_iald (t0 := 0) S hw ⟨ya_a10, rfl⟩ g_6 d_Y_seen_68 ?_
      exact hend H locs ls 69 _ _ (Prod.mk.inj (Option.some.inj hj)).1 (congrArg (wY cI cZ ad) (Prod.mk.inj (Option.some.inj hj)).2) hw d_Y_seen_69
    rw [if_neg c_7] at hj
    by_cases c_9 : a2 = 2
    · rw [if_pos c_9] at hj
      refine lv_tableIn (tgt := 70) hx hb d_Y_seen_16 (by rw [c_9]; decide) (by rw [c_9]; decide) (by rw [c_9]; rfl) (by decide) ?_
      refine lv_aload_n hx hb d_Y_seen_70 rfl (lv_at hl 0 rfl) ?_
      refine gw_get (v := .ref (ad 14)) S hw ya_R rfl (by decide) n_T_Y f_50 rfl d_Y_seen_71 ?_
      refine lv_iload_n hx hb d_Y_seen_74 rfl (lv_at hl 1 rfl) ?_
      obtain ⟨g_8, hj⟩ := gw_if hj
      refine gw_iald (t0 := 0) S hw ⟨ya_a14, rfl⟩ g_8 d_Y_seen_75 ?_
      exact hend H locs ls 76 _ _ (Prod.mk.inj (Option.some.inj hj)).1 (congrArg (wY cI cZ ad) (Prod.mk.inj (Option.some.inj hj)).2) hw d_Y_seen_76
    rw [if_neg c_9] at hj
    by_cases c_11 : a2 = 3
    · rw [if_pos c_11] at hj
      refine lv_tableIn (tgt := 77) hx hb d_Y_seen_16 (by rw [c_11]; decide) (by rw [c_11]; decide) (by rw [c_11]; rfl) (by decide) ?_
      refine lv_aload_n hx hb d_Y_seen_77 rfl (lv_at hl 0 rfl) ?_
      refine gw_get (v := .ref (ad 15)) S hw ya_R rfl (by decide) n_T_Y f_53 rfl d_Y_seen_78 ?_
      refine lv_iload_n hx hb d_Y_seen_81 rfl (lv_at hl 1 rfl) ?_
      obtain ⟨g_10, hj⟩ := gw_if hj
      refine gw_iald (t0 := 0) S hw ⟨ya_a15, rfl⟩ g_10 d_Y_seen_82 ?_
      exact hend H locs ls 83 _ _ (Prod.mk.inj (Option.some.inj hj)).1 (congrArg (wY cI cZ ad) (Prod.mk.inj (Option.some.inj hj)).2) hw d_Y_seen_83
    rw [if_neg c_11] at hj
    by_cases c_13 : a2 = 4
    · rw [if_pos c_13] at hj
      refine lv_tableIn (tgt := 84) hx hb d_Y_seen_16 (by rw [c_13]; decide) (by rw [c_13]; decide) (by rw [c_13]; rfl) (by decide) ?_
      refine lv_aload_n hx hb d_Y_seen_84 rfl (lv_at hl 0 rfl) ?_
      refine gw_get (v := .ref (ad 16)) S hw ya_R rfl (by decide) n_T_Y f_56 rfl d_Y_seen_85 ?_
      refine lv_iload_n hx hb d_Y_seen_88 rfl (lv_at hl 1 rfl) ?_
      obtain ⟨g_12, hj⟩ := gw_if hj
      refine gw_iald (t0 := 0) S hw ⟨ya_a16, rfl⟩ g_12 d_Y_seen_89 ?_
      exact hend H locs ls 90 _ _ (Prod.mk.inj (Option.some.inj hj)).1 (congrArg (wY cI cZ ad) (Prod.mk.inj (Option.some.inj hj)).2) hw d_Y_seen_90
    rw [if_neg c_13] at hj
    by_cases c_15 : a2 = 5
    · rw [if_pos c_15] at hj
      refine lv_tableIn (tgt := 91) hx hb d_Y_seen_16 (by rw [c_15]; decide) (by rw [c_15]; decide) (by rw [c_15]; rfl) (by decide) ?_
      refine lv_aload_n hx hb d_Y_seen_91 rfl (lv_at hl 0 rfl) ?_
      refine gw_get (v := .int ((sV M 0 0).2 26)) S hw ya_R rfl (by decide) n_T_Y f_77 rfl d_Y_seen_92 ?_
      refine lv_iload_n hx hb d_Y_seen_95 rfl (lv_at hl 1 rfl) ?_
      refine lv_icmp_ne (tgt := 106) hx hb d_Y_seen_96 (by decide) (fun c_14 => ?_) (fun c_14 => ?_)
      · rw [if_neg c_14] at hj
        refine lv_iconst (v := 0) hx hb d_Y_seen_106 (by decide) ?_
        exact hend H locs ls 107 _ _ (Prod.mk.inj (Option.some.inj hj)).1 (congrArg (wY cI cZ ad) (Prod.mk.inj (Option.some.inj hj)).2) hw d_Y_seen_107
      · rw [if_pos c_14] at hj
        refine lv_aload_n hx hb d_Y_seen_99 rfl (lv_at hl 0 rfl) ?_
        refine gw_get (v := .int ((sV M 0 0).2 27)) S hw ya_R rfl (by decide) n_T_Y f_80 rfl d_Y_seen_100 ?_
        refine lv_goto (tgt := 107) hx hb d_Y_seen_103 (by decide) ?_
        exact hend H locs ls 107 _ _ (Prod.mk.inj (Option.some.inj hj)).1 (congrArg (wY cI cZ ad) (Prod.mk.inj (Option.some.inj hj)).2) hw d_Y_seen_107
    rw [if_neg c_15] at hj
    refine lv_tableOut (tgt := 108) hx hb d_Y_seen_16 (gw_out6 c_5 c_7 c_9 c_11 c_13 c_15) (by decide) ?_
    refine lv_iconst (v := -1) hx hb d_Y_seen_108 (by decide) ?_
    exact hend H locs ls 109 _ _ (Prod.mk.inj (Option.some.inj hj)).1 (congrArg (wY cI cZ ad) (Prod.mk.inj (Option.some.inj hj)).2) hw d_Y_seen_109
  · rw [if_pos c_3] at hj
    refine lv_iconst (v := -1) hx hb d_Y_seen_13 (by decide) ?_
    exact hend H locs ls 14 _ _ (Prod.mk.inj (Option.some.inj hj)).1 (congrArg (wY cI cZ ad) (Prod.mk.inj (Option.some.inj hj)).2) hw d_Y_seen_14
