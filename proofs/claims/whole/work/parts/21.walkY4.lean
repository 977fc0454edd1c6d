abbrev rm_Y_job : Room := { frames := 4, cells := 0, slots := 0, locals := 91 }
def ws_Y_job : List Cond := Cond.code y_Y_job b_Y_job 4 (some .int) :: wB
set_option maxHeartbeats 4000000 in
set_option maxRecDepth 100000 in
theorem c_Y_job {l : Launch} {D : va_G} {cI cZ : ClassId} {ad : Nat → Nat} {n : Nat} {M : MY} {a1 : Int32} {a2 : Int32} {r0 : Int32} {M0 : MY} (hj : j_Y_job n M a1 a2 = some (r0, M0)) : gw_Ci l y_Y_job ws_Y_job rm_Y_job D (tyY cI cZ) (wY cI cZ ad M) [.ref (ad 0), .int a1, .int a2] r0 (wY cI cZ ad M0) := by
  intro sz
  refine gw_meti (cc := b_Y_job) (maxL := 4) (by decide) rfl (Nat.le_of_ble_eq_true rfl) ?_
  intro p e s m args below meth c A Q S H locs hw hend ls hl
  have S : CallFix p m c b_Y_job 4 s args ws_Y_job R_Y := S
  have hx := S.1
  have hb := S.2.1
  have hts := S.2.2.2.2
  have hl : lv_has ls 4 [(0, .ref (ad 0)), (1, .int a1), (2, .int a2)] := hl
  have n_T_Y : ∀ w ∈ u_ws R_Y T_Y 29, w ∈ ws_Y_job := fun w h => List.mem_cons_of_mem _ (uT_Y w h)
  have f_119 : Cond.fieldLink R_Y 119 (T_Y 14).1 (T_Y 14).2.1 (T_Y 14).2.2.1 ∈ ws_Y_job := List.mem_cons_of_mem _ xw_322
  have f_131 : Cond.fieldLink R_Y 131 (T_Y 13).1 (T_Y 13).2.1 (T_Y 13).2.2.1 ∈ ws_Y_job := List.mem_cons_of_mem _ xw_324
  have w_152 : CallW rm_Y_job s args R_Y R_Y 152 y_Y_asks b_Y_asks 2 (some .boolean) ws_Y_asks rm_Y_asks 0 0 1 := cwV 1 hts (wB_callV (fun w h => List.mem_cons_of_mem _ h) xw_353 xw_354 xw_355 xw_356 xw_278) rfl rfl rfl (by decide +kernel) ⟨Nat.le_of_ble_eq_true rfl, Nat.le_of_ble_eq_true rfl⟩
  unfold j_Y_job at hj
  refine lv_aload_n hx hb d_Y_job_0 rfl (lv_at hl 0 rfl) ?_
  refine lv_iload_n hx hb d_Y_job_1 rfl (lv_at hl 2 rfl) ?_
  refine gw_put (v := .int a2) (ty := .int) S hw ya_R rfl (by decide) n_T_Y f_131 tk_Y nm_Y rfl (by decide +kernel) rfl rfl (Nat.le_of_ble_eq_true rfl) (ys_R 13 a2 (by decide)) d_Y_job_2 (fun H locs hw => ?_)
  refine lv_aload_n hx hb d_Y_job_5 rfl (lv_at hl 0 rfl) ?_
  refine lv_iload_n hx hb d_Y_job_6 rfl (lv_at hl 1 rfl) ?_
  obtain ⟨q_2, e_1, hj⟩ := Option.bind_eq_some_iff.mp hj
  refine gw_calli (As := [.int a1]) (rest := []) S hw (c_Y_asks e_1) w_152 ya_R rfl rfl hl.1 rfl (Nat.le_of_ble_eq_true rfl) d_Y_job_7 (fun H locs hw => ?_)
  refine lv_if_eq (tgt := 20) hx hb d_Y_job_10 (by decide) (fun c_3 => ?_) (fun c_3 => ?_)
  · rw [if_pos c_3] at hj
    refine lv_iconst (v := 0) hx hb d_Y_job_20 (by decide) ?_
    refine lv_istore_n (lv' := [(3, .int 0), (0, .ref (ad 0)), (1, .int a1), (2, .int a2)]) hx hb d_Y_job_21 rfl hl (by decide) rfl (fun ls hl => ?_)
    refine lv_aload_n hx hb d_Y_job_22 rfl (lv_at hl 1 rfl) ?_
    refine lv_iconst (v := -1) hx hb d_Y_job_23 (by decide) ?_
    refine gw_put (v := .int (-1)) (ty := .int) S hw ya_R rfl (by decide) n_T_Y f_131 tk_Y nm_Y rfl (by decide +kernel) rfl rfl (Nat.le_of_ble_eq_true rfl) (ys_R 13 (-1) (by decide)) d_Y_job_24 (fun H locs hw => ?_)
    refine lv_iload_n hx hb d_Y_job_27 rfl (lv_at hl 0 rfl) ?_
    exact hend H locs ls 28 _ _ (Prod.mk.inj (Option.some.inj hj)).1 (congrArg (wY cI cZ ad) (Prod.mk.inj (Option.some.inj hj)).2) hw d_Y_job_28
  · rw [if_neg c_3] at hj
    refine lv_aload_n hx hb d_Y_job_13 rfl (lv_at hl 0 rfl) ?_
    refine gw_get (v := .int (q_2.2.2 14)) S hw ya_R rfl (by decide) n_T_Y f_119 rfl d_Y_job_14 ?_
    refine lv_goto (tgt := 21) hx hb d_Y_job_17 (by decide) ?_
    refine lv_istore_n (lv' := [(3, .int (q_2.2.2 14)), (0, .ref (ad 0)), (1, .int a1), (2, .int a2)]) hx hb d_Y_job_21 rfl hl (by decide) rfl (fun ls hl => ?_)
    refine lv_aload_n hx hb d_Y_job_22 rfl (lv_at hl 1 rfl) ?_
    refine lv_iconst (v := -1) hx hb d_Y_job_23 (by decide) ?_
    refine gw_put (v := .int (-1)) (ty := .int) S hw ya_R rfl (by decide) n_T_Y f_131 tk_Y nm_Y rfl (by decide +kernel) rfl rfl (Nat.le_of_ble_eq_true rfl) (ys_R 13 (-1) (by decide)) d_Y_job_24 (fun H locs hw => ?_)
    refine lv_iload_n hx hb d_Y_job_27 rfl (lv_at hl 0 rfl) ?_
    exact hend H locs ls 28 _ _ (Prod.mk.inj (Option.some.inj hj)).1 (congrArg (wY cI cZ ad) (Prod.mk.inj (Option.some.inj hj)).2) hw d_Y_job_28
abbrev rm_Y_tolerates : Room := { frames := 3, cells := 0, slots := 0, locals := 70 }
def ws_Y_tolerates : List Cond := Cond.code y_Y_tolerates b_Y_tolerates 4 (some .int) :: wB
set_option maxHeartbeats 4000000 in
set_option maxRecDepth 100000 in
theorem c_Y_tolerates {l : Launch} {D : va_G} {cI cZ : ClassId} {ad : Nat → Nat} {n : Nat} {M : MY} {a1 : Int32} {r0 : Int32} {M0 : MY} (hj : j_Y_tolerates n M a1 = some (r0, M0)) : gw_Ci l y_Y_tolerates ws_Y_tolerates rm_Y_tolerates D (tyY cI cZ) (wY cI cZ ad M) [.ref (ad 0), .int a1] r0 (wY cI cZ ad M0) := by
  intro sz
  refine gw_meti (cc := b_Y_tolerates) (maxL := 4) (by decide) rfl (Nat.le_of_ble_eq_true rfl) ?_
  intro p e s m args below meth c A Q S H locs hw hend ls hl
  have S : CallFix p m c b_Y_tolerates 4 s args ws_Y_tolerates R_Y := S
  have hx := S.1
  have hb := S.2.1
  have hts := S.2.2.2.2
  have hl : lv_has ls 4 [(0, .ref (ad 0)), (1, .int a1)] := hl
  have n_T_Y : ∀ w ∈ u_ws R_Y T_Y 29, w ∈ ws_Y_tolerates := fun w h => List.mem_cons_of_mem _ (uT_Y w h)
  have f_17 : Cond.fieldLink R_Y 17 (T_Y 3).1 (T_Y 3).2.1 (T_Y 3).2.2.1 ∈ ws_Y_tolerates := List.mem_cons_of_mem _ xw_269
  have f_113 : Cond.fieldLink R_Y 113 (T_Y 11).1 (T_Y 11).2.1 (T_Y 11).2.2.1 ∈ ws_Y_tolerates := List.mem_cons_of_mem _ xw_320
  have f_122 : Cond.fieldLink R_Y 122 (T_Y 10).1 (T_Y 10).2.1 (T_Y 10).2.2.1 ∈ ws_Y_tolerates := List.mem_cons_of_mem _ xw_323
  have w_137 : CallW rm_Y_tolerates s args R_Y R_Y 137 y_Y_go b_Y_go 5 none ws_Y_go rm_Y_go 0 0 2 := cwV 2 hts (wB_callV (fun w h => List.mem_cons_of_mem _ h) xw_337 xw_338 xw_339 xw_340 xw_278) rfl rfl rfl (by decide +kernel) ⟨Nat.le_of_ble_eq_true rfl, Nat.le_of_ble_eq_true rfl⟩
  have L4 : ∀ (f4 : Nat) (v2_4 : Int32) (v3_4 : Int32) (M4 : MY), j_Y_tolerates_L4 n a1 f4 v2_4 v3_4 M4 = some (r0, M0) → ∀ (H : Heap) (locs : List Loc), gw_W D (tyY cI cZ) A (wY cI cZ ad M4) s H locs → ∀ ls : Array Slot, lv_has ls 4 [(0, .ref (ad 0)), (1, .int a1), (2, .int v2_4), (3, .int v3_4)] → W p l e rm_Y_tolerates s m args below meth c H locs 0 0 Q (F0 m 4 ls []) := by
    intro f4
    induction f4 with
    | zero =>
      intro v2_4 v3_4 M4 hj
      exact nomatch (show (none : Option (Int32 × MY)) = some (r0, M0) from hj)
    | succ f4 ih4 =>
      intro v2_4 v3_4 M4 hj H locs hw ls hl
      rw [j_Y_tolerates_L4] at hj
      refine lv_iload_n hx hb d_Y_tolerates_4 rfl (lv_at hl 3 rfl) ?_
      refine lv_if_eq (tgt := 60) hx hb d_Y_tolerates_5 (by decide) (fun c_1 => ?_) (fun c_1 => ?_)
      · rw [if_pos c_1] at hj
        refine lv_iload_n hx hb d_Y_tolerates_60 rfl (lv_at hl 2 rfl) ?_
        refine lv_iconst (v := 1) hx hb d_Y_tolerates_61 (by decide) ?_
        refine lv_isub hx hb d_Y_tolerates_62 ?_
        exact hend H locs ls 63 _ _ (Prod.mk.inj (Option.some.inj hj)).1 (congrArg (wY cI cZ ad) (Prod.mk.inj (Option.some.inj hj)).2) hw d_Y_tolerates_63
      · rw [if_neg c_1] at hj
        refine lv_iload_n hx hb d_Y_tolerates_8 rfl (lv_at hl 2 rfl) ?_
        refine lv_aload_n hx hb d_Y_tolerates_9 rfl (lv_at hl 0 rfl) ?_
        refine gw_get (v := .ref (ad 3)) S hw ya_R rfl (by decide) n_T_Y f_17 rfl d_Y_tolerates_10 ?_
        refine lv_iload_n hx hb d_Y_tolerates_13 rfl (lv_at hl 1 rfl) ?_
        obtain ⟨g_2, hj⟩ := gw_if hj
        refine gw_iald (t0 := 0) S hw ⟨ya_a3, rfl⟩ g_2 d_Y_tolerates_14 ?_
        refine lv_icmp_gt (tgt := 60) hx hb d_Y_tolerates_15 (by decide) (fun c_3 => ?_) (fun c_3 => ?_)
        · rw [if_pos c_3] at hj
          refine lv_iload_n hx hb d_Y_tolerates_60 rfl (lv_at hl 2 rfl) ?_
          refine lv_iconst (v := 1) hx hb d_Y_tolerates_61 (by decide) ?_
          refine lv_isub hx hb d_Y_tolerates_62 ?_
          exact hend H locs ls 63 _ _ (Prod.mk.inj (Option.some.inj hj)).1 (congrArg (wY cI cZ ad) (Prod.mk.inj (Option.some.inj hj)).2) hw d_Y_tolerates_63
        · rw [if_neg c_3] at hj
          refine lv_aload_n hx hb d_Y_tolerates_18 rfl (lv_at hl 0 rfl) ?_
          refine lv_iload_n hx hb d_Y_tolerates_19 rfl (lv_at hl 1 rfl) ?_
          refine lv_iload_n hx hb d_Y_tolerates_20 rfl (lv_at hl 2 rfl) ?_
          obtain ⟨M_5, e_4, hj⟩ := Option.bind_eq_some_iff.mp hj
          refine gw_callv (As := [.int a1, .int v2_4]) (rest := []) S hw (c_Y_go e_4) w_137 ya_R rfl rfl hl.1 rfl (Nat.le_of_ble_eq_true rfl) d_Y_tolerates_21 (fun H locs hw => ?_)
          refine lv_aload_n hx hb d_Y_tolerates_24 rfl (lv_at hl 0 rfl) ?_
          refine gw_get (v := .int (M_5.2 10)) S hw ya_R rfl (by decide) n_T_Y f_122 rfl d_Y_tolerates_25 ?_
          refine lv_if_ne (tgt := 48) hx hb d_Y_tolerates_28 (by decide) (fun c_6 => ?_) (fun c_6 => ?_)
          · rw [if_neg c_6] at hj
            refine lv_iconst (v := 0) hx hb d_Y_tolerates_48 (by decide) ?_
            refine lv_istore_n (lv' := [(3, .int 0), (0, .ref (ad 0)), (1, .int a1), (2, .int v2_4)]) hx hb d_Y_tolerates_49 rfl hl (by decide) rfl (fun ls hl => ?_)
            refine lv_iload_n hx hb d_Y_tolerates_50 rfl (lv_at hl 0 rfl) ?_
            refine lv_if_eq (tgt := 4) hx hb d_Y_tolerates_51 (by decide) (fun _ => ?_) (fun c_7 => absurd (by decide) c_7)
            exact ih4 v2_4 0 M_5 hj H locs hw ls (lv_sub hl [1, 2, 3, 0] rfl)
          · rw [if_pos c_6] at hj
            refine lv_aload_n hx hb d_Y_tolerates_31 rfl (lv_at hl 0 rfl) ?_
            refine gw_get (v := .int (M_5.2 11)) S hw ya_R rfl (by decide) n_T_Y f_113 rfl d_Y_tolerates_32 ?_
            refine lv_aload_n hx hb d_Y_tolerates_35 rfl (lv_at hl 0 rfl) ?_
            refine gw_get (v := .ref (ad 3)) S hw ya_R rfl (by decide) n_T_Y f_17 rfl d_Y_tolerates_36 ?_
            refine lv_iload_n hx hb d_Y_tolerates_39 rfl (lv_at hl 1 rfl) ?_
            obtain ⟨g_8, hj⟩ := gw_if hj
            refine gw_iald (t0 := 0) S hw ⟨ya_a3, rfl⟩ g_8 d_Y_tolerates_40 ?_
            refine lv_icmp_gt (tgt := 48) hx hb d_Y_tolerates_41 (by decide) (fun c_9 => ?_) (fun c_9 => ?_)
            · rw [if_pos c_9] at hj
              refine lv_iconst (v := 0) hx hb d_Y_tolerates_48 (by decide) ?_
              refine lv_istore_n (lv' := [(3, .int 0), (0, .ref (ad 0)), (1, .int a1), (2, .int v2_4)]) hx hb d_Y_tolerates_49 rfl hl (by decide) rfl (fun ls hl => ?_)
              refine lv_iload_n hx hb d_Y_tolerates_50 rfl (lv_at hl 0 rfl) ?_
              refine lv_if_eq (tgt := 4) hx hb d_Y_tolerates_51 (by decide) (fun _ => ?_) (fun c_10 => absurd (by decide) c_10)
              exact ih4 v2_4 0 M_5 hj H locs hw ls (lv_sub hl [1, 2, 3, 0] rfl)
            · rw [if_neg c_9] at hj
              refine lv_iconst (v := 1) hx hb d_Y_tolerates_44 (by decide) ?_
              refine lv_goto (tgt := 49) hx hb d_Y_tolerates_45 (by decide) ?_
              refine lv_istore_n (lv' := [(3, .int 1), (0, .ref (ad 0)), (1, .int a1), (2, .int v2_4)]) hx hb d_Y_tolerates_49 rfl hl (by decide) rfl (fun ls hl => ?_)
              refine lv_iload_n hx hb d_Y_tolerates_50 rfl (lv_at hl 0 rfl) ?_
              refine lv_if_eq (tgt := 4) hx hb d_Y_tolerates_51 (by decide) (fun c_11 => absurd c_11 (by decide)) (fun _ => ?_)
              refine lv_iinc (v := (v2_4 + 1)) (lv' := [(2, .int (v2_4 + 1)), (3, .int 1), (0, .ref (ad 0)), (1, .int a1)]) hx hb d_Y_tolerates_54 hl (k := 3) rfl rfl (by decide) rfl (fun ls hl => ?_)
              refine lv_goto (tgt := 4) hx hb d_Y_tolerates_57 (by decide) ?_
              exact ih4 (v2_4 + 1) 1 M_5 hj H locs hw ls (lv_sub hl [2, 3, 0, 1] rfl)
  unfold j_Y_tolerates at hj
  refine lv_iconst (v := 0) hx hb d_Y_tolerates_0 (by decide) ?_
  refine lv_istore_n (lv' := [(2, .int 0), (0, .ref (ad 0)), (1, .int a1)]) hx hb d_Y_tolerates_1 rfl hl (by decide) rfl (fun ls hl => ?_)
  refine lv_iconst (v := 1) hx hb d_Y_tolerates_2 (by decide) ?_
  refine lv_istore_n (lv' := [(3, .int 1), (2, .int 0), (0, .ref (ad 0)), (1, .int a1)]) hx hb d_Y_tolerates_3 rfl hl (by decide) rfl (fun ls hl => ?_)
  exact L4 n 0 1 M hj H locs hw ls (lv_sub hl [2, 3, 1, 0] rfl)
abbrev rm_Y_tolerance : Room := { frames := 4, cells := 0, slots := 0, locals := 93 }
def ws_Y_tolerance : List Cond := Cond.code y_Y_tolerance b_Y_tolerance 2 (some .int) :: wB
set_option maxHeartbeats 4000000 in
set_option maxRecDepth 100000 in
theorem c_Y_tolerance {l : Launch} {D : va_G} {cI cZ : ClassId} {ad : Nat → Nat} {n : Nat} {M : MY} {a1 : Int32} {r0 : Int32} {M0 : MY} (hj : j_Y_tolerance n M a1 = some (r0, M0)) : gw_Ci l y_Y_tolerance ws_Y_tolerance rm_Y_tolerance D (tyY cI cZ) (wY cI cZ ad M) [.ref (ad 0), .int a1] r0 (wY cI cZ ad M0) := by
  intro sz
  refine gw_meti (cc := b_Y_tolerance) (maxL := 2) (by decide) rfl (Nat.le_of_ble_eq_true rfl) ?_
  intro p e s m args below meth c A Q S H locs hw hend ls hl
  have S : CallFix p m c b_Y_tolerance 2 s args ws_Y_tolerance R_Y := S
  have hx := S.1
  have hb := S.2.1
  have hts := S.2.2.2.2
  have hl : lv_has ls 2 [(0, .ref (ad 0)), (1, .int a1)] := hl
  have n_T_Y : ∀ w ∈ u_ws R_Y T_Y 29, w ∈ ws_Y_tolerance := fun w h => List.mem_cons_of_mem _ (uT_Y w h)
  have f_62 : Cond.fieldLink R_Y 62 (T_Y 0).1 (T_Y 0).2.1 (T_Y 0).2.2.1 ∈ ws_Y_tolerance := List.mem_cons_of_mem _ xw_266
  have w_70 : CallW rm_Y_tolerance s args R_Y R_Y 70 y_Y_isTask b_Y_isTask 2 (some .boolean) ws_Y_isTask rm_Y_isTask 0 0 1 := cwV 1 hts (wB_callV (fun w h => List.mem_cons_of_mem _ h) xw_274 xw_275 xw_276 xw_277 xw_278) rfl rfl rfl (by decide +kernel) ⟨Nat.le_of_ble_eq_true rfl, Nat.le_of_ble_eq_true rfl⟩
  have w_141 : CallW rm_Y_tolerance s args R_Y R_Y 141 y_Y_isReady b_Y_isReady 3 (some .boolean) ws_Y_isReady rm_Y_isReady 0 0 0 := cwV 0 hts (wB_callV (fun w h => List.mem_cons_of_mem _ h) xw_341 xw_342 xw_343 xw_344 xw_278) rfl rfl rfl (by decide +kernel) ⟨Nat.le_of_ble_eq_true rfl, Nat.le_of_ble_eq_true rfl⟩
  have w_155 : CallW rm_Y_tolerance s args R_Y R_Y 155 y_Y_tolerates b_Y_tolerates 4 (some .int) ws_Y_tolerates rm_Y_tolerates 0 0 1 := cwV 1 hts (wB_callV (fun w h => List.mem_cons_of_mem _ h) xw_357 xw_358 xw_359 xw_360 xw_278) rfl rfl rfl (by decide +kernel) ⟨Nat.le_of_ble_eq_true rfl, Nat.le_of_ble_eq_true rfl⟩
  unfold j_Y_tolerance at hj
  refine lv_aload_n hx hb d_Y_tolerance_0 rfl (lv_at hl 0 rfl) ?_
  refine lv_aload_n hx hb d_Y_tolerance_1 rfl (lv_at hl 0 rfl) ?_
  refine lv_iload_n hx hb d_Y_tolerance_2 rfl (lv_at hl 1 rfl) ?_
  obtain ⟨r_2, e_1, hj⟩ := Option.bind_eq_some_iff.mp hj
  refine gw_calli (As := [.int a1]) (rest := [.ref (ad 0)]) S hw (c_Y_isTask e_1) w_70 ya_R rfl rfl hl.1 rfl (Nat.le_of_ble_eq_true rfl) d_Y_tolerance_3 (fun H locs hw => ?_)
  refine lv_if_ne (tgt := 13) hx hb d_Y_tolerance_6 (by decide) (fun c_3 => ?_) (fun c_3 => ?_)
  · rw [if_neg c_3] at hj
    refine lv_aload_n hx hb d_Y_tolerance_13 rfl (lv_at hl 0 rfl) ?_
    obtain ⟨r_5, e_4, hj⟩ := Option.bind_eq_some_iff.mp hj
    refine gw_calli (As := []) (rest := [.ref (ad 0)]) S hw (c_Y_isReady e_4) w_141 ya_R rfl rfl hl.1 rfl (Nat.le_of_ble_eq_true rfl) d_Y_tolerance_14 (fun H locs hw => ?_)
    refine lv_if_ne (tgt := 24) hx hb d_Y_tolerance_17 (by decide) (fun c_6 => ?_) (fun c_6 => ?_)
    · rw [if_neg c_6] at hj
      refine lv_iconst (v := 0) hx hb d_Y_tolerance_24 (by decide) ?_
      refine gw_put (v := .int 0) (ty := .int) S hw ya_R rfl (by decide) n_T_Y f_62 tk_Y nm_Y rfl (by decide +kernel) rfl rfl (Nat.le_of_ble_eq_true rfl) (ys_R 0 0 (by decide)) d_Y_tolerance_25 (fun H locs hw => ?_)
      refine lv_aload_n hx hb d_Y_tolerance_28 rfl (lv_at hl 0 rfl) ?_
      refine gw_get (v := .int ((sV M 0 0).2 0)) S hw ya_R rfl (by decide) n_T_Y f_62 rfl d_Y_tolerance_29 ?_
      refine lv_if_ne (tgt := 43) hx hb d_Y_tolerance_32 (by decide) (fun c_7 => ?_) (fun c_7 => ?_)
      · rw [if_neg c_7] at hj
        refine lv_iconst (v := 0) hx hb d_Y_tolerance_43 (by decide) ?_
        exact hend H locs ls 44 _ _ (Prod.mk.inj (Option.some.inj hj)).1 (congrArg (wY cI cZ ad) (Prod.mk.inj (Option.some.inj hj)).2) hw d_Y_tolerance_44
      · rw [if_pos c_7] at hj
        refine lv_aload_n hx hb d_Y_tolerance_35 rfl (lv_at hl 0 rfl) ?_
        refine lv_iload_n hx hb d_Y_tolerance_36 rfl (lv_at hl 1 rfl) ?_
        obtain ⟨q_9, e_8, hj⟩ := Option.bind_eq_some_iff.mp hj
        refine gw_calli (As := [.int a1]) (rest := []) S hw (c_Y_tolerates e_8) w_155 ya_R rfl rfl hl.1 rfl (Nat.le_of_ble_eq_true rfl) d_Y_tolerance_37 (fun H locs hw => ?_)
        refine lv_goto (tgt := 44) hx hb d_Y_tolerance_40 (by decide) ?_
        exact hend H locs ls 44 _ _ (Prod.mk.inj (Option.some.inj hj)).1 (congrArg (wY cI cZ ad) (Prod.mk.inj (Option.some.inj hj)).2) hw d_Y_tolerance_44
    · rw [if_pos c_6] at hj
      refine lv_iconst (v := 2) hx hb d_Y_tolerance_20 (by decide) ?_
      refine lv_goto (tgt := 25) hx hb d_Y_tolerance_21 (by decide) ?_
      refine gw_put (v := .int 2) (ty := .int) S hw ya_R rfl (by decide) n_T_Y f_62 tk_Y nm_Y rfl (by decide +kernel) rfl rfl (Nat.le_of_ble_eq_true rfl) (ys_R 0 2 (by decide)) d_Y_tolerance_25 (fun H locs hw => ?_)
      refine lv_aload_n hx hb d_Y_tolerance_28 rfl (lv_at hl 0 rfl) ?_
      refine gw_get (v := .int ((sV M 0 2).2 0)) S hw ya_R rfl (by decide) n_T_Y f_62 rfl d_Y_tolerance_29 ?_
      refine lv_if_ne (tgt := 43) hx hb d_Y_tolerance_32 (by decide) (fun c_10 => ?_) (fun c_10 => ?_)
      · rw [if_neg c_10] at hj
        refine lv_iconst (v := 0) hx hb d_Y_tolerance_43 (by decide) ?_
        exact hend H locs ls 44 _ _ (Prod.mk.inj (Option.some.inj hj)).1 (congrArg (wY cI cZ ad) (Prod.mk.inj (Option.some.inj hj)).2) hw d_Y_tolerance_44
      · rw [if_pos c_10] at hj
        refine lv_aload_n hx hb d_Y_tolerance_35 rfl (lv_at hl 0 rfl) ?_
        refine lv_iload_n hx hb d_Y_tolerance_36 rfl (lv_at hl 1 rfl) ?_
        obtain ⟨q_12, e_11, hj⟩ := Option.bind_eq_some_iff.mp hj
        refine gw_calli (As := [.int a1]) (rest := []) S hw (c_Y_tolerates e_11) w_155 ya_R rfl rfl hl.1 rfl (Nat.le_of_ble_eq_true rfl) d_Y_tolerance_37 (fun H locs hw => ?_)
        refine lv_goto (tgt := 44) hx hb d_Y_tolerance_40 (by decide) ?_
        exact hend H locs ls 44 _ _ (Prod.mk.inj (Option.some.inj hj)).1 (congrArg (wY cI cZ ad) (Prod.mk.inj (Option.some.inj hj)).2) hw d_Y_tolerance_44
  · rw [if_pos c_3] at hj
    refine lv_iconst (v := 1) hx hb d_Y_tolerance_9 (by decide) ?_
    refine lv_goto (tgt := 25) hx hb d_Y_tolerance_10 (by decide) ?_
    refine gw_put (v := .int 1) (ty := .int) S hw ya_R rfl (by decide) n_T_Y f_62 tk_Y nm_Y rfl (by decide +kernel) rfl rfl (Nat.le_of_ble_eq_true rfl) (ys_R 0 1 (by decide)) d_Y_tolerance_25 (fun H locs hw => ?_)
    refine lv_aload_n hx hb d_Y_tolerance_28 rfl (lv_at hl 0 rfl) ?_
    refine gw_get (v := .int ((sV M 0 1).2 0)) S hw ya_R rfl (by decide) n_T_Y f_62 rfl d_Y_tolerance_29 ?_
    refine lv_if_ne (tgt := 43) hx hb d_Y_tolerance_32 (by decide) (fun c_13 => ?_) (fun c_13 => ?_)
    · rw [if_neg c_13] at hj
      refine lv_iconst (v := 0) hx hb d_Y_tolerance_43 (by decide) ?_
      exact hend H locs ls 44 _ _ (Prod.mk.inj (Option.some.inj hj)).1 (congrArg (wY cI cZ ad) (Prod.mk.inj (Option.some.inj hj)).2) hw d_Y_tolerance_44
    · rw [if_pos c_13] at hj
      refine lv_aload_n hx hb d_Y_tolerance_35 rfl (lv_at hl 0 rfl) ?_
      refine lv_iload_n hx hb d_Y_tolerance_36 rfl (lv_at hl 1 rfl) ?_
      obtain ⟨q_15, e_14, hj⟩ := Option.bind_eq_some_iff.mp hj
      refine gw_calli (As := [.int a1]) (rest := []) S hw (c_Y_tolerates e_14) w_155 ya_R rfl rfl hl.1 rfl (Nat.le_of_ble_eq_true rfl) d_Y_tolerance_37 (fun H locs hw => ?_)
      refine lv_goto (tgt := 44) hx hb d_Y_tolerance_40 (by decide) ?_
      exact hend H locs ls 44 _ _ (Prod.mk.inj (Option.some.inj hj)).1 (congrArg (wY cI cZ ad) (Prod.mk.inj (Option.some.inj hj)).2) hw d_Y_tolerance_44
abbrev rm_Y_stretchOne : Room := { frames := 2, cells := 0, slots := 0, locals := 45 }
def ws_Y_stretchOne : List Cond := Cond.code y_Y_stretchOne b_Y_stretchOne 7 none :: wB
set_option maxHeartbeats 4000000 in
set_option maxRecDepth 100000 in
theorem c_Y_stretchOne {l : Launch} {D : va_G} {cI cZ : ClassId} {ad : Nat → Nat} {n : Nat} {M : MY} {a1 : Int32} {a2 : Int32} {M0 : MY} (hj : j_Y_stretchOne n M a1 a2 = some M0) : gw_Cv l y_Y_stretchOne ws_Y_stretchOne rm_Y_stretchOne D (tyY cI cZ) (wY cI cZ ad M) [.ref (ad 0), .int a1, .int a2] (wY cI cZ ad M0) := by
  intro sz
  refine gw_metv (cc := b_Y_stretchOne) (maxL := 7) (by decide) rfl (Nat.le_of_ble_eq_true rfl) ?_
  intro p e s m args below meth c A Q S H locs hw hend ls hl
  have S : CallFix p m c b_Y_stretchOne 7 s args ws_Y_stretchOne R_Y := S
  have hx := S.1
  have hb := S.2.1
  have hts := S.2.2.2.2
  have hl : lv_has ls 7 [(0, .ref (ad 0)), (1, .int a1), (2, .int a2)] := hl
  have n_T_Y : ∀ w ∈ u_ws R_Y T_Y 29, w ∈ ws_Y_stretchOne := fun w h => List.mem_cons_of_mem _ (uT_Y w h)
  have f_23 : Cond.fieldLink R_Y 23 (T_Y 5).1 (T_Y 5).2.1 (T_Y 5).2.2.1 ∈ ws_Y_stretchOne := List.mem_cons_of_mem _ xw_271
  have f_26 : Cond.fieldLink R_Y 26 (T_Y 6).1 (T_Y 6).2.1 (T_Y 6).2.2.1 ∈ ws_Y_stretchOne := List.mem_cons_of_mem _ xw_273
  have w_100 : CallW rm_Y_stretchOne s args R_Y R_Y 100 y_Y_work b_Y_work 2 (some .int) ws_Y_work rm_Y_work 0 0 1 := cwV 1 hts (wB_callV (fun w h => List.mem_cons_of_mem _ h) xw_305 xw_306 xw_307 xw_308 xw_278) rfl rfl rfl (by decide +kernel) ⟨Nat.le_of_ble_eq_true rfl, Nat.le_of_ble_eq_true rfl⟩
  have L14 : ∀ (z3_14 : Int32) (f14 : Nat) (v4_14 : Int32) (v5_14 : Int32) (M14 : MY), j_Y_stretchOne_L14 n a1 a2 z3_14 f14 v4_14 v5_14 M14 = some M0 → ∀ (H : Heap) (locs : List Loc), gw_W D (tyY cI cZ) A (wY cI cZ ad M14) s H locs → ∀ ls : Array Slot, lv_has ls 7 [(0, .ref (ad 0)), (1, .int a1), (2, .int a2), (3, .int z3_14), (4, .int v4_14), (5, .int v5_14)] → W p l e rm_Y_stretchOne s m args below meth c H locs 0 0 Q (F0 m 14 ls []) := by
    intro z3_14 f14
    induction f14 with
    | zero =>
      intro v4_14 v5_14 M14 hj
      exact nomatch (show (none : Option MY) = some M0 from hj)
    | succ f14 ih14 =>
      intro v4_14 v5_14 M14 hj H locs hw ls hl
      rw [j_Y_stretchOne_L14] at hj
      refine lv_iload hx hb d_Y_stretchOne_14 (lv_at hl 5 rfl) ?_
      refine lv_iload_n hx hb d_Y_stretchOne_16 rfl (lv_at hl 3 rfl) ?_
      refine lv_icmp_ge (tgt := 72) hx hb d_Y_stretchOne_17 (by decide) (fun c_3 => ?_) (fun c_3 => ?_)
      · rw [if_pos c_3] at hj
        refine lv_aload_n hx hb d_Y_stretchOne_72 rfl (lv_at hl 0 rfl) ?_
        refine gw_get (v := .ref (ad 6)) S hw ya_R rfl (by decide) n_T_Y f_26 rfl d_Y_stretchOne_73 ?_
        refine lv_bipush (v := 8) hx hb d_Y_stretchOne_76 (by decide) ?_
        refine lv_iload_n hx hb d_Y_stretchOne_78 rfl (lv_at hl 1 rfl) ?_
        refine lv_imul hx hb d_Y_stretchOne_79 ?_
        refine lv_iload hx hb d_Y_stretchOne_80 (lv_at hl 4 rfl) ?_
        refine lv_iadd hx hb d_Y_stretchOne_82 ?_
        refine lv_iload_n hx hb d_Y_stretchOne_83 rfl (lv_at hl 2 rfl) ?_
        obtain ⟨g_4, hj⟩ := gw_if hj
        refine gw_iast (t0 := 0) S hw ⟨ya_a6, rfl⟩ g_4 (ys_a6 ((8 * a1) + v4_14).toNatClampNeg a2) d_Y_stretchOne_84 (fun H locs hw => ?_)
        refine lv_aload_n hx hb d_Y_stretchOne_85 rfl (lv_at hl 0 rfl) ?_
        refine gw_get (v := .ref (ad 5)) S hw ya_R rfl (by decide) n_T_Y f_23 rfl d_Y_stretchOne_86 ?_
        refine lv_iload_n hx hb d_Y_stretchOne_89 rfl (lv_at hl 1 rfl) ?_
        refine lv_iload hx hb d_Y_stretchOne_90 (lv_at hl 4 rfl) ?_
        refine lv_iconst (v := 1) hx hb d_Y_stretchOne_92 (by decide) ?_
        refine lv_iadd hx hb d_Y_stretchOne_93 ?_
        obtain ⟨g_5, hj⟩ := gw_if hj
        refine gw_iast (t0 := 0) S hw ⟨ya_a5, rfl⟩ g_5 (ys_a5 a1.toNatClampNeg (v4_14 + 1)) d_Y_stretchOne_94 (fun H locs hw => ?_)
        exact hend H locs ls 95 _ (congrArg (wY cI cZ ad) (Option.some.inj hj)) hw d_Y_stretchOne_95
      · rw [if_neg c_3] at hj
        refine lv_bipush (v := 8) hx hb d_Y_stretchOne_20 (by decide) ?_
        refine lv_iload_n hx hb d_Y_stretchOne_22 rfl (lv_at hl 1 rfl) ?_
        refine lv_imul hx hb d_Y_stretchOne_23 ?_
        refine lv_iload hx hb d_Y_stretchOne_24 (lv_at hl 4 rfl) ?_
        refine lv_iadd hx hb d_Y_stretchOne_26 ?_
        refine lv_istore (lv' := [(6, .int ((8 * a1) + v4_14)), (0, .ref (ad 0)), (1, .int a1), (2, .int a2), (3, .int z3_14), (4, .int v4_14), (5, .int v5_14)]) hx hb d_Y_stretchOne_27 hl (by decide) rfl (fun ls hl => ?_)
        refine lv_iload hx hb d_Y_stretchOne_29 (lv_at hl 6 rfl) ?_
        refine lv_aload_n hx hb d_Y_stretchOne_31 rfl (lv_at hl 1 rfl) ?_
        refine gw_get (v := .ref (ad 6)) S hw ya_R rfl (by decide) n_T_Y f_26 rfl d_Y_stretchOne_32 ?_
        refine lv_iload hx hb d_Y_stretchOne_35 (lv_at hl 0 rfl) ?_
        obtain ⟨g_6, hj⟩ := gw_if hj
        refine gw_iald (t0 := 0) S hw ⟨ya_a6, rfl⟩ g_6 d_Y_stretchOne_37 ?_
        refine lv_iadd hx hb d_Y_stretchOne_38 ?_
        refine lv_iload_n hx hb d_Y_stretchOne_39 rfl (lv_at hl 4 rfl) ?_
        refine lv_icmp_le (tgt := 54) hx hb d_Y_stretchOne_40 (by decide) (fun c_7 => ?_) (fun c_7 => ?_)
        · rw [if_pos c_7] at hj
          refine lv_iload hx hb d_Y_stretchOne_54 (lv_at hl 6 rfl) ?_
          refine lv_aload_n hx hb d_Y_stretchOne_56 rfl (lv_at hl 1 rfl) ?_
          refine gw_get (v := .ref (ad 6)) S hw ya_R rfl (by decide) n_T_Y f_26 rfl d_Y_stretchOne_57 ?_
          refine lv_iload hx hb d_Y_stretchOne_60 (lv_at hl 0 rfl) ?_
          obtain ⟨g_8, hj⟩ := gw_if hj
          refine gw_iald (t0 := 0) S hw ⟨ya_a6, rfl⟩ g_8 d_Y_stretchOne_62 ?_
          refine lv_iadd hx hb d_Y_stretchOne_63 ?_
          refine lv_istore (lv' := [(5, .int (v5_14 + (M14.1 6 ((8 * a1) + v4_14).toNatClampNeg))), (6, .int ((8 * a1) + v4_14)), (0, .ref (ad 0)), (1, .int a1), (2, .int a2), (3, .int z3_14), (4, .int v4_14)]) hx hb d_Y_stretchOne_64 hl (by decide) rfl (fun ls hl => ?_)
          refine lv_iinc (v := (v4_14 + 1)) (lv' := [(4, .int (v4_14 + 1)), (5, .int (v5_14 + (M14.1 6 ((8 * a1) + v4_14).toNatClampNeg))), (6, .int ((8 * a1) + v4_14)), (0, .ref (ad 0)), (1, .int a1), (2, .int a2), (3, .int z3_14)]) hx hb d_Y_stretchOne_66 hl (k := 6) rfl rfl (by decide) rfl (fun ls hl => ?_)
          refine lv_goto (tgt := 14) hx hb d_Y_stretchOne_69 (by decide) ?_
          exact ih14 (v4_14 + 1) (v5_14 + (M14.1 6 ((8 * a1) + v4_14).toNatClampNeg)) M14 hj H locs hw ls (lv_sub hl [3, 4, 5, 6, 0, 1] rfl)
        · rw [if_neg c_7] at hj
          refine lv_aload_n hx hb d_Y_stretchOne_43 rfl (lv_at hl 1 rfl) ?_
          refine gw_get (v := .ref (ad 6)) S hw ya_R rfl (by decide) n_T_Y f_26 rfl d_Y_stretchOne_44 ?_
          refine lv_iload hx hb d_Y_stretchOne_47 (lv_at hl 0 rfl) ?_
          refine lv_iload_n hx hb d_Y_stretchOne_49 rfl (lv_at hl 4 rfl) ?_
          refine lv_iload hx hb d_Y_stretchOne_50 (lv_at hl 6 rfl) ?_
          refine lv_isub hx hb d_Y_stretchOne_52 ?_
          obtain ⟨g_9, hj⟩ := gw_if hj
          refine gw_iast (t0 := 0) S hw ⟨ya_a6, rfl⟩ g_9 (ys_a6 ((8 * a1) + v4_14).toNatClampNeg (z3_14 - v5_14)) d_Y_stretchOne_53 (fun H locs hw => ?_)
          refine lv_iload hx hb d_Y_stretchOne_54 (lv_at hl 6 rfl) ?_
          refine lv_aload_n hx hb d_Y_stretchOne_56 rfl (lv_at hl 1 rfl) ?_
          refine gw_get (v := .ref (ad 6)) S hw ya_R rfl (by decide) n_T_Y f_26 rfl d_Y_stretchOne_57 ?_
          refine lv_iload hx hb d_Y_stretchOne_60 (lv_at hl 0 rfl) ?_
          obtain ⟨g_10, hj⟩ := gw_if hj
          refine gw_iald (t0 := 0) S hw ⟨ya_a6, rfl⟩ g_10 d_Y_stretchOne_62 ?_
          refine lv_iadd hx hb d_Y_stretchOne_63 ?_
          refine lv_istore (lv' := [(5, .int (v5_14 + ((sA M14 6 ((8 * a1) + v4_14).toNatClampNeg (z3_14 - v5_14)).1 6 ((8 * a1) + v4_14).toNatClampNeg))), (6, .int ((8 * a1) + v4_14)), (0, .ref (ad 0)), (1, .int a1), (2, .int a2), (3, .int z3_14), (4, .int v4_14)]) hx hb d_Y_stretchOne_64 hl (by decide) rfl (fun ls hl => ?_)
          refine lv_iinc (v := (v4_14 + 1)) (lv' := [(4, .int (v4_14 + 1)), (5, .int (v5_14 + ((sA M14 6 ((8 * a1) + v4_14).toNatClampNeg (z3_14 - v5_14)).1 6 ((8 * a1) + v4_14).toNatClampNeg))), (6, .int ((8 * a1) + v4_14)), (0, .ref (ad 0)), (1, .int a1), (2, .int a2), (3, .int z3_14)]) hx hb d_Y_stretchOne_66 hl (k := 6) rfl rfl (by decide) rfl (fun ls hl => ?_)
          refine lv_goto (tgt := 14) hx hb d_Y_stretchOne_69 (by decide) ?_
          exact ih14 (v4_14 + 1) (v5_14 + ((sA M14 6 ((8 * a1) + v4_14).toNatClampNeg (z3_14 - v5_14)).1 6 ((8 * a1) + v4_14).toNatClampNeg)) (sA M14 6 ((8 * a1) + v4_14).toNatClampNeg (z3_14 - v5_14)) hj H locs hw ls (lv_sub hl [3, 4, 5, 6, 0, 1] rfl)
  unfold j_Y_stretchOne at hj
  refine lv_aload_n hx hb d_Y_stretchOne_0 rfl (lv_at hl 0 rfl) ?_
  refine lv_iload_n hx hb d_Y_stretchOne_1 rfl (lv_at hl 1 rfl) ?_
  obtain ⟨r_2, e_1, hj⟩ := Option.bind_eq_some_iff.mp hj
  refine gw_calli (As := [.int a1]) (rest := []) S hw (c_Y_work e_1) w_100 ya_R rfl rfl hl.1 rfl (Nat.le_of_ble_eq_true rfl) d_Y_stretchOne_2 (fun H locs hw => ?_)
  refine lv_iload_n hx hb d_Y_stretchOne_5 rfl (lv_at hl 2 rfl) ?_
  refine lv_isub hx hb d_Y_stretchOne_6 ?_
  refine lv_istore_n (lv' := [(3, .int (r_2 - a2)), (0, .ref (ad 0)), (1, .int a1), (2, .int a2)]) hx hb d_Y_stretchOne_7 rfl hl (by decide) rfl (fun ls hl => ?_)
  refine lv_iconst (v := 0) hx hb d_Y_stretchOne_8 (by decide) ?_
  refine lv_istore (lv' := [(4, .int 0), (3, .int (r_2 - a2)), (0, .ref (ad 0)), (1, .int a1), (2, .int a2)]) hx hb d_Y_stretchOne_9 hl (by decide) rfl (fun ls hl => ?_)
  refine lv_iconst (v := 0) hx hb d_Y_stretchOne_11 (by decide) ?_
  refine lv_istore (lv' := [(5, .int 0), (4, .int 0), (3, .int (r_2 - a2)), (0, .ref (ad 0)), (1, .int a1), (2, .int a2)]) hx hb d_Y_stretchOne_12 hl (by decide) rfl (fun ls hl => ?_)
  exact L14 (r_2 - a2) n 0 0 M hj H locs hw ls (lv_sub hl [3, 4, 5, 2, 1, 0] rfl)
abbrev rm_Y_stretch : Room := { frames := 4, cells := 0, slots := 0, locals := 93 }
def ws_Y_stretch : List Cond := Cond.code y_Y_stretch b_Y_stretch 7 (some .int) :: wB
set_option maxHeartbeats 4000000 in
set_option maxRecDepth 100000 in
theorem c_Y_stretch {l : Launch} {D : va_G} {cI cZ : ClassId} {ad : Nat → Nat} {n : Nat} {M : MY} {r0 : Int32} {M0 : MY} (hj : j_Y_stretch n M = some (r0, M0)) : gw_Ci l y_Y_stretch ws_Y_stretch rm_Y_stretch D (tyY cI cZ) (wY cI cZ ad M) [.ref (ad 0)] r0 (wY cI cZ ad M0) := by
  intro sz
  refine gw_meti (cc := b_Y_stretch) (maxL := 7) (by decide) rfl (Nat.le_of_ble_eq_true rfl) ?_
  intro p e s m args below meth c A Q S H locs hw hend ls hl
  have S : CallFix p m c b_Y_stretch 7 s args ws_Y_stretch R_Y := S
  have hx := S.1
  have hb := S.2.1
  have hts := S.2.2.2.2
  have hl : lv_has ls 7 [(0, .ref (ad 0))] := hl
  have n_T_Y : ∀ w ∈ u_ws R_Y T_Y 29, w ∈ ws_Y_stretch := fun w h => List.mem_cons_of_mem _ (uT_Y w h)
  have f_20 : Cond.fieldLink R_Y 20 (T_Y 4).1 (T_Y 4).2.1 (T_Y 4).2.2.1 ∈ ws_Y_stretch := List.mem_cons_of_mem _ xw_270
  have f_23 : Cond.fieldLink R_Y 23 (T_Y 5).1 (T_Y 5).2.1 (T_Y 5).2.2.1 ∈ ws_Y_stretch := List.mem_cons_of_mem _ xw_271
  have f_62 : Cond.fieldLink R_Y 62 (T_Y 0).1 (T_Y 0).2.1 (T_Y 0).2.2.1 ∈ ws_Y_stretch := List.mem_cons_of_mem _ xw_266
  have f_66 : Cond.fieldLink R_Y 66 (T_Y 25).1 (T_Y 25).2.1 (T_Y 25).2.2.1 ∈ ws_Y_stretch := List.mem_cons_of_mem _ xw_272
  have w_100 : CallW rm_Y_stretch s args R_Y R_Y 100 y_Y_work b_Y_work 2 (some .int) ws_Y_work rm_Y_work 0 0 1 := cwV 1 hts (wB_callV (fun w h => List.mem_cons_of_mem _ h) xw_305 xw_306 xw_307 xw_308 xw_278) rfl rfl rfl (by decide +kernel) ⟨Nat.le_of_ble_eq_true rfl, Nat.le_of_ble_eq_true rfl⟩
  have w_134 : CallW rm_Y_stretch s args R_Y R_Y 134 y_Y_highest b_Y_highest 4 (some .int) ws_Y_highest rm_Y_highest 0 0 1 := cwV 1 hts (wB_callV (fun w h => List.mem_cons_of_mem _ h) xw_333 xw_334 xw_335 xw_336 xw_278) rfl rfl rfl (by decide +kernel) ⟨Nat.le_of_ble_eq_true rfl, Nat.le_of_ble_eq_true rfl⟩
  have w_141 : CallW rm_Y_stretch s args R_Y R_Y 141 y_Y_isReady b_Y_isReady 3 (some .boolean) ws_Y_isReady rm_Y_isReady 0 0 0 := cwV 0 hts (wB_callV (fun w h => List.mem_cons_of_mem _ h) xw_341 xw_342 xw_343 xw_344 xw_278) rfl rfl rfl (by decide +kernel) ⟨Nat.le_of_ble_eq_true rfl, Nat.le_of_ble_eq_true rfl⟩
  have w_145 : CallW rm_Y_stretch s args R_Y R_Y 145 y_Y_raise b_Y_raise 2 (some .int) ws_Y_raise rm_Y_raise 0 0 1 := cwV 1 hts (wB_callV (fun w h => List.mem_cons_of_mem _ h) xw_345 xw_346 xw_347 xw_348 xw_278) rfl rfl rfl (by decide +kernel) ⟨Nat.le_of_ble_eq_true rfl, Nat.le_of_ble_eq_true rfl⟩
  have w_148 : CallW rm_Y_stretch s args R_Y R_Y 148 y_Y_admitted b_Y_admitted 2 (some .int) ws_Y_admitted rm_Y_admitted 0 0 0 := cwV 0 hts (wB_callV (fun w h => List.mem_cons_of_mem _ h) xw_349 xw_350 xw_351 xw_352 xw_278) rfl rfl rfl (by decide +kernel) ⟨Nat.le_of_ble_eq_true rfl, Nat.le_of_ble_eq_true rfl⟩
  have w_155 : CallW rm_Y_stretch s args R_Y R_Y 155 y_Y_tolerates b_Y_tolerates 4 (some .int) ws_Y_tolerates rm_Y_tolerates 0 0 1 := cwV 1 hts (wB_callV (fun w h => List.mem_cons_of_mem _ h) xw_357 xw_358 xw_359 xw_360 xw_278) rfl rfl rfl (by decide +kernel) ⟨Nat.le_of_ble_eq_true rfl, Nat.le_of_ble_eq_true rfl⟩
  have w_158 : CallW rm_Y_stretch s args R_Y R_Y 158 y_Y_stretchOne b_Y_stretchOne 7 none ws_Y_stretchOne rm_Y_stretchOne 0 0 2 := cwV 2 hts (wB_callV (fun w h => List.mem_cons_of_mem _ h) xw_361 xw_362 xw_363 xw_364 xw_278) rfl rfl rfl (by decide +kernel) ⟨Nat.le_of_ble_eq_true rfl, Nat.le_of_ble_eq_true rfl⟩
  have L47 : ∀ (f47 : Nat) (v1_47 : Int32) (v2_47 : Int32) (v3_47 : Int32) (v4_47 : Int32) (M47 : MY), j_Y_stretch_L47 n f47 v1_47 v2_47 v3_47 v4_47 M47 = some (r0, M0) → ∀ (H : Heap) (locs : List Loc), gw_W D (tyY cI cZ) A (wY cI cZ ad M47) s H locs → ∀ ls : Array Slot, lv_has ls 7 [(0, .ref (ad 0)), (1, .int v1_47), (2, .int v2_47), (3, .int v3_47), (4, .int v4_47)] → W p l e rm_Y_stretch s m args below meth c H locs 0 0 Q (F0 m 47 ls []) := by
    intro f47
    induction f47 with
    | zero =>
      intro v1_47 v2_47 v3_47 v4_47 M47 hj
      exact nomatch (show (none : Option (Int32 × MY)) = some (r0, M0) from hj)
    | succ f47 ih47 =>
      intro v1_47 v2_47 v3_47 v4_47 M47 hj H locs hw ls hl
      rw [j_Y_stretch_L47] at hj
      refine lv_iload hx hb d_Y_stretch_47 (lv_at hl 4 rfl) ?_
      refine lv_if_eq (tgt := 147) hx hb d_Y_stretch_49 (by decide) (fun c_14 => ?_) (fun c_14 => ?_)
      · rw [if_pos c_14] at hj
        refine lv_iload_n hx hb d_Y_stretch_147 rfl (lv_at hl 1 rfl) ?_
        refine lv_iload_n hx hb d_Y_stretch_148 rfl (lv_at hl 2 rfl) ?_
        refine lv_isub hx hb d_Y_stretch_149 ?_
        exact hend H locs ls 150 _ _ (Prod.mk.inj (Option.some.inj hj)).1 (congrArg (wY cI cZ ad) (Prod.mk.inj (Option.some.inj hj)).2) hw d_Y_stretch_150
      · rw [if_neg c_14] at hj
        refine lv_aload_n hx hb d_Y_stretch_52 rfl (lv_at hl 0 rfl) ?_
        refine lv_iload hx hb d_Y_stretch_53 (lv_at hl 4 rfl) ?_
        obtain ⟨r_16, e_15, hj⟩ := Option.bind_eq_some_iff.mp hj
        refine gw_calli (As := [.int v4_47]) (rest := []) S hw (c_Y_work e_15) w_100 ya_R rfl rfl hl.1 rfl (Nat.le_of_ble_eq_true rfl) d_Y_stretch_55 (fun H locs hw => ?_)
        refine lv_istore (lv' := [(5, .int r_16), (0, .ref (ad 0)), (1, .int v1_47), (2, .int v2_47), (3, .int v3_47), (4, .int v4_47)]) hx hb d_Y_stretch_58 hl (by decide) rfl (fun ls hl => ?_)
        refine lv_iload_n hx hb d_Y_stretch_60 rfl (lv_at hl 2 rfl) ?_
        refine lv_aload_n hx hb d_Y_stretch_61 rfl (lv_at hl 1 rfl) ?_
        refine gw_get (v := .ref (ad 5)) S hw ya_R rfl (by decide) n_T_Y f_23 rfl d_Y_stretch_62 ?_
        refine lv_iload hx hb d_Y_stretch_65 (lv_at hl 5 rfl) ?_
        obtain ⟨g_17, hj⟩ := gw_if hj
        refine gw_iald (t0 := 0) S hw ⟨ya_a5, rfl⟩ g_17 d_Y_stretch_67 ?_
        refine lv_iadd hx hb d_Y_stretch_68 ?_
        refine lv_istore_n (lv' := [(1, .int (v1_47 + (M47.1 5 v4_47.toNatClampNeg))), (5, .int r_16), (0, .ref (ad 0)), (2, .int v2_47), (3, .int v3_47), (4, .int v4_47)]) hx hb d_Y_stretch_69 rfl hl (by decide) rfl (fun ls hl => ?_)
        refine lv_aload_n hx hb d_Y_stretch_70 rfl (lv_at hl 2 rfl) ?_
        refine lv_iload hx hb d_Y_stretch_71 (lv_at hl 5 rfl) ?_
        refine lv_iload_n hx hb d_Y_stretch_73 rfl (lv_at hl 4 rfl) ?_
        refine lv_iconst (v := -1) hx hb d_Y_stretch_74 (by decide) ?_
        refine lv_icmp_eq (tgt := 84) hx hb d_Y_stretch_75 (by decide) (fun c_18 => ?_) (fun c_18 => ?_)
        · rw [if_pos c_18] at hj
          refine lv_iload hx hb d_Y_stretch_84 (lv_at hl 1 rfl) ?_
          refine lv_goto (tgt := 90) hx hb d_Y_stretch_86 (by decide) ?_
          obtain ⟨M_20, e_19, hj⟩ := Option.bind_eq_some_iff.mp hj
          refine gw_callv (As := [.int v4_47, .int r_16]) (rest := []) S hw (c_Y_stretchOne e_19) w_158 ya_R rfl rfl hl.1 rfl (Nat.le_of_ble_eq_true rfl) d_Y_stretch_90 (fun H locs hw => ?_)
          refine lv_iload_n hx hb d_Y_stretch_93 rfl (lv_at hl 3 rfl) ?_
          refine lv_aload_n hx hb d_Y_stretch_94 rfl (lv_at hl 2 rfl) ?_
          refine gw_get (v := .ref (ad 5)) S hw ya_R rfl (by decide) n_T_Y f_23 rfl d_Y_stretch_95 ?_
          refine lv_iload hx hb d_Y_stretch_98 (lv_at hl 5 rfl) ?_
          obtain ⟨g_21, hj⟩ := gw_if hj
          refine gw_iald (t0 := 0) S hw ⟨ya_a5, rfl⟩ g_21 d_Y_stretch_100 ?_
          refine lv_iadd hx hb d_Y_stretch_101 ?_
          refine lv_istore_n (lv' := [(2, .int (v2_47 + (M_20.1 5 v4_47.toNatClampNeg))), (1, .int (v1_47 + (M47.1 5 v4_47.toNatClampNeg))), (5, .int r_16), (0, .ref (ad 0)), (3, .int v3_47), (4, .int v4_47)]) hx hb d_Y_stretch_102 rfl hl (by decide) rfl (fun ls hl => ?_)
          refine lv_aload_n hx hb d_Y_stretch_103 rfl (lv_at hl 3 rfl) ?_
          refine lv_iload hx hb d_Y_stretch_104 (lv_at hl 5 rfl) ?_
          obtain ⟨q_23, e_22, hj⟩ := Option.bind_eq_some_iff.mp hj
          refine gw_calli (As := [.int v4_47]) (rest := []) S hw (c_Y_tolerates e_22) w_155 ya_R rfl rfl hl.1 rfl (Nat.le_of_ble_eq_true rfl) d_Y_stretch_106 (fun H locs hw => ?_)
          refine lv_iconst (v := 1) hx hb d_Y_stretch_109 (by decide) ?_
          refine lv_iadd hx hb d_Y_stretch_110 ?_
          refine lv_istore (lv' := [(6, .int (q_23.1 + 1)), (2, .int (v2_47 + (M_20.1 5 v4_47.toNatClampNeg))), (1, .int (v1_47 + (M47.1 5 v4_47.toNatClampNeg))), (5, .int r_16), (0, .ref (ad 0)), (3, .int v3_47), (4, .int v4_47)]) hx hb d_Y_stretch_111 hl (by decide) rfl (fun ls hl => ?_)
          refine lv_iload_n hx hb d_Y_stretch_113 rfl (lv_at hl 5 rfl) ?_
          refine lv_iconst (v := -1) hx hb d_Y_stretch_114 (by decide) ?_
          refine lv_icmp_eq (tgt := 124) hx hb d_Y_stretch_115 (by decide) (fun c_24 => ?_) (fun c_24 => ?_)
          · rw [if_pos c_24] at hj
            refine lv_iload hx hb d_Y_stretch_124 (lv_at hl 0 rfl) ?_
            refine lv_goto (tgt := 130) hx hb d_Y_stretch_126 (by decide) ?_
            refine lv_istore_n (lv' := [(3, .int (q_23.1 + 1)), (6, .int (q_23.1 + 1)), (2, .int (v2_47 + (M_20.1 5 v4_47.toNatClampNeg))), (1, .int (v1_47 + (M47.1 5 v4_47.toNatClampNeg))), (5, .int r_16), (0, .ref (ad 0)), (4, .int v4_47)]) hx hb d_Y_stretch_130 rfl hl (by decide) rfl (fun ls hl => ?_)
            refine lv_aload_n hx hb d_Y_stretch_131 rfl (lv_at hl 5 rfl) ?_
            refine lv_aload_n hx hb d_Y_stretch_132 rfl (lv_at hl 5 rfl) ?_
            refine gw_get (v := .ref (ad 4)) S hw ya_R rfl (by decide) n_T_Y f_20 rfl d_Y_stretch_133 ?_
            refine lv_iload hx hb d_Y_stretch_136 (lv_at hl 6 rfl) ?_
            obtain ⟨g_25, hj⟩ := gw_if hj
            refine gw_iald (t0 := 0) S hw ⟨ya_a4, rfl⟩ g_25 d_Y_stretch_138 ?_
            obtain ⟨r_27, e_26, hj⟩ := Option.bind_eq_some_iff.mp hj
            refine gw_calli (As := [.int (q_23.2.1 4 v4_47.toNatClampNeg)]) (rest := []) S hw (c_Y_highest e_26) w_134 ya_R rfl rfl hl.1 rfl (Nat.le_of_ble_eq_true rfl) d_Y_stretch_139 (fun H locs hw => ?_)
            refine lv_istore (lv' := [(4, .int r_27), (3, .int (q_23.1 + 1)), (6, .int (q_23.1 + 1)), (2, .int (v2_47 + (M_20.1 5 v4_47.toNatClampNeg))), (1, .int (v1_47 + (M47.1 5 v4_47.toNatClampNeg))), (5, .int r_16), (0, .ref (ad 0))]) hx hb d_Y_stretch_142 hl (by decide) rfl (fun ls hl => ?_)
            refine lv_goto (tgt := 47) hx hb d_Y_stretch_144 (by decide) ?_
            exact ih47 (v1_47 + (M47.1 5 v4_47.toNatClampNeg)) (v2_47 + (M_20.1 5 v4_47.toNatClampNeg)) (q_23.1 + 1) r_27 q_23.2 hj H locs hw ls (lv_sub hl [6, 4, 3, 1, 0] rfl)
          · rw [if_neg c_24] at hj
            refine lv_iload hx hb d_Y_stretch_118 (lv_at hl 0 rfl) ?_
            refine lv_iload_n hx hb d_Y_stretch_120 rfl (lv_at hl 5 rfl) ?_
            refine lv_icmp_ge (tgt := 129) hx hb d_Y_stretch_121 (by decide) (fun c_28 => ?_) (fun c_28 => ?_)
            · rw [if_pos c_28] at hj
              refine lv_iload_n hx hb d_Y_stretch_129 rfl (lv_at hl 5 rfl) ?_
              refine lv_istore_n (lv' := [(3, .int v3_47), (6, .int (q_23.1 + 1)), (2, .int (v2_47 + (M_20.1 5 v4_47.toNatClampNeg))), (1, .int (v1_47 + (M47.1 5 v4_47.toNatClampNeg))), (5, .int r_16), (0, .ref (ad 0)), (4, .int v4_47)]) hx hb d_Y_stretch_130 rfl hl (by decide) rfl (fun ls hl => ?_)
              refine lv_aload_n hx hb d_Y_stretch_131 rfl (lv_at hl 5 rfl) ?_
              refine lv_aload_n hx hb d_Y_stretch_132 rfl (lv_at hl 5 rfl) ?_
              refine gw_get (v := .ref (ad 4)) S hw ya_R rfl (by decide) n_T_Y f_20 rfl d_Y_stretch_133 ?_
              refine lv_iload hx hb d_Y_stretch_136 (lv_at hl 6 rfl) ?_
              obtain ⟨g_29, hj⟩ := gw_if hj
              refine gw_iald (t0 := 0) S hw ⟨ya_a4, rfl⟩ g_29 d_Y_stretch_138 ?_
              obtain ⟨r_31, e_30, hj⟩ := Option.bind_eq_some_iff.mp hj
              refine gw_calli (As := [.int (q_23.2.1 4 v4_47.toNatClampNeg)]) (rest := []) S hw (c_Y_highest e_30) w_134 ya_R rfl rfl hl.1 rfl (Nat.le_of_ble_eq_true rfl) d_Y_stretch_139 (fun H locs hw => ?_)
              refine lv_istore (lv' := [(4, .int r_31), (3, .int v3_47), (6, .int (q_23.1 + 1)), (2, .int (v2_47 + (M_20.1 5 v4_47.toNatClampNeg))), (1, .int (v1_47 + (M47.1 5 v4_47.toNatClampNeg))), (5, .int r_16), (0, .ref (ad 0))]) hx hb d_Y_stretch_142 hl (by decide) rfl (fun ls hl => ?_)
              refine lv_goto (tgt := 47) hx hb d_Y_stretch_144 (by decide) ?_
              exact ih47 (v1_47 + (M47.1 5 v4_47.toNatClampNeg)) (v2_47 + (M_20.1 5 v4_47.toNatClampNeg)) v3_47 r_31 q_23.2 hj H locs hw ls (lv_sub hl [6, 4, 3, 1, 0] rfl)
            · rw [if_neg c_28] at hj
              refine lv_iload hx hb d_Y_stretch_124 (lv_at hl 0 rfl) ?_
              refine lv_goto (tgt := 130) hx hb d_Y_stretch_126 (by decide) ?_
              refine lv_istore_n (lv' := [(3, .int (q_23.1 + 1)), (6, .int (q_23.1 + 1)), (2, .int (v2_47 + (M_20.1 5 v4_47.toNatClampNeg))), (1, .int (v1_47 + (M47.1 5 v4_47.toNatClampNeg))), (5, .int r_16), (0, .ref (ad 0)), (4, .int v4_47)]) hx hb d_Y_stretch_130 rfl hl (by decide) rfl (fun ls hl => ?_)
              refine lv_aload_n hx hb d_Y_stretch_131 rfl (lv_at hl 5 rfl) ?_
              refine lv_aload_n hx hb d_Y_stretch_132 rfl (lv_at hl 5 rfl) ?_
              refine gw_get (v := .ref (ad 4)) S hw ya_R rfl (by decide) n_T_Y f_20 rfl d_Y_stretch_133 ?_
              refine lv_iload hx hb d_Y_stretch_136 (lv_at hl 6 rfl) ?_
              obtain ⟨g_32, hj⟩ := gw_if hj
              refine gw_iald (t0 := 0) S hw ⟨ya_a4, rfl⟩ g_32 d_Y_stretch_138 ?_
              obtain ⟨r_34, e_33, hj⟩ := Option.bind_eq_some_iff.mp hj
              refine gw_calli (As := [.int (q_23.2.1 4 v4_47.toNatClampNeg)]) (rest := []) S hw (c_Y_highest e_33) w_134 ya_R rfl rfl hl.1 rfl (Nat.le_of_ble_eq_true rfl) d_Y_stretch_139 (fun H locs hw => ?_)
              refine lv_istore (lv' := [(4, .int r_34), (3, .int (q_23.1 + 1)), (6, .int (q_23.1 + 1)), (2, .int (v2_47 + (M_20.1 5 v4_47.toNatClampNeg))), (1, .int (v1_47 + (M47.1 5 v4_47.toNatClampNeg))), (5, .int r_16), (0, .ref (ad 0))]) hx hb d_Y_stretch_142 hl (by decide) rfl (fun ls hl => ?_)
              refine lv_goto (tgt := 47) hx hb d_Y_stretch_144 (by decide) ?_
              exact ih47 (v1_47 + (M47.1 5 v4_47.toNatClampNeg)) (v2_47 + (M_20.1 5 v4_47.toNatClampNeg)) (q_23.1 + 1) r_34 q_23.2 hj H locs hw ls (lv_sub hl [6, 4, 3, 1, 0] rfl)
        · rw [if_neg c_18] at hj
          refine lv_iload_n hx hb d_Y_stretch_78 rfl (lv_at hl 4 rfl) ?_
          refine lv_iload hx hb d_Y_stretch_79 (lv_at hl 1 rfl) ?_
          refine lv_icmp_le (tgt := 89) hx hb d_Y_stretch_81 (by decide) (fun c_35 => ?_) (fun c_35 => ?_)
          · rw [if_pos c_35] at hj
            refine lv_iload_n hx hb d_Y_stretch_89 rfl (lv_at hl 4 rfl) ?_
            obtain ⟨M_37, e_36, hj⟩ := Option.bind_eq_some_iff.mp hj
            refine gw_callv (As := [.int v4_47, .int v3_47]) (rest := []) S hw (c_Y_stretchOne e_36) w_158 ya_R rfl rfl hl.1 rfl (Nat.le_of_ble_eq_true rfl) d_Y_stretch_90 (fun H locs hw => ?_)
            refine lv_iload_n hx hb d_Y_stretch_93 rfl (lv_at hl 3 rfl) ?_
            refine lv_aload_n hx hb d_Y_stretch_94 rfl (lv_at hl 2 rfl) ?_
            refine gw_get (v := .ref (ad 5)) S hw ya_R rfl (by decide) n_T_Y f_23 rfl d_Y_stretch_95 ?_
            refine lv_iload hx hb d_Y_stretch_98 (lv_at hl 5 rfl) ?_
            obtain ⟨g_38, hj⟩ := gw_if hj
            refine gw_iald (t0 := 0) S hw ⟨ya_a5, rfl⟩ g_38 d_Y_stretch_100 ?_
            refine lv_iadd hx hb d_Y_stretch_101 ?_
            refine lv_istore_n (lv' := [(2, .int (v2_47 + (M_37.1 5 v4_47.toNatClampNeg))), (1, .int (v1_47 + (M47.1 5 v4_47.toNatClampNeg))), (5, .int r_16), (0, .ref (ad 0)), (3, .int v3_47), (4, .int v4_47)]) hx hb d_Y_stretch_102 rfl hl (by decide) rfl (fun ls hl => ?_)
            refine lv_aload_n hx hb d_Y_stretch_103 rfl (lv_at hl 3 rfl) ?_
            refine lv_iload hx hb d_Y_stretch_104 (lv_at hl 5 rfl) ?_
            obtain ⟨q_40, e_39, hj⟩ := Option.bind_eq_some_iff.mp hj
            refine gw_calli (As := [.int v4_47]) (rest := []) S hw (c_Y_tolerates e_39) w_155 ya_R rfl rfl hl.1 rfl (Nat.le_of_ble_eq_true rfl) d_Y_stretch_106 (fun H locs hw => ?_)
            refine lv_iconst (v := 1) hx hb d_Y_stretch_109 (by decide) ?_
            refine lv_iadd hx hb d_Y_stretch_110 ?_
            refine lv_istore (lv' := [(6, .int (q_40.1 + 1)), (2, .int (v2_47 + (M_37.1 5 v4_47.toNatClampNeg))), (1, .int (v1_47 + (M47.1 5 v4_47.toNatClampNeg))), (5, .int r_16), (0, .ref (ad 0)), (3, .int v3_47), (4, .int v4_47)]) hx hb d_Y_stretch_111 hl (by decide) rfl (fun ls hl => ?_)
            refine lv_iload_n hx hb d_Y_stretch_113 rfl (lv_at hl 5 rfl) ?_
            refine lv_iconst (v := -1) hx hb d_Y_stretch_114 (by decide) ?_
            refine lv_icmp_eq (tgt := 124) hx hb d_Y_stretch_115 (by decide) (fun c_41 => ?_) (fun c_41 => ?_)
            · rw [if_pos c_41] at hj
              refine lv_iload hx hb d_Y_stretch_124 (lv_at hl 0 rfl) ?_
              refine lv_goto (tgt := 130) hx hb d_Y_stretch_126 (by decide) ?_
              refine lv_istore_n (lv' := [(3, .int (q_40.1 + 1)), (6, .int (q_40.1 + 1)), (2, .int (v2_47 + (M_37.1 5 v4_47.toNatClampNeg))), (1, .int (v1_47 + (M47.1 5 v4_47.toNatClampNeg))), (5, .int r_16), (0, .ref (ad 0)), (4, .int v4_47)]) hx hb d_Y_stretch_130 rfl hl (by decide) rfl (fun ls hl => ?_)
              refine lv_aload_n hx hb d_Y_stretch_131 rfl (lv_at hl 5 rfl) ?_
              refine lv_aload_n hx hb d_Y_stretch_132 rfl (lv_at hl 5 rfl) ?_
              refine gw_get (v := .ref (ad 4)) S hw ya_R rfl (by decide) n_T_Y f_20 rfl d_Y_stretch_133 ?_
              refine lv_iload hx hb d_Y_stretch_136 (lv_at hl 6 rfl) ?_
              obtain ⟨g_42, hj⟩ := gw_if hj
              refine gw_iald (t0 := 0) S hw ⟨ya_a4, rfl⟩ g_42 d_Y_stretch_138 ?_
              obtain ⟨r_44, e_43, hj⟩ := Option.bind_eq_some_iff.mp hj
              refine gw_calli (As := [.int (q_40.2.1 4 v4_47.toNatClampNeg)]) (rest := []) S hw (c_Y_highest e_43) w_134 ya_R rfl rfl hl.1 rfl (Nat.le_of_ble_eq_true rfl) d_Y_stretch_139 (fun H locs hw => ?_)
              refine lv_istore (lv' := [(4, .int r_44), (3, .int (q_40.1 + 1)), (6, .int (q_40.1 + 1)), (2, .int (v2_47 + (M_37.1 5 v4_47.toNatClampNeg))), (1, .int (v1_47 + (M47.1 5 v4_47.toNatClampNeg))), (5, .int r_16), (0, .ref (ad 0))]) hx hb d_Y_stretch_142 hl (by decide) rfl (fun ls hl => ?_)
              refine lv_goto (tgt := 47) hx hb d_Y_stretch_144 (by decide) ?_
              exact ih47 (v1_47 + (M47.1 5 v4_47.toNatClampNeg)) (v2_47 + (M_37.1 5 v4_47.toNatClampNeg)) (q_40.1 + 1) r_44 q_40.2 hj H locs hw ls (lv_sub hl [6, 4, 3, 1, 0] rfl)
            · rw [if_neg c_41] at hj
              refine lv_iload hx hb d_Y_stretch_118 (lv_at hl 0 rfl) ?_
              refine lv_iload_n hx hb d_Y_stretch_120 rfl (lv_at hl 5 rfl) ?_
              refine lv_icmp_ge (tgt := 129) hx hb d_Y_stretch_121 (by decide) (fun c_45 => ?_) (fun c_45 => ?_)
              · rw [if_pos c_45] at hj
                refine lv_iload_n hx hb d_Y_stretch_129 rfl (lv_at hl 5 rfl) ?_
                refine lv_istore_n (lv' := [(3, .int v3_47), (6, .int (q_40.1 + 1)), (2, .int (v2_47 + (M_37.1 5 v4_47.toNatClampNeg))), (1, .int (v1_47 + (M47.1 5 v4_47.toNatClampNeg))), (5, .int r_16), (0, .ref (ad 0)), (4, .int v4_47)]) hx hb d_Y_stretch_130 rfl hl (by decide) rfl (fun ls hl => ?_)
                refine lv_aload_n hx hb d_Y_stretch_131 rfl (lv_at hl 5 rfl) ?_
                refine lv_aload_n hx hb d_Y_stretch_132 rfl (lv_at hl 5 rfl) ?_
                refine gw_get (v := .ref (ad 4)) S hw ya_R rfl (by decide) n_T_Y f_20 rfl d_Y_stretch_133 ?_
                refine lv_iload hx hb d_Y_stretch_136 (lv_at hl 6 rfl) ?_
                obtain ⟨g_46, hj⟩ := gw_if hj
                refine gw_iald (t0 := 0) S hw ⟨ya_a4, rfl⟩ g_46 d_Y_stretch_138 ?_
                obtain ⟨r_48, e_47, hj⟩ := Option.bind_eq_some_iff.mp hj
                refine gw_calli (As := [.int (q_40.2.1 4 v4_47.toNatClampNeg)]) (rest := []) S hw (c_Y_highest e_47) w_134 ya_R rfl rfl hl.1 rfl (Nat.le_of_ble_eq_true rfl) d_Y_stretch_139 (fun H locs hw => ?_)
                refine lv_istore (lv' := [(4, .int r_48), (3, .int v3_47), (6, .int (q_40.1 + 1)), (2, .int (v2_47 + (M_37.1 5 v4_47.toNatClampNeg))), (1, .int (v1_47 + (M47.1 5 v4_47.toNatClampNeg))), (5, .int r_16), (0, .ref (ad 0))]) hx hb d_Y_stretch_142 hl (by decide) rfl (fun ls hl => ?_)
                refine lv_goto (tgt := 47) hx hb d_Y_stretch_144 (by decide) ?_
                exact ih47 (v1_47 + (M47.1 5 v4_47.toNatClampNeg)) (v2_47 + (M_37.1 5 v4_47.toNatClampNeg)) v3_47 r_48 q_40.2 hj H locs hw ls (lv_sub hl [6, 4, 3, 1, 0] rfl)
              · rw [if_neg c_45] at hj
                refine lv_iload hx hb d_Y_stretch_124 (lv_at hl 0 rfl) ?_
                refine lv_goto (tgt := 130) hx hb d_Y_stretch_126 (by decide) ?_
                refine lv_istore_n (lv' := [(3, .int (q_40.1 + 1)), (6, .int (q_40.1 + 1)), (2, .int (v2_47 + (M_37.1 5 v4_47.toNatClampNeg))), (1, .int (v1_47 + (M47.1 5 v4_47.toNatClampNeg))), (5, .int r_16), (0, .ref (ad 0)), (4, .int v4_47)]) hx hb d_Y_stretch_130 rfl hl (by decide) rfl (fun ls hl => ?_)
                refine lv_aload_n hx hb d_Y_stretch_131 rfl (lv_at hl 5 rfl) ?_
                refine lv_aload_n hx hb d_Y_stretch_132 rfl (lv_at hl 5 rfl) ?_
                refine gw_get (v := .ref (ad 4)) S hw ya_R rfl (by decide) n_T_Y f_20 rfl d_Y_stretch_133 ?_
                refine lv_iload hx hb d_Y_stretch_136 (lv_at hl 6 rfl) ?_
                obtain ⟨g_49, hj⟩ := gw_if hj
                refine gw_iald (t0 := 0) S hw ⟨ya_a4, rfl⟩ g_49 d_Y_stretch_138 ?_
                obtain ⟨r_51, e_50, hj⟩ := Option.bind_eq_some_iff.mp hj
                refine gw_calli (As := [.int (q_40.2.1 4 v4_47.toNatClampNeg)]) (rest := []) S hw (c_Y_highest e_50) w_134 ya_R rfl rfl hl.1 rfl (Nat.le_of_ble_eq_true rfl) d_Y_stretch_139 (fun H locs hw => ?_)
                refine lv_istore (lv' := [(4, .int r_51), (3, .int (q_40.1 + 1)), (6, .int (q_40.1 + 1)), (2, .int (v2_47 + (M_37.1 5 v4_47.toNatClampNeg))), (1, .int (v1_47 + (M47.1 5 v4_47.toNatClampNeg))), (5, .int r_16), (0, .ref (ad 0))]) hx hb d_Y_stretch_142 hl (by decide) rfl (fun ls hl => ?_)
                refine lv_goto (tgt := 47) hx hb d_Y_stretch_144 (by decide) ?_
                exact ih47 (v1_47 + (M47.1 5 v4_47.toNatClampNeg)) (v2_47 + (M_37.1 5 v4_47.toNatClampNeg)) (q_40.1 + 1) r_51 q_40.2 hj H locs hw ls (lv_sub hl [6, 4, 3, 1, 0] rfl)
          · rw [if_neg c_35] at hj
            refine lv_iload hx hb d_Y_stretch_84 (lv_at hl 1 rfl) ?_
            refine lv_goto (tgt := 90) hx hb d_Y_stretch_86 (by decide) ?_
            obtain ⟨M_53, e_52, hj⟩ := Option.bind_eq_some_iff.mp hj
            refine gw_callv (As := [.int v4_47, .int r_16]) (rest := []) S hw (c_Y_stretchOne e_52) w_158 ya_R rfl rfl hl.1 rfl (Nat.le_of_ble_eq_true rfl) d_Y_stretch_90 (fun H locs hw => ?_)
            refine lv_iload_n hx hb d_Y_stretch_93 rfl (lv_at hl 3 rfl) ?_
            refine lv_aload_n hx hb d_Y_stretch_94 rfl (lv_at hl 2 rfl) ?_
            refine gw_get (v := .ref (ad 5)) S hw ya_R rfl (by decide) n_T_Y f_23 rfl d_Y_stretch_95 ?_
            refine lv_iload hx hb d_Y_stretch_98 (lv_at hl 5 rfl) ?_
            obtain ⟨g_54, hj⟩ := gw_if hj
            refine gw_iald (t0 := 0) S hw ⟨ya_a5, rfl⟩ g_54 d_Y_stretch_100 ?_
            refine lv_iadd hx hb d_Y_stretch_101 ?_
            refine lv_istore_n (lv' := [(2, .int (v2_47 + (M_53.1 5 v4_47.toNatClampNeg))), (1, .int (v1_47 + (M47.1 5 v4_47.toNatClampNeg))), (5, .int r_16), (0, .ref (ad 0)), (3, .int v3_47), (4, .int v4_47)]) hx hb d_Y_stretch_102 rfl hl (by decide) rfl (fun ls hl => ?_)
            refine lv_aload_n hx hb d_Y_stretch_103 rfl (lv_at hl 3 rfl) ?_
            refine lv_iload hx hb d_Y_stretch_104 (lv_at hl 5 rfl) ?_
            obtain ⟨q_56, e_55, hj⟩ := Option.bind_eq_some_iff.mp hj
            refine gw_calli (As := [.int v4_47]) (rest := []) S hw (c_Y_tolerates e_55) w_155 ya_R rfl rfl hl.1 rfl (Nat.le_of_ble_eq_true rfl) d_Y_stretch_106 (fun H locs hw => ?_)
            refine lv_iconst (v := 1) hx hb d_Y_stretch_109 (by decide) ?_
            refine lv_iadd hx hb d_Y_stretch_110 ?_
            refine lv_istore (lv' := [(6, .int (q_56.1 + 1)), (2, .int (v2_47 + (M_53.1 5 v4_47.toNatClampNeg))), (1, .int (v1_47 + (M47.1 5 v4_47.toNatClampNeg))), (5, .int r_16), (0, .ref (ad 0)), (3, .int v3_47), (4, .int v4_47)]) hx hb d_Y_stretch_111 hl (by decide) rfl (fun ls hl => ?_)
            refine lv_iload_n hx hb d_Y_stretch_113 rfl (lv_at hl 5 rfl) ?_
            refine lv_iconst (v := -1) hx hb d_Y_stretch_114 (by decide) ?_
            refine lv_icmp_eq (tgt := 124) hx hb d_Y_stretch_115 (by decide) (fun c_57 => ?_) (fun c_57 => ?_)
            · rw [if_pos c_57] at hj
              refine lv_iload hx hb d_Y_stretch_124 (lv_at hl 0 rfl) ?_
              refine lv_goto (tgt := 130) hx hb d_Y_stretch_126 (by decide) ?_
              refine lv_istore_n (lv' := [(3, .int (q_56.1 + 1)), (6, .int (q_56.1 + 1)), (2, .int (v2_47 + (M_53.1 5 v4_47.toNatClampNeg))), (1, .int (v1_47 + (M47.1 5 v4_47.toNatClampNeg))), (5, .int r_16), (0, .ref (ad 0)), (4, .int v4_47)]) hx hb d_Y_stretch_130 rfl hl (by decide) rfl (fun ls hl => ?_)
              refine lv_aload_n hx hb d_Y_stretch_131 rfl (lv_at hl 5 rfl) ?_
              refine lv_aload_n hx hb d_Y_stretch_132 rfl (lv_at hl 5 rfl) ?_
              refine gw_get (v := .ref (ad 4)) S hw ya_R rfl (by decide) n_T_Y f_20 rfl d_Y_stretch_133 ?_
              refine lv_iload hx hb d_Y_stretch_136 (lv_at hl 6 rfl) ?_
              obtain ⟨g_58, hj⟩ := gw_if hj
              refine gw_iald (t0 := 0) S hw ⟨ya_a4, rfl⟩ g_58 d_Y_stretch_138 ?_
              obtain ⟨r_60, e_59, hj⟩ := Option.bind_eq_some_iff.mp hj
              refine gw_calli (As := [.int (q_56.2.1 4 v4_47.toNatClampNeg)]) (rest := []) S hw (c_Y_highest e_59) w_134 ya_R rfl rfl hl.1 rfl (Nat.le_of_ble_eq_true rfl) d_Y_stretch_139 (fun H locs hw => ?_)
              refine lv_istore (lv' := [(4, .int r_60), (3, .int (q_56.1 + 1)), (6, .int (q_56.1 + 1)), (2, .int (v2_47 + (M_53.1 5 v4_47.toNatClampNeg))), (1, .int (v1_47 + (M47.1 5 v4_47.toNatClampNeg))), (5, .int r_16), (0, .ref (ad 0))]) hx hb d_Y_stretch_142 hl (by decide) rfl (fun ls hl => ?_)
              refine lv_goto (tgt := 47) hx hb d_Y_stretch_144 (by decide) ?_
              exact ih47 (v1_47 + (M47.1 5 v4_47.toNatClampNeg)) (v2_47 + (M_53.1 5 v4_47.toNatClampNeg)) (q_56.1 + 1) r_60 q_56.2 hj H locs hw ls (lv_sub hl [6, 4, 3, 1, 0] rfl)
            · rw [if_neg c_57] at hj
              refine lv_iload hx hb d_Y_stretch_118 (lv_at hl 0 rfl) ?_
              refine lv_iload_n hx hb d_Y_stretch_120 rfl (lv_at hl 5 rfl) ?_
              refine lv_icmp_ge (tgt := 129) hx hb d_Y_stretch_121 (by decide) (fun c_61 => ?_) (fun c_61 => ?_)
              · rw [if_pos c_61] at hj
                refine lv_iload_n hx hb d_Y_stretch_129 rfl (lv_at hl 5 rfl) ?_
                refine lv_istore_n (lv' := [(3, .int v3_47), (6, .int (q_56.1 + 1)), (2, .int (v2_47 + (M_53.1 5 v4_47.toNatClampNeg))), (1, .int (v1_47 + (M47.1 5 v4_47.toNatClampNeg))), (5, .int r_16), (0, .ref (ad 0)), (4, .int v4_47)]) hx hb d_Y_stretch_130 rfl hl (by decide) rfl (fun ls hl => ?_)
                refine lv_aload_n hx hb d_Y_stretch_131 rfl (lv_at hl 5 rfl) ?_
                refine lv_aload_n hx hb d_Y_stretch_132 rfl (lv_at hl 5 rfl) ?_
                refine gw_get (v := .ref (ad 4)) S hw ya_R rfl (by decide) n_T_Y f_20 rfl d_Y_stretch_133 ?_
                refine lv_iload hx hb d_Y_stretch_136 (lv_at hl 6 rfl) ?_
                obtain ⟨g_62, hj⟩ := gw_if hj
                refine gw_iald (t0 := 0) S hw ⟨ya_a4, rfl⟩ g_62 d_Y_stretch_138 ?_
                obtain ⟨r_64, e_63, hj⟩ := Option.bind_eq_some_iff.mp hj
                refine gw_calli (As := [.int (q_56.2.1 4 v4_47.toNatClampNeg)]) (rest := []) S hw (c_Y_highest e_63) w_134 ya_R rfl rfl hl.1 rfl (Nat.le_of_ble_eq_true rfl) d_Y_stretch_139 (fun H locs hw => ?_)
                refine lv_istore (lv' := [(4, .int r_64), (3, .int v3_47), (6, .int (q_56.1 + 1)), (2, .int (v2_47 + (M_53.1 5 v4_47.toNatClampNeg))), (1, .int (v1_47 + (M47.1 5 v4_47.toNatClampNeg))), (5, .int r_16), (0, .ref (ad 0))]) hx hb d_Y_stretch_142 hl (by decide) rfl (fun ls hl => ?_)
                refine lv_goto (tgt := 47) hx hb d_Y_stretch_144 (by decide) ?_
                exact ih47 (v1_47 + (M47.1 5 v4_47.toNatClampNeg)) (v2_47 + (M_53.1 5 v4_47.toNatClampNeg)) v3_47 r_64 q_56.2 hj H locs hw ls (lv_sub hl [6, 4, 3, 1, 0] rfl)
              · rw [if_neg c_61] at hj
                refine lv_iload hx hb d_Y_stretch_124 (lv_at hl 0 rfl) ?_
                refine lv_goto (tgt := 130) hx hb d_Y_stretch_126 (by decide) ?_
                refine lv_istore_n (lv' := [(3, .int (q_56.1 + 1)), (6, .int (q_56.1 + 1)), (2, .int (v2_47 + (M_53.1 5 v4_47.toNatClampNeg))), (1, .int (v1_47 + (M47.1 5 v4_47.toNatClampNeg))), (5, .int r_16), (0, .ref (ad 0)), (4, .int v4_47)]) hx hb d_Y_stretch_130 rfl hl (by decide) rfl (fun ls hl => ?_)
                refine lv_aload_n hx hb d_Y_stretch_131 rfl (lv_at hl 5 rfl) ?_
                refine lv_aload_n hx hb d_Y_stretch_132 rfl (lv_at hl 5 rfl) ?_
                refine gw_get (v := .ref (ad 4)) S hw ya_R rfl (by decide) n_T_Y f_20 rfl d_Y_stretch_133 ?_
                refine lv_iload hx hb d_Y_stretch_136 (lv_at hl 6 rfl) ?_
                obtain ⟨g_65, hj⟩ := gw_if hj
                refine gw_iald (t0 := 0) S hw ⟨ya_a4, rfl⟩ g_65 d_Y_stretch_138 ?_
                obtain ⟨r_67, e_66, hj⟩ := Option.bind_eq_some_iff.mp hj
                refine gw_calli (As := [.int (q_56.2.1 4 v4_47.toNatClampNeg)]) (rest := []) S hw (c_Y_highest e_66) w_134 ya_R rfl rfl hl.1 rfl (Nat.le_of_ble_eq_true rfl) d_Y_stretch_139 (fun H locs hw => ?_)
                refine lv_istore (lv' := [(4, .int r_67), (3, .int (q_56.1 + 1)), (6, .int (q_56.1 + 1)), (2, .int (v2_47 + (M_53.1 5 v4_47.toNatClampNeg))), (1, .int (v1_47 + (M47.1 5 v4_47.toNatClampNeg))), (5, .int r_16), (0, .ref (ad 0))]) hx hb d_Y_stretch_142 hl (by decide) rfl (fun ls hl => ?_)
                refine lv_goto (tgt := 47) hx hb d_Y_stretch_144 (by decide) ?_
                exact ih47 (v1_47 + (M47.1 5 v4_47.toNatClampNeg)) (v2_47 + (M_53.1 5 v4_47.toNatClampNeg)) (q_56.1 + 1) r_67 q_56.2 hj H locs hw ls (lv_sub hl [6, 4, 3, 1, 0] rfl)
  unfold j_Y_stretch at hj
  refine lv_aload_n hx hb d_Y_stretch_0 rfl (lv_at hl 0 rfl) ?_
  obtain ⟨r_2, e_1, hj⟩ := Option.bind_eq_some_iff.mp hj
  refine gw_calli (As := []) (rest := []) S hw (c_Y_isReady e_1) w_141 ya_R rfl rfl hl.1 rfl (Nat.le_of_ble_eq_true rfl) d_Y_stretch_1 (fun H locs hw => ?_)
  refine lv_if_eq (tgt := 22) hx hb d_Y_stretch_4 (by decide) (fun c_3 => ?_) (fun c_3 => ?_)
  · rw [if_pos c_3] at hj
    refine lv_aload_n hx hb d_Y_stretch_22 rfl (lv_at hl 0 rfl) ?_
    refine lv_iconst (v := 1) hx hb d_Y_stretch_23 (by decide) ?_
    obtain ⟨q_5, e_4, hj⟩ := Option.bind_eq_some_iff.mp hj
    refine gw_calli (As := [.int 1]) (rest := []) S hw (c_Y_raise e_4) w_145 ya_R rfl rfl hl.1 rfl (Nat.le_of_ble_eq_true rfl) d_Y_stretch_24 (fun H locs hw => ?_)
    exact hend H locs ls 27 _ _ (Prod.mk.inj (Option.some.inj hj)).1 (congrArg (wY cI cZ ad) (Prod.mk.inj (Option.some.inj hj)).2) hw d_Y_stretch_27
  · rw [if_neg c_3] at hj
    refine lv_aload_n hx hb d_Y_stretch_7 rfl (lv_at hl 0 rfl) ?_
    refine gw_get (v := .int (M.2 25)) S hw ya_R rfl (by decide) n_T_Y f_66 rfl d_Y_stretch_8 ?_
    refine lv_if_ne (tgt := 22) hx hb d_Y_stretch_11 (by decide) (fun c_6 => ?_) (fun c_6 => ?_)
    · rw [if_neg c_6] at hj
      refine lv_aload_n hx hb d_Y_stretch_22 rfl (lv_at hl 0 rfl) ?_
      refine lv_iconst (v := 1) hx hb d_Y_stretch_23 (by decide) ?_
      obtain ⟨q_8, e_7, hj⟩ := Option.bind_eq_some_iff.mp hj
      refine gw_calli (As := [.int 1]) (rest := []) S hw (c_Y_raise e_7) w_145 ya_R rfl rfl hl.1 rfl (Nat.le_of_ble_eq_true rfl) d_Y_stretch_24 (fun H locs hw => ?_)
      exact hend H locs ls 27 _ _ (Prod.mk.inj (Option.some.inj hj)).1 (congrArg (wY cI cZ ad) (Prod.mk.inj (Option.some.inj hj)).2) hw d_Y_stretch_27
    · rw [if_pos c_6] at hj
      refine lv_aload_n hx hb d_Y_stretch_14 rfl (lv_at hl 0 rfl) ?_
      obtain ⟨q_10, e_9, hj⟩ := Option.bind_eq_some_iff.mp hj
      refine gw_calli (As := []) (rest := []) S hw (c_Y_admitted e_9) w_148 ya_R rfl rfl hl.1 rfl (Nat.le_of_ble_eq_true rfl) d_Y_stretch_15 (fun H locs hw => ?_)
      refine lv_iconst (v := 1) hx hb d_Y_stretch_18 (by decide) ?_
      refine lv_icmp_eq (tgt := 28) hx hb d_Y_stretch_19 (by decide) (fun c_11 => ?_) (fun c_11 => ?_)
      · rw [if_pos c_11] at hj
        refine lv_aload_n hx hb d_Y_stretch_28 rfl (lv_at hl 0 rfl) ?_
        refine lv_iconst (v := 0) hx hb d_Y_stretch_29 (by decide) ?_
        refine gw_put (v := .int 0) (ty := .int) S hw ya_R rfl (by decide) n_T_Y f_62 tk_Y nm_Y rfl (by decide +kernel) rfl rfl (Nat.le_of_ble_eq_true rfl) (ys_R 0 0 (by decide)) d_Y_stretch_30 (fun H locs hw => ?_)
        refine lv_iconst (v := 0) hx hb d_Y_stretch_33 (by decide) ?_
        refine lv_istore_n (lv' := [(1, .int 0), (0, .ref (ad 0))]) hx hb d_Y_stretch_34 rfl hl (by decide) rfl (fun ls hl => ?_)
        refine lv_iconst (v := 0) hx hb d_Y_stretch_35 (by decide) ?_
        refine lv_istore_n (lv' := [(2, .int 0), (1, .int 0), (0, .ref (ad 0))]) hx hb d_Y_stretch_36 rfl hl (by decide) rfl (fun ls hl => ?_)
        refine lv_iconst (v := -1) hx hb d_Y_stretch_37 (by decide) ?_
        refine lv_istore_n (lv' := [(3, .int (-1)), (2, .int 0), (1, .int 0), (0, .ref (ad 0))]) hx hb d_Y_stretch_38 rfl hl (by decide) rfl (fun ls hl => ?_)
        refine lv_aload_n hx hb d_Y_stretch_39 rfl (lv_at hl 3 rfl) ?_
        refine lv_bipush (v := 100) hx hb d_Y_stretch_40 (by decide) ?_
        obtain ⟨r_13, e_12, hj⟩ := Option.bind_eq_some_iff.mp hj
        refine gw_calli (As := [.int 100]) (rest := []) S hw (c_Y_highest e_12) w_134 ya_R rfl rfl hl.1 rfl (Nat.le_of_ble_eq_true rfl) d_Y_stretch_42 (fun H locs hw => ?_)
        refine lv_istore (lv' := [(4, .int r_13), (3, .int (-1)), (2, .int 0), (1, .int 0), (0, .ref (ad 0))]) hx hb d_Y_stretch_45 hl (by decide) rfl (fun ls hl => ?_)
        exact L47 n 0 0 (-1) r_13 (sV q_10.2 0 0) hj H locs hw ls (lv_sub hl [4, 3, 2, 1, 0] rfl)
      · rw [if_neg c_11] at hj
        refine lv_aload_n hx hb d_Y_stretch_22 rfl (lv_at hl 0 rfl) ?_
        refine lv_iconst (v := 1) hx hb d_Y_stretch_23 (by decide) ?_
        obtain ⟨q_69, e_68, hj⟩ := Option.bind_eq_some_iff.mp hj
        refine gw_calli (As := [.int 1]) (rest := []) S hw (c_Y_raise e_68) w_145 ya_R rfl rfl hl.1 rfl (Nat.le_of_ble_eq_true rfl) d_Y_stretch_24 (fun H locs hw => ?_)
        exact hend H locs ls 27 _ _ (Prod.mk.inj (Option.some.inj hj)).1 (congrArg (wY cI cZ ad) (Prod.mk.inj (Option.some.inj hj)).2) hw d_Y_stretch_27
abbrev rm_Y_scenario : Room := { frames := 4, cells := 0, slots := 0, locals := 91 }
def ws_Y_scenario : List Cond := Cond.code y_Y_scenario b_Y_scenario 11 (some .int) :: wB
set_option maxHeartbeats 4000000 in
set_option maxRecDepth 100000 in
theorem c_Y_scenario {l : Launch} {D : va_G} {cI cZ : ClassId} {ad : Nat → Nat} {n : Nat} {M : MY} {a1 : Int32} {a2 : Int32} {a3 : Int32} {r0 : Int32} {M0 : MY} (hj : j_Y_scenario n M a1 a2 a3 = some (r0, M0)) : gw_Ci l y_Y_scenario ws_Y_scenario rm_Y_scenario D (tyY cI cZ) (wY cI cZ ad M) [.ref (ad 0), .int a1, .int a2, .int a3] r0 (wY cI cZ ad M0) := by
  intro sz
  refine gw_meti (cc := b_Y_scenario) (maxL := 11) (by decide) rfl (Nat.le_of_ble_eq_true rfl) ?_
  intro p e s m args below meth c A Q S H locs hw hend ls hl
  have S : CallFix p m c b_Y_scenario 11 s args ws_Y_scenario R_Y := S
  have hx := S.1
  have hb := S.2.1
  have hts := S.2.2.2.2
  have hl : lv_has ls 11 [(0, .ref (ad 0)), (1, .int a1), (2, .int a2), (3, .int a3)] := hl
  have n_T_Y : ∀ w ∈ u_ws R_Y T_Y 29, w ∈ ws_Y_scenario := fun w h => List.mem_cons_of_mem _ (uT_Y w h)
  have f_13 : Cond.fieldLink R_Y 13 (T_Y 2).1 (T_Y 2).2.1 (T_Y 2).2.2.1 ∈ ws_Y_scenario := List.mem_cons_of_mem _ xw_268
  have f_20 : Cond.fieldLink R_Y 20 (T_Y 4).1 (T_Y 4).2.1 (T_Y 4).2.2.1 ∈ ws_Y_scenario := List.mem_cons_of_mem _ xw_270
  have f_26 : Cond.fieldLink R_Y 26 (T_Y 6).1 (T_Y 6).2.1 (T_Y 6).2.2.1 ∈ ws_Y_scenario := List.mem_cons_of_mem _ xw_273
  have f_113 : Cond.fieldLink R_Y 113 (T_Y 11).1 (T_Y 11).2.1 (T_Y 11).2.2.1 ∈ ws_Y_scenario := List.mem_cons_of_mem _ xw_320
  have f_116 : Cond.fieldLink R_Y 116 (T_Y 12).1 (T_Y 12).2.1 (T_Y 12).2.2.1 ∈ ws_Y_scenario := List.mem_cons_of_mem _ xw_321
  have w_89 : CallW rm_Y_scenario s args R_Y R_Y 89 y_Y_workBefore b_Y_workBefore 5 (some .int) ws_Y_workBefore rm_Y_workBefore 0 0 2 := cwV 2 hts (wB_callV (fun w h => List.mem_cons_of_mem _ h) xw_293 xw_294 xw_295 xw_296 xw_278) rfl rfl rfl (by decide +kernel) ⟨Nat.le_of_ble_eq_true rfl, Nat.le_of_ble_eq_true rfl⟩
  have w_93 : CallW rm_Y_scenario s args R_Y R_Y 93 y_Y_longestOf b_Y_longestOf 4 (some .int) ws_Y_longestOf rm_Y_longestOf 0 0 1 := cwV 1 hts (wB_callV (fun w h => List.mem_cons_of_mem _ h) xw_297 xw_298 xw_299 xw_300 xw_278) rfl rfl rfl (by decide +kernel) ⟨Nat.le_of_ble_eq_true rfl, Nat.le_of_ble_eq_true rfl⟩
  have w_103 : CallW rm_Y_scenario s args R_Y R_Y 103 y_Y_blocking b_Y_blocking 2 (some .int) ws_Y_blocking rm_Y_blocking 0 0 1 := cwV 1 hts (wB_callV (fun w h => List.mem_cons_of_mem _ h) xw_309 xw_310 xw_311 xw_312 xw_278) rfl rfl rfl (by decide +kernel) ⟨Nat.le_of_ble_eq_true rfl, Nat.le_of_ble_eq_true rfl⟩
  have w_134 : CallW rm_Y_scenario s args R_Y R_Y 134 y_Y_highest b_Y_highest 4 (some .int) ws_Y_highest rm_Y_highest 0 0 1 := cwV 1 hts (wB_callV (fun w h => List.mem_cons_of_mem _ h) xw_333 xw_334 xw_335 xw_336 xw_278) rfl rfl rfl (by decide +kernel) ⟨Nat.le_of_ble_eq_true rfl, Nat.le_of_ble_eq_true rfl⟩
  have w_152 : CallW rm_Y_scenario s args R_Y R_Y 152 y_Y_asks b_Y_asks 2 (some .boolean) ws_Y_asks rm_Y_asks 0 0 1 := cwV 1 hts (wB_callV (fun w h => List.mem_cons_of_mem _ h) xw_353 xw_354 xw_355 xw_356 xw_278) rfl rfl rfl (by decide +kernel) ⟨Nat.le_of_ble_eq_true rfl, Nat.le_of_ble_eq_true rfl⟩
  have L193 : ∀ (z4_193 : Int32) (z5_193 : Int32) (z6_193 : Int32) (z8_193 : Int32) (z9_193 : Int32) (kk178 : Int32 → Int32 → MY → Option (Int32 × MY)) (hk178 : ∀ (v7_178 : Int32) (v9_178 : Int32) (M178 : MY), kk178 v7_178 v9_178 M178 = some (r0, M0) → ∀ (H : Heap) (locs : List Loc), gw_W D (tyY cI cZ) A (wY cI cZ ad M178) s H locs → ∀ ls : Array Slot, lv_has ls 11 [(0, .ref (ad 0)), (1, .int a1), (2, .int a2), (3, .int a3), (4, .int z4_193), (5, .int z5_193), (6, .int z6_193), (8, .int z8_193), (7, .int v7_178), (9, .int v9_178)] → W p l e rm_Y_scenario s m args below meth c H locs 0 0 Q (F0 m 178 ls [])) (f193 : Nat) (v7_193 : Int32) (v10_193 : Int32) (M193 : MY), j_Y_scenario_L193 n a1 a2 a3 z4_193 z5_193 z6_193 z8_193 z9_193 kk178 f193 v7_193 v10_193 M193 = some (r0, M0) → ∀ (H : Heap) (locs : List Loc), gw_W D (tyY cI cZ) A (wY cI cZ ad M193) s H locs → ∀ ls : Array Slot, lv_has ls 11 [(0, .ref (ad 0)), (1, .int a1), (2, .int a2), (3, .int a3), (4, .int z4_193), (5, .int z5_193), (6, .int z6_193), (8, .int z8_193), (9, .int z9_193), (7, .int v7_193), (10, .int v10_193)] → W p l e rm_Y_scenario s m args below meth c H locs 0 0 Q (F0 m 193 ls []) := by
    intro z4_193 z5_193 z6_193 z8_193 z9_193 kk178 hk178 f193
    induction f193 with
    | zero =>
      intro v7_193 v10_193 M193 hj
      exact nomatch (show (none : Option (Int32 × MY)) = some (r0, M0) from hj)
    | succ f193 ih193 =>
      intro v7_193 v10_193 M193 hj H locs hw ls hl
      rw [j_Y_scenario_L193] at hj
      refine lv_iload hx hb d_Y_scenario_193 (lv_at hl 10 rfl) ?_
      refine lv_if_eq (tgt := 293) hx hb d_Y_scenario_195 (by decide) (fun c_16 => ?_) (fun c_16 => ?_)
      · rw [if_pos c_16] at hj
        refine lv_iinc (v := (z9_193 + 1)) (lv' := [(9, .int (z9_193 + 1)), (0, .ref (ad 0)), (1, .int a1), (2, .int a2), (3, .int a3), (4, .int z4_193), (5, .int z5_193), (6, .int z6_193), (8, .int z8_193), (7, .int v7_193), (10, .int v10_193)]) hx hb d_Y_scenario_293 hl (k := 8) rfl rfl (by decide) rfl (fun ls hl => ?_)
        refine lv_goto (tgt := 178) hx hb d_Y_scenario_296 (by decide) ?_
        exact hk178 v7_193 (z9_193 + 1) M193 hj H locs hw ls (lv_sub hl [1, 2, 3, 4, 5, 6, 7, 8, 9, 0] rfl)
      · rw [if_neg c_16] at hj
        refine lv_aload_n hx hb d_Y_scenario_198 rfl (lv_at hl 0 rfl) ?_
        refine gw_get (v := .ref (ad 4)) S hw ya_R rfl (by decide) n_T_Y f_20 rfl d_Y_scenario_199 ?_
        refine lv_iload hx hb d_Y_scenario_202 (lv_at hl 10 rfl) ?_
        obtain ⟨g_17, hj⟩ := gw_if hj
        refine gw_iald (t0 := 0) S hw ⟨ya_a4, rfl⟩ g_17 d_Y_scenario_204 ?_
        refine lv_aload_n hx hb d_Y_scenario_205 rfl (lv_at hl 0 rfl) ?_
        refine gw_get (v := .ref (ad 4)) S hw ya_R rfl (by decide) n_T_Y f_20 rfl d_Y_scenario_206 ?_
        refine lv_iload_n hx hb d_Y_scenario_209 rfl (lv_at hl 1 rfl) ?_
        obtain ⟨g_18, hj⟩ := gw_if hj
        refine gw_iald (t0 := 0) S hw ⟨ya_a4, rfl⟩ g_18 d_Y_scenario_210 ?_
        refine lv_icmp_lt (tgt := 293) hx hb d_Y_scenario_211 (by decide) (fun c_19 => ?_) (fun c_19 => ?_)
        · rw [if_pos c_19] at hj
          refine lv_iinc (v := (z9_193 + 1)) (lv' := [(9, .int (z9_193 + 1)), (0, .ref (ad 0)), (1, .int a1), (2, .int a2), (3, .int a3), (4, .int z4_193), (5, .int z5_193), (6, .int z6_193), (8, .int z8_193), (7, .int v7_193), (10, .int v10_193)]) hx hb d_Y_scenario_293 hl (k := 8) rfl rfl (by decide) rfl (fun ls hl => ?_)
          refine lv_goto (tgt := 178) hx hb d_Y_scenario_296 (by decide) ?_
          exact hk178 v7_193 (z9_193 + 1) M193 hj H locs hw ls (lv_sub hl [1, 2, 3, 4, 5, 6, 7, 8, 9, 0] rfl)
        · rw [if_neg c_19] at hj
          refine lv_iload hx hb d_Y_scenario_214 (lv_at hl 8 rfl) ?_
          refine lv_aload_n hx hb d_Y_scenario_216 rfl (lv_at hl 0 rfl) ?_
          refine gw_get (v := .ref (ad 2)) S hw ya_R rfl (by decide) n_T_Y f_13 rfl d_Y_scenario_217 ?_
          refine lv_iload hx hb d_Y_scenario_220 (lv_at hl 10 rfl) ?_
          obtain ⟨g_20, hj⟩ := gw_if hj
          refine gw_iald (t0 := 0) S hw ⟨ya_a2, rfl⟩ g_20 d_Y_scenario_222 ?_
          obtain ⟨g_21, hj⟩ := gw_if hj
          refine lv_irem hx hb d_Y_scenario_223 g_21 ?_
          refine lv_if_ne (tgt := 277) hx hb d_Y_scenario_224 (by decide) (fun c_22 => ?_) (fun c_22 => ?_)
          · rw [if_neg c_22] at hj
            refine lv_aload_n hx hb d_Y_scenario_277 rfl (lv_at hl 0 rfl) ?_
            refine lv_aload_n hx hb d_Y_scenario_278 rfl (lv_at hl 0 rfl) ?_
            refine gw_get (v := .ref (ad 4)) S hw ya_R rfl (by decide) n_T_Y f_20 rfl d_Y_scenario_279 ?_
            refine lv_iload hx hb d_Y_scenario_282 (lv_at hl 10 rfl) ?_
            obtain ⟨g_23, hj⟩ := gw_if hj
            refine gw_iald (t0 := 0) S hw ⟨ya_a4, rfl⟩ g_23 d_Y_scenario_284 ?_
            obtain ⟨r_25, e_24, hj⟩ := Option.bind_eq_some_iff.mp hj
            refine gw_calli (As := [.int (M193.1 4 v10_193.toNatClampNeg)]) (rest := []) S hw (c_Y_highest e_24) w_134 ya_R rfl rfl hl.1 rfl (Nat.le_of_ble_eq_true rfl) d_Y_scenario_285 (fun H locs hw => ?_)
            refine lv_istore (lv' := [(10, .int r_25), (0, .ref (ad 0)), (1, .int a1), (2, .int a2), (3, .int a3), (4, .int z4_193), (5, .int z5_193), (6, .int z6_193), (8, .int z8_193), (9, .int z9_193), (7, .int v7_193)]) hx hb d_Y_scenario_288 hl (by decide) rfl (fun ls hl => ?_)
            refine lv_goto (tgt := 193) hx hb d_Y_scenario_290 (by decide) ?_
            exact ih193 v7_193 r_25 M193 hj H locs hw ls (lv_sub hl [1, 2, 3, 4, 5, 6, 7, 8, 9, 10, 0] rfl)
          · rw [if_pos c_22] at hj
            refine lv_iload hx hb d_Y_scenario_227 (lv_at hl 10 rfl) ?_
            refine lv_iload_n hx hb d_Y_scenario_229 rfl (lv_at hl 1 rfl) ?_
            refine lv_icmp_ne (tgt := 253) hx hb d_Y_scenario_230 (by decide) (fun c_26 => ?_) (fun c_26 => ?_)
            · rw [if_neg c_26] at hj
              refine lv_iload hx hb d_Y_scenario_253 (lv_at hl 9 rfl) ?_
              refine lv_iload_n hx hb d_Y_scenario_255 rfl (lv_at hl 2 rfl) ?_
              refine lv_icmp_ne (tgt := 274) hx hb d_Y_scenario_256 (by decide) (fun c_27 => ?_) (fun c_27 => ?_)
              · rw [if_neg c_27] at hj
                refine lv_iinc (v := (v7_193 + 1)) (lv' := [(7, .int (v7_193 + 1)), (0, .ref (ad 0)), (1, .int a1), (2, .int a2), (3, .int a3), (4, .int z4_193), (5, .int z5_193), (6, .int z6_193), (8, .int z8_193), (9, .int z9_193), (10, .int v10_193)]) hx hb d_Y_scenario_274 hl (k := 9) rfl rfl (by decide) rfl (fun ls hl => ?_)
                refine lv_aload_n hx hb d_Y_scenario_277 rfl (lv_at hl 1 rfl) ?_
                refine lv_aload_n hx hb d_Y_scenario_278 rfl (lv_at hl 1 rfl) ?_
                refine gw_get (v := .ref (ad 4)) S hw ya_R rfl (by decide) n_T_Y f_20 rfl d_Y_scenario_279 ?_
                refine lv_iload hx hb d_Y_scenario_282 (lv_at hl 10 rfl) ?_
                obtain ⟨g_28, hj⟩ := gw_if hj
                refine gw_iald (t0 := 0) S hw ⟨ya_a4, rfl⟩ g_28 d_Y_scenario_284 ?_
                obtain ⟨r_30, e_29, hj⟩ := Option.bind_eq_some_iff.mp hj
                refine gw_calli (As := [.int (M193.1 4 v10_193.toNatClampNeg)]) (rest := []) S hw (c_Y_highest e_29) w_134 ya_R rfl rfl hl.1 rfl (Nat.le_of_ble_eq_true rfl) d_Y_scenario_285 (fun H locs hw => ?_)
                refine lv_istore (lv' := [(10, .int r_30), (7, .int (v7_193 + 1)), (0, .ref (ad 0)), (1, .int a1), (2, .int a2), (3, .int a3), (4, .int z4_193), (5, .int z5_193), (6, .int z6_193), (8, .int z8_193), (9, .int z9_193)]) hx hb d_Y_scenario_288 hl (by decide) rfl (fun ls hl => ?_)
                refine lv_goto (tgt := 193) hx hb d_Y_scenario_290 (by decide) ?_
                exact ih193 (v7_193 + 1) r_30 M193 hj H locs hw ls (lv_sub hl [2, 3, 4, 5, 6, 7, 8, 9, 10, 1, 0] rfl)
              · rw [if_pos c_27] at hj
                refine lv_iload_n hx hb d_Y_scenario_259 rfl (lv_at hl 3 rfl) ?_
                refine lv_if_ne (tgt := 271) hx hb d_Y_scenario_260 (by decide) (fun c_31 => ?_) (fun c_31 => ?_)
                · rw [if_neg c_31] at hj
                  refine lv_iload hx hb d_Y_scenario_271 (lv_at hl 10 rfl) ?_
                  exact hend H locs ls 273 _ _ (Prod.mk.inj (Option.some.inj hj)).1 (congrArg (wY cI cZ ad) (Prod.mk.inj (Option.some.inj hj)).2) hw d_Y_scenario_273
                · rw [if_pos c_31] at hj
                  refine lv_iload hx hb d_Y_scenario_263 (lv_at hl 5 rfl) ?_
                  refine lv_iload hx hb d_Y_scenario_265 (lv_at hl 8 rfl) ?_
                  refine lv_iadd hx hb d_Y_scenario_267 ?_
                  refine lv_goto (tgt := 273) hx hb d_Y_scenario_268 (by decide) ?_
                  exact hend H locs ls 273 _ _ (Prod.mk.inj (Option.some.inj hj)).1 (congrArg (wY cI cZ ad) (Prod.mk.inj (Option.some.inj hj)).2) hw d_Y_scenario_273
            · rw [if_pos c_26] at hj
              refine lv_iload hx hb d_Y_scenario_233 (lv_at hl 8 rfl) ?_
              refine lv_aload_n hx hb d_Y_scenario_235 rfl (lv_at hl 0 rfl) ?_
              refine gw_get (v := .ref (ad 2)) S hw ya_R rfl (by decide) n_T_Y f_13 rfl d_Y_scenario_236 ?_
              refine lv_iload hx hb d_Y_scenario_239 (lv_at hl 10 rfl) ?_
              obtain ⟨g_32, hj⟩ := gw_if hj
              refine gw_iald (t0 := 0) S hw ⟨ya_a2, rfl⟩ g_32 d_Y_scenario_241 ?_
              obtain ⟨g_33, hj⟩ := gw_if hj
              refine lv_idiv hx hb d_Y_scenario_242 g_33 ?_
              refine lv_aload_n hx hb d_Y_scenario_243 rfl (lv_at hl 0 rfl) ?_
              refine gw_get (v := .int (M193.2 12)) S hw ya_R rfl (by decide) n_T_Y f_116 rfl d_Y_scenario_244 ?_
              refine lv_icmp_le (tgt := 253) hx hb d_Y_scenario_247 (by decide) (fun c_34 => ?_) (fun c_34 => ?_)
              · rw [if_pos c_34] at hj
                refine lv_iload hx hb d_Y_scenario_253 (lv_at hl 9 rfl) ?_
                refine lv_iload_n hx hb d_Y_scenario_255 rfl (lv_at hl 2 rfl) ?_
                refine lv_icmp_ne (tgt := 274) hx hb d_Y_scenario_256 (by decide) (fun c_35 => ?_) (fun c_35 => ?_)
                · rw [if_neg c_35] at hj
                  refine lv_iinc (v := (v7_193 + 1)) (lv' := [(7, .int (v7_193 + 1)), (0, .ref (ad 0)), (1, .int a1), (2, .int a2), (3, .int a3), (4, .int z4_193), (5, .int z5_193), (6, .int z6_193), (8, .int z8_193), (9, .int z9_193), (10, .int v10_193)]) hx hb d_Y_scenario_274 hl (k := 9) rfl rfl (by decide) rfl (fun ls hl => ?_)
                  refine lv_aload_n hx hb d_Y_scenario_277 rfl (lv_at hl 1 rfl) ?_
                  refine lv_aload_n hx hb d_Y_scenario_278 rfl (lv_at hl 1 rfl) ?_
                  refine gw_get (v := .ref (ad 4)) S hw ya_R rfl (by decide) n_T_Y f_20 rfl d_Y_scenario_279 ?_
                  refine lv_iload hx hb d_Y_scenario_282 (lv_at hl 10 rfl) ?_
                  obtain ⟨g_36, hj⟩ := gw_if hj
                  refine gw_iald (t0 := 0) S hw ⟨ya_a4, rfl⟩ g_36 d_Y_scenario_284 ?_
                  obtain ⟨r_38, e_37, hj⟩ := Option.bind_eq_some_iff.mp hj
                  refine gw_calli (As := [.int (M193.1 4 v10_193.toNatClampNeg)]) (rest := []) S hw (c_Y_highest e_37) w_134 ya_R rfl rfl hl.1 rfl (Nat.le_of_ble_eq_true rfl) d_Y_scenario_285 (fun H locs hw => ?_)
                  refine lv_istore (lv' := [(10, .int r_38), (7, .int (v7_193 + 1)), (0, .ref (ad 0)), (1, .int a1), (2, .int a2), (3, .int a3), (4, .int z4_193), (5, .int z5_193), (6, .int z6_193), (8, .int z8_193), (9, .int z9_193)]) hx hb d_Y_scenario_288 hl (by decide) rfl (fun ls hl => ?_)
                  refine lv_goto (tgt := 193) hx hb d_Y_scenario_290 (by decide) ?_
                  exact ih193 (v7_193 + 1) r_38 M193 hj H locs hw ls (lv_sub hl [2, 3, 4, 5, 6, 7, 8, 9, 10, 1, 0] rfl)
                · rw [if_pos c_35] at hj
                  refine lv_iload_n hx hb d_Y_scenario_259 rfl (lv_at hl 3 rfl) ?_
                  refine lv_if_ne (tgt := 271) hx hb d_Y_scenario_260 (by decide) (fun c_39 => ?_) (fun c_39 => ?_)
                  · rw [if_neg c_39] at hj
                    refine lv_iload hx hb d_Y_scenario_271 (lv_at hl 10 rfl) ?_
                    exact hend H locs ls 273 _ _ (Prod.mk.inj (Option.some.inj hj)).1 (congrArg (wY cI cZ ad) (Prod.mk.inj (Option.some.inj hj)).2) hw d_Y_scenario_273
                  · rw [if_pos c_39] at hj
                    refine lv_iload hx hb d_Y_scenario_263 (lv_at hl 5 rfl) ?_
                    refine lv_iload hx hb d_Y_scenario_265 (lv_at hl 8 rfl) ?_
                    refine lv_iadd hx hb d_Y_scenario_267 ?_
                    refine lv_goto (tgt := 273) hx hb d_Y_scenario_268 (by decide) ?_
                    exact hend H locs ls 273 _ _ (Prod.mk.inj (Option.some.inj hj)).1 (congrArg (wY cI cZ ad) (Prod.mk.inj (Option.some.inj hj)).2) hw d_Y_scenario_273
              · rw [if_neg c_34] at hj
                refine lv_goto (tgt := 277) hx hb d_Y_scenario_250 (by decide) ?_
                refine lv_aload_n hx hb d_Y_scenario_277 rfl (lv_at hl 0 rfl) ?_
                refine lv_aload_n hx hb d_Y_scenario_278 rfl (lv_at hl 0 rfl) ?_
                refine gw_get (v := .ref (ad 4)) S hw ya_R rfl (by decide) n_T_Y f_20 rfl d_Y_scenario_279 ?_
                refine lv_iload hx hb d_Y_scenario_282 (lv_at hl 10 rfl) ?_
                obtain ⟨g_40, hj⟩ := gw_if hj
                refine gw_iald (t0 := 0) S hw ⟨ya_a4, rfl⟩ g_40 d_Y_scenario_284 ?_
                obtain ⟨r_42, e_41, hj⟩ := Option.bind_eq_some_iff.mp hj
                refine gw_calli (As := [.int (M193.1 4 v10_193.toNatClampNeg)]) (rest := []) S hw (c_Y_highest e_41) w_134 ya_R rfl rfl hl.1 rfl (Nat.le_of_ble_eq_true rfl) d_Y_scenario_285 (fun H locs hw => ?_)
                refine lv_istore (lv' := [(10, .int r_42), (0, .ref (ad 0)), (1, .int a1), (2, .int a2), (3, .int a3), (4, .int z4_193), (5, .int z5_193), (6, .int z6_193), (8, .int z8_193), (9, .int z9_193), (7, .int v7_193)]) hx hb d_Y_scenario_288 hl (by decide) rfl (fun ls hl => ?_)
                refine lv_goto (tgt := 193) hx hb d_Y_scenario_290 (by decide) ?_
                exact ih193 v7_193 r_42 M193 hj H locs hw ls (lv_sub hl [1, 2, 3, 4, 5, 6, 7, 8, 9, 10, 0] rfl)
  have L178 : ∀ (z4_178 : Int32) (z5_178 : Int32) (z6_178 : Int32) (z8_178 : Int32) (f178 : Nat) (v7_178 : Int32) (v9_178 : Int32) (M178 : MY), j_Y_scenario_L178 n a1 a2 a3 z4_178 z5_178 z6_178 z8_178 f178 v7_178 v9_178 M178 = some (r0, M0) → ∀ (H : Heap) (locs : List Loc), gw_W D (tyY cI cZ) A (wY cI cZ ad M178) s H locs → ∀ ls : Array Slot, lv_has ls 11 [(0, .ref (ad 0)), (1, .int a1), (2, .int a2), (3, .int a3), (4, .int z4_178), (5, .int z5_178), (6, .int z6_178), (8, .int z8_178), (7, .int v7_178), (9, .int v9_178)] → W p l e rm_Y_scenario s m args below meth c H locs 0 0 Q (F0 m 178 ls []) := by
    intro z4_178 z5_178 z6_178 z8_178 f178
    induction f178 with
    | zero =>
      intro v7_178 v9_178 M178 hj
      exact nomatch (show (none : Option (Int32 × MY)) = some (r0, M0) from hj)
    | succ f178 ih178 =>
      intro v7_178 v9_178 M178 hj H locs hw ls hl
      rw [j_Y_scenario_L178] at hj
      refine lv_iload hx hb d_Y_scenario_178 (lv_at hl 9 rfl) ?_
      refine lv_iload hx hb d_Y_scenario_180 (lv_at hl 7 rfl) ?_
      refine lv_icmp_ge (tgt := 299) hx hb d_Y_scenario_182 (by decide) (fun c_13 => ?_) (fun c_13 => ?_)
      · rw [if_pos c_13] at hj
        refine lv_iconst (v := -1) hx hb d_Y_scenario_299 (by decide) ?_
        exact hend H locs ls 300 _ _ (Prod.mk.inj (Option.some.inj hj)).1 (congrArg (wY cI cZ ad) (Prod.mk.inj (Option.some.inj hj)).2) hw d_Y_scenario_300
      · rw [if_neg c_13] at hj
        refine lv_aload_n hx hb d_Y_scenario_185 rfl (lv_at hl 0 rfl) ?_
        refine lv_bipush (v := 100) hx hb d_Y_scenario_186 (by decide) ?_
        obtain ⟨r_15, e_14, hj⟩ := Option.bind_eq_some_iff.mp hj
        refine gw_calli (As := [.int 100]) (rest := []) S hw (c_Y_highest e_14) w_134 ya_R rfl rfl hl.1 rfl (Nat.le_of_ble_eq_true rfl) d_Y_scenario_188 (fun H locs hw => ?_)
        refine lv_istore (lv' := [(10, .int r_15), (0, .ref (ad 0)), (1, .int a1), (2, .int a2), (3, .int a3), (4, .int z4_178), (5, .int z5_178), (6, .int z6_178), (8, .int z8_178), (7, .int v7_178), (9, .int v9_178)]) hx hb d_Y_scenario_191 hl (by decide) rfl (fun ls hl => ?_)
        exact L193 z4_178 z5_178 z6_178 z8_178 v9_178 (fun k0 k1 k2 => j_Y_scenario_L178 n a1 a2 a3 z4_178 z5_178 z6_178 z8_178 f178 k0 k1 k2) ih178 n v7_178 r_15 M178 hj H locs hw ls (lv_sub hl [1, 2, 3, 4, 5, 6, 7, 8, 10, 9, 0] rfl)
  have L87 : ∀ (z4_87 : Int32) (z5_87 : Int32) (z6_87 : Int32) (f87 : Nat) (v7_87 : Int32) (M87 : MY), j_Y_scenario_L87 n a1 a2 a3 z4_87 z5_87 z6_87 f87 v7_87 M87 = some (r0, M0) → ∀ (H : Heap) (locs : List Loc), gw_W D (tyY cI cZ) A (wY cI cZ ad M87) s H locs → ∀ ls : Array Slot, lv_has ls 11 [(0, .ref (ad 0)), (1, .int a1), (2, .int a2), (3, .int a3), (4, .int z4_87), (5, .int z5_87), (6, .int z6_87), (7, .int v7_87)] → W p l e rm_Y_scenario s m args below meth c H locs 0 0 Q (F0 m 87 ls []) := by
    intro z4_87 z5_87 z6_87 f87
    induction f87 with
    | zero =>
      intro v7_87 M87 hj
      exact nomatch (show (none : Option (Int32 × MY)) = some (r0, M0) from hj)
    | succ f87 ih87 =>
      intro v7_87 M87 hj H locs hw ls hl
      rw [j_Y_scenario_L87] at hj
      refine lv_aload_n hx hb d_Y_scenario_87 rfl (lv_at hl 0 rfl) ?_
      refine gw_get (v := .ref (ad 6)) S hw ya_R rfl (by decide) n_T_Y f_26 rfl d_Y_scenario_88 ?_
      refine lv_bipush (v := 8) hx hb d_Y_scenario_91 (by decide) ?_
      refine lv_iload hx hb d_Y_scenario_93 (lv_at hl 6 rfl) ?_
      refine lv_imul hx hb d_Y_scenario_95 ?_
      refine lv_iload hx hb d_Y_scenario_96 (lv_at hl 7 rfl) ?_
      refine lv_iadd hx hb d_Y_scenario_98 ?_
      obtain ⟨g_55, hj⟩ := gw_if hj
      refine gw_iald (t0 := 0) S hw ⟨ya_a6, rfl⟩ g_55 d_Y_scenario_99 ?_
      refine lv_iload hx hb d_Y_scenario_100 (lv_at hl 4 rfl) ?_
      refine lv_iconst (v := 1) hx hb d_Y_scenario_102 (by decide) ?_
      refine lv_iadd hx hb d_Y_scenario_103 ?_
      refine lv_icmp_eq (tgt := 113) hx hb d_Y_scenario_104 (by decide) (fun c_56 => ?_) (fun c_56 => ?_)
      · rw [if_pos c_56] at hj
        refine lv_iconst (v := 1) hx hb d_Y_scenario_113 (by decide) ?_
        refine lv_aload_n hx hb d_Y_scenario_114 rfl (lv_at hl 0 rfl) ?_
        refine lv_iload hx hb d_Y_scenario_115 (lv_at hl 6 rfl) ?_
        refine lv_iload hx hb d_Y_scenario_117 (lv_at hl 7 rfl) ?_
        obtain ⟨r_58, e_57, hj⟩ := Option.bind_eq_some_iff.mp hj
        refine gw_calli (As := [.int z6_87, .int v7_87]) (rest := [.int 1]) S hw (c_Y_workBefore e_57) w_89 ya_R rfl rfl hl.1 rfl (Nat.le_of_ble_eq_true rfl) d_Y_scenario_119 (fun H locs hw => ?_)
        refine lv_iadd hx hb d_Y_scenario_122 ?_
        refine lv_istore (lv' := [(5, .int (1 + r_58)), (0, .ref (ad 0)), (1, .int a1), (2, .int a2), (3, .int a3), (4, .int z4_87), (6, .int z6_87), (7, .int v7_87)]) hx hb d_Y_scenario_123 hl (by decide) rfl (fun ls hl => ?_)
        refine lv_iload hx hb d_Y_scenario_125 (lv_at hl 5 rfl) ?_
        refine lv_if_le (tgt := 145) hx hb d_Y_scenario_127 (by decide) (fun c_59 => ?_) (fun c_59 => ?_)
        · rw [if_pos c_59] at hj
          refine lv_iload hx hb d_Y_scenario_145 (lv_at hl 5 rfl) ?_
          refine lv_if_le (tgt := 154) hx hb d_Y_scenario_147 (by decide) (fun c_60 => ?_) (fun c_60 => ?_)
          · rw [if_pos c_60] at hj
            refine lv_iconst (v := 0) hx hb d_Y_scenario_154 (by decide) ?_
            refine lv_istore (lv' := [(7, .int 0), (5, .int (1 + r_58)), (0, .ref (ad 0)), (1, .int a1), (2, .int a2), (3, .int a3), (4, .int z4_87), (6, .int z6_87)]) hx hb d_Y_scenario_155 hl (by decide) rfl (fun ls hl => ?_)
            refine lv_aload_n hx hb d_Y_scenario_157 rfl (lv_at hl 2 rfl) ?_
            refine gw_get (v := .int (M87.2 12)) S hw ya_R rfl (by decide) n_T_Y f_116 rfl d_Y_scenario_158 ?_
            refine lv_aload_n hx hb d_Y_scenario_161 rfl (lv_at hl 2 rfl) ?_
            refine gw_get (v := .ref (ad 2)) S hw ya_R rfl (by decide) n_T_Y f_13 rfl d_Y_scenario_162 ?_
            refine lv_iload_n hx hb d_Y_scenario_165 rfl (lv_at hl 3 rfl) ?_
            obtain ⟨g_61, hj⟩ := gw_if hj
            refine gw_iald (t0 := 0) S hw ⟨ya_a2, rfl⟩ g_61 d_Y_scenario_166 ?_
            refine lv_imul hx hb d_Y_scenario_167 ?_
            refine lv_aload_n hx hb d_Y_scenario_168 rfl (lv_at hl 2 rfl) ?_
            refine gw_get (v := .int (M87.2 11)) S hw ya_R rfl (by decide) n_T_Y f_113 rfl d_Y_scenario_169 ?_
            refine lv_iadd hx hb d_Y_scenario_172 ?_
            refine lv_istore (lv' := [(8, .int (((M87.2 12) * (M87.1 2 a1.toNatClampNeg)) + (M87.2 11))), (7, .int 0), (5, .int (1 + r_58)), (0, .ref (ad 0)), (1, .int a1), (2, .int a2), (3, .int a3), (4, .int z4_87), (6, .int z6_87)]) hx hb d_Y_scenario_173 hl (by decide) rfl (fun ls hl => ?_)
            refine lv_iconst (v := 0) hx hb d_Y_scenario_175 (by decide) ?_
            refine lv_istore (lv' := [(9, .int 0), (8, .int (((M87.2 12) * (M87.1 2 a1.toNatClampNeg)) + (M87.2 11))), (7, .int 0), (5, .int (1 + r_58)), (0, .ref (ad 0)), (1, .int a1), (2, .int a2), (3, .int a3), (4, .int z4_87), (6, .int z6_87)]) hx hb d_Y_scenario_176 hl (by decide) rfl (fun ls hl => ?_)
            exact L178 z4_87 (1 + r_58) z6_87 (((M87.2 12) * (M87.1 2 a1.toNatClampNeg)) + (M87.2 11)) n 0 0 M87 hj H locs hw ls (lv_sub hl [4, 5, 6, 7, 8, 3, 9, 1, 2, 0] rfl)
          · rw [if_neg c_60] at hj
            refine lv_iconst (v := 1) hx hb d_Y_scenario_150 (by decide) ?_
            refine lv_goto (tgt := 155) hx hb d_Y_scenario_151 (by decide) ?_
            refine lv_istore (lv' := [(7, .int 1), (5, .int (1 + r_58)), (0, .ref (ad 0)), (1, .int a1), (2, .int a2), (3, .int a3), (4, .int z4_87), (6, .int z6_87)]) hx hb d_Y_scenario_155 hl (by decide) rfl (fun ls hl => ?_)
            refine lv_aload_n hx hb d_Y_scenario_157 rfl (lv_at hl 2 rfl) ?_
            refine gw_get (v := .int (M87.2 12)) S hw ya_R rfl (by decide) n_T_Y f_116 rfl d_Y_scenario_158 ?_
            refine lv_aload_n hx hb d_Y_scenario_161 rfl (lv_at hl 2 rfl) ?_
            refine gw_get (v := .ref (ad 2)) S hw ya_R rfl (by decide) n_T_Y f_13 rfl d_Y_scenario_162 ?_
            refine lv_iload_n hx hb d_Y_scenario_165 rfl (lv_at hl 3 rfl) ?_
            obtain ⟨g_62, hj⟩ := gw_if hj
            refine gw_iald (t0 := 0) S hw ⟨ya_a2, rfl⟩ g_62 d_Y_scenario_166 ?_
            refine lv_imul hx hb d_Y_scenario_167 ?_
            refine lv_aload_n hx hb d_Y_scenario_168 rfl (lv_at hl 2 rfl) ?_
            refine gw_get (v := .int (M87.2 11)) S hw ya_R rfl (by decide) n_T_Y f_113 rfl d_Y_scenario_169 ?_
            refine lv_iadd hx hb d_Y_scenario_172 ?_
            refine lv_istore (lv' := [(8, .int (((M87.2 12) * (M87.1 2 a1.toNatClampNeg)) + (M87.2 11))), (7, .int 1), (5, .int (1 + r_58)), (0, .ref (ad 0)), (1, .int a1), (2, .int a2), (3, .int a3), (4, .int z4_87), (6, .int z6_87)]) hx hb d_Y_scenario_173 hl (by decide) rfl (fun ls hl => ?_)
            refine lv_iconst (v := 0) hx hb d_Y_scenario_175 (by decide) ?_
            refine lv_istore (lv' := [(9, .int 0), (8, .int (((M87.2 12) * (M87.1 2 a1.toNatClampNeg)) + (M87.2 11))), (7, .int 1), (5, .int (1 + r_58)), (0, .ref (ad 0)), (1, .int a1), (2, .int a2), (3, .int a3), (4, .int z4_87), (6, .int z6_87)]) hx hb d_Y_scenario_176 hl (by decide) rfl (fun ls hl => ?_)
            exact L178 z4_87 (1 + r_58) z6_87 (((M87.2 12) * (M87.1 2 a1.toNatClampNeg)) + (M87.2 11)) n 1 0 M87 hj H locs hw ls (lv_sub hl [4, 5, 6, 7, 8, 3, 9, 1, 2, 0] rfl)
        · rw [if_neg c_59] at hj
          refine lv_iload_n hx hb d_Y_scenario_130 rfl (lv_at hl 3 rfl) ?_
          refine lv_if_ne (tgt := 145) hx hb d_Y_scenario_131 (by decide) (fun c_63 => ?_) (fun c_63 => ?_)
          · rw [if_neg c_63] at hj
            refine lv_iload hx hb d_Y_scenario_145 (lv_at hl 5 rfl) ?_
            refine lv_if_le (tgt := 154) hx hb d_Y_scenario_147 (by decide) (fun c_64 => ?_) (fun c_64 => ?_)
            · rw [if_pos c_64] at hj
              refine lv_iconst (v := 0) hx hb d_Y_scenario_154 (by decide) ?_
              refine lv_istore (lv' := [(7, .int 0), (5, .int (1 + r_58)), (0, .ref (ad 0)), (1, .int a1), (2, .int a2), (3, .int a3), (4, .int z4_87), (6, .int z6_87)]) hx hb d_Y_scenario_155 hl (by decide) rfl (fun ls hl => ?_)
              refine lv_aload_n hx hb d_Y_scenario_157 rfl (lv_at hl 2 rfl) ?_
              refine gw_get (v := .int (M87.2 12)) S hw ya_R rfl (by decide) n_T_Y f_116 rfl d_Y_scenario_158 ?_
              refine lv_aload_n hx hb d_Y_scenario_161 rfl (lv_at hl 2 rfl) ?_
              refine gw_get (v := .ref (ad 2)) S hw ya_R rfl (by decide) n_T_Y f_13 rfl d_Y_scenario_162 ?_
              refine lv_iload_n hx hb d_Y_scenario_165 rfl (lv_at hl 3 rfl) ?_
              obtain ⟨g_65, hj⟩ := gw_if hj
              refine gw_iald (t0 := 0) S hw ⟨ya_a2, rfl⟩ g_65 d_Y_scenario_166 ?_
              refine lv_imul hx hb d_Y_scenario_167 ?_
              refine lv_aload_n hx hb d_Y_scenario_168 rfl (lv_at hl 2 rfl) ?_
              refine gw_get (v := .int (M87.2 11)) S hw ya_R rfl (by decide) n_T_Y f_113 rfl d_Y_scenario_169 ?_
              refine lv_iadd hx hb d_Y_scenario_172 ?_
              refine lv_istore (lv' := [(8, .int (((M87.2 12) * (M87.1 2 a1.toNatClampNeg)) + (M87.2 11))), (7, .int 0), (5, .int (1 + r_58)), (0, .ref (ad 0)), (1, .int a1), (2, .int a2), (3, .int a3), (4, .int z4_87), (6, .int z6_87)]) hx hb d_Y_scenario_173 hl (by decide) rfl (fun ls hl => ?_)
              refine lv_iconst (v := 0) hx hb d_Y_scenario_175 (by decide) ?_
              refine lv_istore (lv' := [(9, .int 0), (8, .int (((M87.2 12) * (M87.1 2 a1.toNatClampNeg)) + (M87.2 11))), (7, .int 0), (5, .int (1 + r_58)), (0, .ref (ad 0)), (1, .int a1), (2, .int a2), (3, .int a3), (4, .int z4_87), (6, .int z6_87)]) hx hb d_Y_scenario_176 hl (by decide) rfl (fun ls hl => ?_)
              exact L178 z4_87 (1 + r_58) z6_87 (((M87.2 12) * (M87.1 2 a1.toNatClampNeg)) + (M87.2 11)) n 0 0 M87 hj H locs hw ls (lv_sub hl [4, 5, 6, 7, 8, 3, 9, 1, 2, 0] rfl)
            · rw [if_neg c_64] at hj
              refine lv_iconst (v := 1) hx hb d_Y_scenario_150 (by decide) ?_
              refine lv_goto (tgt := 155) hx hb d_Y_scenario_151 (by decide) ?_
              refine lv_istore (lv' := [(7, .int 1), (5, .int (1 + r_58)), (0, .ref (ad 0)), (1, .int a1), (2, .int a2), (3, .int a3), (4, .int z4_87), (6, .int z6_87)]) hx hb d_Y_scenario_155 hl (by decide) rfl (fun ls hl => ?_)
              refine lv_aload_n hx hb d_Y_scenario_157 rfl (lv_at hl 2 rfl) ?_
              refine gw_get (v := .int (M87.2 12)) S hw ya_R rfl (by decide) n_T_Y f_116 rfl d_Y_scenario_158 ?_
              refine lv_aload_n hx hb d_Y_scenario_161 rfl (lv_at hl 2 rfl) ?_
              refine gw_get (v := .ref (ad 2)) S hw ya_R rfl (by decide) n_T_Y f_13 rfl d_Y_scenario_162 ?_
              refine lv_iload_n hx hb d_Y_scenario_165 rfl (lv_at hl 3 rfl) ?_
              obtain ⟨g_66, hj⟩ := gw_if hj
              refine gw_iald (t0 := 0) S hw ⟨ya_a2, rfl⟩ g_66 d_Y_scenario_166 ?_
              refine lv_imul hx hb d_Y_scenario_167 ?_
              refine lv_aload_n hx hb d_Y_scenario_168 rfl (lv_at hl 2 rfl) ?_
              refine gw_get (v := .int (M87.2 11)) S hw ya_R rfl (by decide) n_T_Y f_113 rfl d_Y_scenario_169 ?_
              refine lv_iadd hx hb d_Y_scenario_172 ?_
              refine lv_istore (lv' := [(8, .int (((M87.2 12) * (M87.1 2 a1.toNatClampNeg)) + (M87.2 11))), (7, .int 1), (5, .int (1 + r_58)), (0, .ref (ad 0)), (1, .int a1), (2, .int a2), (3, .int a3), (4, .int z4_87), (6, .int z6_87)]) hx hb d_Y_scenario_173 hl (by decide) rfl (fun ls hl => ?_)
              refine lv_iconst (v := 0) hx hb d_Y_scenario_175 (by decide) ?_
              refine lv_istore (lv' := [(9, .int 0), (8, .int (((M87.2 12) * (M87.1 2 a1.toNatClampNeg)) + (M87.2 11))), (7, .int 1), (5, .int (1 + r_58)), (0, .ref (ad 0)), (1, .int a1), (2, .int a2), (3, .int a3), (4, .int z4_87), (6, .int z6_87)]) hx hb d_Y_scenario_176 hl (by decide) rfl (fun ls hl => ?_)
              exact L178 z4_87 (1 + r_58) z6_87 (((M87.2 12) * (M87.1 2 a1.toNatClampNeg)) + (M87.2 11)) n 1 0 M87 hj H locs hw ls (lv_sub hl [4, 5, 6, 7, 8, 3, 9, 1, 2, 0] rfl)
          · rw [if_pos c_63] at hj
            refine lv_iload_n hx hb d_Y_scenario_134 rfl (lv_at hl 4 rfl) ?_
            refine lv_if_ne (tgt := 142) hx hb d_Y_scenario_135 (by decide) (fun c_67 => ?_) (fun c_67 => ?_)
            · rw [if_neg c_67] at hj
              refine lv_iload hx hb d_Y_scenario_142 (lv_at hl 6 rfl) ?_
              exact hend H locs ls 144 _ _ (Prod.mk.inj (Option.some.inj hj)).1 (congrArg (wY cI cZ ad) (Prod.mk.inj (Option.some.inj hj)).2) hw d_Y_scenario_144
            · rw [if_pos c_67] at hj
              refine lv_iconst (v := 0) hx hb d_Y_scenario_138 (by decide) ?_
              refine lv_goto (tgt := 144) hx hb d_Y_scenario_139 (by decide) ?_
              exact hend H locs ls 144 _ _ (Prod.mk.inj (Option.some.inj hj)).1 (congrArg (wY cI cZ ad) (Prod.mk.inj (Option.some.inj hj)).2) hw d_Y_scenario_144
      · rw [if_neg c_56] at hj
        refine lv_iinc (v := (v7_87 + 1)) (lv' := [(7, .int (v7_87 + 1)), (0, .ref (ad 0)), (1, .int a1), (2, .int a2), (3, .int a3), (4, .int z4_87), (5, .int z5_87), (6, .int z6_87)]) hx hb d_Y_scenario_107 hl (k := 7) rfl rfl (by decide) rfl (fun ls hl => ?_)
        refine lv_goto (tgt := 87) hx hb d_Y_scenario_110 (by decide) ?_
        exact ih87 (v7_87 + 1) M87 hj H locs hw ls (lv_sub hl [1, 2, 3, 4, 5, 6, 7, 0] rfl)
  have L55 : ∀ (z4_55 : Int32) (z5_55 : Int32) (f55 : Nat) (v6_55 : Int32) (M55 : MY), j_Y_scenario_L55 n a1 a2 a3 z4_55 z5_55 f55 v6_55 M55 = some (r0, M0) → ∀ (H : Heap) (locs : List Loc), gw_W D (tyY cI cZ) A (wY cI cZ ad M55) s H locs → ∀ ls : Array Slot, lv_has ls 11 [(0, .ref (ad 0)), (1, .int a1), (2, .int a2), (3, .int a3), (4, .int z4_55), (5, .int z5_55), (6, .int v6_55)] → W p l e rm_Y_scenario s m args below meth c H locs 0 0 Q (F0 m 55 ls []) := by
    intro z4_55 z5_55 f55
    induction f55 with
    | zero =>
      intro v6_55 M55 hj
      exact nomatch (show (none : Option (Int32 × MY)) = some (r0, M0) from hj)
    | succ f55 ih55 =>
      intro v6_55 M55 hj H locs hw ls hl
      rw [j_Y_scenario_L55] at hj
      refine lv_aload_n hx hb d_Y_scenario_55 rfl (lv_at hl 0 rfl) ?_
      refine lv_iload hx hb d_Y_scenario_56 (lv_at hl 6 rfl) ?_
      obtain ⟨r_53, e_52, hj⟩ := Option.bind_eq_some_iff.mp hj
      refine gw_calli (As := [.int v6_55]) (rest := []) S hw (c_Y_longestOf e_52) w_93 ya_R rfl rfl hl.1 rfl (Nat.le_of_ble_eq_true rfl) d_Y_scenario_58 (fun H locs hw => ?_)
      refine lv_iload hx hb d_Y_scenario_61 (lv_at hl 4 rfl) ?_
      refine lv_iconst (v := 1) hx hb d_Y_scenario_63 (by decide) ?_
      refine lv_iadd hx hb d_Y_scenario_64 ?_
      refine lv_icmp_eq (tgt := 84) hx hb d_Y_scenario_65 (by decide) (fun c_54 => ?_) (fun c_54 => ?_)
      · rw [if_pos c_54] at hj
        refine lv_iconst (v := 0) hx hb d_Y_scenario_84 (by decide) ?_
        refine lv_istore (lv' := [(7, .int 0), (0, .ref (ad 0)), (1, .int a1), (2, .int a2), (3, .int a3), (4, .int z4_55), (5, .int z5_55), (6, .int v6_55)]) hx hb d_Y_scenario_85 hl (by decide) rfl (fun ls hl => ?_)
        exact L87 z4_55 z5_55 v6_55 n 0 M55 hj H locs hw ls (lv_sub hl [1, 2, 3, 4, 5, 6, 7, 0] rfl)
      · rw [if_neg c_54] at hj
        refine lv_aload_n hx hb d_Y_scenario_68 rfl (lv_at hl 0 rfl) ?_
        refine lv_aload_n hx hb d_Y_scenario_69 rfl (lv_at hl 0 rfl) ?_
        refine gw_get (v := .ref (ad 4)) S hw ya_R rfl (by decide) n_T_Y f_20 rfl d_Y_scenario_70 ?_
        refine lv_iload hx hb d_Y_scenario_73 (lv_at hl 6 rfl) ?_
        obtain ⟨g_68, hj⟩ := gw_if hj
        refine gw_iald (t0 := 0) S hw ⟨ya_a4, rfl⟩ g_68 d_Y_scenario_75 ?_
        obtain ⟨r_70, e_69, hj⟩ := Option.bind_eq_some_iff.mp hj
        refine gw_calli (As := [.int (M55.1 4 v6_55.toNatClampNeg)]) (rest := []) S hw (c_Y_highest e_69) w_134 ya_R rfl rfl hl.1 rfl (Nat.le_of_ble_eq_true rfl) d_Y_scenario_76 (fun H locs hw => ?_)
        refine lv_istore (lv' := [(6, .int r_70), (0, .ref (ad 0)), (1, .int a1), (2, .int a2), (3, .int a3), (4, .int z4_55), (5, .int z5_55)]) hx hb d_Y_scenario_79 hl (by decide) rfl (fun ls hl => ?_)
        refine lv_goto (tgt := 55) hx hb d_Y_scenario_81 (by decide) ?_
        exact ih55 r_70 M55 hj H locs hw ls (lv_sub hl [1, 2, 3, 4, 5, 6, 0] rfl)
  unfold j_Y_scenario at hj
  refine lv_aload_n hx hb d_Y_scenario_0 rfl (lv_at hl 0 rfl) ?_
  refine lv_iload_n hx hb d_Y_scenario_1 rfl (lv_at hl 1 rfl) ?_
  obtain ⟨q_2, e_1, hj⟩ := Option.bind_eq_some_iff.mp hj
  refine gw_calli (As := [.int a1]) (rest := []) S hw (c_Y_asks e_1) w_152 ya_R rfl rfl hl.1 rfl (Nat.le_of_ble_eq_true rfl) d_Y_scenario_2 (fun H locs hw => ?_)
  refine lv_if_ne (tgt := 10) hx hb d_Y_scenario_5 (by decide) (fun c_3 => ?_) (fun c_3 => ?_)
  · rw [if_neg c_3] at hj
    refine lv_iload_n hx hb d_Y_scenario_10 rfl (lv_at hl 2 rfl) ?_
    refine lv_if_lt (tgt := 23) hx hb d_Y_scenario_11 (by decide) (fun c_4 => ?_) (fun c_4 => ?_)
    · rw [if_pos c_4] at hj
      refine lv_iconst (v := -1) hx hb d_Y_scenario_23 (by decide) ?_
      exact hend H locs ls 24 _ _ (Prod.mk.inj (Option.some.inj hj)).1 (congrArg (wY cI cZ ad) (Prod.mk.inj (Option.some.inj hj)).2) hw d_Y_scenario_24
    · rw [if_neg c_4] at hj
      refine lv_iload_n hx hb d_Y_scenario_14 rfl (lv_at hl 3 rfl) ?_
      refine lv_if_lt (tgt := 23) hx hb d_Y_scenario_15 (by decide) (fun c_5 => ?_) (fun c_5 => ?_)
      · rw [if_pos c_5] at hj
        refine lv_iconst (v := -1) hx hb d_Y_scenario_23 (by decide) ?_
        exact hend H locs ls 24 _ _ (Prod.mk.inj (Option.some.inj hj)).1 (congrArg (wY cI cZ ad) (Prod.mk.inj (Option.some.inj hj)).2) hw d_Y_scenario_24
      · rw [if_neg c_5] at hj
        refine lv_iload_n hx hb d_Y_scenario_18 rfl (lv_at hl 3 rfl) ?_
        refine lv_iconst (v := 1) hx hb d_Y_scenario_19 (by decide) ?_
        refine lv_icmp_le (tgt := 25) hx hb d_Y_scenario_20 (by decide) (fun c_6 => ?_) (fun c_6 => ?_)
        · rw [if_pos c_6] at hj
          refine lv_aload_n hx hb d_Y_scenario_25 rfl (lv_at hl 0 rfl) ?_
          refine lv_iload_n hx hb d_Y_scenario_26 rfl (lv_at hl 1 rfl) ?_
          obtain ⟨r_8, e_7, hj⟩ := Option.bind_eq_some_iff.mp hj
          refine gw_calli (As := [.int a1]) (rest := []) S hw (c_Y_blocking e_7) w_103 ya_R rfl rfl hl.1 rfl (Nat.le_of_ble_eq_true rfl) d_Y_scenario_27 (fun H locs hw => ?_)
          refine lv_istore (lv' := [(4, .int r_8), (0, .ref (ad 0)), (1, .int a1), (2, .int a2), (3, .int a3)]) hx hb d_Y_scenario_30 hl (by decide) rfl (fun ls hl => ?_)
          refine lv_iconst (v := 0) hx hb d_Y_scenario_32 (by decide) ?_
          refine lv_istore (lv' := [(5, .int 0), (4, .int r_8), (0, .ref (ad 0)), (1, .int a1), (2, .int a2), (3, .int a3)]) hx hb d_Y_scenario_33 hl (by decide) rfl (fun ls hl => ?_)
          refine lv_iconst (v := 0) hx hb d_Y_scenario_35 (by decide) ?_
          refine lv_istore (lv' := [(6, .int 0), (5, .int 0), (4, .int r_8), (0, .ref (ad 0)), (1, .int a1), (2, .int a2), (3, .int a3)]) hx hb d_Y_scenario_36 hl (by decide) rfl (fun ls hl => ?_)
          refine lv_iload hx hb d_Y_scenario_38 (lv_at hl 2 rfl) ?_
          refine lv_if_le (tgt := 125) hx hb d_Y_scenario_40 (by decide) (fun c_9 => ?_) (fun c_9 => ?_)
          · rw [if_pos c_9] at hj
            refine lv_iload hx hb d_Y_scenario_125 (lv_at hl 2 rfl) ?_
            refine lv_if_le (tgt := 145) hx hb d_Y_scenario_127 (by decide) (fun c_10 => ?_) (fun c_10 => ?_)
            · rw [if_pos c_10] at hj
              refine lv_iload hx hb d_Y_scenario_145 (lv_at hl 2 rfl) ?_
              refine lv_if_le (tgt := 154) hx hb d_Y_scenario_147 (by decide) (fun c_11 => ?_) (fun c_11 => ?_)
              · rw [if_pos c_11] at hj
                refine lv_iconst (v := 0) hx hb d_Y_scenario_154 (by decide) ?_
                refine lv_istore (lv' := [(7, .int 0), (6, .int 0), (5, .int 0), (4, .int r_8), (0, .ref (ad 0)), (1, .int a1), (2, .int a2), (3, .int a3)]) hx hb d_Y_scenario_155 hl (by decide) rfl (fun ls hl => ?_)
                refine lv_aload_n hx hb d_Y_scenario_157 rfl (lv_at hl 4 rfl) ?_
                refine gw_get (v := .int (q_2.2.2 12)) S hw ya_R rfl (by decide) n_T_Y f_116 rfl d_Y_scenario_158 ?_
                refine lv_aload_n hx hb d_Y_scenario_161 rfl (lv_at hl 4 rfl) ?_
                refine gw_get (v := .ref (ad 2)) S hw ya_R rfl (by decide) n_T_Y f_13 rfl d_Y_scenario_162 ?_
                refine lv_iload_n hx hb d_Y_scenario_165 rfl (lv_at hl 5 rfl) ?_
                obtain ⟨g_12, hj⟩ := gw_if hj
                refine gw_iald (t0 := 0) S hw ⟨ya_a2, rfl⟩ g_12 d_Y_scenario_166 ?_
                refine lv_imul hx hb d_Y_scenario_167 ?_
                refine lv_aload_n hx hb d_Y_scenario_168 rfl (lv_at hl 4 rfl) ?_
                refine gw_get (v := .int (q_2.2.2 11)) S hw ya_R rfl (by decide) n_T_Y f_113 rfl d_Y_scenario_169 ?_
                refine lv_iadd hx hb d_Y_scenario_172 ?_
                refine lv_istore (lv' := [(8, .int (((q_2.2.2 12) * (q_2.2.1 2 a1.toNatClampNeg)) + (q_2.2.2 11))), (7, .int 0), (6, .int 0), (5, .int 0), (4, .int r_8), (0, .ref (ad 0)), (1, .int a1), (2, .int a2), (3, .int a3)]) hx hb d_Y_scenario_173 hl (by decide) rfl (fun ls hl => ?_)
                refine lv_iconst (v := 0) hx hb d_Y_scenario_175 (by decide) ?_
                refine lv_istore (lv' := [(9, .int 0), (8, .int (((q_2.2.2 12) * (q_2.2.1 2 a1.toNatClampNeg)) + (q_2.2.2 11))), (7, .int 0), (6, .int 0), (5, .int 0), (4, .int r_8), (0, .ref (ad 0)), (1, .int a1), (2, .int a2), (3, .int a3)]) hx hb d_Y_scenario_176 hl (by decide) rfl (fun ls hl => ?_)
                exact L178 r_8 0 0 (((q_2.2.2 12) * (q_2.2.1 2 a1.toNatClampNeg)) + (q_2.2.2 11)) n 0 0 q_2.2 hj H locs hw ls (lv_sub hl [6, 7, 8, 9, 5, 4, 3, 1, 2, 0] rfl)
              · rw [if_neg c_11] at hj
                refine lv_iconst (v := 1) hx hb d_Y_scenario_150 (by decide) ?_
                refine lv_goto (tgt := 155) hx hb d_Y_scenario_151 (by decide) ?_
                refine lv_istore (lv' := [(7, .int 1), (6, .int 0), (5, .int 0), (4, .int r_8), (0, .ref (ad 0)), (1, .int a1), (2, .int a2), (3, .int a3)]) hx hb d_Y_scenario_155 hl (by decide) rfl (fun ls hl => ?_)
                refine lv_aload_n hx hb d_Y_scenario_157 rfl (lv_at hl 4 rfl) ?_
                refine gw_get (v := .int (q_2.2.2 12)) S hw ya_R rfl (by decide) n_T_Y f_116 rfl d_Y_scenario_158 ?_
                refine lv_aload_n hx hb d_Y_scenario_161 rfl (lv_at hl 4 rfl) ?_
                refine gw_get (v := .ref (ad 2)) S hw ya_R rfl (by decide) n_T_Y f_13 rfl d_Y_scenario_162 ?_
                refine lv_iload_n hx hb d_Y_scenario_165 rfl (lv_at hl 5 rfl) ?_
                obtain ⟨g_43, hj⟩ := gw_if hj
                refine gw_iald (t0 := 0) S hw ⟨ya_a2, rfl⟩ g_43 d_Y_scenario_166 ?_
                refine lv_imul hx hb d_Y_scenario_167 ?_
                refine lv_aload_n hx hb d_Y_scenario_168 rfl (lv_at hl 4 rfl) ?_
                refine gw_get (v := .int (q_2.2.2 11)) S hw ya_R rfl (by decide) n_T_Y f_113 rfl d_Y_scenario_169 ?_
                refine lv_iadd hx hb d_Y_scenario_172 ?_
                refine lv_istore (lv' := [(8, .int (((q_2.2.2 12) * (q_2.2.1 2 a1.toNatClampNeg)) + (q_2.2.2 11))), (7, .int 1), (6, .int 0), (5, .int 0), (4, .int r_8), (0, .ref (ad 0)), (1, .int a1), (2, .int a2), (3, .int a3)]) hx hb d_Y_scenario_173 hl (by decide) rfl (fun ls hl => ?_)
                refine lv_iconst (v := 0) hx hb d_Y_scenario_175 (by decide) ?_
                refine lv_istore (lv' := [(9, .int 0), (8, .int (((q_2.2.2 12) * (q_2.2.1 2 a1.toNatClampNeg)) + (q_2.2.2 11))), (7, .int 1), (6, .int 0), (5, .int 0), (4, .int r_8), (0, .ref (ad 0)), (1, .int a1), (2, .int a2), (3, .int a3)]) hx hb d_Y_scenario_176 hl (by decide) rfl (fun ls hl => ?_)
                exact L178 r_8 0 0 (((q_2.2.2 12) * (q_2.2.1 2 a1.toNatClampNeg)) + (q_2.2.2 11)) n 1 0 q_2.2 hj H locs hw ls (lv_sub hl [6, 7, 8, 9, 5, 4, 3, 1, 2, 0] rfl)
            · rw [if_neg c_10] at hj
              refine lv_iload_n hx hb d_Y_scenario_130 rfl (lv_at hl 5 rfl) ?_
              refine lv_if_ne (tgt := 145) hx hb d_Y_scenario_131 (by decide) (fun c_44 => ?_) (fun c_44 => ?_)
              · rw [if_neg c_44] at hj
                refine lv_iload hx hb d_Y_scenario_145 (lv_at hl 2 rfl) ?_
                refine lv_if_le (tgt := 154) hx hb d_Y_scenario_147 (by decide) (fun c_45 => ?_) (fun c_45 => ?_)
                · rw [if_pos c_45] at hj
                  refine lv_iconst (v := 0) hx hb d_Y_scenario_154 (by decide) ?_
                  refine lv_istore (lv' := [(7, .int 0), (6, .int 0), (5, .int 0), (4, .int r_8), (0, .ref (ad 0)), (1, .int a1), (2, .int a2), (3, .int a3)]) hx hb d_Y_scenario_155 hl (by decide) rfl (fun ls hl => ?_)
                  refine lv_aload_n hx hb d_Y_scenario_157 rfl (lv_at hl 4 rfl) ?_
                  refine gw_get (v := .int (q_2.2.2 12)) S hw ya_R rfl (by decide) n_T_Y f_116 rfl d_Y_scenario_158 ?_
                  refine lv_aload_n hx hb d_Y_scenario_161 rfl (lv_at hl 4 rfl) ?_
                  refine gw_get (v := .ref (ad 2)) S hw ya_R rfl (by decide) n_T_Y f_13 rfl d_Y_scenario_162 ?_
                  refine lv_iload_n hx hb d_Y_scenario_165 rfl (lv_at hl 5 rfl) ?_
                  obtain ⟨g_46, hj⟩ := gw_if hj
                  refine gw_iald (t0 := 0) S hw ⟨ya_a2, rfl⟩ g_46 d_Y_scenario_166 ?_
                  refine lv_imul hx hb d_Y_scenario_167 ?_
                  refine lv_aload_n hx hb d_Y_scenario_168 rfl (lv_at hl 4 rfl) ?_
                  refine gw_get (v := .int (q_2.2.2 11)) S hw ya_R rfl (by decide) n_T_Y f_113 rfl d_Y_scenario_169 ?_
                  refine lv_iadd hx hb d_Y_scenario_172 ?_
                  refine lv_istore (lv' := [(8, .int (((q_2.2.2 12) * (q_2.2.1 2 a1.toNatClampNeg)) + (q_2.2.2 11))), (7, .int 0), (6, .int 0), (5, .int 0), (4, .int r_8), (0, .ref (ad 0)), (1, .int a1), (2, .int a2), (3, .int a3)]) hx hb d_Y_scenario_173 hl (by decide) rfl (fun ls hl => ?_)
                  refine lv_iconst (v := 0) hx hb d_Y_scenario_175 (by decide) ?_
                  refine lv_istore (lv' := [(9, .int 0), (8, .int (((q_2.2.2 12) * (q_2.2.1 2 a1.toNatClampNeg)) + (q_2.2.2 11))), (7, .int 0), (6, .int 0), (5, .int 0), (4, .int r_8), (0, .ref (ad 0)), (1, .int a1), (2, .int a2), (3, .int a3)]) hx hb d_Y_scenario_176 hl (by decide) rfl (fun ls hl => ?_)
                  exact L178 r_8 0 0 (((q_2.2.2 12) * (q_2.2.1 2 a1.toNatClampNeg)) + (q_2.2.2 11)) n 0 0 q_2.2 hj H locs hw ls (lv_sub hl [6, 7, 8, 9, 5, 4, 3, 1, 2, 0] rfl)
                · rw [if_neg c_45] at hj
                  refine lv_iconst (v := 1) hx hb d_Y_scenario_150 (by decide) ?_
                  refine lv_goto (tgt := 155) hx hb d_Y_scenario_151 (by decide) ?_
                  refine lv_istore (lv' := [(7, .int 1), (6, .int 0), (5, .int 0), (4, .int r_8), (0, .ref (ad 0)), (1, .int a1), (2, .int a2), (3, .int a3)]) hx hb d_Y_scenario_155 hl (by decide) rfl (fun ls hl => ?_)
                  refine lv_aload_n hx hb d_Y_scenario_157 rfl (lv_at hl 4 rfl) ?_
                  refine gw_get (v := .int (q_2.2.2 12)) S hw ya_R rfl (by decide) n_T_Y f_116 rfl d_Y_scenario_158 ?_
                  refine lv_aload_n hx hb d_Y_scenario_161 rfl (lv_at hl 4 rfl) ?_
                  refine gw_get (v := .ref (ad 2)) S hw ya_R rfl (by decide) n_T_Y f_13 rfl d_Y_scenario_162 ?_
                  refine lv_iload_n hx hb d_Y_scenario_165 rfl (lv_at hl 5 rfl) ?_
                  obtain ⟨g_47, hj⟩ := gw_if hj
                  refine gw_iald (t0 := 0) S hw ⟨ya_a2, rfl⟩ g_47 d_Y_scenario_166 ?_
                  refine lv_imul hx hb d_Y_scenario_167 ?_
                  refine lv_aload_n hx hb d_Y_scenario_168 rfl (lv_at hl 4 rfl) ?_
                  refine gw_get (v := .int (q_2.2.2 11)) S hw ya_R rfl (by decide) n_T_Y f_113 rfl d_Y_scenario_169 ?_
                  refine lv_iadd hx hb d_Y_scenario_172 ?_
                  refine lv_istore (lv' := [(8, .int (((q_2.2.2 12) * (q_2.2.1 2 a1.toNatClampNeg)) + (q_2.2.2 11))), (7, .int 1), (6, .int 0), (5, .int 0), (4, .int r_8), (0, .ref (ad 0)), (1, .int a1), (2, .int a2), (3, .int a3)]) hx hb d_Y_scenario_173 hl (by decide) rfl (fun ls hl => ?_)
                  refine lv_iconst (v := 0) hx hb d_Y_scenario_175 (by decide) ?_
                  refine lv_istore (lv' := [(9, .int 0), (8, .int (((q_2.2.2 12) * (q_2.2.1 2 a1.toNatClampNeg)) + (q_2.2.2 11))), (7, .int 1), (6, .int 0), (5, .int 0), (4, .int r_8), (0, .ref (ad 0)), (1, .int a1), (2, .int a2), (3, .int a3)]) hx hb d_Y_scenario_176 hl (by decide) rfl (fun ls hl => ?_)
                  exact L178 r_8 0 0 (((q_2.2.2 12) * (q_2.2.1 2 a1.toNatClampNeg)) + (q_2.2.2 11)) n 1 0 q_2.2 hj H locs hw ls (lv_sub hl [6, 7, 8, 9, 5, 4, 3, 1, 2, 0] rfl)
              · rw [if_pos c_44] at hj
                refine lv_iload_n hx hb d_Y_scenario_134 rfl (lv_at hl 6 rfl) ?_
                refine lv_if_ne (tgt := 142) hx hb d_Y_scenario_135 (by decide) (fun c_48 => ?_) (fun c_48 => ?_)
                · rw [if_neg c_48] at hj
                  refine lv_iload hx hb d_Y_scenario_142 (lv_at hl 0 rfl) ?_
                  exact hend H locs ls 144 _ _ (Prod.mk.inj (Option.some.inj hj)).1 (congrArg (wY cI cZ ad) (Prod.mk.inj (Option.some.inj hj)).2) hw d_Y_scenario_144
                · rw [if_pos c_48] at hj
                  refine lv_iconst (v := 0) hx hb d_Y_scenario_138 (by decide) ?_
                  refine lv_goto (tgt := 144) hx hb d_Y_scenario_139 (by decide) ?_
                  exact hend H locs ls 144 _ _ (Prod.mk.inj (Option.some.inj hj)).1 (congrArg (wY cI cZ ad) (Prod.mk.inj (Option.some.inj hj)).2) hw d_Y_scenario_144
          · rw [if_neg c_9] at hj
            refine lv_aload_n hx hb d_Y_scenario_43 rfl (lv_at hl 3 rfl) ?_
            refine lv_aload_n hx hb d_Y_scenario_44 rfl (lv_at hl 3 rfl) ?_
            refine gw_get (v := .ref (ad 4)) S hw ya_R rfl (by decide) n_T_Y f_20 rfl d_Y_scenario_45 ?_
            refine lv_iload_n hx hb d_Y_scenario_48 rfl (lv_at hl 4 rfl) ?_
            obtain ⟨g_49, hj⟩ := gw_if hj
            refine gw_iald (t0 := 0) S hw ⟨ya_a4, rfl⟩ g_49 d_Y_scenario_49 ?_
            obtain ⟨r_51, e_50, hj⟩ := Option.bind_eq_some_iff.mp hj
            refine gw_calli (As := [.int (q_2.2.1 4 a1.toNatClampNeg)]) (rest := []) S hw (c_Y_highest e_50) w_134 ya_R rfl rfl hl.1 rfl (Nat.le_of_ble_eq_true rfl) d_Y_scenario_50 (fun H locs hw => ?_)
            refine lv_istore (lv' := [(6, .int r_51), (5, .int 0), (4, .int r_8), (0, .ref (ad 0)), (1, .int a1), (2, .int a2), (3, .int a3)]) hx hb d_Y_scenario_53 hl (by decide) rfl (fun ls hl => ?_)
            exact L55 r_8 0 n r_51 q_2.2 hj H locs hw ls (lv_sub hl [3, 4, 5, 6, 2, 1, 0] rfl)
        · rw [if_neg c_6] at hj
          refine lv_iconst (v := -1) hx hb d_Y_scenario_23 (by decide) ?_
          exact hend H locs ls 24 _ _ (Prod.mk.inj (Option.some.inj hj)).1 (congrArg (wY cI cZ ad) (Prod.mk.inj (Option.some.inj hj)).2) hw d_Y_scenario_24
  · rw [if_pos c_3] at hj
    refine lv_iconst (v := 0) hx hb d_Y_scenario_8 (by decide) ?_
    exact hend H locs ls 9 _ _ (Prod.mk.inj (Option.some.inj hj)).1 (congrArg (wY cI cZ ad) (Prod.mk.inj (Option.some.inj hj)).2) hw d_Y_scenario_9
abbrev rm_Y_arrive : Room := { frames := 1, cells := 0, slots := 0, locals := 22 }
def ws_Y_arrive : List Cond := Cond.code y_Y_arrive b_Y_arrive 2 (some .boolean) :: wB
set_option maxHeartbeats 4000000 in
set_option maxRecDepth 100000 in
theorem c_Y_arrive {l : Launch} {D : va_G} {cI cZ : ClassId} {ad : Nat → Nat} {n : Nat} {M : MY} {a1 : Int32} {r0 : Int32} {M0 : MY} (hj : j_Y_arrive n M a1 = some (r0, M0)) : gw_Cz l y_Y_arrive ws_Y_arrive rm_Y_arrive D (tyY cI cZ) (wY cI cZ ad M) [.ref (ad 0), .int a1] r0 (wY cI cZ ad M0) := by
  intro sz
  refine gw_metz (cc := b_Y_arrive) (maxL := 2) (by decide) rfl (Nat.le_of_ble_eq_true rfl) ?_
  intro p e s m args below meth c A Q S H locs hw hend ls hl
  have S : CallFix p m c b_Y_arrive 2 s args ws_Y_arrive R_Y := S
  have hx := S.1
  have hb := S.2.1
  have hts := S.2.2.2.2
  have hl : lv_has ls 2 [(0, .ref (ad 0)), (1, .int a1)] := hl
  have n_T_Y : ∀ w ∈ u_ws R_Y T_Y 29, w ∈ ws_Y_arrive := fun w h => List.mem_cons_of_mem _ (uT_Y w h)
  have f_13 : Cond.fieldLink R_Y 13 (T_Y 2).1 (T_Y 2).2.1 (T_Y 2).2.2.1 ∈ ws_Y_arrive := List.mem_cons_of_mem _ xw_268
  have f_35 : Cond.fieldLink R_Y 35 (T_Y 16).1 (T_Y 16).2.1 (T_Y 16).2.2.1 ∈ ws_Y_arrive := List.mem_cons_of_mem _ xw_279
  have f_38 : Cond.fieldLink R_Y 38 (T_Y 17).1 (T_Y 17).2.1 (T_Y 17).2.2.1 ∈ ws_Y_arrive := List.mem_cons_of_mem _ xw_280
  have f_41 : Cond.fieldLink R_Y 41 (T_Y 18).1 (T_Y 18).2.1 (T_Y 18).2.2.1 ∈ ws_Y_arrive := List.mem_cons_of_mem _ xw_365
  have f_44 : Cond.fieldLink R_Y 44 (T_Y 19).1 (T_Y 19).2.1 (T_Y 19).2.2.1 ∈ ws_Y_arrive := List.mem_cons_of_mem _ xw_366
  have f_62 : Cond.fieldLink R_Y 62 (T_Y 0).1 (T_Y 0).2.1 (T_Y 0).2.2.1 ∈ ws_Y_arrive := List.mem_cons_of_mem _ xw_266
  have f_66 : Cond.fieldLink R_Y 66 (T_Y 25).1 (T_Y 25).2.1 (T_Y 25).2.2.1 ∈ ws_Y_arrive := List.mem_cons_of_mem _ xw_272
  have f_74 : Cond.fieldLink R_Y 74 (T_Y 15).1 (T_Y 15).2.1 (T_Y 15).2.2.1 ∈ ws_Y_arrive := List.mem_cons_of_mem _ xw_285
  have w_70 : CallW rm_Y_arrive s args R_Y R_Y 70 y_Y_isTask b_Y_isTask 2 (some .boolean) ws_Y_isTask rm_Y_isTask 0 0 1 := cwV 1 hts (wB_callV (fun w h => List.mem_cons_of_mem _ h) xw_274 xw_275 xw_276 xw_277 xw_278) rfl rfl rfl (by decide +kernel) ⟨Nat.le_of_ble_eq_true rfl, Nat.le_of_ble_eq_true rfl⟩
  have w_141 : CallW rm_Y_arrive s args R_Y R_Y 141 y_Y_isReady b_Y_isReady 3 (some .boolean) ws_Y_isReady rm_Y_isReady 0 0 0 := cwV 0 hts (wB_callV (fun w h => List.mem_cons_of_mem _ h) xw_341 xw_342 xw_343 xw_344 xw_278) rfl rfl rfl (by decide +kernel) ⟨Nat.le_of_ble_eq_true rfl, Nat.le_of_ble_eq_true rfl⟩
  unfold j_Y_arrive at hj
  refine lv_aload_n hx hb d_Y_arrive_0 rfl (lv_at hl 0 rfl) ?_
  refine lv_iconst (v := 0) hx hb d_Y_arrive_1 (by decide) ?_
  refine gw_put (v := .int 0) (ty := .int) S hw ya_R rfl (by decide) n_T_Y f_62 tk_Y nm_Y rfl (by decide +kernel) rfl rfl (Nat.le_of_ble_eq_true rfl) (ys_R 0 0 (by decide)) d_Y_arrive_2 (fun H locs hw => ?_)
  refine lv_aload_n hx hb d_Y_arrive_5 rfl (lv_at hl 0 rfl) ?_
  refine lv_iload_n hx hb d_Y_arrive_6 rfl (lv_at hl 1 rfl) ?_
  obtain ⟨r_2, e_1, hj⟩ := Option.bind_eq_some_iff.mp hj
  refine gw_calli (As := [.int a1]) (rest := []) S hw (c_Y_isTask e_1) w_70 ya_R rfl rfl hl.1 rfl (Nat.le_of_ble_eq_true rfl) d_Y_arrive_7 (fun H locs hw => ?_)
  refine lv_if_eq (tgt := 67) hx hb d_Y_arrive_10 (by decide) (fun c_3 => ?_) (fun c_3 => ?_)
  · rw [if_pos c_3] at hj
    refine lv_iconst (v := 0) hx hb d_Y_arrive_67 (by decide) ?_
    exact hend H locs ls 68 _ _ (Prod.mk.inj (Option.some.inj hj)).1 (congrArg (wY cI cZ ad) (Prod.mk.inj (Option.some.inj hj)).2) (Or.inl rfl) hw d_Y_arrive_68
  · rw [if_neg c_3] at hj
    refine lv_aload_n hx hb d_Y_arrive_13 rfl (lv_at hl 0 rfl) ?_
    obtain ⟨r_5, e_4, hj⟩ := Option.bind_eq_some_iff.mp hj
    refine gw_calli (As := []) (rest := []) S hw (c_Y_isReady e_4) w_141 ya_R rfl rfl hl.1 rfl (Nat.le_of_ble_eq_true rfl) d_Y_arrive_14 (fun H locs hw => ?_)
    refine lv_if_eq (tgt := 67) hx hb d_Y_arrive_17 (by decide) (fun c_6 => ?_) (fun c_6 => ?_)
    · rw [if_pos c_6] at hj
      refine lv_iconst (v := 0) hx hb d_Y_arrive_67 (by decide) ?_
      exact hend H locs ls 68 _ _ (Prod.mk.inj (Option.some.inj hj)).1 (congrArg (wY cI cZ ad) (Prod.mk.inj (Option.some.inj hj)).2) (Or.inl rfl) hw d_Y_arrive_68
    · rw [if_neg c_6] at hj
      refine lv_aload_n hx hb d_Y_arrive_20 rfl (lv_at hl 0 rfl) ?_
      refine gw_get (v := .ref (ad 9)) S hw ya_R rfl (by decide) n_T_Y f_35 rfl d_Y_arrive_21 ?_
      refine lv_iload_n hx hb d_Y_arrive_24 rfl (lv_at hl 1 rfl) ?_
      obtain ⟨g_7, hj⟩ := gw_if hj
      refine gw_iald (t0 := 0) S hw ⟨ya_a9, rfl⟩ g_7 d_Y_arrive_25 ?_
      refine lv_if_le (tgt := 49) hx hb d_Y_arrive_26 (by decide) (fun c_8 => ?_) (fun c_8 => ?_)
      · rw [if_pos c_8] at hj
        refine lv_aload_n hx hb d_Y_arrive_49 rfl (lv_at hl 0 rfl) ?_
        refine gw_get (v := .ref (ad 9)) S hw ya_R rfl (by decide) n_T_Y f_35 rfl d_Y_arrive_50 ?_
        refine lv_iload_n hx hb d_Y_arrive_53 rfl (lv_at hl 1 rfl) ?_
        obtain ⟨g_9, hj⟩ := gw_if hj
        refine gw_iald (t0 := 0) S hw ⟨ya_a9, rfl⟩ g_9 d_Y_arrive_54 ?_
        refine lv_aload_n hx hb d_Y_arrive_55 rfl (lv_at hl 0 rfl) ?_
        refine gw_get (v := .ref (ad 10)) S hw ya_R rfl (by decide) n_T_Y f_38 rfl d_Y_arrive_56 ?_
        refine lv_iload_n hx hb d_Y_arrive_59 rfl (lv_at hl 1 rfl) ?_
        obtain ⟨g_10, hj⟩ := gw_if hj
        refine gw_iald (t0 := 0) S hw ⟨ya_a10, rfl⟩ g_10 d_Y_arrive_60 ?_
        refine lv_isub hx hb d_Y_arrive_61 ?_
        refine lv_bipush (v := 9) hx hb d_Y_arrive_62 (by decide) ?_
        refine lv_icmp_ne (tgt := 69) hx hb d_Y_arrive_64 (by decide) (fun c_11 => ?_) (fun c_11 => ?_)
        · rw [if_neg c_11] at hj
          refine lv_aload_n hx hb d_Y_arrive_69 rfl (lv_at hl 0 rfl) ?_
          refine gw_get (v := .ref (ad 12)) S hw ya_R rfl (by decide) n_T_Y f_44 rfl d_Y_arrive_70 ?_
          refine lv_bipush (v := 9) hx hb d_Y_arrive_73 (by decide) ?_
          refine lv_iload_n hx hb d_Y_arrive_75 rfl (lv_at hl 1 rfl) ?_
          refine lv_imul hx hb d_Y_arrive_76 ?_
          refine lv_aload_n hx hb d_Y_arrive_77 rfl (lv_at hl 0 rfl) ?_
          refine gw_get (v := .ref (ad 9)) S hw ya_R rfl (by decide) n_T_Y f_35 rfl d_Y_arrive_78 ?_
          refine lv_iload_n hx hb d_Y_arrive_81 rfl (lv_at hl 1 rfl) ?_
          obtain ⟨g_12, hj⟩ := gw_if hj
          refine gw_iald (t0 := 0) S hw ⟨ya_a9, rfl⟩ g_12 d_Y_arrive_82 ?_
          refine lv_bipush (v := 9) hx hb d_Y_arrive_83 (by decide) ?_
          refine lv_irem hx hb d_Y_arrive_85 (by decide) ?_
          refine lv_iadd hx hb d_Y_arrive_86 ?_
          refine lv_aload_n hx hb d_Y_arrive_87 rfl (lv_at hl 0 rfl) ?_
          refine gw_get (v := .int ((sV M 0 0).2 15)) S hw ya_R rfl (by decide) n_T_Y f_74 rfl d_Y_arrive_88 ?_
          obtain ⟨g_13, hj⟩ := gw_if hj
          refine gw_iast (t0 := 0) S hw ⟨ya_a12, rfl⟩ g_13 (ys_a12 ((9 * a1) + (((sV M 0 0).1 9 a1.toNatClampNeg) - ((sV M 0 0).1 9 a1.toNatClampNeg) / 9 * 9)).toNatClampNeg ((sV M 0 0).2 15)) d_Y_arrive_91 (fun H locs hw => ?_)
          refine lv_aload_n hx hb d_Y_arrive_92 rfl (lv_at hl 0 rfl) ?_
          refine gw_get (v := .ref (ad 11)) S hw ya_R rfl (by decide) n_T_Y f_41 rfl d_Y_arrive_93 ?_
          refine lv_iload_n hx hb d_Y_arrive_96 rfl (lv_at hl 1 rfl) ?_
          refine lv_aload_n hx hb d_Y_arrive_97 rfl (lv_at hl 0 rfl) ?_
          refine gw_get (v := .int ((sA (sV M 0 0) 12 ((9 * a1) + (((sV M 0 0).1 9 a1.toNatClampNeg) - ((sV M 0 0).1 9 a1.toNatClampNeg) / 9 * 9)).toNatClampNeg ((sV M 0 0).2 15)).2 15)) S hw ya_R rfl (by decide) n_T_Y f_74 rfl d_Y_arrive_98 ?_
          obtain ⟨g_14, hj⟩ := gw_if hj
          refine gw_iast (t0 := 0) S hw ⟨ya_a11, rfl⟩ g_14 (ys_a11 a1.toNatClampNeg ((sA (sV M 0 0) 12 ((9 * a1) + (((sV M 0 0).1 9 a1.toNatClampNeg) - ((sV M 0 0).1 9 a1.toNatClampNeg) / 9 * 9)).toNatClampNeg ((sV M 0 0).2 15)).2 15)) d_Y_arrive_101 (fun H locs hw => ?_)
          refine lv_aload_n hx hb d_Y_arrive_102 rfl (lv_at hl 0 rfl) ?_
          refine gw_get (v := .ref (ad 9)) S hw ya_R rfl (by decide) n_T_Y f_35 rfl d_Y_arrive_103 ?_
          refine lv_iload_n hx hb d_Y_arrive_106 rfl (lv_at hl 1 rfl) ?_
          refine lv_dup2_11 hx hb d_Y_arrive_107 rfl rfl ?_
          obtain ⟨g_15, hj⟩ := gw_if hj
          refine gw_iald (t0 := 0) S hw ⟨ya_a9, rfl⟩ g_15 d_Y_arrive_108 ?_
          refine lv_iconst (v := 1) hx hb d_Y_arrive_109 (by decide) ?_
          refine lv_iadd hx hb d_Y_arrive_110 ?_
          obtain ⟨g_16, hj⟩ := gw_if hj
          refine gw_iast (t0 := 0) S hw ⟨ya_a9, rfl⟩ g_16 (ys_a9 a1.toNatClampNeg (((sA (sA (sV M 0 0) 12 ((9 * a1) + (((sV M 0 0).1 9 a1.toNatClampNeg) - ((sV M 0 0).1 9 a1.toNatClampNeg) / 9 * 9)).toNatClampNeg ((sV M 0 0).2 15)) 11 a1.toNatClampNeg ((sA (sV M 0 0) 12 ((9 * a1) + (((sV M 0 0).1 9 a1.toNatClampNeg) - ((sV M 0 0).1 9 a1.toNatClampNeg) / 9 * 9)).toNatClampNeg ((sV M 0 0).2 15)).2 15)).1 9 a1.toNatClampNeg) + 1)) d_Y_arrive_111 (fun H locs hw => ?_)
          refine lv_aload_n hx hb d_Y_arrive_112 rfl (lv_at hl 0 rfl) ?_
          refine lv_iconst (v := 1) hx hb d_Y_arrive_113 (by decide) ?_
          refine gw_put (v := .int 1) (ty := .boolean) S hw ya_R rfl (by decide) n_T_Y f_66 tk_Y nm_Y rfl (by decide +kernel) rfl rfl (Nat.le_of_ble_eq_true rfl) (ys_R 25 1 (by decide)) d_Y_arrive_114 (fun H locs hw => ?_)
          refine lv_iconst (v := 1) hx hb d_Y_arrive_117 (by decide) ?_
          exact hend H locs ls 118 _ _ (Prod.mk.inj (Option.some.inj hj)).1 (congrArg (wY cI cZ ad) (Prod.mk.inj (Option.some.inj hj)).2) (Or.inr rfl) hw d_Y_arrive_118
        · rw [if_pos c_11] at hj
          refine lv_iconst (v := 0) hx hb d_Y_arrive_67 (by decide) ?_
          exact hend H locs ls 68 _ _ (Prod.mk.inj (Option.some.inj hj)).1 (congrArg (wY cI cZ ad) (Prod.mk.inj (Option.some.inj hj)).2) (Or.inl rfl) hw d_Y_arrive_68
      · rw [if_neg c_8] at hj
        refine lv_aload_n hx hb d_Y_arrive_29 rfl (lv_at hl 0 rfl) ?_
        refine gw_get (v := .int ((sV M 0 0).2 15)) S hw ya_R rfl (by decide) n_T_Y f_74 rfl d_Y_arrive_30 ?_
        refine lv_aload_n hx hb d_Y_arrive_33 rfl (lv_at hl 0 rfl) ?_
        refine gw_get (v := .ref (ad 11)) S hw ya_R rfl (by decide) n_T_Y f_41 rfl d_Y_arrive_34 ?_
        refine lv_iload_n hx hb d_Y_arrive_37 rfl (lv_at hl 1 rfl) ?_
        obtain ⟨g_17, hj⟩ := gw_if hj
        refine gw_iald (t0 := 0) S hw ⟨ya_a11, rfl⟩ g_17 d_Y_arrive_38 ?_
        refine lv_isub hx hb d_Y_arrive_39 ?_
        refine lv_aload_n hx hb d_Y_arrive_40 rfl (lv_at hl 0 rfl) ?_
        refine gw_get (v := .ref (ad 2)) S hw ya_R rfl (by decide) n_T_Y f_13 rfl d_Y_arrive_41 ?_
        refine lv_iload_n hx hb d_Y_arrive_44 rfl (lv_at hl 1 rfl) ?_
        obtain ⟨g_18, hj⟩ := gw_if hj
        refine gw_iald (t0 := 0) S hw ⟨ya_a2, rfl⟩ g_18 d_Y_arrive_45 ?_
        refine lv_icmp_lt (tgt := 67) hx hb d_Y_arrive_46 (by decide) (fun c_19 => ?_) (fun c_19 => ?_)
        · rw [if_pos c_19] at hj
          refine lv_iconst (v := 0) hx hb d_Y_arrive_67 (by decide) ?_
          exact hend H locs ls 68 _ _ (Prod.mk.inj (Option.some.inj hj)).1 (congrArg (wY cI cZ ad) (Prod.mk.inj (Option.some.inj hj)).2) (Or.inl rfl) hw d_Y_arrive_68
        · rw [if_neg c_19] at hj
          refine lv_aload_n hx hb d_Y_arrive_49 rfl (lv_at hl 0 rfl) ?_
          refine gw_get (v := .ref (ad 9)) S hw ya_R rfl (by decide) n_T_Y f_35 rfl d_Y_arrive_50 ?_
          refine lv_iload_n hx hb d_Y_arrive_53 rfl (lv_at hl 1 rfl) ?_
          obtain ⟨g_20, hj⟩ := gw_if hj
          refine gw_iald (t0 := 0) S hw ⟨ya_a9, rfl⟩ g_20 d_Y_arrive_54 ?_
          refine lv_aload_n hx hb d_Y_arrive_55 rfl (lv_at hl 0 rfl) ?_
          refine gw_get (v := .ref (ad 10)) S hw ya_R rfl (by decide) n_T_Y f_38 rfl d_Y_arrive_56 ?_
          refine lv_iload_n hx hb d_Y_arrive_59 rfl (lv_at hl 1 rfl) ?_
          obtain ⟨g_21, hj⟩ := gw_if hj
          refine gw_iald (t0 := 0) S hw ⟨ya_a10, rfl⟩ g_21 d_Y_arrive_60 ?_
          refine lv_isub hx hb d_Y_arrive_61 ?_
          refine lv_bipush (v := 9) hx hb d_Y_arrive_62 (by decide) ?_
          refine lv_icmp_ne (tgt := 69) hx hb d_Y_arrive_64 (by decide) (fun c_22 => ?_) (fun c_22 => ?_)
          · rw [if_neg c_22] at hj
            refine lv_aload_n hx hb d_Y_arrive_69 rfl (lv_at hl 0 rfl) ?_
            refine gw_get (v := .ref (ad 12)) S hw ya_R rfl (by decide) n_T_Y f_44 rfl d_Y_arrive_70 ?_
            refine lv_bipush (v := 9) hx hb d_Y_arrive_73 (by decide) ?_
            refine lv_iload_n hx hb d_Y_arrive_75 rfl (lv_at hl 1 rfl) ?_
            refine lv_imul hx hb d_Y_arrive_76 ?_
            refine lv_aload_n hx hb d_Y_arrive_77 rfl (lv_at hl 0 rfl) ?_
            refine gw_get (v := .ref (ad 9)) S hw ya_R rfl (by decide) n_T_Y f_35 rfl d_Y_arrive_78 ?_
            refine lv_iload_n hx hb d_Y_arrive_81 rfl (lv_at hl 1 rfl) ?_
            obtain ⟨g_23, hj⟩ := gw_if hj
            refine gw_iald (t0 := 0) S hw ⟨ya_a9, rfl⟩ g_23 d_Y_arrive_82 ?_
            refine lv_bipush (v := 9) hx hb d_Y_arrive_83 (by decide) ?_
            refine lv_irem hx hb d_Y_arrive_85 (by decide) ?_
            refine lv_iadd hx hb d_Y_arrive_86 ?_
            refine lv_aload_n hx hb d_Y_arrive_87 rfl (lv_at hl 0 rfl) ?_
            refine gw_get (v := .int ((sV M 0 0).2 15)) S hw ya_R rfl (by decide) n_T_Y f_74 rfl d_Y_arrive_88 ?_
            obtain ⟨g_24, hj⟩ := gw_if hj
            refine gw_iast (t0 := 0) S hw ⟨ya_a12, rfl⟩ g_24 (ys_a12 ((9 * a1) + (((sV M 0 0).1 9 a1.toNatClampNeg) - ((sV M 0 0).1 9 a1.toNatClampNeg) / 9 * 9)).toNatClampNeg ((sV M 0 0).2 15)) d_Y_arrive_91 (fun H locs hw => ?_)
            refine lv_aload_n hx hb d_Y_arrive_92 rfl (lv_at hl 0 rfl) ?_
            refine gw_get (v := .ref (ad 11)) S hw ya_R rfl (by decide) n_T_Y f_41 rfl d_Y_arrive_93 ?_
            refine lv_iload_n hx hb d_Y_arrive_96 rfl (lv_at hl 1 rfl) ?_
            refine lv_aload_n hx hb d_Y_arrive_97 rfl (lv_at hl 0 rfl) ?_
            refine gw_get (v := .int ((sA (sV M 0 0) 12 ((9 * a1) + (((sV M 0 0).1 9 a1.toNatClampNeg) - ((sV M 0 0).1 9 a1.toNatClampNeg) / 9 * 9)).toNatClampNeg ((sV M 0 0).2 15)).2 15)) S hw ya_R rfl (by decide) n_T_Y f_74 rfl d_Y_arrive_98 ?_
            obtain ⟨g_25, hj⟩ := gw_if hj
            refine gw_iast (t0 := 0) S hw ⟨ya_a11, rfl⟩ g_25 (ys_a11 a1.toNatClampNeg ((sA (sV M 0 0) 12 ((9 * a1) + (((sV M 0 0).1 9 a1.toNatClampNeg) - ((sV M 0 0).1 9 a1.toNatClampNeg) / 9 * 9)).toNatClampNeg ((sV M 0 0).2 15)).2 15)) d_Y_arrive_101 (fun H locs hw => ?_)
            refine lv_aload_n hx hb d_Y_arrive_102 rfl (lv_at hl 0 rfl) ?_
            refine gw_get (v := .ref (ad 9)) S hw ya_R rfl (by decide) n_T_Y f_35 rfl d_Y_arrive_103 ?_
            refine lv_iload_n hx hb d_Y_arrive_106 rfl (lv_at hl 1 rfl) ?_
            refine lv_dup2_11 hx hb d_Y_arrive_107 rfl rfl ?_
            obtain ⟨g_26, hj⟩ := gw_if hj
            refine gw_iald (t0 := 0) S hw ⟨ya_a9, rfl⟩ g_26 d_Y_arrive_108 ?_
            refine lv_iconst (v := 1) hx hb d_Y_arrive_109 (by decide) ?_
            refine lv_iadd hx hb d_Y_arrive_110 ?_
            obtain ⟨g_27, hj⟩ := gw_if hj
            refine gw_iast (t0 := 0) S hw ⟨ya_a9, rfl⟩ g_27 (ys_a9 a1.toNatClampNeg (((sA (sA (sV M 0 0) 12 ((9 * a1) + (((sV M 0 0).1 9 a1.toNatClampNeg) - ((sV M 0 0).1 9 a1.toNatClampNeg) / 9 * 9)).toNatClampNeg ((sV M 0 0).2 15)) 11 a1.toNatClampNeg ((sA (sV M 0 0) 12 ((9 * a1) + (((sV M 0 0).1 9 a1.toNatClampNeg) - ((sV M 0 0).1 9 a1.toNatClampNeg) / 9 * 9)).toNatClampNeg ((sV M 0 0).2 15)).2 15)).1 9 a1.toNatClampNeg) + 1)) d_Y_arrive_111 (fun H locs hw => ?_)
            refine lv_aload_n hx hb d_Y_arrive_112 rfl (lv_at hl 0 rfl) ?_
            refine lv_iconst (v := 1) hx hb d_Y_arrive_113 (by decide) ?_
            refine gw_put (v := .int 1) (ty := .boolean) S hw ya_R rfl (by decide) n_T_Y f_66 tk_Y nm_Y rfl (by decide +kernel) rfl rfl (Nat.le_of_ble_eq_true rfl) (ys_R 25 1 (by decide)) d_Y_arrive_114 (fun H locs hw => ?_)
            refine lv_iconst (v := 1) hx hb d_Y_arrive_117 (by decide) ?_
            exact hend H locs ls 118 _ _ (Prod.mk.inj (Option.some.inj hj)).1 (congrArg (wY cI cZ ad) (Prod.mk.inj (Option.some.inj hj)).2) (Or.inr rfl) hw d_Y_arrive_118
          · rw [if_pos c_22] at hj
            refine lv_iconst (v := 0) hx hb d_Y_arrive_67 (by decide) ?_
            exact hend H locs ls 68 _ _ (Prod.mk.inj (Option.some.inj hj)).1 (congrArg (wY cI cZ ad) (Prod.mk.inj (Option.some.inj hj)).2) (Or.inl rfl) hw d_Y_arrive_68
abbrev rm_Y_waiting : Room := { frames := 0, cells := 0, slots := 0, locals := 0 }
def ws_Y_waiting : List Cond := Cond.code y_Y_waiting b_Y_waiting 3 (some .int) :: wB
set_option maxHeartbeats 4000000 in
set_option maxRecDepth 100000 in
theorem c_Y_waiting {l : Launch} {D : va_G} {cI cZ : ClassId} {ad : Nat → Nat} {n : Nat} {M : MY} {r0 : Int32} (hj : j_Y_waiting n M = some r0) : gw_Ci l y_Y_waiting ws_Y_waiting rm_Y_waiting D (tyY cI cZ) (wY cI cZ ad M) [.ref (ad 0)] r0 (wY cI cZ ad M) := by
  intro sz
  refine gw_meti (cc := b_Y_waiting) (maxL := 3) (by decide) rfl (Nat.le_of_ble_eq_true rfl) ?_
  intro p e s m args below meth c A Q S H locs hw hend ls hl
  have S : CallFix p m c b_Y_waiting 3 s args ws_Y_waiting R_Y := S
  have hx := S.1
  have hb := S.2.1
  have hts := S.2.2.2.2
  have hl : lv_has ls 3 [(0, .ref (ad 0))] := hl
  have n_T_Y : ∀ w ∈ u_ws R_Y T_Y 29, w ∈ ws_Y_waiting := fun w h => List.mem_cons_of_mem _ (uT_Y w h)
  have f_7 : Cond.fieldLink R_Y 7 (T_Y 1).1 (T_Y 1).2.1 (T_Y 1).2.2.1 ∈ ws_Y_waiting := List.mem_cons_of_mem _ xw_267
  have f_20 : Cond.fieldLink R_Y 20 (T_Y 4).1 (T_Y 4).2.1 (T_Y 4).2.2.1 ∈ ws_Y_waiting := List.mem_cons_of_mem _ xw_270
  have f_35 : Cond.fieldLink R_Y 35 (T_Y 16).1 (T_Y 16).2.1 (T_Y 16).2.2.1 ∈ ws_Y_waiting := List.mem_cons_of_mem _ xw_279
  have f_38 : Cond.fieldLink R_Y 38 (T_Y 17).1 (T_Y 17).2.1 (T_Y 17).2.2.1 ∈ ws_Y_waiting := List.mem_cons_of_mem _ xw_280
  have L4 : ∀ (f4 : Nat) (v1_4 : Int32) (v2_4 : Int32), j_Y_waiting_L4 n M f4 v1_4 v2_4 = some r0 → ∀ (H : Heap) (locs : List Loc), gw_W D (tyY cI cZ) A (wY cI cZ ad M) s H locs → ∀ ls : Array Slot, lv_has ls 3 [(0, .ref (ad 0)), (1, .int v1_4), (2, .int v2_4)] → W p l e rm_Y_waiting s m args below meth c H locs 0 0 Q (F0 m 4 ls []) := by
    intro f4
    induction f4 with
    | zero =>
      intro v1_4 v2_4 hj
      exact nomatch (show (none : Option Int32) = some r0 from hj)
    | succ f4 ih4 =>
      intro v1_4 v2_4 hj H locs hw ls hl
      rw [j_Y_waiting_L4] at hj
      refine lv_iload_n hx hb d_Y_waiting_4 rfl (lv_at hl 2 rfl) ?_
      refine lv_bipush (v := 8) hx hb d_Y_waiting_5 (by decide) ?_
      refine lv_icmp_gt (tgt := 61) hx hb d_Y_waiting_7 (by decide) (fun c_1 => ?_) (fun c_1 => ?_)
      · rw [if_pos c_1] at hj
        refine lv_iload_n hx hb d_Y_waiting_61 rfl (lv_at hl 1 rfl) ?_
        exact hend H locs ls 62 _ _ (Option.some.inj hj) rfl hw d_Y_waiting_62
      · rw [if_neg c_1] at hj
        refine lv_aload_n hx hb d_Y_waiting_10 rfl (lv_at hl 0 rfl) ?_
        refine gw_get (v := .ref (ad 1)) S hw ya_R rfl (by decide) n_T_Y f_7 rfl d_Y_waiting_11 ?_
        refine lv_iload_n hx hb d_Y_waiting_14 rfl (lv_at hl 2 rfl) ?_
        obtain ⟨g_2, hj⟩ := gw_if hj
        refine gw_zald (t0 := 1) S hw ⟨ya_a1, rfl⟩ g_2 d_Y_waiting_15 ?_
        refine lv_if_eq (tgt := 55) hx hb d_Y_waiting_16 (by decide) (fun c_3 => ?_) (fun c_3 => ?_)
        · rw [if_pos c_3] at hj
          refine lv_iinc (v := (v2_4 + 1)) (lv' := [(2, .int (v2_4 + 1)), (0, .ref (ad 0)), (1, .int v1_4)]) hx hb d_Y_waiting_55 hl (k := 2) rfl rfl (by decide) rfl (fun ls hl => ?_)
          refine lv_goto (tgt := 4) hx hb d_Y_waiting_58 (by decide) ?_
          exact ih4 v1_4 (v2_4 + 1) hj H locs hw ls (lv_sub hl [1, 2, 0] rfl)
        · rw [if_neg c_3] at hj
          refine lv_aload_n hx hb d_Y_waiting_19 rfl (lv_at hl 0 rfl) ?_
          refine gw_get (v := .ref (ad 9)) S hw ya_R rfl (by decide) n_T_Y f_35 rfl d_Y_waiting_20 ?_
          refine lv_iload_n hx hb d_Y_waiting_23 rfl (lv_at hl 2 rfl) ?_
          obtain ⟨g_4, hj⟩ := gw_if hj
          refine gw_iald (t0 := 0) S hw ⟨ya_a9, rfl⟩ g_4 d_Y_waiting_24 ?_
          refine lv_aload_n hx hb d_Y_waiting_25 rfl (lv_at hl 0 rfl) ?_
          refine gw_get (v := .ref (ad 10)) S hw ya_R rfl (by decide) n_T_Y f_38 rfl d_Y_waiting_26 ?_
          refine lv_iload_n hx hb d_Y_waiting_29 rfl (lv_at hl 2 rfl) ?_
          obtain ⟨g_5, hj⟩ := gw_if hj
          refine gw_iald (t0 := 0) S hw ⟨ya_a10, rfl⟩ g_5 d_Y_waiting_30 ?_
          refine lv_icmp_le (tgt := 55) hx hb d_Y_waiting_31 (by decide) (fun c_6 => ?_) (fun c_6 => ?_)
          · rw [if_pos c_6] at hj
            refine lv_iinc (v := (v2_4 + 1)) (lv' := [(2, .int (v2_4 + 1)), (0, .ref (ad 0)), (1, .int v1_4)]) hx hb d_Y_waiting_55 hl (k := 2) rfl rfl (by decide) rfl (fun ls hl => ?_)
            refine lv_goto (tgt := 4) hx hb d_Y_waiting_58 (by decide) ?_
            exact ih4 v1_4 (v2_4 + 1) hj H locs hw ls (lv_sub hl [1, 2, 0] rfl)
          · rw [if_neg c_6] at hj
            refine lv_iload_n hx hb d_Y_waiting_34 rfl (lv_at hl 1 rfl) ?_
            refine lv_if_eq (tgt := 53) hx hb d_Y_waiting_35 (by decide) (fun c_7 => ?_) (fun c_7 => ?_)
            · rw [if_pos c_7] at hj
              refine lv_iload_n hx hb d_Y_waiting_53 rfl (lv_at hl 2 rfl) ?_
              refine lv_istore_n (lv' := [(1, .int v2_4), (0, .ref (ad 0)), (2, .int v2_4)]) hx hb d_Y_waiting_54 rfl hl (by decide) rfl (fun ls hl => ?_)
              refine lv_iinc (v := (v2_4 + 1)) (lv' := [(2, .int (v2_4 + 1)), (1, .int v2_4), (0, .ref (ad 0))]) hx hb d_Y_waiting_55 hl (k := 2) rfl rfl (by decide) rfl (fun ls hl => ?_)
              refine lv_goto (tgt := 4) hx hb d_Y_waiting_58 (by decide) ?_
              exact ih4 v2_4 (v2_4 + 1) hj H locs hw ls (lv_sub hl [2, 1, 0] rfl)
            · rw [if_neg c_7] at hj
              refine lv_aload_n hx hb d_Y_waiting_38 rfl (lv_at hl 0 rfl) ?_
              refine gw_get (v := .ref (ad 4)) S hw ya_R rfl (by decide) n_T_Y f_20 rfl d_Y_waiting_39 ?_
              refine lv_iload_n hx hb d_Y_waiting_42 rfl (lv_at hl 2 rfl) ?_
              obtain ⟨g_8, hj⟩ := gw_if hj
              refine gw_iald (t0 := 0) S hw ⟨ya_a4, rfl⟩ g_8 d_Y_waiting_43 ?_
              refine lv_aload_n hx hb d_Y_waiting_44 rfl (lv_at hl 0 rfl) ?_
              refine gw_get (v := .ref (ad 4)) S hw ya_R rfl (by decide) n_T_Y f_20 rfl d_Y_waiting_45 ?_
              refine lv_iload_n hx hb d_Y_waiting_48 rfl (lv_at hl 1 rfl) ?_
              obtain ⟨g_9, hj⟩ := gw_if hj
              refine gw_iald (t0 := 0) S hw ⟨ya_a4, rfl⟩ g_9 d_Y_waiting_49 ?_
              refine lv_icmp_le (tgt := 55) hx hb d_Y_waiting_50 (by decide) (fun c_10 => ?_) (fun c_10 => ?_)
              · rw [if_pos c_10] at hj
                refine lv_iinc (v := (v2_4 + 1)) (lv' := [(2, .int (v2_4 + 1)), (0, .ref (ad 0)), (1, .int v1_4)]) hx hb d_Y_waiting_55 hl (k := 2) rfl rfl (by decide) rfl (fun ls hl => ?_)
                refine lv_goto (tgt := 4) hx hb d_Y_waiting_58 (by decide) ?_
                exact ih4 v1_4 (v2_4 + 1) hj H locs hw ls (lv_sub hl [1, 2, 0] rfl)
              · rw [if_neg c_10] at hj
                refine lv_iload_n hx hb d_Y_waiting_53 rfl (lv_at hl 2 rfl) ?_
                refine lv_istore_n (lv' := [(1, .int v2_4), (0, .ref (ad 0)), (2, .int v2_4)]) hx hb d_Y_waiting_54 rfl hl (by decide) rfl (fun ls hl => ?_)
                refine lv_iinc (v := (v2_4 + 1)) (lv' := [(2, .int (v2_4 + 1)), (1, .int v2_4), (0, .ref (ad 0))]) hx hb d_Y_waiting_55 hl (k := 2) rfl rfl (by decide) rfl (fun ls hl => ?_)
                refine lv_goto (tgt := 4) hx hb d_Y_waiting_58 (by decide) ?_
                exact ih4 v2_4 (v2_4 + 1) hj H locs hw ls (lv_sub hl [2, 1, 0] rfl)
  unfold j_Y_waiting at hj
  refine lv_iconst (v := 0) hx hb d_Y_waiting_0 (by decide) ?_
  refine lv_istore_n (lv' := [(1, .int 0), (0, .ref (ad 0))]) hx hb d_Y_waiting_1 rfl hl (by decide) rfl (fun ls hl => ?_)
  refine lv_iconst (v := 1) hx hb d_Y_waiting_2 (by decide) ?_
  refine lv_istore_n (lv' := [(2, .int 1), (1, .int 0), (0, .ref (ad 0))]) hx hb d_Y_waiting_3 rfl hl (by decide) rfl (fun ls hl => ?_)
  exact L4 n 0 1 hj H locs hw ls (lv_sub hl [2, 1, 0] rfl)
