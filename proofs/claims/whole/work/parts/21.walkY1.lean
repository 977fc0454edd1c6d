abbrev rm_Y_thrown : Room := { frames := 0, cells := 0, slots := 0, locals := 0 }
def ws_Y_thrown : List Cond := Cond.code y_Y_thrown b_Y_thrown 1 (some .int) :: wB
set_option maxHeartbeats 4000000 in
set_option maxRecDepth 100000 in
theorem c_Y_thrown {l : Launch} {D : va_G} {cI cZ : ClassId} {ad : Nat → Nat} {n : Nat} {M : MY} {r0 : Int32} (hj : j_Y_thrown n M = some r0) : gw_Ci l y_Y_thrown ws_Y_thrown rm_Y_thrown D (tyY cI cZ) (wY cI cZ ad M) [.ref (ad 0)] r0 (wY cI cZ ad M) := by
  intro sz
  refine gw_meti (cc := b_Y_thrown) (maxL := 1) (by decide) rfl (Nat.le_of_ble_eq_true rfl) ?_
  intro p e s m args below meth c A Q S H locs hw hend ls hl
  have S : CallFix p m c b_Y_thrown 1 s args ws_Y_thrown R_Y := S
  have hx := S.1
  have hb := S.2.1
  have hts := S.2.2.2.2
  have hl : lv_has ls 1 [(0, .ref (ad 0))] := hl
  have n_T_Y : ∀ w ∈ u_ws R_Y T_Y 29, w ∈ ws_Y_thrown := fun w h => List.mem_cons_of_mem _ (uT_Y w h)
  have f_62 : Cond.fieldLink R_Y 62 (T_Y 0).1 (T_Y 0).2.1 (T_Y 0).2.2.1 ∈ ws_Y_thrown := List.mem_cons_of_mem _ xw_266
  unfold j_Y_thrown at hj
  refine lv_aload_n hx hb d_Y_thrown_0 rfl (lv_at hl 0 rfl) ?_
  refine gw_get (v := .int (M.2 0)) S hw ya_R rfl (by decide) n_T_Y f_62 rfl d_Y_thrown_1 ?_
  exact hend H locs ls 4 _ _ (Option.some.inj hj) rfl hw d_Y_thrown_4
abbrev rm_Y_raise : Room := { frames := 0, cells := 0, slots := 0, locals := 0 }
def ws_Y_raise : List Cond := Cond.code y_Y_raise b_Y_raise 2 (some .int) :: wB
set_option maxHeartbeats 4000000 in
set_option maxRecDepth 100000 in
theorem c_Y_raise {l : Launch} {D : va_G} {cI cZ : ClassId} {ad : Nat → Nat} {n : Nat} {M : MY} {a1 : Int32} {r0 : Int32} {M0 : MY} (hj : j_Y_raise n M a1 = some (r0, M0)) : gw_Ci l y_Y_raise ws_Y_raise rm_Y_raise D (tyY cI cZ) (wY cI cZ ad M) [.ref (ad 0), .int a1] r0 (wY cI cZ ad M0) := by
  intro sz
  refine gw_meti (cc := b_Y_raise) (maxL := 2) (by decide) rfl (Nat.le_of_ble_eq_true rfl) ?_
  intro p e s m args below meth c A Q S H locs hw hend ls hl
  have S : CallFix p m c b_Y_raise 2 s args ws_Y_raise R_Y := S
  have hx := S.1
  have hb := S.2.1
  have hts := S.2.2.2.2
  have hl : lv_has ls 2 [(0, .ref (ad 0)), (1, .int a1)] := hl
  have n_T_Y : ∀ w ∈ u_ws R_Y T_Y 29, w ∈ ws_Y_raise := fun w h => List.mem_cons_of_mem _ (uT_Y w h)
  have f_62 : Cond.fieldLink R_Y 62 (T_Y 0).1 (T_Y 0).2.1 (T_Y 0).2.2.1 ∈ ws_Y_raise := List.mem_cons_of_mem _ xw_266
  unfold j_Y_raise at hj
  refine lv_aload_n hx hb d_Y_raise_0 rfl (lv_at hl 0 rfl) ?_
  refine lv_iload_n hx hb d_Y_raise_1 rfl (lv_at hl 1 rfl) ?_
  refine gw_put (v := .int a1) (ty := .int) S hw ya_R rfl (by decide) n_T_Y f_62 tk_Y nm_Y rfl (by decide +kernel) rfl rfl (Nat.le_of_ble_eq_true rfl) (ys_R 0 a1 (by decide)) d_Y_raise_2 (fun H locs hw => ?_)
  refine lv_iconst (v := 0) hx hb d_Y_raise_5 (by decide) ?_
  exact hend H locs ls 6 _ _ (Prod.mk.inj (Option.some.inj hj)).1 (congrArg (wY cI cZ ad) (Prod.mk.inj (Option.some.inj hj)).2) hw d_Y_raise_6
abbrev rm_Y_isTask : Room := { frames := 0, cells := 0, slots := 0, locals := 0 }
def ws_Y_isTask : List Cond := Cond.code y_Y_isTask b_Y_isTask 2 (some .boolean) :: wB
set_option maxHeartbeats 4000000 in
set_option maxRecDepth 100000 in
theorem c_Y_isTask {l : Launch} {D : va_G} {cI cZ : ClassId} {ad : Nat → Nat} {n : Nat} {M : MY} {a1 : Int32} {r0 : Int32} (hj : j_Y_isTask n M a1 = some r0) : gw_Cz l y_Y_isTask ws_Y_isTask rm_Y_isTask D (tyY cI cZ) (wY cI cZ ad M) [.ref (ad 0), .int a1] r0 (wY cI cZ ad M) := by
  intro sz
  refine gw_metz (cc := b_Y_isTask) (maxL := 2) (by decide) rfl (Nat.le_of_ble_eq_true rfl) ?_
  intro p e s m args below meth c A Q S H locs hw hend ls hl
  have S : CallFix p m c b_Y_isTask 2 s args ws_Y_isTask R_Y := S
  have hx := S.1
  have hb := S.2.1
  have hts := S.2.2.2.2
  have hl : lv_has ls 2 [(0, .ref (ad 0)), (1, .int a1)] := hl
  have n_T_Y : ∀ w ∈ u_ws R_Y T_Y 29, w ∈ ws_Y_isTask := fun w h => List.mem_cons_of_mem _ (uT_Y w h)
  have f_7 : Cond.fieldLink R_Y 7 (T_Y 1).1 (T_Y 1).2.1 (T_Y 1).2.2.1 ∈ ws_Y_isTask := List.mem_cons_of_mem _ xw_267
  unfold j_Y_isTask at hj
  refine lv_iload_n hx hb d_Y_isTask_0 rfl (lv_at hl 1 rfl) ?_
  refine lv_iconst (v := 1) hx hb d_Y_isTask_1 (by decide) ?_
  refine lv_icmp_lt (tgt := 24) hx hb d_Y_isTask_2 (by decide) (fun c_1 => ?_) (fun c_1 => ?_)
  · rw [if_pos c_1] at hj
    refine lv_iconst (v := 0) hx hb d_Y_isTask_24 (by decide) ?_
    exact hend H locs ls 25 _ _ (Option.some.inj hj) rfl (Or.inl rfl) hw d_Y_isTask_25
  · rw [if_neg c_1] at hj
    refine lv_iload_n hx hb d_Y_isTask_5 rfl (lv_at hl 1 rfl) ?_
    refine lv_bipush (v := 8) hx hb d_Y_isTask_6 (by decide) ?_
    refine lv_icmp_gt (tgt := 24) hx hb d_Y_isTask_8 (by decide) (fun c_2 => ?_) (fun c_2 => ?_)
    · rw [if_pos c_2] at hj
      refine lv_iconst (v := 0) hx hb d_Y_isTask_24 (by decide) ?_
      exact hend H locs ls 25 _ _ (Option.some.inj hj) rfl (Or.inl rfl) hw d_Y_isTask_25
    · rw [if_neg c_2] at hj
      refine lv_aload_n hx hb d_Y_isTask_11 rfl (lv_at hl 0 rfl) ?_
      refine gw_get (v := .ref (ad 1)) S hw ya_R rfl (by decide) n_T_Y f_7 rfl d_Y_isTask_12 ?_
      refine lv_iload_n hx hb d_Y_isTask_15 rfl (lv_at hl 1 rfl) ?_
      obtain ⟨g_3, hj⟩ := gw_if hj
      refine gw_zald (t0 := 1) S hw ⟨ya_a1, rfl⟩ g_3 d_Y_isTask_16 ?_
      refine lv_if_eq (tgt := 24) hx hb d_Y_isTask_17 (by decide) (fun c_4 => ?_) (fun c_4 => ?_)
      · rw [if_pos c_4] at hj
        refine lv_iconst (v := 0) hx hb d_Y_isTask_24 (by decide) ?_
        exact hend H locs ls 25 _ _ (Option.some.inj hj) rfl (Or.inl rfl) hw d_Y_isTask_25
      · rw [if_neg c_4] at hj
        refine lv_iconst (v := 1) hx hb d_Y_isTask_20 (by decide) ?_
        refine lv_goto (tgt := 25) hx hb d_Y_isTask_21 (by decide) ?_
        exact hend H locs ls 25 _ _ (Option.some.inj hj) rfl (Or.inr rfl) hw d_Y_isTask_25
abbrev rm_Y_task : Room := { frames := 0, cells := 0, slots := 0, locals := 0 }
def ws_Y_task : List Cond := Cond.code y_Y_task b_Y_task 6 (some .boolean) :: wB
set_option maxHeartbeats 4000000 in
set_option maxRecDepth 100000 in
theorem c_Y_task {l : Launch} {D : va_G} {cI cZ : ClassId} {ad : Nat → Nat} {n : Nat} {M : MY} {a1 : Int32} {a2 : Int32} {a3 : Int32} {a4 : Int32} {r0 : Int32} {M0 : MY} (hj : j_Y_task n M a1 a2 a3 a4 = some (r0, M0)) : gw_Cz l y_Y_task ws_Y_task rm_Y_task D (tyY cI cZ) (wY cI cZ ad M) [.ref (ad 0), .int a1, .int a2, .int a3, .int a4] r0 (wY cI cZ ad M0) := by
  intro sz
  refine gw_metz (cc := b_Y_task) (maxL := 6) (by decide) rfl (Nat.le_of_ble_eq_true rfl) ?_
  intro p e s m args below meth c A Q S H locs hw hend ls hl
  have S : CallFix p m c b_Y_task 6 s args ws_Y_task R_Y := S
  have hx := S.1
  have hb := S.2.1
  have hts := S.2.2.2.2
  have hl : lv_has ls 6 [(0, .ref (ad 0)), (1, .int a1), (2, .int a2), (3, .int a3), (4, .int a4)] := hl
  have n_T_Y : ∀ w ∈ u_ws R_Y T_Y 29, w ∈ ws_Y_task := fun w h => List.mem_cons_of_mem _ (uT_Y w h)
  have f_7 : Cond.fieldLink R_Y 7 (T_Y 1).1 (T_Y 1).2.1 (T_Y 1).2.2.1 ∈ ws_Y_task := List.mem_cons_of_mem _ xw_267
  have f_13 : Cond.fieldLink R_Y 13 (T_Y 2).1 (T_Y 2).2.1 (T_Y 2).2.2.1 ∈ ws_Y_task := List.mem_cons_of_mem _ xw_268
  have f_17 : Cond.fieldLink R_Y 17 (T_Y 3).1 (T_Y 3).2.1 (T_Y 3).2.2.1 ∈ ws_Y_task := List.mem_cons_of_mem _ xw_269
  have f_20 : Cond.fieldLink R_Y 20 (T_Y 4).1 (T_Y 4).2.1 (T_Y 4).2.2.1 ∈ ws_Y_task := List.mem_cons_of_mem _ xw_270
  have f_23 : Cond.fieldLink R_Y 23 (T_Y 5).1 (T_Y 5).2.1 (T_Y 5).2.2.1 ∈ ws_Y_task := List.mem_cons_of_mem _ xw_271
  have f_62 : Cond.fieldLink R_Y 62 (T_Y 0).1 (T_Y 0).2.1 (T_Y 0).2.2.1 ∈ ws_Y_task := List.mem_cons_of_mem _ xw_266
  have f_66 : Cond.fieldLink R_Y 66 (T_Y 25).1 (T_Y 25).2.1 (T_Y 25).2.2.1 ∈ ws_Y_task := List.mem_cons_of_mem _ xw_272
  have L74 : ∀ (f74 : Nat) (v5_74 : Int32) (M74 : MY), j_Y_task_L74 n a1 a2 a3 a4 f74 v5_74 M74 = some (r0, M0) → ∀ (H : Heap) (locs : List Loc), gw_W D (tyY cI cZ) A (wY cI cZ ad M74) s H locs → ∀ ls : Array Slot, lv_has ls 6 [(0, .ref (ad 0)), (1, .int a1), (2, .int a2), (3, .int a3), (4, .int a4), (5, .int v5_74)] → W p l e rm_Y_task s m args below meth c H locs 0 0 Q (F0 m 74 ls []) := by
    intro f74
    induction f74 with
    | zero =>
      intro v5_74 M74 hj
      exact nomatch (show (none : Option (Int32 × MY)) = some (r0, M0) from hj)
    | succ f74 ih74 =>
      intro v5_74 M74 hj H locs hw ls hl
      rw [j_Y_task_L74] at hj
      refine lv_iload hx hb d_Y_task_74 (lv_at hl 5 rfl) ?_
      refine lv_bipush (v := 8) hx hb d_Y_task_76 (by decide) ?_
      refine lv_icmp_gt (tgt := 111) hx hb d_Y_task_78 (by decide) (fun c_12 => ?_) (fun c_12 => ?_)
      · rw [if_pos c_12] at hj
        refine lv_aload_n hx hb d_Y_task_111 rfl (lv_at hl 0 rfl) ?_
        refine gw_get (v := .ref (ad 1)) S hw ya_R rfl (by decide) n_T_Y f_7 rfl d_Y_task_112 ?_
        refine lv_iload_n hx hb d_Y_task_115 rfl (lv_at hl 1 rfl) ?_
        refine lv_iconst (v := 1) hx hb d_Y_task_116 (by decide) ?_
        obtain ⟨g_13, hj⟩ := gw_if hj
        refine gw_zast (t0 := 1) S hw ⟨ya_a1, rfl⟩ g_13 (by decide) (ys_a1 a1.toNatClampNeg 1) d_Y_task_117 (fun H locs hw => ?_)
        refine lv_aload_n hx hb d_Y_task_118 rfl (lv_at hl 0 rfl) ?_
        refine gw_get (v := .ref (ad 2)) S hw ya_R rfl (by decide) n_T_Y f_13 rfl d_Y_task_119 ?_
        refine lv_iload_n hx hb d_Y_task_122 rfl (lv_at hl 1 rfl) ?_
        refine lv_iload_n hx hb d_Y_task_123 rfl (lv_at hl 2 rfl) ?_
        obtain ⟨g_14, hj⟩ := gw_if hj
        refine gw_iast (t0 := 0) S hw ⟨ya_a2, rfl⟩ g_14 (ys_a2 a1.toNatClampNeg a2) d_Y_task_124 (fun H locs hw => ?_)
        refine lv_aload_n hx hb d_Y_task_125 rfl (lv_at hl 0 rfl) ?_
        refine gw_get (v := .ref (ad 3)) S hw ya_R rfl (by decide) n_T_Y f_17 rfl d_Y_task_126 ?_
        refine lv_iload_n hx hb d_Y_task_129 rfl (lv_at hl 1 rfl) ?_
        refine lv_iload_n hx hb d_Y_task_130 rfl (lv_at hl 3 rfl) ?_
        obtain ⟨g_15, hj⟩ := gw_if hj
        refine gw_iast (t0 := 0) S hw ⟨ya_a3, rfl⟩ g_15 (ys_a3 a1.toNatClampNeg a3) d_Y_task_131 (fun H locs hw => ?_)
        refine lv_aload_n hx hb d_Y_task_132 rfl (lv_at hl 0 rfl) ?_
        refine gw_get (v := .ref (ad 4)) S hw ya_R rfl (by decide) n_T_Y f_20 rfl d_Y_task_133 ?_
        refine lv_iload_n hx hb d_Y_task_136 rfl (lv_at hl 1 rfl) ?_
        refine lv_iload hx hb d_Y_task_137 (lv_at hl 4 rfl) ?_
        obtain ⟨g_16, hj⟩ := gw_if hj
        refine gw_iast (t0 := 0) S hw ⟨ya_a4, rfl⟩ g_16 (ys_a4 a1.toNatClampNeg a4) d_Y_task_139 (fun H locs hw => ?_)
        refine lv_aload_n hx hb d_Y_task_140 rfl (lv_at hl 0 rfl) ?_
        refine gw_get (v := .ref (ad 5)) S hw ya_R rfl (by decide) n_T_Y f_23 rfl d_Y_task_141 ?_
        refine lv_iload_n hx hb d_Y_task_144 rfl (lv_at hl 1 rfl) ?_
        refine lv_iconst (v := 0) hx hb d_Y_task_145 (by decide) ?_
        obtain ⟨g_17, hj⟩ := gw_if hj
        refine gw_iast (t0 := 0) S hw ⟨ya_a5, rfl⟩ g_17 (ys_a5 a1.toNatClampNeg 0) d_Y_task_146 (fun H locs hw => ?_)
        refine lv_iconst (v := 1) hx hb d_Y_task_147 (by decide) ?_
        exact hend H locs ls 148 _ _ (Prod.mk.inj (Option.some.inj hj)).1 (congrArg (wY cI cZ ad) (Prod.mk.inj (Option.some.inj hj)).2) (Or.inr rfl) hw d_Y_task_148
      · rw [if_neg c_12] at hj
        refine lv_aload_n hx hb d_Y_task_81 rfl (lv_at hl 0 rfl) ?_
        refine gw_get (v := .ref (ad 1)) S hw ya_R rfl (by decide) n_T_Y f_7 rfl d_Y_task_82 ?_
        refine lv_iload hx hb d_Y_task_85 (lv_at hl 5 rfl) ?_
        obtain ⟨g_18, hj⟩ := gw_if hj
        refine gw_zald (t0 := 1) S hw ⟨ya_a1, rfl⟩ g_18 d_Y_task_87 ?_
        refine lv_if_eq (tgt := 105) hx hb d_Y_task_88 (by decide) (fun c_19 => ?_) (fun c_19 => ?_)
        · rw [if_pos c_19] at hj
          refine lv_iinc (v := (v5_74 + 1)) (lv' := [(5, .int (v5_74 + 1)), (0, .ref (ad 0)), (1, .int a1), (2, .int a2), (3, .int a3), (4, .int a4)]) hx hb d_Y_task_105 hl (k := 5) rfl rfl (by decide) rfl (fun ls hl => ?_)
          refine lv_goto (tgt := 74) hx hb d_Y_task_108 (by decide) ?_
          exact ih74 (v5_74 + 1) M74 hj H locs hw ls (lv_sub hl [1, 2, 3, 4, 5, 0] rfl)
        · rw [if_neg c_19] at hj
          refine lv_aload_n hx hb d_Y_task_91 rfl (lv_at hl 0 rfl) ?_
          refine gw_get (v := .ref (ad 4)) S hw ya_R rfl (by decide) n_T_Y f_20 rfl d_Y_task_92 ?_
          refine lv_iload hx hb d_Y_task_95 (lv_at hl 5 rfl) ?_
          obtain ⟨g_20, hj⟩ := gw_if hj
          refine gw_iald (t0 := 0) S hw ⟨ya_a4, rfl⟩ g_20 d_Y_task_97 ?_
          refine lv_iload hx hb d_Y_task_98 (lv_at hl 4 rfl) ?_
          refine lv_icmp_ne (tgt := 105) hx hb d_Y_task_100 (by decide) (fun c_21 => ?_) (fun c_21 => ?_)
          · rw [if_neg c_21] at hj
            refine lv_iinc (v := (v5_74 + 1)) (lv' := [(5, .int (v5_74 + 1)), (0, .ref (ad 0)), (1, .int a1), (2, .int a2), (3, .int a3), (4, .int a4)]) hx hb d_Y_task_105 hl (k := 5) rfl rfl (by decide) rfl (fun ls hl => ?_)
            refine lv_goto (tgt := 74) hx hb d_Y_task_108 (by decide) ?_
            exact ih74 (v5_74 + 1) M74 hj H locs hw ls (lv_sub hl [1, 2, 3, 4, 5, 0] rfl)
          · rw [if_pos c_21] at hj
            refine lv_iconst (v := 0) hx hb d_Y_task_103 (by decide) ?_
            exact hend H locs ls 104 _ _ (Prod.mk.inj (Option.some.inj hj)).1 (congrArg (wY cI cZ ad) (Prod.mk.inj (Option.some.inj hj)).2) (Or.inl rfl) hw d_Y_task_104
  unfold j_Y_task at hj
  refine lv_aload_n hx hb d_Y_task_0 rfl (lv_at hl 0 rfl) ?_
  refine lv_iconst (v := 0) hx hb d_Y_task_1 (by decide) ?_
  refine gw_put (v := .int 0) (ty := .int) S hw ya_R rfl (by decide) n_T_Y f_62 tk_Y nm_Y rfl (by decide +kernel) rfl rfl (Nat.le_of_ble_eq_true rfl) (ys_R 0 0 (by decide)) d_Y_task_2 (fun H locs hw => ?_)
  refine lv_aload_n hx hb d_Y_task_5 rfl (lv_at hl 0 rfl) ?_
  refine gw_get (v := .int ((sV M 0 0).2 25)) S hw ya_R rfl (by decide) n_T_Y f_66 rfl d_Y_task_6 ?_
  refine lv_if_ne (tgt := 69) hx hb d_Y_task_9 (by decide) (fun c_1 => ?_) (fun c_1 => ?_)
  · rw [if_neg c_1] at hj
    refine lv_iconst (v := 0) hx hb d_Y_task_69 (by decide) ?_
    exact hend H locs ls 70 _ _ (Prod.mk.inj (Option.some.inj hj)).1 (congrArg (wY cI cZ ad) (Prod.mk.inj (Option.some.inj hj)).2) (Or.inl rfl) hw d_Y_task_70
  · rw [if_pos c_1] at hj
    refine lv_iload_n hx hb d_Y_task_12 rfl (lv_at hl 1 rfl) ?_
    refine lv_iconst (v := 1) hx hb d_Y_task_13 (by decide) ?_
    refine lv_icmp_lt (tgt := 69) hx hb d_Y_task_14 (by decide) (fun c_2 => ?_) (fun c_2 => ?_)
    · rw [if_pos c_2] at hj
      refine lv_iconst (v := 0) hx hb d_Y_task_69 (by decide) ?_
      exact hend H locs ls 70 _ _ (Prod.mk.inj (Option.some.inj hj)).1 (congrArg (wY cI cZ ad) (Prod.mk.inj (Option.some.inj hj)).2) (Or.inl rfl) hw d_Y_task_70
    · rw [if_neg c_2] at hj
      refine lv_iload_n hx hb d_Y_task_17 rfl (lv_at hl 1 rfl) ?_
      refine lv_bipush (v := 8) hx hb d_Y_task_18 (by decide) ?_
      refine lv_icmp_gt (tgt := 69) hx hb d_Y_task_20 (by decide) (fun c_3 => ?_) (fun c_3 => ?_)
      · rw [if_pos c_3] at hj
        refine lv_iconst (v := 0) hx hb d_Y_task_69 (by decide) ?_
        exact hend H locs ls 70 _ _ (Prod.mk.inj (Option.some.inj hj)).1 (congrArg (wY cI cZ ad) (Prod.mk.inj (Option.some.inj hj)).2) (Or.inl rfl) hw d_Y_task_70
      · rw [if_neg c_3] at hj
        refine lv_aload_n hx hb d_Y_task_23 rfl (lv_at hl 0 rfl) ?_
        refine gw_get (v := .ref (ad 1)) S hw ya_R rfl (by decide) n_T_Y f_7 rfl d_Y_task_24 ?_
        refine lv_iload_n hx hb d_Y_task_27 rfl (lv_at hl 1 rfl) ?_
        obtain ⟨g_4, hj⟩ := gw_if hj
        refine gw_zald (t0 := 1) S hw ⟨ya_a1, rfl⟩ g_4 d_Y_task_28 ?_
        refine lv_if_ne (tgt := 69) hx hb d_Y_task_29 (by decide) (fun c_5 => ?_) (fun c_5 => ?_)
        · rw [if_neg c_5] at hj
          refine lv_iconst (v := 0) hx hb d_Y_task_69 (by decide) ?_
          exact hend H locs ls 70 _ _ (Prod.mk.inj (Option.some.inj hj)).1 (congrArg (wY cI cZ ad) (Prod.mk.inj (Option.some.inj hj)).2) (Or.inl rfl) hw d_Y_task_70
        · rw [if_pos c_5] at hj
          refine lv_iload_n hx hb d_Y_task_32 rfl (lv_at hl 2 rfl) ?_
          refine lv_iconst (v := 1) hx hb d_Y_task_33 (by decide) ?_
          refine lv_icmp_lt (tgt := 69) hx hb d_Y_task_34 (by decide) (fun c_6 => ?_) (fun c_6 => ?_)
          · rw [if_pos c_6] at hj
            refine lv_iconst (v := 0) hx hb d_Y_task_69 (by decide) ?_
            exact hend H locs ls 70 _ _ (Prod.mk.inj (Option.some.inj hj)).1 (congrArg (wY cI cZ ad) (Prod.mk.inj (Option.some.inj hj)).2) (Or.inl rfl) hw d_Y_task_70
          · rw [if_neg c_6] at hj
            refine lv_iload_n hx hb d_Y_task_37 rfl (lv_at hl 2 rfl) ?_
            refine lv_sipush (v := 1000) hx hb d_Y_task_38 (by decide) ?_
            refine lv_icmp_gt (tgt := 69) hx hb d_Y_task_41 (by decide) (fun c_7 => ?_) (fun c_7 => ?_)
            · rw [if_pos c_7] at hj
              refine lv_iconst (v := 0) hx hb d_Y_task_69 (by decide) ?_
              exact hend H locs ls 70 _ _ (Prod.mk.inj (Option.some.inj hj)).1 (congrArg (wY cI cZ ad) (Prod.mk.inj (Option.some.inj hj)).2) (Or.inl rfl) hw d_Y_task_70
            · rw [if_neg c_7] at hj
              refine lv_iload_n hx hb d_Y_task_44 rfl (lv_at hl 3 rfl) ?_
              refine lv_iconst (v := 1) hx hb d_Y_task_45 (by decide) ?_
              refine lv_icmp_lt (tgt := 69) hx hb d_Y_task_46 (by decide) (fun c_8 => ?_) (fun c_8 => ?_)
              · rw [if_pos c_8] at hj
                refine lv_iconst (v := 0) hx hb d_Y_task_69 (by decide) ?_
                exact hend H locs ls 70 _ _ (Prod.mk.inj (Option.some.inj hj)).1 (congrArg (wY cI cZ ad) (Prod.mk.inj (Option.some.inj hj)).2) (Or.inl rfl) hw d_Y_task_70
              · rw [if_neg c_8] at hj
                refine lv_iload_n hx hb d_Y_task_49 rfl (lv_at hl 3 rfl) ?_
                refine lv_bipush (v := 8) hx hb d_Y_task_50 (by decide) ?_
                refine lv_iload_n hx hb d_Y_task_52 rfl (lv_at hl 2 rfl) ?_
                refine lv_imul hx hb d_Y_task_53 ?_
                refine lv_icmp_gt (tgt := 69) hx hb d_Y_task_54 (by decide) (fun c_9 => ?_) (fun c_9 => ?_)
                · rw [if_pos c_9] at hj
                  refine lv_iconst (v := 0) hx hb d_Y_task_69 (by decide) ?_
                  exact hend H locs ls 70 _ _ (Prod.mk.inj (Option.some.inj hj)).1 (congrArg (wY cI cZ ad) (Prod.mk.inj (Option.some.inj hj)).2) (Or.inl rfl) hw d_Y_task_70
                · rw [if_neg c_9] at hj
                  refine lv_iload hx hb d_Y_task_57 (lv_at hl 4 rfl) ?_
                  refine lv_if_lt (tgt := 69) hx hb d_Y_task_59 (by decide) (fun c_10 => ?_) (fun c_10 => ?_)
                  · rw [if_pos c_10] at hj
                    refine lv_iconst (v := 0) hx hb d_Y_task_69 (by decide) ?_
                    exact hend H locs ls 70 _ _ (Prod.mk.inj (Option.some.inj hj)).1 (congrArg (wY cI cZ ad) (Prod.mk.inj (Option.some.inj hj)).2) (Or.inl rfl) hw d_Y_task_70
                  · rw [if_neg c_10] at hj
                    refine lv_iload hx hb d_Y_task_62 (lv_at hl 4 rfl) ?_
                    refine lv_bipush (v := 99) hx hb d_Y_task_64 (by decide) ?_
                    refine lv_icmp_le (tgt := 71) hx hb d_Y_task_66 (by decide) (fun c_11 => ?_) (fun c_11 => ?_)
                    · rw [if_pos c_11] at hj
                      refine lv_iconst (v := 1) hx hb d_Y_task_71 (by decide) ?_
                      refine lv_istore (lv' := [(5, .int 1), (0, .ref (ad 0)), (1, .int a1), (2, .int a2), (3, .int a3), (4, .int a4)]) hx hb d_Y_task_72 hl (by decide) rfl (fun ls hl => ?_)
                      exact L74 n 1 (sV M 0 0) hj H locs hw ls (lv_sub hl [1, 2, 3, 4, 5, 0] rfl)
                    · rw [if_neg c_11] at hj
                      refine lv_iconst (v := 0) hx hb d_Y_task_69 (by decide) ?_
                      exact hend H locs ls 70 _ _ (Prod.mk.inj (Option.some.inj hj)).1 (congrArg (wY cI cZ ad) (Prod.mk.inj (Option.some.inj hj)).2) (Or.inl rfl) hw d_Y_task_70
abbrev rm_Y_segment : Room := { frames := 1, cells := 0, slots := 0, locals := 21 }
def ws_Y_segment : List Cond := Cond.code y_Y_segment b_Y_segment 3 (some .boolean) :: wB
set_option maxHeartbeats 4000000 in
set_option maxRecDepth 100000 in
theorem c_Y_segment {l : Launch} {D : va_G} {cI cZ : ClassId} {ad : Nat → Nat} {n : Nat} {M : MY} {a1 : Int32} {a2 : Int32} {r0 : Int32} {M0 : MY} (hj : j_Y_segment n M a1 a2 = some (r0, M0)) : gw_Cz l y_Y_segment ws_Y_segment rm_Y_segment D (tyY cI cZ) (wY cI cZ ad M) [.ref (ad 0), .int a1, .int a2] r0 (wY cI cZ ad M0) := by
  intro sz
  refine gw_metz (cc := b_Y_segment) (maxL := 3) (by decide) rfl (Nat.le_of_ble_eq_true rfl) ?_
  intro p e s m args below meth c A Q S H locs hw hend ls hl
  have S : CallFix p m c b_Y_segment 3 s args ws_Y_segment R_Y := S
  have hx := S.1
  have hb := S.2.1
  have hts := S.2.2.2.2
  have hl : lv_has ls 3 [(0, .ref (ad 0)), (1, .int a1), (2, .int a2)] := hl
  have n_T_Y : ∀ w ∈ u_ws R_Y T_Y 29, w ∈ ws_Y_segment := fun w h => List.mem_cons_of_mem _ (uT_Y w h)
  have f_23 : Cond.fieldLink R_Y 23 (T_Y 5).1 (T_Y 5).2.1 (T_Y 5).2.2.1 ∈ ws_Y_segment := List.mem_cons_of_mem _ xw_271
  have f_26 : Cond.fieldLink R_Y 26 (T_Y 6).1 (T_Y 6).2.1 (T_Y 6).2.2.1 ∈ ws_Y_segment := List.mem_cons_of_mem _ xw_273
  have f_62 : Cond.fieldLink R_Y 62 (T_Y 0).1 (T_Y 0).2.1 (T_Y 0).2.2.1 ∈ ws_Y_segment := List.mem_cons_of_mem _ xw_266
  have f_66 : Cond.fieldLink R_Y 66 (T_Y 25).1 (T_Y 25).2.1 (T_Y 25).2.2.1 ∈ ws_Y_segment := List.mem_cons_of_mem _ xw_272
  have w_70 : CallW rm_Y_segment s args R_Y R_Y 70 y_Y_isTask b_Y_isTask 2 (some .boolean) ws_Y_isTask rm_Y_isTask 0 0 1 := cwV 1 hts (wB_callV (fun w h => List.mem_cons_of_mem _ h) xw_274 xw_275 xw_276 xw_277 xw_278) rfl rfl rfl (by decide +kernel) ⟨Nat.le_of_ble_eq_true rfl, Nat.le_of_ble_eq_true rfl⟩
  unfold j_Y_segment at hj
  refine lv_aload_n hx hb d_Y_segment_0 rfl (lv_at hl 0 rfl) ?_
  refine lv_iconst (v := 0) hx hb d_Y_segment_1 (by decide) ?_
  refine gw_put (v := .int 0) (ty := .int) S hw ya_R rfl (by decide) n_T_Y f_62 tk_Y nm_Y rfl (by decide +kernel) rfl rfl (Nat.le_of_ble_eq_true rfl) (ys_R 0 0 (by decide)) d_Y_segment_2 (fun H locs hw => ?_)
  refine lv_aload_n hx hb d_Y_segment_5 rfl (lv_at hl 0 rfl) ?_
  refine gw_get (v := .int ((sV M 0 0).2 25)) S hw ya_R rfl (by decide) n_T_Y f_66 rfl d_Y_segment_6 ?_
  refine lv_if_ne (tgt := 42) hx hb d_Y_segment_9 (by decide) (fun c_1 => ?_) (fun c_1 => ?_)
  · rw [if_neg c_1] at hj
    refine lv_iconst (v := 0) hx hb d_Y_segment_42 (by decide) ?_
    exact hend H locs ls 43 _ _ (Prod.mk.inj (Option.some.inj hj)).1 (congrArg (wY cI cZ ad) (Prod.mk.inj (Option.some.inj hj)).2) (Or.inl rfl) hw d_Y_segment_43
  · rw [if_pos c_1] at hj
    refine lv_aload_n hx hb d_Y_segment_12 rfl (lv_at hl 0 rfl) ?_
    refine lv_iload_n hx hb d_Y_segment_13 rfl (lv_at hl 1 rfl) ?_
    obtain ⟨r_3, e_2, hj⟩ := Option.bind_eq_some_iff.mp hj
    refine gw_calli (As := [.int a1]) (rest := []) S hw (c_Y_isTask e_2) w_70 ya_R rfl rfl hl.1 rfl (Nat.le_of_ble_eq_true rfl) d_Y_segment_14 (fun H locs hw => ?_)
    refine lv_if_eq (tgt := 42) hx hb d_Y_segment_17 (by decide) (fun c_4 => ?_) (fun c_4 => ?_)
    · rw [if_pos c_4] at hj
      refine lv_iconst (v := 0) hx hb d_Y_segment_42 (by decide) ?_
      exact hend H locs ls 43 _ _ (Prod.mk.inj (Option.some.inj hj)).1 (congrArg (wY cI cZ ad) (Prod.mk.inj (Option.some.inj hj)).2) (Or.inl rfl) hw d_Y_segment_43
    · rw [if_neg c_4] at hj
      refine lv_aload_n hx hb d_Y_segment_20 rfl (lv_at hl 0 rfl) ?_
      refine gw_get (v := .ref (ad 5)) S hw ya_R rfl (by decide) n_T_Y f_23 rfl d_Y_segment_21 ?_
      refine lv_iload_n hx hb d_Y_segment_24 rfl (lv_at hl 1 rfl) ?_
      obtain ⟨g_5, hj⟩ := gw_if hj
      refine gw_iald (t0 := 0) S hw ⟨ya_a5, rfl⟩ g_5 d_Y_segment_25 ?_
      refine lv_bipush (v := 8) hx hb d_Y_segment_26 (by decide) ?_
      refine lv_icmp_eq (tgt := 42) hx hb d_Y_segment_28 (by decide) (fun c_6 => ?_) (fun c_6 => ?_)
      · rw [if_pos c_6] at hj
        refine lv_iconst (v := 0) hx hb d_Y_segment_42 (by decide) ?_
        exact hend H locs ls 43 _ _ (Prod.mk.inj (Option.some.inj hj)).1 (congrArg (wY cI cZ ad) (Prod.mk.inj (Option.some.inj hj)).2) (Or.inl rfl) hw d_Y_segment_43
      · rw [if_neg c_6] at hj
        refine lv_iload_n hx hb d_Y_segment_31 rfl (lv_at hl 2 rfl) ?_
        refine lv_iconst (v := 1) hx hb d_Y_segment_32 (by decide) ?_
        refine lv_icmp_lt (tgt := 42) hx hb d_Y_segment_33 (by decide) (fun c_7 => ?_) (fun c_7 => ?_)
        · rw [if_pos c_7] at hj
          refine lv_iconst (v := 0) hx hb d_Y_segment_42 (by decide) ?_
          exact hend H locs ls 43 _ _ (Prod.mk.inj (Option.some.inj hj)).1 (congrArg (wY cI cZ ad) (Prod.mk.inj (Option.some.inj hj)).2) (Or.inl rfl) hw d_Y_segment_43
        · rw [if_neg c_7] at hj
          refine lv_iload_n hx hb d_Y_segment_36 rfl (lv_at hl 2 rfl) ?_
          refine lv_bipush (v := 100) hx hb d_Y_segment_37 (by decide) ?_
          refine lv_icmp_le (tgt := 44) hx hb d_Y_segment_39 (by decide) (fun c_8 => ?_) (fun c_8 => ?_)
          · rw [if_pos c_8] at hj
            refine lv_aload_n hx hb d_Y_segment_44 rfl (lv_at hl 0 rfl) ?_
            refine gw_get (v := .ref (ad 6)) S hw ya_R rfl (by decide) n_T_Y f_26 rfl d_Y_segment_45 ?_
            refine lv_bipush (v := 8) hx hb d_Y_segment_48 (by decide) ?_
            refine lv_iload_n hx hb d_Y_segment_50 rfl (lv_at hl 1 rfl) ?_
            refine lv_imul hx hb d_Y_segment_51 ?_
            refine lv_aload_n hx hb d_Y_segment_52 rfl (lv_at hl 0 rfl) ?_
            refine gw_get (v := .ref (ad 5)) S hw ya_R rfl (by decide) n_T_Y f_23 rfl d_Y_segment_53 ?_
            refine lv_iload_n hx hb d_Y_segment_56 rfl (lv_at hl 1 rfl) ?_
            obtain ⟨g_9, hj⟩ := gw_if hj
            refine gw_iald (t0 := 0) S hw ⟨ya_a5, rfl⟩ g_9 d_Y_segment_57 ?_
            refine lv_iadd hx hb d_Y_segment_58 ?_
            refine lv_iload_n hx hb d_Y_segment_59 rfl (lv_at hl 2 rfl) ?_
            obtain ⟨g_10, hj⟩ := gw_if hj
            refine gw_iast (t0 := 0) S hw ⟨ya_a6, rfl⟩ g_10 (ys_a6 ((8 * a1) + ((sV M 0 0).1 5 a1.toNatClampNeg)).toNatClampNeg a2) d_Y_segment_60 (fun H locs hw => ?_)
            refine lv_aload_n hx hb d_Y_segment_61 rfl (lv_at hl 0 rfl) ?_
            refine gw_get (v := .ref (ad 5)) S hw ya_R rfl (by decide) n_T_Y f_23 rfl d_Y_segment_62 ?_
            refine lv_iload_n hx hb d_Y_segment_65 rfl (lv_at hl 1 rfl) ?_
            refine lv_dup2_11 hx hb d_Y_segment_66 rfl rfl ?_
            obtain ⟨g_11, hj⟩ := gw_if hj
            refine gw_iald (t0 := 0) S hw ⟨ya_a5, rfl⟩ g_11 d_Y_segment_67 ?_
            refine lv_iconst (v := 1) hx hb d_Y_segment_68 (by decide) ?_
            refine lv_iadd hx hb d_Y_segment_69 ?_
            obtain ⟨g_12, hj⟩ := gw_if hj
            refine gw_iast (t0 := 0) S hw ⟨ya_a5, rfl⟩ g_12 (ys_a5 a1.toNatClampNeg (((sA (sV M 0 0) 6 ((8 * a1) + ((sV M 0 0).1 5 a1.toNatClampNeg)).toNatClampNeg a2).1 5 a1.toNatClampNeg) + 1)) d_Y_segment_70 (fun H locs hw => ?_)
            refine lv_iconst (v := 1) hx hb d_Y_segment_71 (by decide) ?_
            exact hend H locs ls 72 _ _ (Prod.mk.inj (Option.some.inj hj)).1 (congrArg (wY cI cZ ad) (Prod.mk.inj (Option.some.inj hj)).2) (Or.inr rfl) hw d_Y_segment_72
          · rw [if_neg c_8] at hj
            refine lv_iconst (v := 0) hx hb d_Y_segment_42 (by decide) ?_
            exact hend H locs ls 43 _ _ (Prod.mk.inj (Option.some.inj hj)).1 (congrArg (wY cI cZ ad) (Prod.mk.inj (Option.some.inj hj)).2) (Or.inl rfl) hw d_Y_segment_43
abbrev rm_Y_forgetJobs : Room := { frames := 0, cells := 0, slots := 0, locals := 0 }
def ws_Y_forgetJobs : List Cond := Cond.code y_Y_forgetJobs b_Y_forgetJobs 2 none :: wB
set_option maxHeartbeats 4000000 in
set_option maxRecDepth 100000 in
theorem c_Y_forgetJobs {l : Launch} {D : va_G} {cI cZ : ClassId} {ad : Nat → Nat} {n : Nat} {M : MY} {M0 : MY} (hj : j_Y_forgetJobs n M = some M0) : gw_Cv l y_Y_forgetJobs ws_Y_forgetJobs rm_Y_forgetJobs D (tyY cI cZ) (wY cI cZ ad M) [.ref (ad 0)] (wY cI cZ ad M0) := by
  intro sz
  refine gw_metv (cc := b_Y_forgetJobs) (maxL := 2) (by decide) rfl (Nat.le_of_ble_eq_true rfl) ?_
  intro p e s m args below meth c A Q S H locs hw hend ls hl
  have S : CallFix p m c b_Y_forgetJobs 2 s args ws_Y_forgetJobs R_Y := S
  have hx := S.1
  have hb := S.2.1
  have hts := S.2.2.2.2
  have hl : lv_has ls 2 [(0, .ref (ad 0))] := hl
  have n_T_Y : ∀ w ∈ u_ws R_Y T_Y 29, w ∈ ws_Y_forgetJobs := fun w h => List.mem_cons_of_mem _ (uT_Y w h)
  have f_35 : Cond.fieldLink R_Y 35 (T_Y 16).1 (T_Y 16).2.1 (T_Y 16).2.2.1 ∈ ws_Y_forgetJobs := List.mem_cons_of_mem _ xw_279
  have f_38 : Cond.fieldLink R_Y 38 (T_Y 17).1 (T_Y 17).2.1 (T_Y 17).2.2.1 ∈ ws_Y_forgetJobs := List.mem_cons_of_mem _ xw_280
  have f_47 : Cond.fieldLink R_Y 47 (T_Y 20).1 (T_Y 20).2.1 (T_Y 20).2.2.1 ∈ ws_Y_forgetJobs := List.mem_cons_of_mem _ xw_281
  have f_50 : Cond.fieldLink R_Y 50 (T_Y 21).1 (T_Y 21).2.1 (T_Y 21).2.2.1 ∈ ws_Y_forgetJobs := List.mem_cons_of_mem _ xw_282
  have f_53 : Cond.fieldLink R_Y 53 (T_Y 22).1 (T_Y 22).2.1 (T_Y 22).2.2.1 ∈ ws_Y_forgetJobs := List.mem_cons_of_mem _ xw_283
  have f_56 : Cond.fieldLink R_Y 56 (T_Y 23).1 (T_Y 23).2.1 (T_Y 23).2.2.1 ∈ ws_Y_forgetJobs := List.mem_cons_of_mem _ xw_284
  have f_66 : Cond.fieldLink R_Y 66 (T_Y 25).1 (T_Y 25).2.1 (T_Y 25).2.2.1 ∈ ws_Y_forgetJobs := List.mem_cons_of_mem _ xw_272
  have f_74 : Cond.fieldLink R_Y 74 (T_Y 15).1 (T_Y 15).2.1 (T_Y 15).2.2.1 ∈ ws_Y_forgetJobs := List.mem_cons_of_mem _ xw_285
  have f_77 : Cond.fieldLink R_Y 77 (T_Y 26).1 (T_Y 26).2.1 (T_Y 26).2.2.1 ∈ ws_Y_forgetJobs := List.mem_cons_of_mem _ xw_286
  have f_80 : Cond.fieldLink R_Y 80 (T_Y 27).1 (T_Y 27).2.1 (T_Y 27).2.2.1 ∈ ws_Y_forgetJobs := List.mem_cons_of_mem _ xw_287
  have f_83 : Cond.fieldLink R_Y 83 (T_Y 28).1 (T_Y 28).2.1 (T_Y 28).2.2.1 ∈ ws_Y_forgetJobs := List.mem_cons_of_mem _ xw_288
  have L27 : ∀ (f27 : Nat) (v1_27 : Int32) (M27 : MY), j_Y_forgetJobs_L27 n f27 v1_27 M27 = some M0 → ∀ (H : Heap) (locs : List Loc), gw_W D (tyY cI cZ) A (wY cI cZ ad M27) s H locs → ∀ ls : Array Slot, lv_has ls 2 [(0, .ref (ad 0)), (1, .int v1_27)] → W p l e rm_Y_forgetJobs s m args below meth c H locs 0 0 Q (F0 m 27 ls []) := by
    intro f27
    induction f27 with
    | zero =>
      intro v1_27 M27 hj
      exact nomatch (show (none : Option MY) = some M0 from hj)
    | succ f27 ih27 =>
      intro v1_27 M27 hj H locs hw ls hl
      rw [j_Y_forgetJobs_L27] at hj
      refine lv_iload_n hx hb d_Y_forgetJobs_27 rfl (lv_at hl 1 rfl) ?_
      refine lv_bipush (v := 9) hx hb d_Y_forgetJobs_28 (by decide) ?_
      refine lv_icmp_ge (tgt := 81) hx hb d_Y_forgetJobs_30 (by decide) (fun c_1 => ?_) (fun c_1 => ?_)
      · rw [if_pos c_1] at hj
        exact hend H locs ls 81 _ (congrArg (wY cI cZ ad) (Option.some.inj hj)) hw d_Y_forgetJobs_81
      · rw [if_neg c_1] at hj
        refine lv_aload_n hx hb d_Y_forgetJobs_33 rfl (lv_at hl 0 rfl) ?_
        refine gw_get (v := .ref (ad 9)) S hw ya_R rfl (by decide) n_T_Y f_35 rfl d_Y_forgetJobs_34 ?_
        refine lv_iload_n hx hb d_Y_forgetJobs_37 rfl (lv_at hl 1 rfl) ?_
        refine lv_iconst (v := 0) hx hb d_Y_forgetJobs_38 (by decide) ?_
        obtain ⟨g_2, hj⟩ := gw_if hj
        refine gw_iast (t0 := 0) S hw ⟨ya_a9, rfl⟩ g_2 (ys_a9 v1_27.toNatClampNeg 0) d_Y_forgetJobs_39 (fun H locs hw => ?_)
        refine lv_aload_n hx hb d_Y_forgetJobs_40 rfl (lv_at hl 0 rfl) ?_
        refine gw_get (v := .ref (ad 10)) S hw ya_R rfl (by decide) n_T_Y f_38 rfl d_Y_forgetJobs_41 ?_
        refine lv_iload_n hx hb d_Y_forgetJobs_44 rfl (lv_at hl 1 rfl) ?_
        refine lv_iconst (v := 0) hx hb d_Y_forgetJobs_45 (by decide) ?_
        obtain ⟨g_3, hj⟩ := gw_if hj
        refine gw_iast (t0 := 0) S hw ⟨ya_a10, rfl⟩ g_3 (ys_a10 v1_27.toNatClampNeg 0) d_Y_forgetJobs_46 (fun H locs hw => ?_)
        refine lv_aload_n hx hb d_Y_forgetJobs_47 rfl (lv_at hl 0 rfl) ?_
        refine gw_get (v := .ref (ad 13)) S hw ya_R rfl (by decide) n_T_Y f_47 rfl d_Y_forgetJobs_48 ?_
        refine lv_iload_n hx hb d_Y_forgetJobs_51 rfl (lv_at hl 1 rfl) ?_
        refine lv_iconst (v := 0) hx hb d_Y_forgetJobs_52 (by decide) ?_
        obtain ⟨g_4, hj⟩ := gw_if hj
        refine gw_iast (t0 := 0) S hw ⟨ya_a13, rfl⟩ g_4 (ys_a13 v1_27.toNatClampNeg 0) d_Y_forgetJobs_53 (fun H locs hw => ?_)
        refine lv_aload_n hx hb d_Y_forgetJobs_54 rfl (lv_at hl 0 rfl) ?_
        refine gw_get (v := .ref (ad 14)) S hw ya_R rfl (by decide) n_T_Y f_50 rfl d_Y_forgetJobs_55 ?_
        refine lv_iload_n hx hb d_Y_forgetJobs_58 rfl (lv_at hl 1 rfl) ?_
        refine lv_iconst (v := 0) hx hb d_Y_forgetJobs_59 (by decide) ?_
        obtain ⟨g_5, hj⟩ := gw_if hj
        refine gw_iast (t0 := 0) S hw ⟨ya_a14, rfl⟩ g_5 (ys_a14 v1_27.toNatClampNeg 0) d_Y_forgetJobs_60 (fun H locs hw => ?_)
        refine lv_aload_n hx hb d_Y_forgetJobs_61 rfl (lv_at hl 0 rfl) ?_
        refine gw_get (v := .ref (ad 15)) S hw ya_R rfl (by decide) n_T_Y f_53 rfl d_Y_forgetJobs_62 ?_
        refine lv_iload_n hx hb d_Y_forgetJobs_65 rfl (lv_at hl 1 rfl) ?_
        refine lv_iconst (v := 0) hx hb d_Y_forgetJobs_66 (by decide) ?_
        obtain ⟨g_6, hj⟩ := gw_if hj
        refine gw_iast (t0 := 0) S hw ⟨ya_a15, rfl⟩ g_6 (ys_a15 v1_27.toNatClampNeg 0) d_Y_forgetJobs_67 (fun H locs hw => ?_)
        refine lv_aload_n hx hb d_Y_forgetJobs_68 rfl (lv_at hl 0 rfl) ?_
        refine gw_get (v := .ref (ad 16)) S hw ya_R rfl (by decide) n_T_Y f_56 rfl d_Y_forgetJobs_69 ?_
        refine lv_iload_n hx hb d_Y_forgetJobs_72 rfl (lv_at hl 1 rfl) ?_
        refine lv_iconst (v := 0) hx hb d_Y_forgetJobs_73 (by decide) ?_
        obtain ⟨g_7, hj⟩ := gw_if hj
        refine gw_iast (t0 := 0) S hw ⟨ya_a16, rfl⟩ g_7 (ys_a16 v1_27.toNatClampNeg 0) d_Y_forgetJobs_74 (fun H locs hw => ?_)
        refine lv_iinc (v := (v1_27 + 1)) (lv' := [(1, .int (v1_27 + 1)), (0, .ref (ad 0))]) hx hb d_Y_forgetJobs_75 hl (k := 1) rfl rfl (by decide) rfl (fun ls hl => ?_)
        refine lv_goto (tgt := 27) hx hb d_Y_forgetJobs_78 (by decide) ?_
        exact ih27 (v1_27 + 1) (sA (sA (sA (sA (sA (sA M27 9 v1_27.toNatClampNeg 0) 10 v1_27.toNatClampNeg 0) 13 v1_27.toNatClampNeg 0) 14 v1_27.toNatClampNeg 0) 15 v1_27.toNatClampNeg 0) 16 v1_27.toNatClampNeg 0) hj H locs hw ls (lv_sub hl [1, 0] rfl)
  unfold j_Y_forgetJobs at hj
  refine lv_aload_n hx hb d_Y_forgetJobs_0 rfl (lv_at hl 0 rfl) ?_
  refine lv_iconst (v := 0) hx hb d_Y_forgetJobs_1 (by decide) ?_
  refine gw_put (v := .int 0) (ty := .int) S hw ya_R rfl (by decide) n_T_Y f_74 tk_Y nm_Y rfl (by decide +kernel) rfl rfl (Nat.le_of_ble_eq_true rfl) (ys_R 15 0 (by decide)) d_Y_forgetJobs_2 (fun H locs hw => ?_)
  refine lv_aload_n hx hb d_Y_forgetJobs_5 rfl (lv_at hl 0 rfl) ?_
  refine lv_iconst (v := 0) hx hb d_Y_forgetJobs_6 (by decide) ?_
  refine gw_put (v := .int 0) (ty := .boolean) S hw ya_R rfl (by decide) n_T_Y f_66 tk_Y nm_Y rfl (by decide +kernel) rfl rfl (Nat.le_of_ble_eq_true rfl) (ys_R 25 0 (by decide)) d_Y_forgetJobs_7 (fun H locs hw => ?_)
  refine lv_aload_n hx hb d_Y_forgetJobs_10 rfl (lv_at hl 0 rfl) ?_
  refine lv_iconst (v := 0) hx hb d_Y_forgetJobs_11 (by decide) ?_
  refine gw_put (v := .int 0) (ty := .int) S hw ya_R rfl (by decide) n_T_Y f_77 tk_Y nm_Y rfl (by decide +kernel) rfl rfl (Nat.le_of_ble_eq_true rfl) (ys_R 26 0 (by decide)) d_Y_forgetJobs_12 (fun H locs hw => ?_)
  refine lv_aload_n hx hb d_Y_forgetJobs_15 rfl (lv_at hl 0 rfl) ?_
  refine lv_iconst (v := 0) hx hb d_Y_forgetJobs_16 (by decide) ?_
  refine gw_put (v := .int 0) (ty := .int) S hw ya_R rfl (by decide) n_T_Y f_80 tk_Y nm_Y rfl (by decide +kernel) rfl rfl (Nat.le_of_ble_eq_true rfl) (ys_R 27 0 (by decide)) d_Y_forgetJobs_17 (fun H locs hw => ?_)
  refine lv_aload_n hx hb d_Y_forgetJobs_20 rfl (lv_at hl 0 rfl) ?_
  refine lv_iconst (v := 0) hx hb d_Y_forgetJobs_21 (by decide) ?_
  refine gw_put (v := .int 0) (ty := .int) S hw ya_R rfl (by decide) n_T_Y f_83 tk_Y nm_Y rfl (by decide +kernel) rfl rfl (Nat.le_of_ble_eq_true rfl) (ys_R 28 0 (by decide)) d_Y_forgetJobs_22 (fun H locs hw => ?_)
  refine lv_iconst (v := 0) hx hb d_Y_forgetJobs_25 (by decide) ?_
  refine lv_istore_n (lv' := [(1, .int 0), (0, .ref (ad 0))]) hx hb d_Y_forgetJobs_26 rfl hl (by decide) rfl (fun ls hl => ?_)
  exact L27 n 0 (sV (sV (sV (sV (sV M 15 0) 25 0) 26 0) 27 0) 28 0) hj H locs hw ls (lv_sub hl [1, 0] rfl)
abbrev rm_Y_clear : Room := { frames := 1, cells := 0, slots := 0, locals := 21 }
def ws_Y_clear : List Cond := Cond.code y_Y_clear b_Y_clear 2 none :: wB
set_option maxHeartbeats 4000000 in
set_option maxRecDepth 100000 in
theorem c_Y_clear {l : Launch} {D : va_G} {cI cZ : ClassId} {ad : Nat → Nat} {n : Nat} {M : MY} {M0 : MY} (hj : j_Y_clear n M = some M0) : gw_Cv l y_Y_clear ws_Y_clear rm_Y_clear D (tyY cI cZ) (wY cI cZ ad M) [.ref (ad 0)] (wY cI cZ ad M0) := by
  intro sz
  refine gw_metv (cc := b_Y_clear) (maxL := 2) (by decide) rfl (Nat.le_of_ble_eq_true rfl) ?_
  intro p e s m args below meth c A Q S H locs hw hend ls hl
  have S : CallFix p m c b_Y_clear 2 s args ws_Y_clear R_Y := S
  have hx := S.1
  have hb := S.2.1
  have hts := S.2.2.2.2
  have hl : lv_has ls 2 [(0, .ref (ad 0))] := hl
  have n_T_Y : ∀ w ∈ u_ws R_Y T_Y 29, w ∈ ws_Y_clear := fun w h => List.mem_cons_of_mem _ (uT_Y w h)
  have f_7 : Cond.fieldLink R_Y 7 (T_Y 1).1 (T_Y 1).2.1 (T_Y 1).2.2.1 ∈ ws_Y_clear := List.mem_cons_of_mem _ xw_267
  have f_62 : Cond.fieldLink R_Y 62 (T_Y 0).1 (T_Y 0).2.1 (T_Y 0).2.2.1 ∈ ws_Y_clear := List.mem_cons_of_mem _ xw_266
  have w_86 : CallW rm_Y_clear s args R_Y R_Y 86 y_Y_forgetJobs b_Y_forgetJobs 2 none ws_Y_forgetJobs rm_Y_forgetJobs 0 0 0 := cwV 0 hts (wB_callV (fun w h => List.mem_cons_of_mem _ h) xw_289 xw_290 xw_291 xw_292 xw_278) rfl rfl rfl (by decide +kernel) ⟨Nat.le_of_ble_eq_true rfl, Nat.le_of_ble_eq_true rfl⟩
  have L7 : ∀ (f7 : Nat) (v1_7 : Int32) (M7 : MY), j_Y_clear_L7 n f7 v1_7 M7 = some M0 → ∀ (H : Heap) (locs : List Loc), gw_W D (tyY cI cZ) A (wY cI cZ ad M7) s H locs → ∀ ls : Array Slot, lv_has ls 2 [(0, .ref (ad 0)), (1, .int v1_7)] → W p l e rm_Y_clear s m args below meth c H locs 0 0 Q (F0 m 7 ls []) := by
    intro f7
    induction f7 with
    | zero =>
      intro v1_7 M7 hj
      exact nomatch (show (none : Option MY) = some M0 from hj)
    | succ f7 ih7 =>
      intro v1_7 M7 hj H locs hw ls hl
      rw [j_Y_clear_L7] at hj
      refine lv_iload_n hx hb d_Y_clear_7 rfl (lv_at hl 1 rfl) ?_
      refine lv_bipush (v := 9) hx hb d_Y_clear_8 (by decide) ?_
      refine lv_icmp_ge (tgt := 26) hx hb d_Y_clear_10 (by decide) (fun c_1 => ?_) (fun c_1 => ?_)
      · rw [if_pos c_1] at hj
        refine lv_aload_n hx hb d_Y_clear_26 rfl (lv_at hl 0 rfl) ?_
        obtain ⟨M_3, e_2, hj⟩ := Option.bind_eq_some_iff.mp hj
        refine gw_callv (As := []) (rest := []) S hw (c_Y_forgetJobs e_2) w_86 ya_R rfl rfl hl.1 rfl (Nat.le_of_ble_eq_true rfl) d_Y_clear_27 (fun H locs hw => ?_)
        exact hend H locs ls 30 _ (congrArg (wY cI cZ ad) (Option.some.inj hj)) hw d_Y_clear_30
      · rw [if_neg c_1] at hj
        refine lv_aload_n hx hb d_Y_clear_13 rfl (lv_at hl 0 rfl) ?_
        refine gw_get (v := .ref (ad 1)) S hw ya_R rfl (by decide) n_T_Y f_7 rfl d_Y_clear_14 ?_
        refine lv_iload_n hx hb d_Y_clear_17 rfl (lv_at hl 1 rfl) ?_
        refine lv_iconst (v := 0) hx hb d_Y_clear_18 (by decide) ?_
        obtain ⟨g_4, hj⟩ := gw_if hj
        refine gw_zast (t0 := 1) S hw ⟨ya_a1, rfl⟩ g_4 (by decide) (ys_a1 v1_7.toNatClampNeg 0) d_Y_clear_19 (fun H locs hw => ?_)
        refine lv_iinc (v := (v1_7 + 1)) (lv' := [(1, .int (v1_7 + 1)), (0, .ref (ad 0))]) hx hb d_Y_clear_20 hl (k := 1) rfl rfl (by decide) rfl (fun ls hl => ?_)
        refine lv_goto (tgt := 7) hx hb d_Y_clear_23 (by decide) ?_
        exact ih7 (v1_7 + 1) (sA M7 1 v1_7.toNatClampNeg 0) hj H locs hw ls (lv_sub hl [1, 0] rfl)
  unfold j_Y_clear at hj
  refine lv_aload_n hx hb d_Y_clear_0 rfl (lv_at hl 0 rfl) ?_
  refine lv_iconst (v := 0) hx hb d_Y_clear_1 (by decide) ?_
  refine gw_put (v := .int 0) (ty := .int) S hw ya_R rfl (by decide) n_T_Y f_62 tk_Y nm_Y rfl (by decide +kernel) rfl rfl (Nat.le_of_ble_eq_true rfl) (ys_R 0 0 (by decide)) d_Y_clear_2 (fun H locs hw => ?_)
  refine lv_iconst (v := 0) hx hb d_Y_clear_5 (by decide) ?_
  refine lv_istore_n (lv' := [(1, .int 0), (0, .ref (ad 0))]) hx hb d_Y_clear_6 rfl hl (by decide) rfl (fun ls hl => ?_)
  exact L7 n 0 (sV M 0 0) hj H locs hw ls (lv_sub hl [1, 0] rfl)
abbrev rm_Y_reset : Room := { frames := 1, cells := 0, slots := 0, locals := 21 }
def ws_Y_reset : List Cond := Cond.code y_Y_reset b_Y_reset 1 none :: wB
set_option maxHeartbeats 4000000 in
set_option maxRecDepth 100000 in
theorem c_Y_reset {l : Launch} {D : va_G} {cI cZ : ClassId} {ad : Nat → Nat} {n : Nat} {M : MY} {M0 : MY} (hj : j_Y_reset n M = some M0) : gw_Cv l y_Y_reset ws_Y_reset rm_Y_reset D (tyY cI cZ) (wY cI cZ ad M) [.ref (ad 0)] (wY cI cZ ad M0) := by
  intro sz
  refine gw_metv (cc := b_Y_reset) (maxL := 1) (by decide) rfl (Nat.le_of_ble_eq_true rfl) ?_
  intro p e s m args below meth c A Q S H locs hw hend ls hl
  have S : CallFix p m c b_Y_reset 1 s args ws_Y_reset R_Y := S
  have hx := S.1
  have hb := S.2.1
  have hts := S.2.2.2.2
  have hl : lv_has ls 1 [(0, .ref (ad 0))] := hl
  have n_T_Y : ∀ w ∈ u_ws R_Y T_Y 29, w ∈ ws_Y_reset := fun w h => List.mem_cons_of_mem _ (uT_Y w h)
  have f_62 : Cond.fieldLink R_Y 62 (T_Y 0).1 (T_Y 0).2.1 (T_Y 0).2.2.1 ∈ ws_Y_reset := List.mem_cons_of_mem _ xw_266
  have w_86 : CallW rm_Y_reset s args R_Y R_Y 86 y_Y_forgetJobs b_Y_forgetJobs 2 none ws_Y_forgetJobs rm_Y_forgetJobs 0 0 0 := cwV 0 hts (wB_callV (fun w h => List.mem_cons_of_mem _ h) xw_289 xw_290 xw_291 xw_292 xw_278) rfl rfl rfl (by decide +kernel) ⟨Nat.le_of_ble_eq_true rfl, Nat.le_of_ble_eq_true rfl⟩
  unfold j_Y_reset at hj
  refine lv_aload_n hx hb d_Y_reset_0 rfl (lv_at hl 0 rfl) ?_
  refine lv_iconst (v := 0) hx hb d_Y_reset_1 (by decide) ?_
  refine gw_put (v := .int 0) (ty := .int) S hw ya_R rfl (by decide) n_T_Y f_62 tk_Y nm_Y rfl (by decide +kernel) rfl rfl (Nat.le_of_ble_eq_true rfl) (ys_R 0 0 (by decide)) d_Y_reset_2 (fun H locs hw => ?_)
  refine lv_aload_n hx hb d_Y_reset_5 rfl (lv_at hl 0 rfl) ?_
  obtain ⟨M_2, e_1, hj⟩ := Option.bind_eq_some_iff.mp hj
  refine gw_callv (As := []) (rest := []) S hw (c_Y_forgetJobs e_1) w_86 ya_R rfl rfl hl.1 rfl (Nat.le_of_ble_eq_true rfl) d_Y_reset_6 (fun H locs hw => ?_)
  exact hend H locs ls 9 _ (congrArg (wY cI cZ ad) (Option.some.inj hj)) hw d_Y_reset_9
