abbrev rm_Y_next : Room := { frames := 1, cells := 0, slots := 0, locals := 22 }
def ws_Y_next : List Cond := Cond.code y_Y_next b_Y_next 5 (some .int) :: wB
set_option maxHeartbeats 4000000 in
set_option maxRecDepth 100000 in
theorem c_Y_next {l : Launch} {D : va_G} {cI cZ : ClassId} {ad : Nat → Nat} {n : Nat} {M : MY} {a1 : Int32} {r0 : Int32} (hj : j_Y_next n M a1 = some r0) : gw_Ci l y_Y_next ws_Y_next rm_Y_next D (tyY cI cZ) (wY cI cZ ad M) [.ref (ad 0), .int a1] r0 (wY cI cZ ad M) := by
  intro sz
  refine gw_meti (cc := b_Y_next) (maxL := 5) (by decide) rfl (Nat.le_of_ble_eq_true rfl) ?_
  intro p e s m args below meth c A Q S H locs hw hend ls hl
  have S : CallFix p m c b_Y_next 5 s args ws_Y_next R_Y := S
  have hx := S.1
  have hb := S.2.1
  have hts := S.2.2.2.2
  have hl : lv_has ls 5 [(0, .ref (ad 0)), (1, .int a1)] := hl
  have n_T_Y : ∀ w ∈ u_ws R_Y T_Y 29, w ∈ ws_Y_next := fun w h => List.mem_cons_of_mem _ (uT_Y w h)
  have f_13 : Cond.fieldLink R_Y 13 (T_Y 2).1 (T_Y 2).2.1 (T_Y 2).2.2.1 ∈ ws_Y_next := List.mem_cons_of_mem _ xw_268
  have f_20 : Cond.fieldLink R_Y 20 (T_Y 4).1 (T_Y 4).2.1 (T_Y 4).2.2.1 ∈ ws_Y_next := List.mem_cons_of_mem _ xw_270
  have f_29 : Cond.fieldLink R_Y 29 (T_Y 7).1 (T_Y 7).2.1 (T_Y 7).2.2.1 ∈ ws_Y_next := List.mem_cons_of_mem _ xw_313
  have f_110 : Cond.fieldLink R_Y 110 (T_Y 9).1 (T_Y 9).2.1 (T_Y 9).2.2.1 ∈ ws_Y_next := List.mem_cons_of_mem _ xw_314
  have w_106 : CallW rm_Y_next s args R_Y R_Y 106 y_Y_counts b_Y_counts 3 (some .boolean) ws_Y_counts rm_Y_counts 0 0 2 := cwV 2 hts (wB_callV (fun w h => List.mem_cons_of_mem _ h) xw_315 xw_316 xw_317 xw_318 xw_278) rfl rfl rfl (by decide +kernel) ⟨Nat.le_of_ble_eq_true rfl, Nat.le_of_ble_eq_true rfl⟩
  have L4 : ∀ (f4 : Nat) (v2_4 : Int32) (v3_4 : Int32), j_Y_next_L4 n M a1 f4 v2_4 v3_4 = some r0 → ∀ (H : Heap) (locs : List Loc), gw_W D (tyY cI cZ) A (wY cI cZ ad M) s H locs → ∀ ls : Array Slot, lv_has ls 5 [(0, .ref (ad 0)), (1, .int a1), (2, .int v2_4), (3, .int v3_4)] → W p l e rm_Y_next s m args below meth c H locs 0 0 Q (F0 m 4 ls []) := by
    intro f4
    induction f4 with
    | zero =>
      intro v2_4 v3_4 hj
      exact nomatch (show (none : Option Int32) = some r0 from hj)
    | succ f4 ih4 =>
      intro v2_4 v3_4 hj H locs hw ls hl
      rw [j_Y_next_L4] at hj
      refine lv_iload_n hx hb d_Y_next_4 rfl (lv_at hl 3 rfl) ?_
      refine lv_bipush (v := 8) hx hb d_Y_next_5 (by decide) ?_
      refine lv_icmp_gt (tgt := 78) hx hb d_Y_next_7 (by decide) (fun c_1 => ?_) (fun c_1 => ?_)
      · rw [if_pos c_1] at hj
        refine lv_iload_n hx hb d_Y_next_78 rfl (lv_at hl 2 rfl) ?_
        exact hend H locs ls 79 _ _ (Option.some.inj hj) rfl hw d_Y_next_79
      · rw [if_neg c_1] at hj
        refine lv_aload_n hx hb d_Y_next_10 rfl (lv_at hl 0 rfl) ?_
        refine lv_iload_n hx hb d_Y_next_11 rfl (lv_at hl 3 rfl) ?_
        refine lv_iload_n hx hb d_Y_next_12 rfl (lv_at hl 1 rfl) ?_
        obtain ⟨r_3, e_2, hj⟩ := Option.bind_eq_some_iff.mp hj
        refine gw_calli (As := [.int v3_4, .int a1]) (rest := []) S hw (c_Y_counts e_2) w_106 ya_R rfl rfl hl.1 rfl (Nat.le_of_ble_eq_true rfl) d_Y_next_13 (fun H locs hw => ?_)
        refine lv_if_eq (tgt := 43) hx hb d_Y_next_16 (by decide) (fun c_4 => ?_) (fun c_4 => ?_)
        · rw [if_pos c_4] at hj
          refine lv_iconst (v := 0) hx hb d_Y_next_43 (by decide) ?_
          refine lv_istore (lv' := [(4, .int 0), (0, .ref (ad 0)), (1, .int a1), (2, .int v2_4), (3, .int v3_4)]) hx hb d_Y_next_44 hl (by decide) rfl (fun ls hl => ?_)
          refine lv_iload hx hb d_Y_next_46 (lv_at hl 0 rfl) ?_
          refine lv_if_eq (tgt := 72) hx hb d_Y_next_48 (by decide) (fun _ => ?_) (fun c_5 => absurd (by decide) c_5)
          refine lv_iinc (v := (v3_4 + 1)) (lv' := [(3, .int (v3_4 + 1)), (4, .int 0), (0, .ref (ad 0)), (1, .int a1), (2, .int v2_4)]) hx hb d_Y_next_72 hl (k := 4) rfl rfl (by decide) rfl (fun ls hl => ?_)
          refine lv_goto (tgt := 4) hx hb d_Y_next_75 (by decide) ?_
          exact ih4 v2_4 (v3_4 + 1) hj H locs hw ls (lv_sub hl [2, 3, 4, 0] rfl)
        · rw [if_neg c_4] at hj
          refine lv_aload_n hx hb d_Y_next_19 rfl (lv_at hl 0 rfl) ?_
          refine gw_get (v := .ref (ad 7)) S hw ya_R rfl (by decide) n_T_Y f_29 rfl d_Y_next_20 ?_
          refine lv_iload_n hx hb d_Y_next_23 rfl (lv_at hl 3 rfl) ?_
          obtain ⟨g_6, hj⟩ := gw_if hj
          refine gw_iald (t0 := 0) S hw ⟨ya_a7, rfl⟩ g_6 d_Y_next_24 ?_
          refine lv_aload_n hx hb d_Y_next_25 rfl (lv_at hl 0 rfl) ?_
          refine gw_get (v := .ref (ad 2)) S hw ya_R rfl (by decide) n_T_Y f_13 rfl d_Y_next_26 ?_
          refine lv_iload_n hx hb d_Y_next_29 rfl (lv_at hl 3 rfl) ?_
          obtain ⟨g_7, hj⟩ := gw_if hj
          refine gw_iald (t0 := 0) S hw ⟨ya_a2, rfl⟩ g_7 d_Y_next_30 ?_
          refine lv_imul hx hb d_Y_next_31 ?_
          refine lv_aload_n hx hb d_Y_next_32 rfl (lv_at hl 0 rfl) ?_
          refine gw_get (v := .int (M.2 9)) S hw ya_R rfl (by decide) n_T_Y f_110 rfl d_Y_next_33 ?_
          refine lv_icmp_gt (tgt := 43) hx hb d_Y_next_36 (by decide) (fun c_8 => ?_) (fun c_8 => ?_)
          · rw [if_pos c_8] at hj
            refine lv_iconst (v := 0) hx hb d_Y_next_43 (by decide) ?_
            refine lv_istore (lv' := [(4, .int 0), (0, .ref (ad 0)), (1, .int a1), (2, .int v2_4), (3, .int v3_4)]) hx hb d_Y_next_44 hl (by decide) rfl (fun ls hl => ?_)
            refine lv_iload hx hb d_Y_next_46 (lv_at hl 0 rfl) ?_
            refine lv_if_eq (tgt := 72) hx hb d_Y_next_48 (by decide) (fun _ => ?_) (fun c_9 => absurd (by decide) c_9)
            refine lv_iinc (v := (v3_4 + 1)) (lv' := [(3, .int (v3_4 + 1)), (4, .int 0), (0, .ref (ad 0)), (1, .int a1), (2, .int v2_4)]) hx hb d_Y_next_72 hl (k := 4) rfl rfl (by decide) rfl (fun ls hl => ?_)
            refine lv_goto (tgt := 4) hx hb d_Y_next_75 (by decide) ?_
            exact ih4 v2_4 (v3_4 + 1) hj H locs hw ls (lv_sub hl [2, 3, 4, 0] rfl)
          · rw [if_neg c_8] at hj
            refine lv_iconst (v := 1) hx hb d_Y_next_39 (by decide) ?_
            refine lv_goto (tgt := 44) hx hb d_Y_next_40 (by decide) ?_
            refine lv_istore (lv' := [(4, .int 1), (0, .ref (ad 0)), (1, .int a1), (2, .int v2_4), (3, .int v3_4)]) hx hb d_Y_next_44 hl (by decide) rfl (fun ls hl => ?_)
            refine lv_iload hx hb d_Y_next_46 (lv_at hl 0 rfl) ?_
            refine lv_if_eq (tgt := 72) hx hb d_Y_next_48 (by decide) (fun c_10 => absurd c_10 (by decide)) (fun _ => ?_)
            refine lv_iload_n hx hb d_Y_next_51 rfl (lv_at hl 3 rfl) ?_
            refine lv_if_eq (tgt := 70) hx hb d_Y_next_52 (by decide) (fun c_11 => ?_) (fun c_11 => ?_)
            · rw [if_pos c_11] at hj
              refine lv_iload_n hx hb d_Y_next_70 rfl (lv_at hl 4 rfl) ?_
              refine lv_istore_n (lv' := [(2, .int v3_4), (4, .int 1), (0, .ref (ad 0)), (1, .int a1), (3, .int v3_4)]) hx hb d_Y_next_71 rfl hl (by decide) rfl (fun ls hl => ?_)
              refine lv_iinc (v := (v3_4 + 1)) (lv' := [(3, .int (v3_4 + 1)), (2, .int v3_4), (4, .int 1), (0, .ref (ad 0)), (1, .int a1)]) hx hb d_Y_next_72 hl (k := 4) rfl rfl (by decide) rfl (fun ls hl => ?_)
              refine lv_goto (tgt := 4) hx hb d_Y_next_75 (by decide) ?_
              exact ih4 v3_4 (v3_4 + 1) hj H locs hw ls (lv_sub hl [3, 4, 1, 0] rfl)
            · rw [if_neg c_11] at hj
              refine lv_aload_n hx hb d_Y_next_55 rfl (lv_at hl 1 rfl) ?_
              refine gw_get (v := .ref (ad 4)) S hw ya_R rfl (by decide) n_T_Y f_20 rfl d_Y_next_56 ?_
              refine lv_iload_n hx hb d_Y_next_59 rfl (lv_at hl 4 rfl) ?_
              obtain ⟨g_12, hj⟩ := gw_if hj
              refine gw_iald (t0 := 0) S hw ⟨ya_a4, rfl⟩ g_12 d_Y_next_60 ?_
              refine lv_aload_n hx hb d_Y_next_61 rfl (lv_at hl 1 rfl) ?_
              refine gw_get (v := .ref (ad 4)) S hw ya_R rfl (by decide) n_T_Y f_20 rfl d_Y_next_62 ?_
              refine lv_iload_n hx hb d_Y_next_65 rfl (lv_at hl 3 rfl) ?_
              obtain ⟨g_13, hj⟩ := gw_if hj
              refine gw_iald (t0 := 0) S hw ⟨ya_a4, rfl⟩ g_13 d_Y_next_66 ?_
              refine lv_icmp_le (tgt := 72) hx hb d_Y_next_67 (by decide) (fun c_14 => ?_) (fun c_14 => ?_)
              · rw [if_pos c_14] at hj
                refine lv_iinc (v := (v3_4 + 1)) (lv' := [(3, .int (v3_4 + 1)), (4, .int 1), (0, .ref (ad 0)), (1, .int a1), (2, .int v2_4)]) hx hb d_Y_next_72 hl (k := 4) rfl rfl (by decide) rfl (fun ls hl => ?_)
                refine lv_goto (tgt := 4) hx hb d_Y_next_75 (by decide) ?_
                exact ih4 v2_4 (v3_4 + 1) hj H locs hw ls (lv_sub hl [2, 3, 4, 0] rfl)
              · rw [if_neg c_14] at hj
                refine lv_iload_n hx hb d_Y_next_70 rfl (lv_at hl 4 rfl) ?_
                refine lv_istore_n (lv' := [(2, .int v3_4), (4, .int 1), (0, .ref (ad 0)), (1, .int a1), (3, .int v3_4)]) hx hb d_Y_next_71 rfl hl (by decide) rfl (fun ls hl => ?_)
                refine lv_iinc (v := (v3_4 + 1)) (lv' := [(3, .int (v3_4 + 1)), (2, .int v3_4), (4, .int 1), (0, .ref (ad 0)), (1, .int a1)]) hx hb d_Y_next_72 hl (k := 4) rfl rfl (by decide) rfl (fun ls hl => ?_)
                refine lv_goto (tgt := 4) hx hb d_Y_next_75 (by decide) ?_
                exact ih4 v3_4 (v3_4 + 1) hj H locs hw ls (lv_sub hl [3, 4, 1, 0] rfl)
  unfold j_Y_next at hj
  refine lv_iconst (v := 0) hx hb d_Y_next_0 (by decide) ?_
  refine lv_istore_n (lv' := [(2, .int 0), (0, .ref (ad 0)), (1, .int a1)]) hx hb d_Y_next_1 rfl hl (by decide) rfl (fun ls hl => ?_)
  refine lv_iconst (v := 1) hx hb d_Y_next_2 (by decide) ?_
  refine lv_istore_n (lv' := [(3, .int 1), (2, .int 0), (0, .ref (ad 0)), (1, .int a1)]) hx hb d_Y_next_3 rfl hl (by decide) rfl (fun ls hl => ?_)
  exact L4 n 0 1 hj H locs hw ls (lv_sub hl [2, 3, 1, 0] rfl)
abbrev rm_Y_isOver : Room := { frames := 1, cells := 0, slots := 0, locals := 22 }
def ws_Y_isOver : List Cond := Cond.code y_Y_isOver b_Y_isOver 3 (some .boolean) :: wB
set_option maxHeartbeats 4000000 in
set_option maxRecDepth 100000 in
theorem c_Y_isOver {l : Launch} {D : va_G} {cI cZ : ClassId} {ad : Nat → Nat} {n : Nat} {M : MY} {a1 : Int32} {r0 : Int32} (hj : j_Y_isOver n M a1 = some r0) : gw_Cz l y_Y_isOver ws_Y_isOver rm_Y_isOver D (tyY cI cZ) (wY cI cZ ad M) [.ref (ad 0), .int a1] r0 (wY cI cZ ad M) := by
  intro sz
  refine gw_metz (cc := b_Y_isOver) (maxL := 3) (by decide) rfl (Nat.le_of_ble_eq_true rfl) ?_
  intro p e s m args below meth c A Q S H locs hw hend ls hl
  have S : CallFix p m c b_Y_isOver 3 s args ws_Y_isOver R_Y := S
  have hx := S.1
  have hb := S.2.1
  have hts := S.2.2.2.2
  have hl : lv_has ls 3 [(0, .ref (ad 0)), (1, .int a1)] := hl
  have n_T_Y : ∀ w ∈ u_ws R_Y T_Y 29, w ∈ ws_Y_isOver := fun w h => List.mem_cons_of_mem _ (uT_Y w h)
  have f_13 : Cond.fieldLink R_Y 13 (T_Y 2).1 (T_Y 2).2.1 (T_Y 2).2.2.1 ∈ ws_Y_isOver := List.mem_cons_of_mem _ xw_268
  have f_29 : Cond.fieldLink R_Y 29 (T_Y 7).1 (T_Y 7).2.1 (T_Y 7).2.2.1 ∈ ws_Y_isOver := List.mem_cons_of_mem _ xw_313
  have f_110 : Cond.fieldLink R_Y 110 (T_Y 9).1 (T_Y 9).2.1 (T_Y 9).2.2.1 ∈ ws_Y_isOver := List.mem_cons_of_mem _ xw_314
  have w_106 : CallW rm_Y_isOver s args R_Y R_Y 106 y_Y_counts b_Y_counts 3 (some .boolean) ws_Y_counts rm_Y_counts 0 0 2 := cwV 2 hts (wB_callV (fun w h => List.mem_cons_of_mem _ h) xw_315 xw_316 xw_317 xw_318 xw_278) rfl rfl rfl (by decide +kernel) ⟨Nat.le_of_ble_eq_true rfl, Nat.le_of_ble_eq_true rfl⟩
  have L2 : ∀ (f2 : Nat) (v2_2 : Int32), j_Y_isOver_L2 n M a1 f2 v2_2 = some r0 → ∀ (H : Heap) (locs : List Loc), gw_W D (tyY cI cZ) A (wY cI cZ ad M) s H locs → ∀ ls : Array Slot, lv_has ls 3 [(0, .ref (ad 0)), (1, .int a1), (2, .int v2_2)] → W p l e rm_Y_isOver s m args below meth c H locs 0 0 Q (F0 m 2 ls []) := by
    intro f2
    induction f2 with
    | zero =>
      intro v2_2 hj
      exact nomatch (show (none : Option Int32) = some r0 from hj)
    | succ f2 ih2 =>
      intro v2_2 hj H locs hw ls hl
      rw [j_Y_isOver_L2] at hj
      refine lv_iload_n hx hb d_Y_isOver_2 rfl (lv_at hl 2 rfl) ?_
      refine lv_bipush (v := 8) hx hb d_Y_isOver_3 (by decide) ?_
      refine lv_icmp_gt (tgt := 45) hx hb d_Y_isOver_5 (by decide) (fun c_1 => ?_) (fun c_1 => ?_)
      · rw [if_pos c_1] at hj
        refine lv_aload_n hx hb d_Y_isOver_45 rfl (lv_at hl 0 rfl) ?_
        refine gw_get (v := .int (M.2 9)) S hw ya_R rfl (by decide) n_T_Y f_110 rfl d_Y_isOver_46 ?_
        refine lv_if_le (tgt := 56) hx hb d_Y_isOver_49 (by decide) (fun c_2 => ?_) (fun c_2 => ?_)
        · rw [if_pos c_2] at hj
          refine lv_iconst (v := 0) hx hb d_Y_isOver_56 (by decide) ?_
          exact hend H locs ls 57 _ _ (Option.some.inj hj) rfl (Or.inl rfl) hw d_Y_isOver_57
        · rw [if_neg c_2] at hj
          refine lv_iconst (v := 1) hx hb d_Y_isOver_52 (by decide) ?_
          refine lv_goto (tgt := 57) hx hb d_Y_isOver_53 (by decide) ?_
          exact hend H locs ls 57 _ _ (Option.some.inj hj) rfl (Or.inr rfl) hw d_Y_isOver_57
      · rw [if_neg c_1] at hj
        refine lv_aload_n hx hb d_Y_isOver_8 rfl (lv_at hl 0 rfl) ?_
        refine lv_iload_n hx hb d_Y_isOver_9 rfl (lv_at hl 2 rfl) ?_
        refine lv_iload_n hx hb d_Y_isOver_10 rfl (lv_at hl 1 rfl) ?_
        obtain ⟨r_4, e_3, hj⟩ := Option.bind_eq_some_iff.mp hj
        refine gw_calli (As := [.int v2_2, .int a1]) (rest := []) S hw (c_Y_counts e_3) w_106 ya_R rfl rfl hl.1 rfl (Nat.le_of_ble_eq_true rfl) d_Y_isOver_11 (fun H locs hw => ?_)
        refine lv_if_eq (tgt := 39) hx hb d_Y_isOver_14 (by decide) (fun c_5 => ?_) (fun c_5 => ?_)
        · rw [if_pos c_5] at hj
          refine lv_iinc (v := (v2_2 + 1)) (lv' := [(2, .int (v2_2 + 1)), (0, .ref (ad 0)), (1, .int a1)]) hx hb d_Y_isOver_39 hl (k := 2) rfl rfl (by decide) rfl (fun ls hl => ?_)
          refine lv_goto (tgt := 2) hx hb d_Y_isOver_42 (by decide) ?_
          exact ih2 (v2_2 + 1) hj H locs hw ls (lv_sub hl [1, 2, 0] rfl)
        · rw [if_neg c_5] at hj
          refine lv_aload_n hx hb d_Y_isOver_17 rfl (lv_at hl 0 rfl) ?_
          refine gw_get (v := .ref (ad 7)) S hw ya_R rfl (by decide) n_T_Y f_29 rfl d_Y_isOver_18 ?_
          refine lv_iload_n hx hb d_Y_isOver_21 rfl (lv_at hl 2 rfl) ?_
          obtain ⟨g_6, hj⟩ := gw_if hj
          refine gw_iald (t0 := 0) S hw ⟨ya_a7, rfl⟩ g_6 d_Y_isOver_22 ?_
          refine lv_aload_n hx hb d_Y_isOver_23 rfl (lv_at hl 0 rfl) ?_
          refine gw_get (v := .ref (ad 2)) S hw ya_R rfl (by decide) n_T_Y f_13 rfl d_Y_isOver_24 ?_
          refine lv_iload_n hx hb d_Y_isOver_27 rfl (lv_at hl 2 rfl) ?_
          obtain ⟨g_7, hj⟩ := gw_if hj
          refine gw_iald (t0 := 0) S hw ⟨ya_a2, rfl⟩ g_7 d_Y_isOver_28 ?_
          refine lv_imul hx hb d_Y_isOver_29 ?_
          refine lv_aload_n hx hb d_Y_isOver_30 rfl (lv_at hl 0 rfl) ?_
          refine gw_get (v := .int (M.2 9)) S hw ya_R rfl (by decide) n_T_Y f_110 rfl d_Y_isOver_31 ?_
          refine lv_icmp_ge (tgt := 39) hx hb d_Y_isOver_34 (by decide) (fun c_8 => ?_) (fun c_8 => ?_)
          · rw [if_pos c_8] at hj
            refine lv_iinc (v := (v2_2 + 1)) (lv' := [(2, .int (v2_2 + 1)), (0, .ref (ad 0)), (1, .int a1)]) hx hb d_Y_isOver_39 hl (k := 2) rfl rfl (by decide) rfl (fun ls hl => ?_)
            refine lv_goto (tgt := 2) hx hb d_Y_isOver_42 (by decide) ?_
            exact ih2 (v2_2 + 1) hj H locs hw ls (lv_sub hl [1, 2, 0] rfl)
          · rw [if_neg c_8] at hj
            refine lv_iconst (v := 0) hx hb d_Y_isOver_37 (by decide) ?_
            exact hend H locs ls 38 _ _ (Option.some.inj hj) rfl (Or.inl rfl) hw d_Y_isOver_38
  unfold j_Y_isOver at hj
  refine lv_iconst (v := 1) hx hb d_Y_isOver_0 (by decide) ?_
  refine lv_istore_n (lv' := [(2, .int 1), (0, .ref (ad 0)), (1, .int a1)]) hx hb d_Y_isOver_1 rfl hl (by decide) rfl (fun ls hl => ?_)
  exact L2 n 1 hj H locs hw ls (lv_sub hl [1, 2, 0] rfl)
abbrev rm_Y_go : Room := { frames := 2, cells := 0, slots := 0, locals := 46 }
def ws_Y_go : List Cond := Cond.code y_Y_go b_Y_go 5 none :: wB
set_option maxHeartbeats 4000000 in
set_option maxRecDepth 100000 in
theorem c_Y_go {l : Launch} {D : va_G} {cI cZ : ClassId} {ad : Nat → Nat} {n : Nat} {M : MY} {a1 : Int32} {a2 : Int32} {M0 : MY} (hj : j_Y_go n M a1 a2 = some M0) : gw_Cv l y_Y_go ws_Y_go rm_Y_go D (tyY cI cZ) (wY cI cZ ad M) [.ref (ad 0), .int a1, .int a2] (wY cI cZ ad M0) := by
  intro sz
  refine gw_metv (cc := b_Y_go) (maxL := 5) (by decide) rfl (Nat.le_of_ble_eq_true rfl) ?_
  intro p e s m args below meth c A Q S H locs hw hend ls hl
  have S : CallFix p m c b_Y_go 5 s args ws_Y_go R_Y := S
  have hx := S.1
  have hb := S.2.1
  have hts := S.2.2.2.2
  have hl : lv_has ls 5 [(0, .ref (ad 0)), (1, .int a1), (2, .int a2)] := hl
  have n_T_Y : ∀ w ∈ u_ws R_Y T_Y 29, w ∈ ws_Y_go := fun w h => List.mem_cons_of_mem _ (uT_Y w h)
  have f_13 : Cond.fieldLink R_Y 13 (T_Y 2).1 (T_Y 2).2.1 (T_Y 2).2.2.1 ∈ ws_Y_go := List.mem_cons_of_mem _ xw_268
  have f_23 : Cond.fieldLink R_Y 23 (T_Y 5).1 (T_Y 5).2.1 (T_Y 5).2.2.1 ∈ ws_Y_go := List.mem_cons_of_mem _ xw_271
  have f_26 : Cond.fieldLink R_Y 26 (T_Y 6).1 (T_Y 6).2.1 (T_Y 6).2.2.1 ∈ ws_Y_go := List.mem_cons_of_mem _ xw_273
  have f_29 : Cond.fieldLink R_Y 29 (T_Y 7).1 (T_Y 7).2.1 (T_Y 7).2.2.1 ∈ ws_Y_go := List.mem_cons_of_mem _ xw_313
  have f_32 : Cond.fieldLink R_Y 32 (T_Y 8).1 (T_Y 8).2.1 (T_Y 8).2.2.1 ∈ ws_Y_go := List.mem_cons_of_mem _ xw_319
  have f_110 : Cond.fieldLink R_Y 110 (T_Y 9).1 (T_Y 9).2.1 (T_Y 9).2.2.1 ∈ ws_Y_go := List.mem_cons_of_mem _ xw_314
  have f_113 : Cond.fieldLink R_Y 113 (T_Y 11).1 (T_Y 11).2.1 (T_Y 11).2.2.1 ∈ ws_Y_go := List.mem_cons_of_mem _ xw_320
  have f_116 : Cond.fieldLink R_Y 116 (T_Y 12).1 (T_Y 12).2.1 (T_Y 12).2.2.1 ∈ ws_Y_go := List.mem_cons_of_mem _ xw_321
  have f_119 : Cond.fieldLink R_Y 119 (T_Y 14).1 (T_Y 14).2.1 (T_Y 14).2.2.1 ∈ ws_Y_go := List.mem_cons_of_mem _ xw_322
  have f_122 : Cond.fieldLink R_Y 122 (T_Y 10).1 (T_Y 10).2.1 (T_Y 10).2.2.1 ∈ ws_Y_go := List.mem_cons_of_mem _ xw_323
  have f_131 : Cond.fieldLink R_Y 131 (T_Y 13).1 (T_Y 13).2.1 (T_Y 13).2.2.1 ∈ ws_Y_go := List.mem_cons_of_mem _ xw_324
  have w_125 : CallW rm_Y_go s args R_Y R_Y 125 y_Y_isOver b_Y_isOver 3 (some .boolean) ws_Y_isOver rm_Y_isOver 0 0 1 := cwV 1 hts (wB_callV (fun w h => List.mem_cons_of_mem _ h) xw_325 xw_326 xw_327 xw_328 xw_278) rfl rfl rfl (by decide +kernel) ⟨Nat.le_of_ble_eq_true rfl, Nat.le_of_ble_eq_true rfl⟩
  have w_128 : CallW rm_Y_go s args R_Y R_Y 128 y_Y_next b_Y_next 5 (some .int) ws_Y_next rm_Y_next 0 0 1 := cwV 1 hts (wB_callV (fun w h => List.mem_cons_of_mem _ h) xw_329 xw_330 xw_331 xw_332 xw_278) rfl rfl rfl (by decide +kernel) ⟨Nat.le_of_ble_eq_true rfl, Nat.le_of_ble_eq_true rfl⟩
  have L53 : ∀ (f53 : Nat) (v3_53 : Int32) (M53 : MY), j_Y_go_L53 n a1 a2 f53 v3_53 M53 = some M0 → ∀ (H : Heap) (locs : List Loc), gw_W D (tyY cI cZ) A (wY cI cZ ad M53) s H locs → ∀ ls : Array Slot, lv_has ls 5 [(0, .ref (ad 0)), (1, .int a1), (2, .int a2), (3, .int v3_53)] → W p l e rm_Y_go s m args below meth c H locs 0 0 Q (F0 m 53 ls []) := by
    intro f53
    induction f53 with
    | zero =>
      intro v3_53 M53 hj
      exact nomatch (show (none : Option MY) = some M0 from hj)
    | succ f53 ih53 =>
      intro v3_53 M53 hj H locs hw ls hl
      rw [j_Y_go_L53] at hj
      refine lv_aload_n hx hb d_Y_go_53 rfl (lv_at hl 0 rfl) ?_
      refine lv_iload_n hx hb d_Y_go_54 rfl (lv_at hl 1 rfl) ?_
      obtain ⟨r_3, e_2, hj⟩ := Option.bind_eq_some_iff.mp hj
      refine gw_calli (As := [.int a1]) (rest := []) S hw (c_Y_isOver e_2) w_125 ya_R rfl rfl hl.1 rfl (Nat.le_of_ble_eq_true rfl) d_Y_go_55 (fun H locs hw => ?_)
      refine lv_if_ne (tgt := 230) hx hb d_Y_go_58 (by decide) (fun c_4 => ?_) (fun c_4 => ?_)
      · rw [if_neg c_4] at hj
        refine lv_aload_n hx hb d_Y_go_230 rfl (lv_at hl 0 rfl) ?_
        refine lv_aload_n hx hb d_Y_go_231 rfl (lv_at hl 0 rfl) ?_
        refine gw_get (v := .int (M53.2 9)) S hw ya_R rfl (by decide) n_T_Y f_110 rfl d_Y_go_232 ?_
        refine lv_sipush (v := 20000) hx hb d_Y_go_235 (by decide) ?_
        refine lv_icmp_le (tgt := 245) hx hb d_Y_go_238 (by decide) (fun c_5 => ?_) (fun c_5 => ?_)
        · rw [if_pos c_5] at hj
          refine lv_iconst (v := 0) hx hb d_Y_go_245 (by decide) ?_
          refine gw_put (v := .int 0) (ty := .boolean) S hw ya_R rfl (by decide) n_T_Y f_122 tk_Y nm_Y rfl (by decide +kernel) rfl rfl (Nat.le_of_ble_eq_true rfl) (ys_R 10 0 (by decide)) d_Y_go_246 (fun H locs hw => ?_)
          exact hend H locs ls 249 _ (congrArg (wY cI cZ ad) (Option.some.inj hj)) hw d_Y_go_249
        · rw [if_neg c_5] at hj
          refine lv_iconst (v := 1) hx hb d_Y_go_241 (by decide) ?_
          refine lv_goto (tgt := 246) hx hb d_Y_go_242 (by decide) ?_
          refine gw_put (v := .int 1) (ty := .boolean) S hw ya_R rfl (by decide) n_T_Y f_122 tk_Y nm_Y rfl (by decide +kernel) rfl rfl (Nat.le_of_ble_eq_true rfl) (ys_R 10 1 (by decide)) d_Y_go_246 (fun H locs hw => ?_)
          exact hend H locs ls 249 _ (congrArg (wY cI cZ ad) (Option.some.inj hj)) hw d_Y_go_249
      · rw [if_pos c_4] at hj
        refine lv_aload_n hx hb d_Y_go_61 rfl (lv_at hl 0 rfl) ?_
        refine gw_get (v := .int (M53.2 9)) S hw ya_R rfl (by decide) n_T_Y f_110 rfl d_Y_go_62 ?_
        refine lv_sipush (v := 20000) hx hb d_Y_go_65 (by decide) ?_
        refine lv_icmp_le (tgt := 77) hx hb d_Y_go_68 (by decide) (fun c_6 => ?_) (fun c_6 => ?_)
        · rw [if_pos c_6] at hj
          refine lv_aload_n hx hb d_Y_go_77 rfl (lv_at hl 0 rfl) ?_
          refine lv_iload_n hx hb d_Y_go_78 rfl (lv_at hl 1 rfl) ?_
          obtain ⟨r_8, e_7, hj⟩ := Option.bind_eq_some_iff.mp hj
          refine gw_calli (As := [.int a1]) (rest := []) S hw (c_Y_next e_7) w_128 ya_R rfl rfl hl.1 rfl (Nat.le_of_ble_eq_true rfl) d_Y_go_79 (fun H locs hw => ?_)
          refine lv_istore_n (lv' := [(3, .int r_8), (0, .ref (ad 0)), (1, .int a1), (2, .int a2)]) hx hb d_Y_go_82 rfl hl (by decide) rfl (fun ls hl => ?_)
          refine lv_aload_n hx hb d_Y_go_83 rfl (lv_at hl 1 rfl) ?_
          refine lv_dup hx hb d_Y_go_84 rfl ?_
          refine gw_get (v := .int (M53.2 9)) S hw ya_R rfl (by decide) n_T_Y f_110 rfl d_Y_go_85 ?_
          refine lv_aload_n hx hb d_Y_go_88 rfl (lv_at hl 1 rfl) ?_
          refine gw_get (v := .ref (ad 6)) S hw ya_R rfl (by decide) n_T_Y f_26 rfl d_Y_go_89 ?_
          refine lv_bipush (v := 8) hx hb d_Y_go_92 (by decide) ?_
          refine lv_iload_n hx hb d_Y_go_94 rfl (lv_at hl 0 rfl) ?_
          refine lv_imul hx hb d_Y_go_95 ?_
          refine lv_aload_n hx hb d_Y_go_96 rfl (lv_at hl 1 rfl) ?_
          refine gw_get (v := .ref (ad 8)) S hw ya_R rfl (by decide) n_T_Y f_32 rfl d_Y_go_97 ?_
          refine lv_iload_n hx hb d_Y_go_100 rfl (lv_at hl 0 rfl) ?_
          obtain ⟨g_9, hj⟩ := gw_if hj
          refine gw_iald (t0 := 0) S hw ⟨ya_a8, rfl⟩ g_9 d_Y_go_101 ?_
          refine lv_iadd hx hb d_Y_go_102 ?_
          obtain ⟨g_10, hj⟩ := gw_if hj
          refine gw_iald (t0 := 0) S hw ⟨ya_a6, rfl⟩ g_10 d_Y_go_103 ?_
          refine lv_iadd hx hb d_Y_go_104 ?_
          refine gw_put (v := .int ((M53.2 9) + (M53.1 6 ((8 * r_8) + (M53.1 8 r_8.toNatClampNeg)).toNatClampNeg))) (ty := .int) S hw ya_R rfl (by decide) n_T_Y f_110 tk_Y nm_Y rfl (by decide +kernel) rfl rfl (Nat.le_of_ble_eq_true rfl) (ys_R 9 ((M53.2 9) + (M53.1 6 ((8 * r_8) + (M53.1 8 r_8.toNatClampNeg)).toNatClampNeg)) (by decide)) d_Y_go_105 (fun H locs hw => ?_)
          refine lv_aload_n hx hb d_Y_go_108 rfl (lv_at hl 1 rfl) ?_
          refine gw_get (v := .ref (ad 8)) S hw ya_R rfl (by decide) n_T_Y f_32 rfl d_Y_go_109 ?_
          refine lv_iload_n hx hb d_Y_go_112 rfl (lv_at hl 0 rfl) ?_
          refine lv_dup2_11 hx hb d_Y_go_113 rfl rfl ?_
          obtain ⟨g_11, hj⟩ := gw_if hj
          refine gw_iald (t0 := 0) S hw ⟨ya_a8, rfl⟩ g_11 d_Y_go_114 ?_
          refine lv_iconst (v := 1) hx hb d_Y_go_115 (by decide) ?_
          refine lv_iadd hx hb d_Y_go_116 ?_
          obtain ⟨g_12, hj⟩ := gw_if hj
          refine gw_iast (t0 := 0) S hw ⟨ya_a8, rfl⟩ g_12 (ys_a8 r_8.toNatClampNeg (((sV M53 9 ((M53.2 9) + (M53.1 6 ((8 * r_8) + (M53.1 8 r_8.toNatClampNeg)).toNatClampNeg))).1 8 r_8.toNatClampNeg) + 1)) d_Y_go_117 (fun H locs hw => ?_)
          refine lv_aload_n hx hb d_Y_go_118 rfl (lv_at hl 1 rfl) ?_
          refine gw_get (v := .ref (ad 8)) S hw ya_R rfl (by decide) n_T_Y f_32 rfl d_Y_go_119 ?_
          refine lv_iload_n hx hb d_Y_go_122 rfl (lv_at hl 0 rfl) ?_
          obtain ⟨g_13, hj⟩ := gw_if hj
          refine gw_iald (t0 := 0) S hw ⟨ya_a8, rfl⟩ g_13 d_Y_go_123 ?_
          refine lv_aload_n hx hb d_Y_go_124 rfl (lv_at hl 1 rfl) ?_
          refine gw_get (v := .ref (ad 5)) S hw ya_R rfl (by decide) n_T_Y f_23 rfl d_Y_go_125 ?_
          refine lv_iload_n hx hb d_Y_go_128 rfl (lv_at hl 0 rfl) ?_
          obtain ⟨g_14, hj⟩ := gw_if hj
          refine gw_iald (t0 := 0) S hw ⟨ya_a5, rfl⟩ g_14 d_Y_go_129 ?_
          refine lv_icmp_ge (tgt := 136) hx hb d_Y_go_130 (by decide) (fun c_15 => ?_) (fun c_15 => ?_)
          · rw [if_pos c_15] at hj
            refine lv_aload_n hx hb d_Y_go_136 rfl (lv_at hl 1 rfl) ?_
            refine gw_get (v := .int ((sA (sV M53 9 ((M53.2 9) + (M53.1 6 ((8 * r_8) + (M53.1 8 r_8.toNatClampNeg)).toNatClampNeg))) 8 r_8.toNatClampNeg (((sV M53 9 ((M53.2 9) + (M53.1 6 ((8 * r_8) + (M53.1 8 r_8.toNatClampNeg)).toNatClampNeg))).1 8 r_8.toNatClampNeg) + 1)).2 9)) S hw ya_R rfl (by decide) n_T_Y f_110 rfl d_Y_go_137 ?_
            refine lv_aload_n hx hb d_Y_go_140 rfl (lv_at hl 1 rfl) ?_
            refine gw_get (v := .ref (ad 7)) S hw ya_R rfl (by decide) n_T_Y f_29 rfl d_Y_go_141 ?_
            refine lv_iload_n hx hb d_Y_go_144 rfl (lv_at hl 0 rfl) ?_
            obtain ⟨g_16, hj⟩ := gw_if hj
            refine gw_iald (t0 := 0) S hw ⟨ya_a7, rfl⟩ g_16 d_Y_go_145 ?_
            refine lv_aload_n hx hb d_Y_go_146 rfl (lv_at hl 1 rfl) ?_
            refine gw_get (v := .ref (ad 2)) S hw ya_R rfl (by decide) n_T_Y f_13 rfl d_Y_go_147 ?_
            refine lv_iload_n hx hb d_Y_go_150 rfl (lv_at hl 0 rfl) ?_
            obtain ⟨g_17, hj⟩ := gw_if hj
            refine gw_iald (t0 := 0) S hw ⟨ya_a2, rfl⟩ g_17 d_Y_go_151 ?_
            refine lv_imul hx hb d_Y_go_152 ?_
            refine lv_isub hx hb d_Y_go_153 ?_
            refine lv_istore (lv' := [(4, .int (((sA (sV M53 9 ((M53.2 9) + (M53.1 6 ((8 * r_8) + (M53.1 8 r_8.toNatClampNeg)).toNatClampNeg))) 8 r_8.toNatClampNeg (((sV M53 9 ((M53.2 9) + (M53.1 6 ((8 * r_8) + (M53.1 8 r_8.toNatClampNeg)).toNatClampNeg))).1 8 r_8.toNatClampNeg) + 1)).2 9) - (((sA (sV M53 9 ((M53.2 9) + (M53.1 6 ((8 * r_8) + (M53.1 8 r_8.toNatClampNeg)).toNatClampNeg))) 8 r_8.toNatClampNeg (((sV M53 9 ((M53.2 9) + (M53.1 6 ((8 * r_8) + (M53.1 8 r_8.toNatClampNeg)).toNatClampNeg))).1 8 r_8.toNatClampNeg) + 1)).1 7 r_8.toNatClampNeg) * ((sA (sV M53 9 ((M53.2 9) + (M53.1 6 ((8 * r_8) + (M53.1 8 r_8.toNatClampNeg)).toNatClampNeg))) 8 r_8.toNatClampNeg (((sV M53 9 ((M53.2 9) + (M53.1 6 ((8 * r_8) + (M53.1 8 r_8.toNatClampNeg)).toNatClampNeg))).1 8 r_8.toNatClampNeg) + 1)).1 2 r_8.toNatClampNeg)))), (3, .int r_8), (0, .ref (ad 0)), (1, .int a1), (2, .int a2)]) hx hb d_Y_go_154 hl (by decide) rfl (fun ls hl => ?_)
            refine lv_iload_n hx hb d_Y_go_156 rfl (lv_at hl 1 rfl) ?_
            refine lv_iload_n hx hb d_Y_go_157 rfl (lv_at hl 3 rfl) ?_
            refine lv_icmp_ne (tgt := 186) hx hb d_Y_go_158 (by decide) (fun c_18 => ?_) (fun c_18 => ?_)
            · rw [if_neg c_18] at hj
              refine lv_iload_n hx hb d_Y_go_186 rfl (lv_at hl 1 rfl) ?_
              refine lv_iload_n hx hb d_Y_go_187 rfl (lv_at hl 3 rfl) ?_
              refine lv_icmp_ne (tgt := 210) hx hb d_Y_go_188 (by decide) (fun c_19 => ?_) (fun c_19 => ?_)
              · rw [if_neg c_19] at hj
                refine lv_aload_n hx hb d_Y_go_210 rfl (lv_at hl 2 rfl) ?_
                refine gw_get (v := .ref (ad 8)) S hw ya_R rfl (by decide) n_T_Y f_32 rfl d_Y_go_211 ?_
                refine lv_iload_n hx hb d_Y_go_214 rfl (lv_at hl 1 rfl) ?_
                refine lv_iconst (v := 0) hx hb d_Y_go_215 (by decide) ?_
                obtain ⟨g_20, hj⟩ := gw_if hj
                refine gw_iast (t0 := 0) S hw ⟨ya_a8, rfl⟩ g_20 (ys_a8 r_8.toNatClampNeg 0) d_Y_go_216 (fun H locs hw => ?_)
                refine lv_aload_n hx hb d_Y_go_217 rfl (lv_at hl 2 rfl) ?_
                refine gw_get (v := .ref (ad 7)) S hw ya_R rfl (by decide) n_T_Y f_29 rfl d_Y_go_218 ?_
                refine lv_iload_n hx hb d_Y_go_221 rfl (lv_at hl 1 rfl) ?_
                refine lv_dup2_11 hx hb d_Y_go_222 rfl rfl ?_
                obtain ⟨g_21, hj⟩ := gw_if hj
                refine gw_iald (t0 := 0) S hw ⟨ya_a7, rfl⟩ g_21 d_Y_go_223 ?_
                refine lv_iconst (v := 1) hx hb d_Y_go_224 (by decide) ?_
                refine lv_iadd hx hb d_Y_go_225 ?_
                obtain ⟨g_22, hj⟩ := gw_if hj
                refine gw_iast (t0 := 0) S hw ⟨ya_a7, rfl⟩ g_22 (ys_a7 r_8.toNatClampNeg (((sA (sA (sV M53 9 ((M53.2 9) + (M53.1 6 ((8 * r_8) + (M53.1 8 r_8.toNatClampNeg)).toNatClampNeg))) 8 r_8.toNatClampNeg (((sV M53 9 ((M53.2 9) + (M53.1 6 ((8 * r_8) + (M53.1 8 r_8.toNatClampNeg)).toNatClampNeg))).1 8 r_8.toNatClampNeg) + 1)) 8 r_8.toNatClampNeg 0).1 7 r_8.toNatClampNeg) + 1)) d_Y_go_226 (fun H locs hw => ?_)
                refine lv_goto (tgt := 53) hx hb d_Y_go_227 (by decide) ?_
                exact ih53 r_8 (sA (sA (sA (sV M53 9 ((M53.2 9) + (M53.1 6 ((8 * r_8) + (M53.1 8 r_8.toNatClampNeg)).toNatClampNeg))) 8 r_8.toNatClampNeg (((sV M53 9 ((M53.2 9) + (M53.1 6 ((8 * r_8) + (M53.1 8 r_8.toNatClampNeg)).toNatClampNeg))).1 8 r_8.toNatClampNeg) + 1)) 8 r_8.toNatClampNeg 0) 7 r_8.toNatClampNeg (((sA (sA (sV M53 9 ((M53.2 9) + (M53.1 6 ((8 * r_8) + (M53.1 8 r_8.toNatClampNeg)).toNatClampNeg))) 8 r_8.toNatClampNeg (((sV M53 9 ((M53.2 9) + (M53.1 6 ((8 * r_8) + (M53.1 8 r_8.toNatClampNeg)).toNatClampNeg))).1 8 r_8.toNatClampNeg) + 1)) 8 r_8.toNatClampNeg 0).1 7 r_8.toNatClampNeg) + 1)) hj H locs hw ls (lv_sub hl [2, 3, 4, 1] rfl)
              · rw [if_pos c_19] at hj
                refine lv_aload_n hx hb d_Y_go_191 rfl (lv_at hl 2 rfl) ?_
                refine gw_get (v := .ref (ad 7)) S hw ya_R rfl (by decide) n_T_Y f_29 rfl d_Y_go_192 ?_
                refine lv_iload_n hx hb d_Y_go_195 rfl (lv_at hl 1 rfl) ?_
                obtain ⟨g_23, hj⟩ := gw_if hj
                refine gw_iald (t0 := 0) S hw ⟨ya_a7, rfl⟩ g_23 d_Y_go_196 ?_
                refine lv_aload_n hx hb d_Y_go_197 rfl (lv_at hl 2 rfl) ?_
                refine gw_get (v := .int ((sA (sV M53 9 ((M53.2 9) + (M53.1 6 ((8 * r_8) + (M53.1 8 r_8.toNatClampNeg)).toNatClampNeg))) 8 r_8.toNatClampNeg (((sV M53 9 ((M53.2 9) + (M53.1 6 ((8 * r_8) + (M53.1 8 r_8.toNatClampNeg)).toNatClampNeg))).1 8 r_8.toNatClampNeg) + 1)).2 13)) S hw ya_R rfl (by decide) n_T_Y f_131 rfl d_Y_go_198 ?_
                refine lv_icmp_ne (tgt := 210) hx hb d_Y_go_201 (by decide) (fun c_24 => ?_) (fun c_24 => ?_)
                · rw [if_neg c_24] at hj
                  refine lv_aload_n hx hb d_Y_go_210 rfl (lv_at hl 2 rfl) ?_
                  refine gw_get (v := .ref (ad 8)) S hw ya_R rfl (by decide) n_T_Y f_32 rfl d_Y_go_211 ?_
                  refine lv_iload_n hx hb d_Y_go_214 rfl (lv_at hl 1 rfl) ?_
                  refine lv_iconst (v := 0) hx hb d_Y_go_215 (by decide) ?_
                  obtain ⟨g_25, hj⟩ := gw_if hj
                  refine gw_iast (t0 := 0) S hw ⟨ya_a8, rfl⟩ g_25 (ys_a8 r_8.toNatClampNeg 0) d_Y_go_216 (fun H locs hw => ?_)
                  refine lv_aload_n hx hb d_Y_go_217 rfl (lv_at hl 2 rfl) ?_
                  refine gw_get (v := .ref (ad 7)) S hw ya_R rfl (by decide) n_T_Y f_29 rfl d_Y_go_218 ?_
                  refine lv_iload_n hx hb d_Y_go_221 rfl (lv_at hl 1 rfl) ?_
                  refine lv_dup2_11 hx hb d_Y_go_222 rfl rfl ?_
                  obtain ⟨g_26, hj⟩ := gw_if hj
                  refine gw_iald (t0 := 0) S hw ⟨ya_a7, rfl⟩ g_26 d_Y_go_223 ?_
                  refine lv_iconst (v := 1) hx hb d_Y_go_224 (by decide) ?_
                  refine lv_iadd hx hb d_Y_go_225 ?_
                  obtain ⟨g_27, hj⟩ := gw_if hj
                  refine gw_iast (t0 := 0) S hw ⟨ya_a7, rfl⟩ g_27 (ys_a7 r_8.toNatClampNeg (((sA (sA (sV M53 9 ((M53.2 9) + (M53.1 6 ((8 * r_8) + (M53.1 8 r_8.toNatClampNeg)).toNatClampNeg))) 8 r_8.toNatClampNeg (((sV M53 9 ((M53.2 9) + (M53.1 6 ((8 * r_8) + (M53.1 8 r_8.toNatClampNeg)).toNatClampNeg))).1 8 r_8.toNatClampNeg) + 1)) 8 r_8.toNatClampNeg 0).1 7 r_8.toNatClampNeg) + 1)) d_Y_go_226 (fun H locs hw => ?_)
                  refine lv_goto (tgt := 53) hx hb d_Y_go_227 (by decide) ?_
                  exact ih53 r_8 (sA (sA (sA (sV M53 9 ((M53.2 9) + (M53.1 6 ((8 * r_8) + (M53.1 8 r_8.toNatClampNeg)).toNatClampNeg))) 8 r_8.toNatClampNeg (((sV M53 9 ((M53.2 9) + (M53.1 6 ((8 * r_8) + (M53.1 8 r_8.toNatClampNeg)).toNatClampNeg))).1 8 r_8.toNatClampNeg) + 1)) 8 r_8.toNatClampNeg 0) 7 r_8.toNatClampNeg (((sA (sA (sV M53 9 ((M53.2 9) + (M53.1 6 ((8 * r_8) + (M53.1 8 r_8.toNatClampNeg)).toNatClampNeg))) 8 r_8.toNatClampNeg (((sV M53 9 ((M53.2 9) + (M53.1 6 ((8 * r_8) + (M53.1 8 r_8.toNatClampNeg)).toNatClampNeg))).1 8 r_8.toNatClampNeg) + 1)) 8 r_8.toNatClampNeg 0).1 7 r_8.toNatClampNeg) + 1)) hj H locs hw ls (lv_sub hl [2, 3, 4, 1] rfl)
                · rw [if_pos c_24] at hj
                  refine lv_aload_n hx hb d_Y_go_204 rfl (lv_at hl 2 rfl) ?_
                  refine lv_iload hx hb d_Y_go_205 (lv_at hl 0 rfl) ?_
                  refine gw_put (v := .int (((sA (sV M53 9 ((M53.2 9) + (M53.1 6 ((8 * r_8) + (M53.1 8 r_8.toNatClampNeg)).toNatClampNeg))) 8 r_8.toNatClampNeg (((sV M53 9 ((M53.2 9) + (M53.1 6 ((8 * r_8) + (M53.1 8 r_8.toNatClampNeg)).toNatClampNeg))).1 8 r_8.toNatClampNeg) + 1)).2 9) - (((sA (sV M53 9 ((M53.2 9) + (M53.1 6 ((8 * r_8) + (M53.1 8 r_8.toNatClampNeg)).toNatClampNeg))) 8 r_8.toNatClampNeg (((sV M53 9 ((M53.2 9) + (M53.1 6 ((8 * r_8) + (M53.1 8 r_8.toNatClampNeg)).toNatClampNeg))).1 8 r_8.toNatClampNeg) + 1)).1 7 r_8.toNatClampNeg) * ((sA (sV M53 9 ((M53.2 9) + (M53.1 6 ((8 * r_8) + (M53.1 8 r_8.toNatClampNeg)).toNatClampNeg))) 8 r_8.toNatClampNeg (((sV M53 9 ((M53.2 9) + (M53.1 6 ((8 * r_8) + (M53.1 8 r_8.toNatClampNeg)).toNatClampNeg))).1 8 r_8.toNatClampNeg) + 1)).1 2 r_8.toNatClampNeg)))) (ty := .int) S hw ya_R rfl (by decide) n_T_Y f_119 tk_Y nm_Y rfl (by decide +kernel) rfl rfl (Nat.le_of_ble_eq_true rfl) (ys_R 14 (((sA (sV M53 9 ((M53.2 9) + (M53.1 6 ((8 * r_8) + (M53.1 8 r_8.toNatClampNeg)).toNatClampNeg))) 8 r_8.toNatClampNeg (((sV M53 9 ((M53.2 9) + (M53.1 6 ((8 * r_8) + (M53.1 8 r_8.toNatClampNeg)).toNatClampNeg))).1 8 r_8.toNatClampNeg) + 1)).2 9) - (((sA (sV M53 9 ((M53.2 9) + (M53.1 6 ((8 * r_8) + (M53.1 8 r_8.toNatClampNeg)).toNatClampNeg))) 8 r_8.toNatClampNeg (((sV M53 9 ((M53.2 9) + (M53.1 6 ((8 * r_8) + (M53.1 8 r_8.toNatClampNeg)).toNatClampNeg))).1 8 r_8.toNatClampNeg) + 1)).1 7 r_8.toNatClampNeg) * ((sA (sV M53 9 ((M53.2 9) + (M53.1 6 ((8 * r_8) + (M53.1 8 r_8.toNatClampNeg)).toNatClampNeg))) 8 r_8.toNatClampNeg (((sV M53 9 ((M53.2 9) + (M53.1 6 ((8 * r_8) + (M53.1 8 r_8.toNatClampNeg)).toNatClampNeg))).1 8 r_8.toNatClampNeg) + 1)).1 2 r_8.toNatClampNeg))) (by decide)) d_Y_go_207 (fun H locs hw => ?_)
                  refine lv_aload_n hx hb d_Y_go_210 rfl (lv_at hl 2 rfl) ?_
                  refine gw_get (v := .ref (ad 8)) S hw ya_R rfl (by decide) n_T_Y f_32 rfl d_Y_go_211 ?_
                  refine lv_iload_n hx hb d_Y_go_214 rfl (lv_at hl 1 rfl) ?_
                  refine lv_iconst (v := 0) hx hb d_Y_go_215 (by decide) ?_
                  obtain ⟨g_28, hj⟩ := gw_if hj
                  refine gw_iast (t0 := 0) S hw ⟨ya_a8, rfl⟩ g_28 (ys_a8 r_8.toNatClampNeg 0) d_Y_go_216 (fun H locs hw => ?_)
                  refine lv_aload_n hx hb d_Y_go_217 rfl (lv_at hl 2 rfl) ?_
                  refine gw_get (v := .ref (ad 7)) S hw ya_R rfl (by decide) n_T_Y f_29 rfl d_Y_go_218 ?_
                  refine lv_iload_n hx hb d_Y_go_221 rfl (lv_at hl 1 rfl) ?_
                  refine lv_dup2_11 hx hb d_Y_go_222 rfl rfl ?_
                  obtain ⟨g_29, hj⟩ := gw_if hj
                  refine gw_iald (t0 := 0) S hw ⟨ya_a7, rfl⟩ g_29 d_Y_go_223 ?_
                  refine lv_iconst (v := 1) hx hb d_Y_go_224 (by decide) ?_
                  refine lv_iadd hx hb d_Y_go_225 ?_
                  obtain ⟨g_30, hj⟩ := gw_if hj
                  refine gw_iast (t0 := 0) S hw ⟨ya_a7, rfl⟩ g_30 (ys_a7 r_8.toNatClampNeg (((sA (sV (sA (sV M53 9 ((M53.2 9) + (M53.1 6 ((8 * r_8) + (M53.1 8 r_8.toNatClampNeg)).toNatClampNeg))) 8 r_8.toNatClampNeg (((sV M53 9 ((M53.2 9) + (M53.1 6 ((8 * r_8) + (M53.1 8 r_8.toNatClampNeg)).toNatClampNeg))).1 8 r_8.toNatClampNeg) + 1)) 14 (((sA (sV M53 9 ((M53.2 9) + (M53.1 6 ((8 * r_8) + (M53.1 8 r_8.toNatClampNeg)).toNatClampNeg))) 8 r_8.toNatClampNeg (((sV M53 9 ((M53.2 9) + (M53.1 6 ((8 * r_8) + (M53.1 8 r_8.toNatClampNeg)).toNatClampNeg))).1 8 r_8.toNatClampNeg) + 1)).2 9) - (((sA (sV M53 9 ((M53.2 9) + (M53.1 6 ((8 * r_8) + (M53.1 8 r_8.toNatClampNeg)).toNatClampNeg))) 8 r_8.toNatClampNeg (((sV M53 9 ((M53.2 9) + (M53.1 6 ((8 * r_8) + (M53.1 8 r_8.toNatClampNeg)).toNatClampNeg))).1 8 r_8.toNatClampNeg) + 1)).1 7 r_8.toNatClampNeg) * ((sA (sV M53 9 ((M53.2 9) + (M53.1 6 ((8 * r_8) + (M53.1 8 r_8.toNatClampNeg)).toNatClampNeg))) 8 r_8.toNatClampNeg (((sV M53 9 ((M53.2 9) + (M53.1 6 ((8 * r_8) + (M53.1 8 r_8.toNatClampNeg)).toNatClampNeg))).1 8 r_8.toNatClampNeg) + 1)).1 2 r_8.toNatClampNeg)))) 8 r_8.toNatClampNeg 0).1 7 r_8.toNatClampNeg) + 1)) d_Y_go_226 (fun H locs hw => ?_)
                  refine lv_goto (tgt := 53) hx hb d_Y_go_227 (by decide) ?_
                  exact ih53 r_8 (sA (sA (sV (sA (sV M53 9 ((M53.2 9) + (M53.1 6 ((8 * r_8) + (M53.1 8 r_8.toNatClampNeg)).toNatClampNeg))) 8 r_8.toNatClampNeg (((sV M53 9 ((M53.2 9) + (M53.1 6 ((8 * r_8) + (M53.1 8 r_8.toNatClampNeg)).toNatClampNeg))).1 8 r_8.toNatClampNeg) + 1)) 14 (((sA (sV M53 9 ((M53.2 9) + (M53.1 6 ((8 * r_8) + (M53.1 8 r_8.toNatClampNeg)).toNatClampNeg))) 8 r_8.toNatClampNeg (((sV M53 9 ((M53.2 9) + (M53.1 6 ((8 * r_8) + (M53.1 8 r_8.toNatClampNeg)).toNatClampNeg))).1 8 r_8.toNatClampNeg) + 1)).2 9) - (((sA (sV M53 9 ((M53.2 9) + (M53.1 6 ((8 * r_8) + (M53.1 8 r_8.toNatClampNeg)).toNatClampNeg))) 8 r_8.toNatClampNeg (((sV M53 9 ((M53.2 9) + (M53.1 6 ((8 * r_8) + (M53.1 8 r_8.toNatClampNeg)).toNatClampNeg))).1 8 r_8.toNatClampNeg) + 1)).1 7 r_8.toNatClampNeg) * ((sA (sV M53 9 ((M53.2 9) + (M53.1 6 ((8 * r_8) + (M53.1 8 r_8.toNatClampNeg)).toNatClampNeg))) 8 r_8.toNatClampNeg (((sV M53 9 ((M53.2 9) + (M53.1 6 ((8 * r_8) + (M53.1 8 r_8.toNatClampNeg)).toNatClampNeg))).1 8 r_8.toNatClampNeg) + 1)).1 2 r_8.toNatClampNeg)))) 8 r_8.toNatClampNeg 0) 7 r_8.toNatClampNeg (((sA (sV (sA (sV M53 9 ((M53.2 9) + (M53.1 6 ((8 * r_8) + (M53.1 8 r_8.toNatClampNeg)).toNatClampNeg))) 8 r_8.toNatClampNeg (((sV M53 9 ((M53.2 9) + (M53.1 6 ((8 * r_8) + (M53.1 8 r_8.toNatClampNeg)).toNatClampNeg))).1 8 r_8.toNatClampNeg) + 1)) 14 (((sA (sV M53 9 ((M53.2 9) + (M53.1 6 ((8 * r_8) + (M53.1 8 r_8.toNatClampNeg)).toNatClampNeg))) 8 r_8.toNatClampNeg (((sV M53 9 ((M53.2 9) + (M53.1 6 ((8 * r_8) + (M53.1 8 r_8.toNatClampNeg)).toNatClampNeg))).1 8 r_8.toNatClampNeg) + 1)).2 9) - (((sA (sV M53 9 ((M53.2 9) + (M53.1 6 ((8 * r_8) + (M53.1 8 r_8.toNatClampNeg)).toNatClampNeg))) 8 r_8.toNatClampNeg (((sV M53 9 ((M53.2 9) + (M53.1 6 ((8 * r_8) + (M53.1 8 r_8.toNatClampNeg)).toNatClampNeg))).1 8 r_8.toNatClampNeg) + 1)).1 7 r_8.toNatClampNeg) * ((sA (sV M53 9 ((M53.2 9) + (M53.1 6 ((8 * r_8) + (M53.1 8 r_8.toNatClampNeg)).toNatClampNeg))) 8 r_8.toNatClampNeg (((sV M53 9 ((M53.2 9) + (M53.1 6 ((8 * r_8) + (M53.1 8 r_8.toNatClampNeg)).toNatClampNeg))).1 8 r_8.toNatClampNeg) + 1)).1 2 r_8.toNatClampNeg)))) 8 r_8.toNatClampNeg 0).1 7 r_8.toNatClampNeg) + 1)) hj H locs hw ls (lv_sub hl [2, 3, 4, 1] rfl)
            · rw [if_pos c_18] at hj
              refine lv_iload hx hb d_Y_go_161 (lv_at hl 0 rfl) ?_
              refine lv_aload_n hx hb d_Y_go_163 rfl (lv_at hl 2 rfl) ?_
              refine gw_get (v := .int ((sA (sV M53 9 ((M53.2 9) + (M53.1 6 ((8 * r_8) + (M53.1 8 r_8.toNatClampNeg)).toNatClampNeg))) 8 r_8.toNatClampNeg (((sV M53 9 ((M53.2 9) + (M53.1 6 ((8 * r_8) + (M53.1 8 r_8.toNatClampNeg)).toNatClampNeg))).1 8 r_8.toNatClampNeg) + 1)).2 11)) S hw ya_R rfl (by decide) n_T_Y f_113 rfl d_Y_go_164 ?_
              refine lv_icmp_le (tgt := 186) hx hb d_Y_go_167 (by decide) (fun c_31 => ?_) (fun c_31 => ?_)
              · rw [if_pos c_31] at hj
                refine lv_iload_n hx hb d_Y_go_186 rfl (lv_at hl 1 rfl) ?_
                refine lv_iload_n hx hb d_Y_go_187 rfl (lv_at hl 3 rfl) ?_
                refine lv_icmp_ne (tgt := 210) hx hb d_Y_go_188 (by decide) (fun c_32 => ?_) (fun c_32 => ?_)
                · rw [if_neg c_32] at hj
                  refine lv_aload_n hx hb d_Y_go_210 rfl (lv_at hl 2 rfl) ?_
                  refine gw_get (v := .ref (ad 8)) S hw ya_R rfl (by decide) n_T_Y f_32 rfl d_Y_go_211 ?_
                  refine lv_iload_n hx hb d_Y_go_214 rfl (lv_at hl 1 rfl) ?_
                  refine lv_iconst (v := 0) hx hb d_Y_go_215 (by decide) ?_
                  obtain ⟨g_33, hj⟩ := gw_if hj
                  refine gw_iast (t0 := 0) S hw ⟨ya_a8, rfl⟩ g_33 (ys_a8 r_8.toNatClampNeg 0) d_Y_go_216 (fun H locs hw => ?_)
                  refine lv_aload_n hx hb d_Y_go_217 rfl (lv_at hl 2 rfl) ?_
                  refine gw_get (v := .ref (ad 7)) S hw ya_R rfl (by decide) n_T_Y f_29 rfl d_Y_go_218 ?_
                  refine lv_iload_n hx hb d_Y_go_221 rfl (lv_at hl 1 rfl) ?_
                  refine lv_dup2_11 hx hb d_Y_go_222 rfl rfl ?_
                  obtain ⟨g_34, hj⟩ := gw_if hj
                  refine gw_iald (t0 := 0) S hw ⟨ya_a7, rfl⟩ g_34 d_Y_go_223 ?_
                  refine lv_iconst (v := 1) hx hb d_Y_go_224 (by decide) ?_
                  refine lv_iadd hx hb d_Y_go_225 ?_
                  obtain ⟨g_35, hj⟩ := gw_if hj
                  refine gw_iast (t0 := 0) S hw ⟨ya_a7, rfl⟩ g_35 (ys_a7 r_8.toNatClampNeg (((sA (sA (sV M53 9 ((M53.2 9) + (M53.1 6 ((8 * r_8) + (M53.1 8 r_8.toNatClampNeg)).toNatClampNeg))) 8 r_8.toNatClampNeg (((sV M53 9 ((M53.2 9) + (M53.1 6 ((8 * r_8) + (M53.1 8 r_8.toNatClampNeg)).toNatClampNeg))).1 8 r_8.toNatClampNeg) + 1)) 8 r_8.toNatClampNeg 0).1 7 r_8.toNatClampNeg) + 1)) d_Y_go_226 (fun H locs hw => ?_)
                  refine lv_goto (tgt := 53) hx hb d_Y_go_227 (by decide) ?_
                  exact ih53 r_8 (sA (sA (sA (sV M53 9 ((M53.2 9) + (M53.1 6 ((8 * r_8) + (M53.1 8 r_8.toNatClampNeg)).toNatClampNeg))) 8 r_8.toNatClampNeg (((sV M53 9 ((M53.2 9) + (M53.1 6 ((8 * r_8) + (M53.1 8 r_8.toNatClampNeg)).toNatClampNeg))).1 8 r_8.toNatClampNeg) + 1)) 8 r_8.toNatClampNeg 0) 7 r_8.toNatClampNeg (((sA (sA (sV M53 9 ((M53.2 9) + (M53.1 6 ((8 * r_8) + (M53.1 8 r_8.toNatClampNeg)).toNatClampNeg))) 8 r_8.toNatClampNeg (((sV M53 9 ((M53.2 9) + (M53.1 6 ((8 * r_8) + (M53.1 8 r_8.toNatClampNeg)).toNatClampNeg))).1 8 r_8.toNatClampNeg) + 1)) 8 r_8.toNatClampNeg 0).1 7 r_8.toNatClampNeg) + 1)) hj H locs hw ls (lv_sub hl [2, 3, 4, 1] rfl)
                · rw [if_pos c_32] at hj
                  refine lv_aload_n hx hb d_Y_go_191 rfl (lv_at hl 2 rfl) ?_
                  refine gw_get (v := .ref (ad 7)) S hw ya_R rfl (by decide) n_T_Y f_29 rfl d_Y_go_192 ?_
                  refine lv_iload_n hx hb d_Y_go_195 rfl (lv_at hl 1 rfl) ?_
                  obtain ⟨g_36, hj⟩ := gw_if hj
                  refine gw_iald (t0 := 0) S hw ⟨ya_a7, rfl⟩ g_36 d_Y_go_196 ?_
                  refine lv_aload_n hx hb d_Y_go_197 rfl (lv_at hl 2 rfl) ?_
                  refine gw_get (v := .int ((sA (sV M53 9 ((M53.2 9) + (M53.1 6 ((8 * r_8) + (M53.1 8 r_8.toNatClampNeg)).toNatClampNeg))) 8 r_8.toNatClampNeg (((sV M53 9 ((M53.2 9) + (M53.1 6 ((8 * r_8) + (M53.1 8 r_8.toNatClampNeg)).toNatClampNeg))).1 8 r_8.toNatClampNeg) + 1)).2 13)) S hw ya_R rfl (by decide) n_T_Y f_131 rfl d_Y_go_198 ?_
                  refine lv_icmp_ne (tgt := 210) hx hb d_Y_go_201 (by decide) (fun c_37 => ?_) (fun c_37 => ?_)
                  · rw [if_neg c_37] at hj
                    refine lv_aload_n hx hb d_Y_go_210 rfl (lv_at hl 2 rfl) ?_
                    refine gw_get (v := .ref (ad 8)) S hw ya_R rfl (by decide) n_T_Y f_32 rfl d_Y_go_211 ?_
                    refine lv_iload_n hx hb d_Y_go_214 rfl (lv_at hl 1 rfl) ?_
                    refine lv_iconst (v := 0) hx hb d_Y_go_215 (by decide) ?_
                    obtain ⟨g_38, hj⟩ := gw_if hj
                    refine gw_iast (t0 := 0) S hw ⟨ya_a8, rfl⟩ g_38 (ys_a8 r_8.toNatClampNeg 0) d_Y_go_216 (fun H locs hw => ?_)
                    refine lv_aload_n hx hb d_Y_go_217 rfl (lv_at hl 2 rfl) ?_
                    refine gw_get (v := .ref (ad 7)) S hw ya_R rfl (by decide) n_T_Y f_29 rfl d_Y_go_218 ?_
                    refine lv_iload_n hx hb d_Y_go_221 rfl (lv_at hl 1 rfl) ?_
                    refine lv_dup2_11 hx hb d_Y_go_222 rfl rfl ?_
                    obtain ⟨g_39, hj⟩ := gw_if hj
                    refine gw_iald (t0 := 0) S hw ⟨ya_a7, rfl⟩ g_39 d_Y_go_223 ?_
                    refine lv_iconst (v := 1) hx hb d_Y_go_224 (by decide) ?_
                    refine lv_iadd hx hb d_Y_go_225 ?_
                    obtain ⟨g_40, hj⟩ := gw_if hj
                    refine gw_iast (t0 := 0) S hw ⟨ya_a7, rfl⟩ g_40 (ys_a7 r_8.toNatClampNeg (((sA (sA (sV M53 9 ((M53.2 9) + (M53.1 6 ((8 * r_8) + (M53.1 8 r_8.toNatClampNeg)).toNatClampNeg))) 8 r_8.toNatClampNeg (((sV M53 9 ((M53.2 9) + (M53.1 6 ((8 * r_8) + (M53.1 8 r_8.toNatClampNeg)).toNatClampNeg))).1 8 r_8.toNatClampNeg) + 1)) 8 r_8.toNatClampNeg 0).1 7 r_8.toNatClampNeg) + 1)) d_Y_go_226 (fun H locs hw => ?_)
                    refine lv_goto (tgt := 53) hx hb d_Y_go_227 (by decide) ?_
                    exact ih53 r_8 (sA (sA (sA (sV M53 9 ((M53.2 9) + (M53.1 6 ((8 * r_8) + (M53.1 8 r_8.toNatClampNeg)).toNatClampNeg))) 8 r_8.toNatClampNeg (((sV M53 9 ((M53.2 9) + (M53.1 6 ((8 * r_8) + (M53.1 8 r_8.toNatClampNeg)).toNatClampNeg))).1 8 r_8.toNatClampNeg) + 1)) 8 r_8.toNatClampNeg 0) 7 r_8.toNatClampNeg (((sA (sA (sV M53 9 ((M53.2 9) + (M53.1 6 ((8 * r_8) + (M53.1 8 r_8.toNatClampNeg)).toNatClampNeg))) 8 r_8.toNatClampNeg (((sV M53 9 ((M53.2 9) + (M53.1 6 ((8 * r_8) + (M53.1 8 r_8.toNatClampNeg)).toNatClampNeg))).1 8 r_8.toNatClampNeg) + 1)) 8 r_8.toNatClampNeg 0).1 7 r_8.toNatClampNeg) + 1)) hj H locs hw ls (lv_sub hl [2, 3, 4, 1] rfl)
                  · rw [if_pos c_37] at hj
                    refine lv_aload_n hx hb d_Y_go_204 rfl (lv_at hl 2 rfl) ?_
                    refine lv_iload hx hb d_Y_go_205 (lv_at hl 0 rfl) ?_
                    refine gw_put (v := .int (((sA (sV M53 9 ((M53.2 9) + (M53.1 6 ((8 * r_8) + (M53.1 8 r_8.toNatClampNeg)).toNatClampNeg))) 8 r_8.toNatClampNeg (((sV M53 9 ((M53.2 9) + (M53.1 6 ((8 * r_8) + (M53.1 8 r_8.toNatClampNeg)).toNatClampNeg))).1 8 r_8.toNatClampNeg) + 1)).2 9) - (((sA (sV M53 9 ((M53.2 9) + (M53.1 6 ((8 * r_8) + (M53.1 8 r_8.toNatClampNeg)).toNatClampNeg))) 8 r_8.toNatClampNeg (((sV M53 9 ((M53.2 9) + (M53.1 6 ((8 * r_8) + (M53.1 8 r_8.toNatClampNeg)).toNatClampNeg))).1 8 r_8.toNatClampNeg) + 1)).1 7 r_8.toNatClampNeg) * ((sA (sV M53 9 ((M53.2 9) + (M53.1 6 ((8 * r_8) + (M53.1 8 r_8.toNatClampNeg)).toNatClampNeg))) 8 r_8.toNatClampNeg (((sV M53 9 ((M53.2 9) + (M53.1 6 ((8 * r_8) + (M53.1 8 r_8.toNatClampNeg)).toNatClampNeg))).1 8 r_8.toNatClampNeg) + 1)).1 2 r_8.toNatClampNeg)))) (ty := .int) S hw ya_R rfl (by decide) n_T_Y f_119 tk_Y nm_Y rfl (by decide +kernel) rfl rfl (Nat.le_of_ble_eq_true rfl) (ys_R 14 (((sA (sV M53 9 ((M53.2 9) + (M53.1 6 ((8 * r_8) + (M53.1 8 r_8.toNatClampNeg)).toNatClampNeg))) 8 r_8.toNatClampNeg (((sV M53 9 ((M53.2 9) + (M53.1 6 ((8 * r_8) + (M53.1 8 r_8.toNatClampNeg)).toNatClampNeg))).1 8 r_8.toNatClampNeg) + 1)).2 9) - (((sA (sV M53 9 ((M53.2 9) + (M53.1 6 ((8 * r_8) + (M53.1 8 r_8.toNatClampNeg)).toNatClampNeg))) 8 r_8.toNatClampNeg (((sV M53 9 ((M53.2 9) + (M53.1 6 ((8 * r_8) + (M53.1 8 r_8.toNatClampNeg)).toNatClampNeg))).1 8 r_8.toNatClampNeg) + 1)).1 7 r_8.toNatClampNeg) * ((sA (sV M53 9 ((M53.2 9) + (M53.1 6 ((8 * r_8) + (M53.1 8 r_8.toNatClampNeg)).toNatClampNeg))) 8 r_8.toNatClampNeg (((sV M53 9 ((M53.2 9) + (M53.1 6 ((8 * r_8) + (M53.1 8 r_8.toNatClampNeg)).toNatClampNeg))).1 8 r_8.toNatClampNeg) + 1)).1 2 r_8.toNatClampNeg))) (by decide)) d_Y_go_207 (fun H locs hw => ?_)
                    refine lv_aload_n hx hb d_Y_go_210 rfl (lv_at hl 2 rfl) ?_
                    refine gw_get (v := .ref (ad 8)) S hw ya_R rfl (by decide) n_T_Y f_32 rfl d_Y_go_211 ?_
                    refine lv_iload_n hx hb d_Y_go_214 rfl (lv_at hl 1 rfl) ?_
                    refine lv_iconst (v := 0) hx hb d_Y_go_215 (by decide) ?_
                    obtain ⟨g_41, hj⟩ := gw_if hj
                    refine gw_iast (t0 := 0) S hw ⟨ya_a8, rfl⟩ g_41 (ys_a8 r_8.toNatClampNeg 0) d_Y_go_216 (fun H locs hw => ?_)
                    refine lv_aload_n hx hb d_Y_go_217 rfl (lv_at hl 2 rfl) ?_
                    refine gw_get (v := .ref (ad 7)) S hw ya_R rfl (by decide) n_T_Y f_29 rfl d_Y_go_218 ?_
                    refine lv_iload_n hx hb d_Y_go_221 rfl (lv_at hl 1 rfl) ?_
                    refine lv_dup2_11 hx hb d_Y_go_222 rfl rfl ?_
                    obtain ⟨g_42, hj⟩ := gw_if hj
                    refine gw_iald (t0 := 0) S hw ⟨ya_a7, rfl⟩ g_42 d_Y_go_223 ?_
                    refine lv_iconst (v := 1) hx hb d_Y_go_224 (by decide) ?_
                    refine lv_iadd hx hb d_Y_go_225 ?_
                    obtain ⟨g_43, hj⟩ := gw_if hj
                    refine gw_iast (t0 := 0) S hw ⟨ya_a7, rfl⟩ g_43 (ys_a7 r_8.toNatClampNeg (((sA (sV (sA (sV M53 9 ((M53.2 9) + (M53.1 6 ((8 * r_8) + (M53.1 8 r_8.toNatClampNeg)).toNatClampNeg))) 8 r_8.toNatClampNeg (((sV M53 9 ((M53.2 9) + (M53.1 6 ((8 * r_8) + (M53.1 8 r_8.toNatClampNeg)).toNatClampNeg))).1 8 r_8.toNatClampNeg) + 1)) 14 (((sA (sV M53 9 ((M53.2 9) + (M53.1 6 ((8 * r_8) + (M53.1 8 r_8.toNatClampNeg)).toNatClampNeg))) 8 r_8.toNatClampNeg (((sV M53 9 ((M53.2 9) + (M53.1 6 ((8 * r_8) + (M53.1 8 r_8.toNatClampNeg)).toNatClampNeg))).1 8 r_8.toNatClampNeg) + 1)).2 9) - (((sA (sV M53 9 ((M53.2 9) + (M53.1 6 ((8 * r_8) + (M53.1 8 r_8.toNatClampNeg)).toNatClampNeg))) 8 r_8.toNatClampNeg (((sV M53 9 ((M53.2 9) + (M53.1 6 ((8 * r_8) + (M53.1 8 r_8.toNatClampNeg)).toNatClampNeg))).1 8 r_8.toNatClampNeg) + 1)).1 7 r_8.toNatClampNeg) * ((sA (sV M53 9 ((M53.2 9) + (M53.1 6 ((8 * r_8) + (M53.1 8 r_8.toNatClampNeg)).toNatClampNeg))) 8 r_8.toNatClampNeg (((sV M53 9 ((M53.2 9) + (M53.1 6 ((8 * r_8) + (M53.1 8 r_8.toNatClampNeg)).toNatClampNeg))).1 8 r_8.toNatClampNeg) + 1)).1 2 r_8.toNatClampNeg)))) 8 r_8.toNatClampNeg 0).1 7 r_8.toNatClampNeg) + 1)) d_Y_go_226 (fun H locs hw => ?_)
                    refine lv_goto (tgt := 53) hx hb d_Y_go_227 (by decide) ?_
                    exact ih53 r_8 (sA (sA (sV (sA (sV M53 9 ((M53.2 9) + (M53.1 6 ((8 * r_8) + (M53.1 8 r_8.toNatClampNeg)).toNatClampNeg))) 8 r_8.toNatClampNeg (((sV M53 9 ((M53.2 9) + (M53.1 6 ((8 * r_8) + (M53.1 8 r_8.toNatClampNeg)).toNatClampNeg))).1 8 r_8.toNatClampNeg) + 1)) 14 (((sA (sV M53 9 ((M53.2 9) + (M53.1 6 ((8 * r_8) + (M53.1 8 r_8.toNatClampNeg)).toNatClampNeg))) 8 r_8.toNatClampNeg (((sV M53 9 ((M53.2 9) + (M53.1 6 ((8 * r_8) + (M53.1 8 r_8.toNatClampNeg)).toNatClampNeg))).1 8 r_8.toNatClampNeg) + 1)).2 9) - (((sA (sV M53 9 ((M53.2 9) + (M53.1 6 ((8 * r_8) + (M53.1 8 r_8.toNatClampNeg)).toNatClampNeg))) 8 r_8.toNatClampNeg (((sV M53 9 ((M53.2 9) + (M53.1 6 ((8 * r_8) + (M53.1 8 r_8.toNatClampNeg)).toNatClampNeg))).1 8 r_8.toNatClampNeg) + 1)).1 7 r_8.toNatClampNeg) * ((sA (sV M53 9 ((M53.2 9) + (M53.1 6 ((8 * r_8) + (M53.1 8 r_8.toNatClampNeg)).toNatClampNeg))) 8 r_8.toNatClampNeg (((sV M53 9 ((M53.2 9) + (M53.1 6 ((8 * r_8) + (M53.1 8 r_8.toNatClampNeg)).toNatClampNeg))).1 8 r_8.toNatClampNeg) + 1)).1 2 r_8.toNatClampNeg)))) 8 r_8.toNatClampNeg 0) 7 r_8.toNatClampNeg (((sA (sV (sA (sV M53 9 ((M53.2 9) + (M53.1 6 ((8 * r_8) + (M53.1 8 r_8.toNatClampNeg)).toNatClampNeg))) 8 r_8.toNatClampNeg (((sV M53 9 ((M53.2 9) + (M53.1 6 ((8 * r_8) + (M53.1 8 r_8.toNatClampNeg)).toNatClampNeg))).1 8 r_8.toNatClampNeg) + 1)) 14 (((sA (sV M53 9 ((M53.2 9) + (M53.1 6 ((8 * r_8) + (M53.1 8 r_8.toNatClampNeg)).toNatClampNeg))) 8 r_8.toNatClampNeg (((sV M53 9 ((M53.2 9) + (M53.1 6 ((8 * r_8) + (M53.1 8 r_8.toNatClampNeg)).toNatClampNeg))).1 8 r_8.toNatClampNeg) + 1)).2 9) - (((sA (sV M53 9 ((M53.2 9) + (M53.1 6 ((8 * r_8) + (M53.1 8 r_8.toNatClampNeg)).toNatClampNeg))) 8 r_8.toNatClampNeg (((sV M53 9 ((M53.2 9) + (M53.1 6 ((8 * r_8) + (M53.1 8 r_8.toNatClampNeg)).toNatClampNeg))).1 8 r_8.toNatClampNeg) + 1)).1 7 r_8.toNatClampNeg) * ((sA (sV M53 9 ((M53.2 9) + (M53.1 6 ((8 * r_8) + (M53.1 8 r_8.toNatClampNeg)).toNatClampNeg))) 8 r_8.toNatClampNeg (((sV M53 9 ((M53.2 9) + (M53.1 6 ((8 * r_8) + (M53.1 8 r_8.toNatClampNeg)).toNatClampNeg))).1 8 r_8.toNatClampNeg) + 1)).1 2 r_8.toNatClampNeg)))) 8 r_8.toNatClampNeg 0).1 7 r_8.toNatClampNeg) + 1)) hj H locs hw ls (lv_sub hl [2, 3, 4, 1] rfl)
              · rw [if_neg c_31] at hj
                refine lv_aload_n hx hb d_Y_go_170 rfl (lv_at hl 2 rfl) ?_
                refine lv_iload hx hb d_Y_go_171 (lv_at hl 0 rfl) ?_
                refine gw_put (v := .int (((sA (sV M53 9 ((M53.2 9) + (M53.1 6 ((8 * r_8) + (M53.1 8 r_8.toNatClampNeg)).toNatClampNeg))) 8 r_8.toNatClampNeg (((sV M53 9 ((M53.2 9) + (M53.1 6 ((8 * r_8) + (M53.1 8 r_8.toNatClampNeg)).toNatClampNeg))).1 8 r_8.toNatClampNeg) + 1)).2 9) - (((sA (sV M53 9 ((M53.2 9) + (M53.1 6 ((8 * r_8) + (M53.1 8 r_8.toNatClampNeg)).toNatClampNeg))) 8 r_8.toNatClampNeg (((sV M53 9 ((M53.2 9) + (M53.1 6 ((8 * r_8) + (M53.1 8 r_8.toNatClampNeg)).toNatClampNeg))).1 8 r_8.toNatClampNeg) + 1)).1 7 r_8.toNatClampNeg) * ((sA (sV M53 9 ((M53.2 9) + (M53.1 6 ((8 * r_8) + (M53.1 8 r_8.toNatClampNeg)).toNatClampNeg))) 8 r_8.toNatClampNeg (((sV M53 9 ((M53.2 9) + (M53.1 6 ((8 * r_8) + (M53.1 8 r_8.toNatClampNeg)).toNatClampNeg))).1 8 r_8.toNatClampNeg) + 1)).1 2 r_8.toNatClampNeg)))) (ty := .int) S hw ya_R rfl (by decide) n_T_Y f_113 tk_Y nm_Y rfl (by decide +kernel) rfl rfl (Nat.le_of_ble_eq_true rfl) (ys_R 11 (((sA (sV M53 9 ((M53.2 9) + (M53.1 6 ((8 * r_8) + (M53.1 8 r_8.toNatClampNeg)).toNatClampNeg))) 8 r_8.toNatClampNeg (((sV M53 9 ((M53.2 9) + (M53.1 6 ((8 * r_8) + (M53.1 8 r_8.toNatClampNeg)).toNatClampNeg))).1 8 r_8.toNatClampNeg) + 1)).2 9) - (((sA (sV M53 9 ((M53.2 9) + (M53.1 6 ((8 * r_8) + (M53.1 8 r_8.toNatClampNeg)).toNatClampNeg))) 8 r_8.toNatClampNeg (((sV M53 9 ((M53.2 9) + (M53.1 6 ((8 * r_8) + (M53.1 8 r_8.toNatClampNeg)).toNatClampNeg))).1 8 r_8.toNatClampNeg) + 1)).1 7 r_8.toNatClampNeg) * ((sA (sV M53 9 ((M53.2 9) + (M53.1 6 ((8 * r_8) + (M53.1 8 r_8.toNatClampNeg)).toNatClampNeg))) 8 r_8.toNatClampNeg (((sV M53 9 ((M53.2 9) + (M53.1 6 ((8 * r_8) + (M53.1 8 r_8.toNatClampNeg)).toNatClampNeg))).1 8 r_8.toNatClampNeg) + 1)).1 2 r_8.toNatClampNeg))) (by decide)) d_Y_go_173 (fun H locs hw => ?_)
                refine lv_aload_n hx hb d_Y_go_176 rfl (lv_at hl 2 rfl) ?_
                refine lv_aload_n hx hb d_Y_go_177 rfl (lv_at hl 2 rfl) ?_
                refine gw_get (v := .ref (ad 7)) S hw ya_R rfl (by decide) n_T_Y f_29 rfl d_Y_go_178 ?_
                refine lv_iload_n hx hb d_Y_go_181 rfl (lv_at hl 1 rfl) ?_
                obtain ⟨g_44, hj⟩ := gw_if hj
                refine gw_iald (t0 := 0) S hw ⟨ya_a7, rfl⟩ g_44 d_Y_go_182 ?_
                refine gw_put (v := .int ((sV (sA (sV M53 9 ((M53.2 9) + (M53.1 6 ((8 * r_8) + (M53.1 8 r_8.toNatClampNeg)).toNatClampNeg))) 8 r_8.toNatClampNeg (((sV M53 9 ((M53.2 9) + (M53.1 6 ((8 * r_8) + (M53.1 8 r_8.toNatClampNeg)).toNatClampNeg))).1 8 r_8.toNatClampNeg) + 1)) 11 (((sA (sV M53 9 ((M53.2 9) + (M53.1 6 ((8 * r_8) + (M53.1 8 r_8.toNatClampNeg)).toNatClampNeg))) 8 r_8.toNatClampNeg (((sV M53 9 ((M53.2 9) + (M53.1 6 ((8 * r_8) + (M53.1 8 r_8.toNatClampNeg)).toNatClampNeg))).1 8 r_8.toNatClampNeg) + 1)).2 9) - (((sA (sV M53 9 ((M53.2 9) + (M53.1 6 ((8 * r_8) + (M53.1 8 r_8.toNatClampNeg)).toNatClampNeg))) 8 r_8.toNatClampNeg (((sV M53 9 ((M53.2 9) + (M53.1 6 ((8 * r_8) + (M53.1 8 r_8.toNatClampNeg)).toNatClampNeg))).1 8 r_8.toNatClampNeg) + 1)).1 7 r_8.toNatClampNeg) * ((sA (sV M53 9 ((M53.2 9) + (M53.1 6 ((8 * r_8) + (M53.1 8 r_8.toNatClampNeg)).toNatClampNeg))) 8 r_8.toNatClampNeg (((sV M53 9 ((M53.2 9) + (M53.1 6 ((8 * r_8) + (M53.1 8 r_8.toNatClampNeg)).toNatClampNeg))).1 8 r_8.toNatClampNeg) + 1)).1 2 r_8.toNatClampNeg)))).1 7 r_8.toNatClampNeg)) (ty := .int) S hw ya_R rfl (by decide) n_T_Y f_116 tk_Y nm_Y rfl (by decide +kernel) rfl rfl (Nat.le_of_ble_eq_true rfl) (ys_R 12 ((sV (sA (sV M53 9 ((M53.2 9) + (M53.1 6 ((8 * r_8) + (M53.1 8 r_8.toNatClampNeg)).toNatClampNeg))) 8 r_8.toNatClampNeg (((sV M53 9 ((M53.2 9) + (M53.1 6 ((8 * r_8) + (M53.1 8 r_8.toNatClampNeg)).toNatClampNeg))).1 8 r_8.toNatClampNeg) + 1)) 11 (((sA (sV M53 9 ((M53.2 9) + (M53.1 6 ((8 * r_8) + (M53.1 8 r_8.toNatClampNeg)).toNatClampNeg))) 8 r_8.toNatClampNeg (((sV M53 9 ((M53.2 9) + (M53.1 6 ((8 * r_8) + (M53.1 8 r_8.toNatClampNeg)).toNatClampNeg))).1 8 r_8.toNatClampNeg) + 1)).2 9) - (((sA (sV M53 9 ((M53.2 9) + (M53.1 6 ((8 * r_8) + (M53.1 8 r_8.toNatClampNeg)).toNatClampNeg))) 8 r_8.toNatClampNeg (((sV M53 9 ((M53.2 9) + (M53.1 6 ((8 * r_8) + (M53.1 8 r_8.toNatClampNeg)).toNatClampNeg))).1 8 r_8.toNatClampNeg) + 1)).1 7 r_8.toNatClampNeg) * ((sA (sV M53 9 ((M53.2 9) + (M53.1 6 ((8 * r_8) + (M53.1 8 r_8.toNatClampNeg)).toNatClampNeg))) 8 r_8.toNatClampNeg (((sV M53 9 ((M53.2 9) + (M53.1 6 ((8 * r_8) + (M53.1 8 r_8.toNatClampNeg)).toNatClampNeg))).1 8 r_8.toNatClampNeg) + 1)).1 2 r_8.toNatClampNeg)))).1 7 r_8.toNatClampNeg) (by decide)) d_Y_go_183 (fun H locs hw => ?_)
                refine lv_iload_n hx hb d_Y_go_186 rfl (lv_at hl 1 rfl) ?_
                refine lv_iload_n hx hb d_Y_go_187 rfl (lv_at hl 3 rfl) ?_
                refine lv_icmp_ne (tgt := 210) hx hb d_Y_go_188 (by decide) (fun c_45 => ?_) (fun c_45 => ?_)
                · rw [if_neg c_45] at hj
                  refine lv_aload_n hx hb d_Y_go_210 rfl (lv_at hl 2 rfl) ?_
                  refine gw_get (v := .ref (ad 8)) S hw ya_R rfl (by decide) n_T_Y f_32 rfl d_Y_go_211 ?_
                  refine lv_iload_n hx hb d_Y_go_214 rfl (lv_at hl 1 rfl) ?_
                  refine lv_iconst (v := 0) hx hb d_Y_go_215 (by decide) ?_
                  obtain ⟨g_46, hj⟩ := gw_if hj
                  refine gw_iast (t0 := 0) S hw ⟨ya_a8, rfl⟩ g_46 (ys_a8 r_8.toNatClampNeg 0) d_Y_go_216 (fun H locs hw => ?_)
                  refine lv_aload_n hx hb d_Y_go_217 rfl (lv_at hl 2 rfl) ?_
                  refine gw_get (v := .ref (ad 7)) S hw ya_R rfl (by decide) n_T_Y f_29 rfl d_Y_go_218 ?_
                  refine lv_iload_n hx hb d_Y_go_221 rfl (lv_at hl 1 rfl) ?_
                  refine lv_dup2_11 hx hb d_Y_go_222 rfl rfl ?_
                  obtain ⟨g_47, hj⟩ := gw_if hj
                  refine gw_iald (t0 := 0) S hw ⟨ya_a7, rfl⟩ g_47 d_Y_go_223 ?_
                  refine lv_iconst (v := 1) hx hb d_Y_go_224 (by decide) ?_
                  refine lv_iadd hx hb d_Y_go_225 ?_
                  obtain ⟨g_48, hj⟩ := gw_if hj
                  refine gw_iast (t0 := 0) S hw ⟨ya_a7, rfl⟩ g_48 (ys_a7 r_8.toNatClampNeg (((sA (sV (sV (sA (sV M53 9 ((M53.2 9) + (M53.1 6 ((8 * r_8) + (M53.1 8 r_8.toNatClampNeg)).toNatClampNeg))) 8 r_8.toNatClampNeg (((sV M53 9 ((M53.2 9) + (M53.1 6 ((8 * r_8) + (M53.1 8 r_8.toNatClampNeg)).toNatClampNeg))).1 8 r_8.toNatClampNeg) + 1)) 11 (((sA (sV M53 9 ((M53.2 9) + (M53.1 6 ((8 * r_8) + (M53.1 8 r_8.toNatClampNeg)).toNatClampNeg))) 8 r_8.toNatClampNeg (((sV M53 9 ((M53.2 9) + (M53.1 6 ((8 * r_8) + (M53.1 8 r_8.toNatClampNeg)).toNatClampNeg))).1 8 r_8.toNatClampNeg) + 1)).2 9) - (((sA (sV M53 9 ((M53.2 9) + (M53.1 6 ((8 * r_8) + (M53.1 8 r_8.toNatClampNeg)).toNatClampNeg))) 8 r_8.toNatClampNeg (((sV M53 9 ((M53.2 9) + (M53.1 6 ((8 * r_8) + (M53.1 8 r_8.toNatClampNeg)).toNatClampNeg))).1 8 r_8.toNatClampNeg) + 1)).1 7 r_8.toNatClampNeg) * ((sA (sV M53 9 ((M53.2 9) + (M53.1 6 ((8 * r_8) + (M53.1 8 r_8.toNatClampNeg)).toNatClampNeg))) 8 r_8.toNatClampNeg (((sV M53 9 ((M53.2 9) + (M53.1 6 ((8 * r_8) + (M53.1 8 r_8.toNatClampNeg)).toNatClampNeg))).1 8 r_8.toNatClampNeg) + 1)).1 2 r_8.toNatClampNeg)))) 12 ((sV (sA (sV M53 9 ((M53.2 9) + (M53.1 6 ((8 * r_8) + (M53.1 8 r_8.toNatClampNeg)).toNatClampNeg))) 8 r_8.toNatClampNeg (((sV M53 9 ((M53.2 9) + (M53.1 6 ((8 * r_8) + (M53.1 8 r_8.toNatClampNeg)).toNatClampNeg))).1 8 r_8.toNatClampNeg) + 1)) 11 (((sA (sV M53 9 ((M53.2 9) + (M53.1 6 ((8 * r_8) + (M53.1 8 r_8.toNatClampNeg)).toNatClampNeg))) 8 r_8.toNatClampNeg (((sV M53 9 ((M53.2 9) + (M53.1 6 ((8 * r_8) + (M53.1 8 r_8.toNatClampNeg)).toNatClampNeg))).1 8 r_8.toNatClampNeg) + 1)).2 9) - (((sA (sV M53 9 ((M53.2 9) + (M53.1 6 ((8 * r_8) + (M53.1 8 r_8.toNatClampNeg)).toNatClampNeg))) 8 r_8.toNatClampNeg (((sV M53 9 ((M53.2 9) + (M53.1 6 ((8 * r_8) + (M53.1 8 r_8.toNatClampNeg)).toNatClampNeg))).1 8 r_8.toNatClampNeg) + 1)).1 7 r_8.toNatClampNeg) * ((sA (sV M53 9 ((M53.2 9) + (M53.1 6 ((8 * r_8) + (M53.1 8 r_8.toNatClampNeg)).toNatClampNeg))) 8 r_8.toNatClampNeg (((sV M53 9 ((M53.2 9) + (M53.1 6 ((8 * r_8) + (M53.1 8 r_8.toNatClampNeg)).toNatClampNeg))).1 8 r_8.toNatClampNeg) + 1)).1 2 r_8.toNatClampNeg)))).1 7 r_8.toNatClampNeg)) 8 r_8.toNatClampNeg 0).1 7 r_8.toNatClampNeg) + 1)) d_Y_go_226 (fun H locs hw => ?_)
                  refine lv_goto (tgt := 53) hx hb d_Y_go_227 (by decide) ?_
                  exact ih53 r_8 (sA (sA (sV (sV (sA (sV M53 9 ((M53.2 9) + (M53.1 6 ((8 * r_8) + (M53.1 8 r_8.toNatClampNeg)).toNatClampNeg))) 8 r_8.toNatClampNeg (((sV M53 9 ((M53.2 9) + (M53.1 6 ((8 * r_8) + (M53.1 8 r_8.toNatClampNeg)).toNatClampNeg))).1 8 r_8.toNatClampNeg) + 1)) 11 (((sA (sV M53 9 ((M53.2 9) + (M53.1 6 ((8 * r_8) + (M53.1 8 r_8.toNatClampNeg)).toNatClampNeg))) 8 r_8.toNatClampNeg (((sV M53 9 ((M53.2 9) + (M53.1 6 ((8 * r_8) + (M53.1 8 r_8.toNatClampNeg)).toNatClampNeg))).1 8 r_8.toNatClampNeg) + 1)).2 9) - (((sA (sV M53 9 ((M53.2 9) + (M53.1 6 ((8 * r_8) + (M53.1 8 r_8.toNatClampNeg)).toNatClampNeg))) 8 r_8.toNatClampNeg (((sV M53 9 ((M53.2 9) + (M53.1 6 ((8 * r_8) + (M53.1 8 r_8.toNatClampNeg)).toNatClampNeg))).1 8 r_8.toNatClampNeg) + 1)).1 7 r_8.toNatClampNeg) * ((sA (sV M53 9 ((M53.2 9) + (M53.1 6 ((8 * r_8) + (M53.1 8 r_8.toNatClampNeg)).toNatClampNeg))) 8 r_8.toNatClampNeg (((sV M53 9 ((M53.2 9) + (M53.1 6 ((8 * r_8) + (M53.1 8 r_8.toNatClampNeg)).toNatClampNeg))).1 8 r_8.toNatClampNeg) + 1)).1 2 r_8.toNatClampNeg)))) 12 ((sV (sA (sV M53 9 ((M53.2 9) + (M53.1 6 ((8 * r_8) + (M53.1 8 r_8.toNatClampNeg)).toNatClampNeg))) 8 r_8.toNatClampNeg (((sV M53 9 ((M53.2 9) + (M53.1 6 ((8 * r_8) + (M53.1 8 r_8.toNatClampNeg)).toNatClampNeg))).1 8 r_8.toNatClampNeg) + 1)) 11 (((sA (sV M53 9 ((M53.2 9) + (M53.1 6 ((8 * r_8) + (M53.1 8 r_8.toNatClampNeg)).toNatClampNeg))) 8 r_8.toNatClampNeg (((sV M53 9 ((M53.2 9) + (M53.1 6 ((8 * r_8) + (M53.1 8 r_8.toNatClampNeg)).toNatClampNeg))).1 8 r_8.toNatClampNeg) + 1)).2 9) - (((sA (sV M53 9 ((M53.2 9) + (M53.1 6 ((8 * r_8) + (M53.1 8 r_8.toNatClampNeg)).toNatClampNeg))) 8 r_8.toNatClampNeg (((sV M53 9 ((M53.2 9) + (M53.1 6 ((8 * r_8) + (M53.1 8 r_8.toNatClampNeg)).toNatClampNeg))).1 8 r_8.toNatClampNeg) + 1)).1 7 r_8.toNatClampNeg) * ((sA (sV M53 9 ((M53.2 9) + (M53.1 6 ((8 * r_8) + (M53.1 8 r_8.toNatClampNeg)).toNatClampNeg))) 8 r_8.toNatClampNeg (((sV M53 9 ((M53.2 9) + (M53.1 6 ((8 * r_8) + (M53.1 8 r_8.toNatClampNeg)).toNatClampNeg))).1 8 r_8.toNatClampNeg) + 1)).1 2 r_8.toNatClampNeg)))).1 7 r_8.toNatClampNeg)) 8 r_8.toNatClampNeg 0) 7 r_8.toNatClampNeg (((sA (sV (sV (sA (sV M53 9 ((M53.2 9) + (M53.1 6 ((8 * r_8) + (M53.1 8 r_8.toNatClampNeg)).toNatClampNeg))) 8 r_8.toNatClampNeg (((sV M53 9 ((M53.2 9) + (M53.1 6 ((8 * r_8) + (M53.1 8 r_8.toNatClampNeg)).toNatClampNeg))).1 8 r_8.toNatClampNeg) + 1)) 11 (((sA (sV M53 9 ((M53.2 9) + (M53.1 6 ((8 * r_8) + (M53.1 8 r_8.toNatClampNeg)).toNatClampNeg))) 8 r_8.toNatClampNeg (((sV M53 9 ((M53.2 9) + (M53.1 6 ((8 * r_8) + (M53.1 8 r_8.toNatClampNeg)).toNatClampNeg))).1 8 r_8.toNatClampNeg) + 1)).2 9) - (((sA (sV M53 9 ((M53.2 9) + (M53.1 6 ((8 * r_8) + (M53.1 8 r_8.toNatClampNeg)).toNatClampNeg))) 8 r_8.toNatClampNeg (((sV M53 9 ((M53.2 9) + (M53.1 6 ((8 * r_8) + (M53.1 8 r_8.toNatClampNeg)).toNatClampNeg))).1 8 r_8.toNatClampNeg) + 1)).1 7 r_8.toNatClampNeg) * ((sA (sV M53 9 ((M53.2 9) + (M53.1 6 ((8 * r_8) + (M53.1 8 r_8.toNatClampNeg)).toNatClampNeg))) 8 r_8.toNatClampNeg (((sV M53 9 ((M53.2 9) + (M53.1 6 ((8 * r_8) + (M53.1 8 r_8.toNatClampNeg)).toNatClampNeg))).1 8 r_8.toNatClampNeg) + 1)).1 2 r_8.toNatClampNeg)))) 12 ((sV (sA (sV M53 9 ((M53.2 9) + (M53.1 6 ((8 * r_8) + (M53.1 8 r_8.toNatClampNeg)).toNatClampNeg))) 8 r_8.toNatClampNeg (((sV M53 9 ((M53.2 9) + (M53.1 6 ((8 * r_8) + (M53.1 8 r_8.toNatClampNeg)).toNatClampNeg))).1 8 r_8.toNatClampNeg) + 1)) 11 (((sA (sV M53 9 ((M53.2 9) + (M53.1 6 ((8 * r_8) + (M53.1 8 r_8.toNatClampNeg)).toNatClampNeg))) 8 r_8.toNatClampNeg (((sV M53 9 ((M53.2 9) + (M53.1 6 ((8 * r_8) + (M53.1 8 r_8.toNatClampNeg)).toNatClampNeg))).1 8 r_8.toNatClampNeg) + 1)).2 9) - (((sA (sV M53 9 ((M53.2 9) + (M53.1 6 ((8 * r_8) + (M53.1 8 r_8.toNatClampNeg)).toNatClampNeg))) 8 r_8.toNatClampNeg (((sV M53 9 ((M53.2 9) + (M53.1 6 ((8 * r_8) + (M53.1 8 r_8.toNatClampNeg)).toNatClampNeg))).1 8 r_8.toNatClampNeg) + 1)).1 7 r_8.toNatClampNeg) * ((sA (sV M53 9 ((M53.2 9) + (M53.1 6 ((8 * r_8) + (M53.1 8 r_8.toNatClampNeg)).toNatClampNeg))) 8 r_8.toNatClampNeg (((sV M53 9 ((M53.2 9) + (M53.1 6 ((8 * r_8) + (M53.1 8 r_8.toNatClampNeg)).toNatClampNeg))).1 8 r_8.toNatClampNeg) + 1)).1 2 r_8.toNatClampNeg)))).1 7 r_8.toNatClampNeg)) 8 r_8.toNatClampNeg 0).1 7 r_8.toNatClampNeg) + 1)) hj H locs hw ls (lv_sub hl [2, 3, 4, 1] rfl)
                · rw [if_pos c_45] at hj
                  refine lv_aload_n hx hb d_Y_go_191 rfl (lv_at hl 2 rfl) ?_
                  refine gw_get (v := .ref (ad 7)) S hw ya_R rfl (by decide) n_T_Y f_29 rfl d_Y_go_192 ?_
                  refine lv_iload_n hx hb d_Y_go_195 rfl (lv_at hl 1 rfl) ?_
                  obtain ⟨g_49, hj⟩ := gw_if hj
                  refine gw_iald (t0 := 0) S hw ⟨ya_a7, rfl⟩ g_49 d_Y_go_196 ?_
                  refine lv_aload_n hx hb d_Y_go_197 rfl (lv_at hl 2 rfl) ?_
                  refine gw_get (v := .int ((sV (sV (sA (sV M53 9 ((M53.2 9) + (M53.1 6 ((8 * r_8) + (M53.1 8 r_8.toNatClampNeg)).toNatClampNeg))) 8 r_8.toNatClampNeg (((sV M53 9 ((M53.2 9) + (M53.1 6 ((8 * r_8) + (M53.1 8 r_8.toNatClampNeg)).toNatClampNeg))).1 8 r_8.toNatClampNeg) + 1)) 11 (((sA (sV M53 9 ((M53.2 9) + (M53.1 6 ((8 * r_8) + (M53.1 8 r_8.toNatClampNeg)).toNatClampNeg))) 8 r_8.toNatClampNeg (((sV M53 9 ((M53.2 9) + (M53.1 6 ((8 * r_8) + (M53.1 8 r_8.toNatClampNeg)).toNatClampNeg))).1 8 r_8.toNatClampNeg) + 1)).2 9) - (((sA (sV M53 9 ((M53.2 9) + (M53.1 6 ((8 * r_8) + (M53.1 8 r_8.toNatClampNeg)).toNatClampNeg))) 8 r_8.toNatClampNeg (((sV M53 9 ((M53.2 9) + (M53.1 6 ((8 * r_8) + (M53.1 8 r_8.toNatClampNeg)).toNatClampNeg))).1 8 r_8.toNatClampNeg) + 1)).1 7 r_8.toNatClampNeg) * ((sA (sV M53 9 ((M53.2 9) + (M53.1 6 ((8 * r_8) + (M53.1 8 r_8.toNatClampNeg)).toNatClampNeg))) 8 r_8.toNatClampNeg (((sV M53 9 ((M53.2 9) + (M53.1 6 ((8 * r_8) + (M53.1 8 r_8.toNatClampNeg)).toNatClampNeg))).1 8 r_8.toNatClampNeg) + 1)).1 2 r_8.toNatClampNeg)))) 12 ((sV (sA (sV M53 9 ((M53.2 9) + (M53.1 6 ((8 * r_8) + (M53.1 8 r_8.toNatClampNeg)).toNatClampNeg))) 8 r_8.toNatClampNeg (((sV M53 9 ((M53.2 9) + (M53.1 6 ((8 * r_8) + (M53.1 8 r_8.toNatClampNeg)).toNatClampNeg))).1 8 r_8.toNatClampNeg) + 1)) 11 (((sA (sV M53 9 ((M53.2 9) + (M53.1 6 ((8 * r_8) + (M53.1 8 r_8.toNatClampNeg)).toNatClampNeg))) 8 r_8.toNatClampNeg (((sV M53 9 ((M53.2 9) + (M53.1 6 ((8 * r_8) + (M53.1 8 r_8.toNatClampNeg)).toNatClampNeg))).1 8 r_8.toNatClampNeg) + 1)).2 9) - (((sA (sV M53 9 ((M53.2 9) + (M53.1 6 ((8 * r_8) + (M53.1 8 r_8.toNatClampNeg)).toNatClampNeg))) 8 r_8.toNatClampNeg (((sV M53 9 ((M53.2 9) + (M53.1 6 ((8 * r_8) + (M53.1 8 r_8.toNatClampNeg)).toNatClampNeg))).1 8 r_8.toNatClampNeg) + 1)).1 7 r_8.toNatClampNeg) * ((sA (sV M53 9 ((M53.2 9) + (M53.1 6 ((8 * r_8) + (M53.1 8 r_8.toNatClampNeg)).toNatClampNeg))) 8 r_8.toNatClampNeg (((sV M53 9 ((M53.2 9) + (M53.1 6 ((8 * r_8) + (M53.1 8 r_8.toNatClampNeg)).toNatClampNeg))).1 8 r_8.toNatClampNeg) + 1)).1 2 r_8.toNatClampNeg)))).1 7 r_8.toNatClampNeg)).2 13)) S hw ya_R rfl (by decide) n_T_Y f_131 rfl d_Y_go_198 ?_
                  refine lv_icmp_ne (tgt := 210) hx hb d_Y_go_201 (by decide) (fun c_50 => ?_) (fun c_50 => ?_)
                  · rw [if_neg c_50] at hj
                    refine lv_aload_n hx hb d_Y_go_210 rfl (lv_at hl 2 rfl) ?_
                    refine gw_get (v := .ref (ad 8)) S hw ya_R rfl (by decide) n_T_Y f_32 rfl d_Y_go_211 ?_
                    refine lv_iload_n hx hb d_Y_go_214 rfl (lv_at hl 1 rfl) ?_
                    refine lv_iconst (v := 0) hx hb d_Y_go_215 (by decide) ?_
                    obtain ⟨g_51, hj⟩ := gw_if hj
                    refine gw_iast (t0 := 0) S hw ⟨ya_a8, rfl⟩ g_51 (ys_a8 r_8.toNatClampNeg 0) d_Y_go_216 (fun H locs hw => ?_)
                    refine lv_aload_n hx hb d_Y_go_217 rfl (lv_at hl 2 rfl) ?_
                    refine gw_get (v := .ref (ad 7)) S hw ya_R rfl (by decide) n_T_Y f_29 rfl d_Y_go_218 ?_
                    refine lv_iload_n hx hb d_Y_go_221 rfl (lv_at hl 1 rfl) ?_
                    refine lv_dup2_11 hx hb d_Y_go_222 rfl rfl ?_
                    obtain ⟨g_52, hj⟩ := gw_if hj
                    refine gw_iald (t0 := 0) S hw ⟨ya_a7, rfl⟩ g_52 d_Y_go_223 ?_
                    refine lv_iconst (v := 1) hx hb d_Y_go_224 (by decide) ?_
                    refine lv_iadd hx hb d_Y_go_225 ?_
                    obtain ⟨g_53, hj⟩ := gw_if hj
                    refine gw_iast (t0 := 0) S hw ⟨ya_a7, rfl⟩ g_53 (ys_a7 r_8.toNatClampNeg (((sA (sV (sV (sA (sV M53 9 ((M53.2 9) + (M53.1 6 ((8 * r_8) + (M53.1 8 r_8.toNatClampNeg)).toNatClampNeg))) 8 r_8.toNatClampNeg (((sV M53 9 ((M53.2 9) + (M53.1 6 ((8 * r_8) + (M53.1 8 r_8.toNatClampNeg)).toNatClampNeg))).1 8 r_8.toNatClampNeg) + 1)) 11 (((sA (sV M53 9 ((M53.2 9) + (M53.1 6 ((8 * r_8) + (M53.1 8 r_8.toNatClampNeg)).toNatClampNeg))) 8 r_8.toNatClampNeg (((sV M53 9 ((M53.2 9) + (M53.1 6 ((8 * r_8) + (M53.1 8 r_8.toNatClampNeg)).toNatClampNeg))).1 8 r_8.toNatClampNeg) + 1)).2 9) - (((sA (sV M53 9 ((M53.2 9) + (M53.1 6 ((8 * r_8) + (M53.1 8 r_8.toNatClampNeg)).toNatClampNeg))) 8 r_8.toNatClampNeg (((sV M53 9 ((M53.2 9) + (M53.1 6 ((8 * r_8) + (M53.1 8 r_8.toNatClampNeg)).toNatClampNeg))).1 8 r_8.toNatClampNeg) + 1)).1 7 r_8.toNatClampNeg) * ((sA (sV M53 9 ((M53.2 9) + (M53.1 6 ((8 * r_8) + (M53.1 8 r_8.toNatClampNeg)).toNatClampNeg))) 8 r_8.toNatClampNeg (((sV M53 9 ((M53.2 9) + (M53.1 6 ((8 * r_8) + (M53.1 8 r_8.toNatClampNeg)).toNatClampNeg))).1 8 r_8.toNatClampNeg) + 1)).1 2 r_8.toNatClampNeg)))) 12 ((sV (sA (sV M53 9 ((M53.2 9) + (M53.1 6 ((8 * r_8) + (M53.1 8 r_8.toNatClampNeg)).toNatClampNeg))) 8 r_8.toNatClampNeg (((sV M53 9 ((M53.2 9) + (M53.1 6 ((8 * r_8) + (M53.1 8 r_8.toNatClampNeg)).toNatClampNeg))).1 8 r_8.toNatClampNeg) + 1)) 11 (((sA (sV M53 9 ((M53.2 9) + (M53.1 6 ((8 * r_8) + (M53.1 8 r_8.toNatClampNeg)).toNatClampNeg))) 8 r_8.toNatClampNeg (((sV M53 9 ((M53.2 9) + (M53.1 6 ((8 * r_8) + (M53.1 8 r_8.toNatClampNeg)).toNatClampNeg))).1 8 r_8.toNatClampNeg) + 1)).2 9) - (((sA (sV M53 9 ((M53.2 9) + (M53.1 6 ((8 * r_8) + (M53.1 8 r_8.toNatClampNeg)).toNatClampNeg))) 8 r_8.toNatClampNeg (((sV M53 9 ((M53.2 9) + (M53.1 6 ((8 * r_8) + (M53.1 8 r_8.toNatClampNeg)).toNatClampNeg))).1 8 r_8.toNatClampNeg) + 1)).1 7 r_8.toNatClampNeg) * ((sA (sV M53 9 ((M53.2 9) + (M53.1 6 ((8 * r_8) + (M53.1 8 r_8.toNatClampNeg)).toNatClampNeg))) 8 r_8.toNatClampNeg (((sV M53 9 ((M53.2 9) + (M53.1 6 ((8 * r_8) + (M53.1 8 r_8.toNatClampNeg)).toNatClampNeg))).1 8 r_8.toNatClampNeg) + 1)).1 2 r_8.toNatClampNeg)))).1 7 r_8.toNatClampNeg)) 8 r_8.toNatClampNeg 0).1 7 r_8.toNatClampNeg) + 1)) d_Y_go_226 (fun H locs hw => ?_)
                    refine lv_goto (tgt := 53) hx hb d_Y_go_227 (by decide) ?_
                    exact ih53 r_8 (sA (sA (sV (sV (sA (sV M53 9 ((M53.2 9) + (M53.1 6 ((8 * r_8) + (M53.1 8 r_8.toNatClampNeg)).toNatClampNeg))) 8 r_8.toNatClampNeg (((sV M53 9 ((M53.2 9) + (M53.1 6 ((8 * r_8) + (M53.1 8 r_8.toNatClampNeg)).toNatClampNeg))).1 8 r_8.toNatClampNeg) + 1)) 11 (((sA (sV M53 9 ((M53.2 9) + (M53.1 6 ((8 * r_8) + (M53.1 8 r_8.toNatClampNeg)).toNatClampNeg))) 8 r_8.toNatClampNeg (((sV M53 9 ((M53.2 9) + (M53.1 6 ((8 * r_8) + (M53.1 8 r_8.toNatClampNeg)).toNatClampNeg))).1 8 r_8.toNatClampNeg) + 1)).2 9) - (((sA (sV M53 9 ((M53.2 9) + (M53.1 6 ((8 * r_8) + (M53.1 8 r_8.toNatClampNeg)).toNatClampNeg))) 8 r_8.toNatClampNeg (((sV M53 9 ((M53.2 9) + (M53.1 6 ((8 * r_8) + (M53.1 8 r_8.toNatClampNeg)).toNatClampNeg))).1 8 r_8.toNatClampNeg) + 1)).1 7 r_8.toNatClampNeg) * ((sA (sV M53 9 ((M53.2 9) + (M53.1 6 ((8 * r_8) + (M53.1 8 r_8.toNatClampNeg)).toNatClampNeg))) 8 r_8.toNatClampNeg (((sV M53 9 ((M53.2 9) + (M53.1 6 ((8 * r_8) + (M53.1 8 r_8.toNatClampNeg)).toNatClampNeg))).1 8 r_8.toNatClampNeg) + 1)).1 2 r_8.toNatClampNeg)))) 12 ((sV (sA (sV M53 9 ((M53.2 9) + (M53.1 6 ((8 * r_8) + (M53.1 8 r_8.toNatClampNeg)).toNatClampNeg))) 8 r_8.toNatClampNeg (((sV M53 9 ((M53.2 9) + (M53.1 6 ((8 * r_8) + (M53.1 8 r_8.toNatClampNeg)).toNatClampNeg))).1 8 r_8.toNatClampNeg) + 1)) 11 (((sA (sV M53 9 ((M53.2 9) + (M53.1 6 ((8 * r_8) + (M53.1 8 r_8.toNatClampNeg)).toNatClampNeg))) 8 r_8.toNatClampNeg (((sV M53 9 ((M53.2 9) + (M53.1 6 ((8 * r_8) + (M53.1 8 r_8.toNatClampNeg)).toNatClampNeg))).1 8 r_8.toNatClampNeg) + 1)).2 9) - (((sA (sV M53 9 ((M53.2 9) + (M53.1 6 ((8 * r_8) + (M53.1 8 r_8.toNatClampNeg)).toNatClampNeg))) 8 r_8.toNatClampNeg (((sV M53 9 ((M53.2 9) + (M53.1 6 ((8 * r_8) + (M53.1 8 r_8.toNatClampNeg)).toNatClampNeg))).1 8 r_8.toNatClampNeg) + 1)).1 7 r_8.toNatClampNeg) * ((sA (sV M53 9 ((M53.2 9) + (M53.1 6 ((8 * r_8) + (M53.1 8 r_8.toNatClampNeg)).toNatClampNeg))) 8 r_8.toNatClampNeg (((sV M53 9 ((M53.2 9) + (M53.1 6 ((8 * r_8) + (M53.1 8 r_8.toNatClampNeg)).toNatClampNeg))).1 8 r_8.toNatClampNeg) + 1)).1 2 r_8.toNatClampNeg)))).1 7 r_8.toNatClampNeg)) 8 r_8.toNatClampNeg 0) 7 r_8.toNatClampNeg (((sA (sV (sV (sA (sV M53 9 ((M53.2 9) + (M53.1 6 ((8 * r_8) + (M53.1 8 r_8.toNatClampNeg)).toNatClampNeg))) 8 r_8.toNatClampNeg (((sV M53 9 ((M53.2 9) + (M53.1 6 ((8 * r_8) + (M53.1 8 r_8.toNatClampNeg)).toNatClampNeg))).1 8 r_8.toNatClampNeg) + 1)) 11 (((sA (sV M53 9 ((M53.2 9) + (M53.1 6 ((8 * r_8) + (M53.1 8 r_8.toNatClampNeg)).toNatClampNeg))) 8 r_8.toNatClampNeg (((sV M53 9 ((M53.2 9) + (M53.1 6 ((8 * r_8) + (M53.1 8 r_8.toNatClampNeg)).toNatClampNeg))).1 8 r_8.toNatClampNeg) + 1)).2 9) - (((sA (sV M53 9 ((M53.2 9) + (M53.1 6 ((8 * r_8) + (M53.1 8 r_8.toNatClampNeg)).toNatClampNeg))) 8 r_8.toNatClampNeg (((sV M53 9 ((M53.2 9) + (M53.1 6 ((8 * r_8) + (M53.1 8 r_8.toNatClampNeg)).toNatClampNeg))).1 8 r_8.toNatClampNeg) + 1)).1 7 r_8.toNatClampNeg) * ((sA (sV M53 9 ((M53.2 9) + (M53.1 6 ((8 * r_8) + (M53.1 8 r_8.toNatClampNeg)).toNatClampNeg))) 8 r_8.toNatClampNeg (((sV M53 9 ((M53.2 9) + (M53.1 6 ((8 * r_8) + (M53.1 8 r_8.toNatClampNeg)).toNatClampNeg))).1 8 r_8.toNatClampNeg) + 1)).1 2 r_8.toNatClampNeg)))) 12 ((sV (sA (sV M53 9 ((M53.2 9) + (M53.1 6 ((8 * r_8) + (M53.1 8 r_8.toNatClampNeg)).toNatClampNeg))) 8 r_8.toNatClampNeg (((sV M53 9 ((M53.2 9) + (M53.1 6 ((8 * r_8) + (M53.1 8 r_8.toNatClampNeg)).toNatClampNeg))).1 8 r_8.toNatClampNeg) + 1)) 11 (((sA (sV M53 9 ((M53.2 9) + (M53.1 6 ((8 * r_8) + (M53.1 8 r_8.toNatClampNeg)).toNatClampNeg))) 8 r_8.toNatClampNeg (((sV M53 9 ((M53.2 9) + (M53.1 6 ((8 * r_8) + (M53.1 8 r_8.toNatClampNeg)).toNatClampNeg))).1 8 r_8.toNatClampNeg) + 1)).2 9) - (((sA (sV M53 9 ((M53.2 9) + (M53.1 6 ((8 * r_8) + (M53.1 8 r_8.toNatClampNeg)).toNatClampNeg))) 8 r_8.toNatClampNeg (((sV M53 9 ((M53.2 9) + (M53.1 6 ((8 * r_8) + (M53.1 8 r_8.toNatClampNeg)).toNatClampNeg))).1 8 r_8.toNatClampNeg) + 1)).1 7 r_8.toNatClampNeg) * ((sA (sV M53 9 ((M53.2 9) + (M53.1 6 ((8 * r_8) + (M53.1 8 r_8.toNatClampNeg)).toNatClampNeg))) 8 r_8.toNatClampNeg (((sV M53 9 ((M53.2 9) + (M53.1 6 ((8 * r_8) + (M53.1 8 r_8.toNatClampNeg)).toNatClampNeg))).1 8 r_8.toNatClampNeg) + 1)).1 2 r_8.toNatClampNeg)))).1 7 r_8.toNatClampNeg)) 8 r_8.toNatClampNeg 0).1 7 r_8.toNatClampNeg) + 1)) hj H locs hw ls (lv_sub hl [2, 3, 4, 1] rfl)
                  · rw [if_pos c_50] at hj
                    refine lv_aload_n hx hb d_Y_go_204 rfl (lv_at hl 2 rfl) ?_
                    refine lv_iload hx hb d_Y_go_205 (lv_at hl 0 rfl) ?_
                    refine gw_put (v := .int (((sA (sV M53 9 ((M53.2 9) + (M53.1 6 ((8 * r_8) + (M53.1 8 r_8.toNatClampNeg)).toNatClampNeg))) 8 r_8.toNatClampNeg (((sV M53 9 ((M53.2 9) + (M53.1 6 ((8 * r_8) + (M53.1 8 r_8.toNatClampNeg)).toNatClampNeg))).1 8 r_8.toNatClampNeg) + 1)).2 9) - (((sA (sV M53 9 ((M53.2 9) + (M53.1 6 ((8 * r_8) + (M53.1 8 r_8.toNatClampNeg)).toNatClampNeg))) 8 r_8.toNatClampNeg (((sV M53 9 ((M53.2 9) + (M53.1 6 ((8 * r_8) + (M53.1 8 r_8.toNatClampNeg)).toNatClampNeg))).1 8 r_8.toNatClampNeg) + 1)).1 7 r_8.toNatClampNeg) * ((sA (sV M53 9 ((M53.2 9) + (M53.1 6 ((8 * r_8) + (M53.1 8 r_8.toNatClampNeg)).toNatClampNeg))) 8 r_8.toNatClampNeg (((sV M53 9 ((M53.2 9) + (M53.1 6 ((8 * r_8) + (M53.1 8 r_8.toNatClampNeg)).toNatClampNeg))).1 8 r_8.toNatClampNeg) + 1)).1 2 r_8.toNatClampNeg)))) (ty := .int) S hw ya_R rfl (by decide) n_T_Y f_119 tk_Y nm_Y rfl (by decide +kernel) rfl rfl (Nat.le_of_ble_eq_true rfl) (ys_R 14 (((sA (sV M53 9 ((M53.2 9) + (M53.1 6 ((8 * r_8) + (M53.1 8 r_8.toNatClampNeg)).toNatClampNeg))) 8 r_8.toNatClampNeg (((sV M53 9 ((M53.2 9) + (M53.1 6 ((8 * r_8) + (M53.1 8 r_8.toNatClampNeg)).toNatClampNeg))).1 8 r_8.toNatClampNeg) + 1)).2 9) - (((sA (sV M53 9 ((M53.2 9) + (M53.1 6 ((8 * r_8) + (M53.1 8 r_8.toNatClampNeg)).toNatClampNeg))) 8 r_8.toNatClampNeg (((sV M53 9 ((M53.2 9) + (M53.1 6 ((8 * r_8) + (M53.1 8 r_8.toNatClampNeg)).toNatClampNeg))).1 8 r_8.toNatClampNeg) + 1)).1 7 r_8.toNatClampNeg) * ((sA (sV M53 9 ((M53.2 9) + (M53.1 6 ((8 * r_8) + (M53.1 8 r_8.toNatClampNeg)).toNatClampNeg))) 8 r_8.toNatClampNeg (((sV M53 9 ((M53.2 9) + (M53.1 6 ((8 * r_8) + (M53.1 8 r_8.toNatClampNeg)).toNatClampNeg))).1 8 r_8.toNatClampNeg) + 1)).1 2 r_8.toNatClampNeg))) (by decide)) d_Y_go_207 (fun H locs hw => ?_)
                    refine lv_aload_n hx hb d_Y_go_210 rfl (lv_at hl 2 rfl) ?_
                    refine gw_get (v := .ref (ad 8)) S hw ya_R rfl (by decide) n_T_Y f_32 rfl d_Y_go_211 ?_
                    refine lv_iload_n hx hb d_Y_go_214 rfl (lv_at hl 1 rfl) ?_
                    refine lv_iconst (v := 0) hx hb d_Y_go_215 (by decide) ?_
                    obtain ⟨g_54, hj⟩ := gw_if hj
                    refine gw_iast (t0 := 0) S hw ⟨ya_a8, rfl⟩ g_54 (ys_a8 r_8.toNatClampNeg 0) d_Y_go_216 (fun H locs hw => ?_)
                    refine lv_aload_n hx hb d_Y_go_217 rfl (lv_at hl 2 rfl) ?_
                    refine gw_get (v := .ref (ad 7)) S hw ya_R rfl (by decide) n_T_Y f_29 rfl d_Y_go_218 ?_
                    refine lv_iload_n hx hb d_Y_go_221 rfl (lv_at hl 1 rfl) ?_
                    refine lv_dup2_11 hx hb d_Y_go_222 rfl rfl ?_
                    obtain ⟨g_55, hj⟩ := gw_if hj
                    refine gw_iald (t0 := 0) S hw ⟨ya_a7, rfl⟩ g_55 d_Y_go_223 ?_
                    refine lv_iconst (v := 1) hx hb d_Y_go_224 (by decide) ?_
                    refine lv_iadd hx hb d_Y_go_225 ?_
                    obtain ⟨g_56, hj⟩ := gw_if hj
                    refine gw_iast (t0 := 0) S hw ⟨ya_a7, rfl⟩ g_56 (ys_a7 r_8.toNatClampNeg (((sA (sV (sV (sV (sA (sV M53 9 ((M53.2 9) + (M53.1 6 ((8 * r_8) + (M53.1 8 r_8.toNatClampNeg)).toNatClampNeg))) 8 r_8.toNatClampNeg (((sV M53 9 ((M53.2 9) + (M53.1 6 ((8 * r_8) + (M53.1 8 r_8.toNatClampNeg)).toNatClampNeg))).1 8 r_8.toNatClampNeg) + 1)) 11 (((sA (sV M53 9 ((M53.2 9) + (M53.1 6 ((8 * r_8) + (M53.1 8 r_8.toNatClampNeg)).toNatClampNeg))) 8 r_8.toNatClampNeg (((sV M53 9 ((M53.2 9) + (M53.1 6 ((8 * r_8) + (M53.1 8 r_8.toNatClampNeg)).toNatClampNeg))).1 8 r_8.toNatClampNeg) + 1)).2 9) - (((sA (sV M53 9 ((M53.2 9) + (M53.1 6 ((8 * r_8) + (M53.1 8 r_8.toNatClampNeg)).toNatClampNeg))) 8 r_8.toNatClampNeg (((sV M53 9 ((M53.2 9) + (M53.1 6 ((8 * r_8) + (M53.1 8 r_8.toNatClampNeg)).toNatClampNeg))).1 8 r_8.toNatClampNeg) + 1)).1 7 r_8.toNatClampNeg) * ((sA (sV M53 9 ((M53.2 9) + (M53.1 6 ((8 * r_8) + (M53.1 8 r_8.toNatClampNeg)).toNatClampNeg))) 8 r_8.toNatClampNeg (((sV M53 9 ((M53.2 9) + (M53.1 6 ((8 * r_8) + (M53.1 8 r_8.toNatClampNeg)).toNatClampNeg))).1 8 r_8.toNatClampNeg) + 1)).1 2 r_8.toNatClampNeg)))) 12 ((sV (sA (sV M53 9 ((M53.2 9) + (M53.1 6 ((8 * r_8) + (M53.1 8 r_8.toNatClampNeg)).toNatClampNeg))) 8 r_8.toNatClampNeg (((sV M53 9 ((M53.2 9) + (M53.1 6 ((8 * r_8) + (M53.1 8 r_8.toNatClampNeg)).toNatClampNeg))).1 8 r_8.toNatClampNeg) + 1)) 11 (((sA (sV M53 9 ((M53.2 9) + (M53.1 6 ((8 * r_8) + (M53.1 8 r_8.toNatClampNeg)).toNatClampNeg))) 8 r_8.toNatClampNeg (((sV M53 9 ((M53.2 9) + (M53.1 6 ((8 * r_8) + (M53.1 8 r_8.toNatClampNeg)).toNatClampNeg))).1 8 r_8.toNatClampNeg) + 1)).2 9) - (((sA (sV M53 9 ((M53.2 9) + (M53.1 6 ((8 * r_8) + (M53.1 8 r_8.toNatClampNeg)).toNatClampNeg))) 8 r_8.toNatClampNeg (((sV M53 9 ((M53.2 9) + (M53.1 6 ((8 * r_8) + (M53.1 8 r_8.toNatClampNeg)).toNatClampNeg))).1 8 r_8.toNatClampNeg) + 1)).1 7 r_8.toNatClampNeg) * ((sA (sV M53 9 ((M53.2 9) + (M53.1 6 ((8 * r_8) + (M53.1 8 r_8.toNatClampNeg)).toNatClampNeg))) 8 r_8.toNatClampNeg (((sV M53 9 ((M53.2 9) + (M53.1 6 ((8 * r_8) + (M53.1 8 r_8.toNatClampNeg)).toNatClampNeg))).1 8 r_8.toNatClampNeg) + 1)).1 2 r_8.toNatClampNeg)))).1 7 r_8.toNatClampNeg)) 14 (((sA (sV M53 9 ((M53.2 9) + (M53.1 6 ((8 * r_8) + (M53.1 8 r_8.toNatClampNeg)).toNatClampNeg))) 8 r_8.toNatClampNeg (((sV M53 9 ((M53.2 9) + (M53.1 6 ((8 * r_8) + (M53.1 8 r_8.toNatClampNeg)).toNatClampNeg))).1 8 r_8.toNatClampNeg) + 1)).2 9) - (((sA (sV M53 9 ((M53.2 9) + (M53.1 6 ((8 * r_8) + (M53.1 8 r_8.toNatClampNeg)).toNatClampNeg))) 8 r_8.toNatClampNeg (((sV M53 9 ((M53.2 9) + (M53.1 6 ((8 * r_8) + (M53.1 8 r_8.toNatClampNeg)).toNatClampNeg))).1 8 r_8.toNatClampNeg) + 1)).1 7 r_8.toNatClampNeg) * ((sA (sV M53 9 ((M53.2 9) + (M53.1 6 ((8 * r_8) + (M53.1 8 r_8.toNatClampNeg)).toNatClampNeg))) 8 r_8.toNatClampNeg (((sV M53 9 ((M53.2 9) + (M53.1 6 ((8 * r_8) + (M53.1 8 r_8.toNatClampNeg)).toNatClampNeg))).1 8 r_8.toNatClampNeg) + 1)).1 2 r_8.toNatClampNeg)))) 8 r_8.toNatClampNeg 0).1 7 r_8.toNatClampNeg) + 1)) d_Y_go_226 (fun H locs hw => ?_)
                    refine lv_goto (tgt := 53) hx hb d_Y_go_227 (by decide) ?_
                    exact ih53 r_8 (sA (sA (sV (sV (sV (sA (sV M53 9 ((M53.2 9) + (M53.1 6 ((8 * r_8) + (M53.1 8 r_8.toNatClampNeg)).toNatClampNeg))) 8 r_8.toNatClampNeg (((sV M53 9 ((M53.2 9) + (M53.1 6 ((8 * r_8) + (M53.1 8 r_8.toNatClampNeg)).toNatClampNeg))).1 8 r_8.toNatClampNeg) + 1)) 11 (((sA (sV M53 9 ((M53.2 9) + (M53.1 6 ((8 * r_8) + (M53.1 8 r_8.toNatClampNeg)).toNatClampNeg))) 8 r_8.toNatClampNeg (((sV M53 9 ((M53.2 9) + (M53.1 6 ((8 * r_8) + (M53.1 8 r_8.toNatClampNeg)).toNatClampNeg))).1 8 r_8.toNatClampNeg) + 1)).2 9) - (((sA (sV M53 9 ((M53.2 9) + (M53.1 6 ((8 * r_8) + (M53.1 8 r_8.toNatClampNeg)).toNatClampNeg))) 8 r_8.toNatClampNeg (((sV M53 9 ((M53.2 9) + (M53.1 6 ((8 * r_8) + (M53.1 8 r_8.toNatClampNeg)).toNatClampNeg))).1 8 r_8.toNatClampNeg) + 1)).1 7 r_8.toNatClampNeg) * ((sA (sV M53 9 ((M53.2 9) + (M53.1 6 ((8 * r_8) + (M53.1 8 r_8.toNatClampNeg)).toNatClampNeg))) 8 r_8.toNatClampNeg (((sV M53 9 ((M53.2 9) + (M53.1 6 ((8 * r_8) + (M53.1 8 r_8.toNatClampNeg)).toNatClampNeg))).1 8 r_8.toNatClampNeg) + 1)).1 2 r_8.toNatClampNeg)))) 12 ((sV (sA (sV M53 9 ((M53.2 9) + (M53.1 6 ((8 * r_8) + (M53.1 8 r_8.toNatClampNeg)).toNatClampNeg))) 8 r_8.toNatClampNeg (((sV M53 9 ((M53.2 9) + (M53.1 6 ((8 * r_8) + (M53.1 8 r_8.toNatClampNeg)).toNatClampNeg))).1 8 r_8.toNatClampNeg) + 1)) 11 (((sA (sV M53 9 ((M53.2 9) + (M53.1 6 ((8 * r_8) + (M53.1 8 r_8.toNatClampNeg)).toNatClampNeg))) 8 r_8.toNatClampNeg (((sV M53 9 ((M53.2 9) + (M53.1 6 ((8 * r_8) + (M53.1 8 r_8.toNatClampNeg)).toNatClampNeg))).1 8 r_8.toNatClampNeg) + 1)).2 9) - (((sA (sV M53 9 ((M53.2 9) + (M53.1 6 ((8 * r_8) + (M53.1 8 r_8.toNatClampNeg)).toNatClampNeg))) 8 r_8.toNatClampNeg (((sV M53 9 ((M53.2 9) + (M53.1 6 ((8 * r_8) + (M53.1 8 r_8.toNatClampNeg)).toNatClampNeg))).1 8 r_8.toNatClampNeg) + 1)).1 7 r_8.toNatClampNeg) * ((sA (sV M53 9 ((M53.2 9) + (M53.1 6 ((8 * r_8) + (M53.1 8 r_8.toNatClampNeg)).toNatClampNeg))) 8 r_8.toNatClampNeg (((sV M53 9 ((M53.2 9) + (M53.1 6 ((8 * r_8) + (M53.1 8 r_8.toNatClampNeg)).toNatClampNeg))).1 8 r_8.toNatClampNeg) + 1)).1 2 r_8.toNatClampNeg)))).1 7 r_8.toNatClampNeg)) 14 (((sA (sV M53 9 ((M53.2 9) + (M53.1 6 ((8 * r_8) + (M53.1 8 r_8.toNatClampNeg)).toNatClampNeg))) 8 r_8.toNatClampNeg (((sV M53 9 ((M53.2 9) + (M53.1 6 ((8 * r_8) + (M53.1 8 r_8.toNatClampNeg)).toNatClampNeg))).1 8 r_8.toNatClampNeg) + 1)).2 9) - (((sA (sV M53 9 ((M53.2 9) + (M53.1 6 ((8 * r_8) + (M53.1 8 r_8.toNatClampNeg)).toNatClampNeg))) 8 r_8.toNatClampNeg (((sV M53 9 ((M53.2 9) + (M53.1 6 ((8 * r_8) + (M53.1 8 r_8.toNatClampNeg)).toNatClampNeg))).1 8 r_8.toNatClampNeg) + 1)).1 7 r_8.toNatClampNeg) * ((sA (sV M53 9 ((M53.2 9) + (M53.1 6 ((8 * r_8) + (M53.1 8 r_8.toNatClampNeg)).toNatClampNeg))) 8 r_8.toNatClampNeg (((sV M53 9 ((M53.2 9) + (M53.1 6 ((8 * r_8) + (M53.1 8 r_8.toNatClampNeg)).toNatClampNeg))).1 8 r_8.toNatClampNeg) + 1)).1 2 r_8.toNatClampNeg)))) 8 r_8.toNatClampNeg 0) 7 r_8.toNatClampNeg (((sA (sV (sV (sV (sA (sV M53 9 ((M53.2 9) + (M53.1 6 ((8 * r_8) + (M53.1 8 r_8.toNatClampNeg)).toNatClampNeg))) 8 r_8.toNatClampNeg (((sV M53 9 ((M53.2 9) + (M53.1 6 ((8 * r_8) + (M53.1 8 r_8.toNatClampNeg)).toNatClampNeg))).1 8 r_8.toNatClampNeg) + 1)) 11 (((sA (sV M53 9 ((M53.2 9) + (M53.1 6 ((8 * r_8) + (M53.1 8 r_8.toNatClampNeg)).toNatClampNeg))) 8 r_8.toNatClampNeg (((sV M53 9 ((M53.2 9) + (M53.1 6 ((8 * r_8) + (M53.1 8 r_8.toNatClampNeg)).toNatClampNeg))).1 8 r_8.toNatClampNeg) + 1)).2 9) - (((sA (sV M53 9 ((M53.2 9) + (M53.1 6 ((8 * r_8) + (M53.1 8 r_8.toNatClampNeg)).toNatClampNeg))) 8 r_8.toNatClampNeg (((sV M53 9 ((M53.2 9) + (M53.1 6 ((8 * r_8) + (M53.1 8 r_8.toNatClampNeg)).toNatClampNeg))).1 8 r_8.toNatClampNeg) + 1)).1 7 r_8.toNatClampNeg) * ((sA (sV M53 9 ((M53.2 9) + (M53.1 6 ((8 * r_8) + (M53.1 8 r_8.toNatClampNeg)).toNatClampNeg))) 8 r_8.toNatClampNeg (((sV M53 9 ((M53.2 9) + (M53.1 6 ((8 * r_8) + (M53.1 8 r_8.toNatClampNeg)).toNatClampNeg))).1 8 r_8.toNatClampNeg) + 1)).1 2 r_8.toNatClampNeg)))) 12 ((sV (sA (sV M53 9 ((M53.2 9) + (M53.1 6 ((8 * r_8) + (M53.1 8 r_8.toNatClampNeg)).toNatClampNeg))) 8 r_8.toNatClampNeg (((sV M53 9 ((M53.2 9) + (M53.1 6 ((8 * r_8) + (M53.1 8 r_8.toNatClampNeg)).toNatClampNeg))).1 8 r_8.toNatClampNeg) + 1)) 11 (((sA (sV M53 9 ((M53.2 9) + (M53.1 6 ((8 * r_8) + (M53.1 8 r_8.toNatClampNeg)).toNatClampNeg))) 8 r_8.toNatClampNeg (((sV M53 9 ((M53.2 9) + (M53.1 6 ((8 * r_8) + (M53.1 8 r_8.toNatClampNeg)).toNatClampNeg))).1 8 r_8.toNatClampNeg) + 1)).2 9) - (((sA (sV M53 9 ((M53.2 9) + (M53.1 6 ((8 * r_8) + (M53.1 8 r_8.toNatClampNeg)).toNatClampNeg))) 8 r_8.toNatClampNeg (((sV M53 9 ((M53.2 9) + (M53.1 6 ((8 * r_8) + (M53.1 8 r_8.toNatClampNeg)).toNatClampNeg))).1 8 r_8.toNatClampNeg) + 1)).1 7 r_8.toNatClampNeg) * ((sA (sV M53 9 ((M53.2 9) + (M53.1 6 ((8 * r_8) + (M53.1 8 r_8.toNatClampNeg)).toNatClampNeg))) 8 r_8.toNatClampNeg (((sV M53 9 ((M53.2 9) + (M53.1 6 ((8 * r_8) + (M53.1 8 r_8.toNatClampNeg)).toNatClampNeg))).1 8 r_8.toNatClampNeg) + 1)).1 2 r_8.toNatClampNeg)))).1 7 r_8.toNatClampNeg)) 14 (((sA (sV M53 9 ((M53.2 9) + (M53.1 6 ((8 * r_8) + (M53.1 8 r_8.toNatClampNeg)).toNatClampNeg))) 8 r_8.toNatClampNeg (((sV M53 9 ((M53.2 9) + (M53.1 6 ((8 * r_8) + (M53.1 8 r_8.toNatClampNeg)).toNatClampNeg))).1 8 r_8.toNatClampNeg) + 1)).2 9) - (((sA (sV M53 9 ((M53.2 9) + (M53.1 6 ((8 * r_8) + (M53.1 8 r_8.toNatClampNeg)).toNatClampNeg))) 8 r_8.toNatClampNeg (((sV M53 9 ((M53.2 9) + (M53.1 6 ((8 * r_8) + (M53.1 8 r_8.toNatClampNeg)).toNatClampNeg))).1 8 r_8.toNatClampNeg) + 1)).1 7 r_8.toNatClampNeg) * ((sA (sV M53 9 ((M53.2 9) + (M53.1 6 ((8 * r_8) + (M53.1 8 r_8.toNatClampNeg)).toNatClampNeg))) 8 r_8.toNatClampNeg (((sV M53 9 ((M53.2 9) + (M53.1 6 ((8 * r_8) + (M53.1 8 r_8.toNatClampNeg)).toNatClampNeg))).1 8 r_8.toNatClampNeg) + 1)).1 2 r_8.toNatClampNeg)))) 8 r_8.toNatClampNeg 0).1 7 r_8.toNatClampNeg) + 1)) hj H locs hw ls (lv_sub hl [2, 3, 4, 1] rfl)
          · rw [if_neg c_15] at hj
            refine lv_goto (tgt := 53) hx hb d_Y_go_133 (by decide) ?_
            exact ih53 r_8 (sA (sV M53 9 ((M53.2 9) + (M53.1 6 ((8 * r_8) + (M53.1 8 r_8.toNatClampNeg)).toNatClampNeg))) 8 r_8.toNatClampNeg (((sV M53 9 ((M53.2 9) + (M53.1 6 ((8 * r_8) + (M53.1 8 r_8.toNatClampNeg)).toNatClampNeg))).1 8 r_8.toNatClampNeg) + 1)) hj H locs hw ls (lv_sub hl [1, 2, 3, 0] rfl)
        · rw [if_neg c_6] at hj
          refine lv_aload_n hx hb d_Y_go_71 rfl (lv_at hl 0 rfl) ?_
          refine lv_iconst (v := 1) hx hb d_Y_go_72 (by decide) ?_
          refine gw_put (v := .int 1) (ty := .boolean) S hw ya_R rfl (by decide) n_T_Y f_122 tk_Y nm_Y rfl (by decide +kernel) rfl rfl (Nat.le_of_ble_eq_true rfl) (ys_R 10 1 (by decide)) d_Y_go_73 (fun H locs hw => ?_)
          exact hend H locs ls 76 _ (congrArg (wY cI cZ ad) (Option.some.inj hj)) hw d_Y_go_76
  have L2 : ∀ (f2 : Nat) (v3_2 : Int32) (M2 : MY), j_Y_go_L2 n a1 a2 f2 v3_2 M2 = some M0 → ∀ (H : Heap) (locs : List Loc), gw_W D (tyY cI cZ) A (wY cI cZ ad M2) s H locs → ∀ ls : Array Slot, lv_has ls 5 [(0, .ref (ad 0)), (1, .int a1), (2, .int a2), (3, .int v3_2)] → W p l e rm_Y_go s m args below meth c H locs 0 0 Q (F0 m 2 ls []) := by
    intro f2
    induction f2 with
    | zero =>
      intro v3_2 M2 hj
      exact nomatch (show (none : Option MY) = some M0 from hj)
    | succ f2 ih2 =>
      intro v3_2 M2 hj H locs hw ls hl
      rw [j_Y_go_L2] at hj
      refine lv_iload_n hx hb d_Y_go_2 rfl (lv_at hl 3 rfl) ?_
      refine lv_bipush (v := 8) hx hb d_Y_go_3 (by decide) ?_
      refine lv_icmp_gt (tgt := 28) hx hb d_Y_go_5 (by decide) (fun c_1 => ?_) (fun c_1 => ?_)
      · rw [if_pos c_1] at hj
        refine lv_aload_n hx hb d_Y_go_28 rfl (lv_at hl 0 rfl) ?_
        refine lv_iload_n hx hb d_Y_go_29 rfl (lv_at hl 2 rfl) ?_
        refine gw_put (v := .int a2) (ty := .int) S hw ya_R rfl (by decide) n_T_Y f_110 tk_Y nm_Y rfl (by decide +kernel) rfl rfl (Nat.le_of_ble_eq_true rfl) (ys_R 9 a2 (by decide)) d_Y_go_30 (fun H locs hw => ?_)
        refine lv_aload_n hx hb d_Y_go_33 rfl (lv_at hl 0 rfl) ?_
        refine lv_iconst (v := 0) hx hb d_Y_go_34 (by decide) ?_
        refine gw_put (v := .int 0) (ty := .int) S hw ya_R rfl (by decide) n_T_Y f_113 tk_Y nm_Y rfl (by decide +kernel) rfl rfl (Nat.le_of_ble_eq_true rfl) (ys_R 11 0 (by decide)) d_Y_go_35 (fun H locs hw => ?_)
        refine lv_aload_n hx hb d_Y_go_38 rfl (lv_at hl 0 rfl) ?_
        refine lv_iconst (v := 0) hx hb d_Y_go_39 (by decide) ?_
        refine gw_put (v := .int 0) (ty := .int) S hw ya_R rfl (by decide) n_T_Y f_116 tk_Y nm_Y rfl (by decide +kernel) rfl rfl (Nat.le_of_ble_eq_true rfl) (ys_R 12 0 (by decide)) d_Y_go_40 (fun H locs hw => ?_)
        refine lv_aload_n hx hb d_Y_go_43 rfl (lv_at hl 0 rfl) ?_
        refine lv_iconst (v := -1) hx hb d_Y_go_44 (by decide) ?_
        refine gw_put (v := .int (-1)) (ty := .int) S hw ya_R rfl (by decide) n_T_Y f_119 tk_Y nm_Y rfl (by decide +kernel) rfl rfl (Nat.le_of_ble_eq_true rfl) (ys_R 14 (-1) (by decide)) d_Y_go_45 (fun H locs hw => ?_)
        refine lv_aload_n hx hb d_Y_go_48 rfl (lv_at hl 0 rfl) ?_
        refine lv_iconst (v := 0) hx hb d_Y_go_49 (by decide) ?_
        refine gw_put (v := .int 0) (ty := .boolean) S hw ya_R rfl (by decide) n_T_Y f_122 tk_Y nm_Y rfl (by decide +kernel) rfl rfl (Nat.le_of_ble_eq_true rfl) (ys_R 10 0 (by decide)) d_Y_go_50 (fun H locs hw => ?_)
        exact L53 n v3_2 (sV (sV (sV (sV (sV M2 9 a2) 11 0) 12 0) 14 (-1)) 10 0) hj H locs hw ls (lv_sub hl [0, 1, 2, 3] rfl)
      · rw [if_neg c_1] at hj
        refine lv_aload_n hx hb d_Y_go_8 rfl (lv_at hl 0 rfl) ?_
        refine gw_get (v := .ref (ad 7)) S hw ya_R rfl (by decide) n_T_Y f_29 rfl d_Y_go_9 ?_
        refine lv_iload_n hx hb d_Y_go_12 rfl (lv_at hl 3 rfl) ?_
        refine lv_iconst (v := 0) hx hb d_Y_go_13 (by decide) ?_
        obtain ⟨g_57, hj⟩ := gw_if hj
        refine gw_iast (t0 := 0) S hw ⟨ya_a7, rfl⟩ g_57 (ys_a7 v3_2.toNatClampNeg 0) d_Y_go_14 (fun H locs hw => ?_)
        refine lv_aload_n hx hb d_Y_go_15 rfl (lv_at hl 0 rfl) ?_
        refine gw_get (v := .ref (ad 8)) S hw ya_R rfl (by decide) n_T_Y f_32 rfl d_Y_go_16 ?_
        refine lv_iload_n hx hb d_Y_go_19 rfl (lv_at hl 3 rfl) ?_
        refine lv_iconst (v := 0) hx hb d_Y_go_20 (by decide) ?_
        obtain ⟨g_58, hj⟩ := gw_if hj
        refine gw_iast (t0 := 0) S hw ⟨ya_a8, rfl⟩ g_58 (ys_a8 v3_2.toNatClampNeg 0) d_Y_go_21 (fun H locs hw => ?_)
        refine lv_iinc (v := (v3_2 + 1)) (lv' := [(3, .int (v3_2 + 1)), (0, .ref (ad 0)), (1, .int a1), (2, .int a2)]) hx hb d_Y_go_22 hl (k := 3) rfl rfl (by decide) rfl (fun ls hl => ?_)
        refine lv_goto (tgt := 2) hx hb d_Y_go_25 (by decide) ?_
        exact ih2 (v3_2 + 1) (sA (sA M2 7 v3_2.toNatClampNeg 0) 8 v3_2.toNatClampNeg 0) hj H locs hw ls (lv_sub hl [1, 2, 3, 0] rfl)
  unfold j_Y_go at hj
  refine lv_iconst (v := 1) hx hb d_Y_go_0 (by decide) ?_
  refine lv_istore_n (lv' := [(3, .int 1), (0, .ref (ad 0)), (1, .int a1), (2, .int a2)]) hx hb d_Y_go_1 rfl hl (by decide) rfl (fun ls hl => ?_)
  exact L2 n 1 M hj H locs hw ls (lv_sub hl [1, 2, 3, 0] rfl)
abbrev rm_Y_highest : Room := { frames := 0, cells := 0, slots := 0, locals := 0 }
def ws_Y_highest : List Cond := Cond.code y_Y_highest b_Y_highest 4 (some .int) :: wB
set_option maxHeartbeats 4000000 in
set_option maxRecDepth 100000 in
theorem c_Y_highest {l : Launch} {D : va_G} {cI cZ : ClassId} {ad : Nat → Nat} {n : Nat} {M : MY} {a1 : Int32} {r0 : Int32} (hj : j_Y_highest n M a1 = some r0) : gw_Ci l y_Y_highest ws_Y_highest rm_Y_highest D (tyY cI cZ) (wY cI cZ ad M) [.ref (ad 0), .int a1] r0 (wY cI cZ ad M) := by
  intro sz
  refine gw_meti (cc := b_Y_highest) (maxL := 4) (by decide) rfl (Nat.le_of_ble_eq_true rfl) ?_
  intro p e s m args below meth c A Q S H locs hw hend ls hl
  have S : CallFix p m c b_Y_highest 4 s args ws_Y_highest R_Y := S
  have hx := S.1
  have hb := S.2.1
  have hts := S.2.2.2.2
  have hl : lv_has ls 4 [(0, .ref (ad 0)), (1, .int a1)] := hl
  have n_T_Y : ∀ w ∈ u_ws R_Y T_Y 29, w ∈ ws_Y_highest := fun w h => List.mem_cons_of_mem _ (uT_Y w h)
  have f_7 : Cond.fieldLink R_Y 7 (T_Y 1).1 (T_Y 1).2.1 (T_Y 1).2.2.1 ∈ ws_Y_highest := List.mem_cons_of_mem _ xw_267
  have f_20 : Cond.fieldLink R_Y 20 (T_Y 4).1 (T_Y 4).2.1 (T_Y 4).2.2.1 ∈ ws_Y_highest := List.mem_cons_of_mem _ xw_270
  have L4 : ∀ (f4 : Nat) (v2_4 : Int32) (v3_4 : Int32), j_Y_highest_L4 n M a1 f4 v2_4 v3_4 = some r0 → ∀ (H : Heap) (locs : List Loc), gw_W D (tyY cI cZ) A (wY cI cZ ad M) s H locs → ∀ ls : Array Slot, lv_has ls 4 [(0, .ref (ad 0)), (1, .int a1), (2, .int v2_4), (3, .int v3_4)] → W p l e rm_Y_highest s m args below meth c H locs 0 0 Q (F0 m 4 ls []) := by
    intro f4
    induction f4 with
    | zero =>
      intro v2_4 v3_4 hj
      exact nomatch (show (none : Option Int32) = some r0 from hj)
    | succ f4 ih4 =>
      intro v2_4 v3_4 hj H locs hw ls hl
      rw [j_Y_highest_L4] at hj
      refine lv_iload_n hx hb d_Y_highest_4 rfl (lv_at hl 3 rfl) ?_
      refine lv_bipush (v := 8) hx hb d_Y_highest_5 (by decide) ?_
      refine lv_icmp_gt (tgt := 56) hx hb d_Y_highest_7 (by decide) (fun c_1 => ?_) (fun c_1 => ?_)
      · rw [if_pos c_1] at hj
        refine lv_iload_n hx hb d_Y_highest_56 rfl (lv_at hl 2 rfl) ?_
        exact hend H locs ls 57 _ _ (Option.some.inj hj) rfl hw d_Y_highest_57
      · rw [if_neg c_1] at hj
        refine lv_aload_n hx hb d_Y_highest_10 rfl (lv_at hl 0 rfl) ?_
        refine gw_get (v := .ref (ad 1)) S hw ya_R rfl (by decide) n_T_Y f_7 rfl d_Y_highest_11 ?_
        refine lv_iload_n hx hb d_Y_highest_14 rfl (lv_at hl 3 rfl) ?_
        obtain ⟨g_2, hj⟩ := gw_if hj
        refine gw_zald (t0 := 1) S hw ⟨ya_a1, rfl⟩ g_2 d_Y_highest_15 ?_
        refine lv_if_eq (tgt := 50) hx hb d_Y_highest_16 (by decide) (fun c_3 => ?_) (fun c_3 => ?_)
        · rw [if_pos c_3] at hj
          refine lv_iinc (v := (v3_4 + 1)) (lv' := [(3, .int (v3_4 + 1)), (0, .ref (ad 0)), (1, .int a1), (2, .int v2_4)]) hx hb d_Y_highest_50 hl (k := 3) rfl rfl (by decide) rfl (fun ls hl => ?_)
          refine lv_goto (tgt := 4) hx hb d_Y_highest_53 (by decide) ?_
          exact ih4 v2_4 (v3_4 + 1) hj H locs hw ls (lv_sub hl [1, 2, 3, 0] rfl)
        · rw [if_neg c_3] at hj
          refine lv_aload_n hx hb d_Y_highest_19 rfl (lv_at hl 0 rfl) ?_
          refine gw_get (v := .ref (ad 4)) S hw ya_R rfl (by decide) n_T_Y f_20 rfl d_Y_highest_20 ?_
          refine lv_iload_n hx hb d_Y_highest_23 rfl (lv_at hl 3 rfl) ?_
          obtain ⟨g_4, hj⟩ := gw_if hj
          refine gw_iald (t0 := 0) S hw ⟨ya_a4, rfl⟩ g_4 d_Y_highest_24 ?_
          refine lv_iload_n hx hb d_Y_highest_25 rfl (lv_at hl 1 rfl) ?_
          refine lv_icmp_ge (tgt := 50) hx hb d_Y_highest_26 (by decide) (fun c_5 => ?_) (fun c_5 => ?_)
          · rw [if_pos c_5] at hj
            refine lv_iinc (v := (v3_4 + 1)) (lv' := [(3, .int (v3_4 + 1)), (0, .ref (ad 0)), (1, .int a1), (2, .int v2_4)]) hx hb d_Y_highest_50 hl (k := 3) rfl rfl (by decide) rfl (fun ls hl => ?_)
            refine lv_goto (tgt := 4) hx hb d_Y_highest_53 (by decide) ?_
            exact ih4 v2_4 (v3_4 + 1) hj H locs hw ls (lv_sub hl [1, 2, 3, 0] rfl)
          · rw [if_neg c_5] at hj
            refine lv_iload_n hx hb d_Y_highest_29 rfl (lv_at hl 2 rfl) ?_
            refine lv_if_eq (tgt := 48) hx hb d_Y_highest_30 (by decide) (fun c_6 => ?_) (fun c_6 => ?_)
            · rw [if_pos c_6] at hj
              refine lv_iload_n hx hb d_Y_highest_48 rfl (lv_at hl 3 rfl) ?_
              refine lv_istore_n (lv' := [(2, .int v3_4), (0, .ref (ad 0)), (1, .int a1), (3, .int v3_4)]) hx hb d_Y_highest_49 rfl hl (by decide) rfl (fun ls hl => ?_)
              refine lv_iinc (v := (v3_4 + 1)) (lv' := [(3, .int (v3_4 + 1)), (2, .int v3_4), (0, .ref (ad 0)), (1, .int a1)]) hx hb d_Y_highest_50 hl (k := 3) rfl rfl (by decide) rfl (fun ls hl => ?_)
              refine lv_goto (tgt := 4) hx hb d_Y_highest_53 (by decide) ?_
              exact ih4 v3_4 (v3_4 + 1) hj H locs hw ls (lv_sub hl [2, 3, 1, 0] rfl)
            · rw [if_neg c_6] at hj
              refine lv_aload_n hx hb d_Y_highest_33 rfl (lv_at hl 0 rfl) ?_
              refine gw_get (v := .ref (ad 4)) S hw ya_R rfl (by decide) n_T_Y f_20 rfl d_Y_highest_34 ?_
              refine lv_iload_n hx hb d_Y_highest_37 rfl (lv_at hl 3 rfl) ?_
              obtain ⟨g_7, hj⟩ := gw_if hj
              refine gw_iald (t0 := 0) S hw ⟨ya_a4, rfl⟩ g_7 d_Y_highest_38 ?_
              refine lv_aload_n hx hb d_Y_highest_39 rfl (lv_at hl 0 rfl) ?_
              refine gw_get (v := .ref (ad 4)) S hw ya_R rfl (by decide) n_T_Y f_20 rfl d_Y_highest_40 ?_
              refine lv_iload_n hx hb d_Y_highest_43 rfl (lv_at hl 2 rfl) ?_
              obtain ⟨g_8, hj⟩ := gw_if hj
              refine gw_iald (t0 := 0) S hw ⟨ya_a4, rfl⟩ g_8 d_Y_highest_44 ?_
              refine lv_icmp_le (tgt := 50) hx hb d_Y_highest_45 (by decide) (fun c_9 => ?_) (fun c_9 => ?_)
              · rw [if_pos c_9] at hj
                refine lv_iinc (v := (v3_4 + 1)) (lv' := [(3, .int (v3_4 + 1)), (0, .ref (ad 0)), (1, .int a1), (2, .int v2_4)]) hx hb d_Y_highest_50 hl (k := 3) rfl rfl (by decide) rfl (fun ls hl => ?_)
                refine lv_goto (tgt := 4) hx hb d_Y_highest_53 (by decide) ?_
                exact ih4 v2_4 (v3_4 + 1) hj H locs hw ls (lv_sub hl [1, 2, 3, 0] rfl)
              · rw [if_neg c_9] at hj
                refine lv_iload_n hx hb d_Y_highest_48 rfl (lv_at hl 3 rfl) ?_
                refine lv_istore_n (lv' := [(2, .int v3_4), (0, .ref (ad 0)), (1, .int a1), (3, .int v3_4)]) hx hb d_Y_highest_49 rfl hl (by decide) rfl (fun ls hl => ?_)
                refine lv_iinc (v := (v3_4 + 1)) (lv' := [(3, .int (v3_4 + 1)), (2, .int v3_4), (0, .ref (ad 0)), (1, .int a1)]) hx hb d_Y_highest_50 hl (k := 3) rfl rfl (by decide) rfl (fun ls hl => ?_)
                refine lv_goto (tgt := 4) hx hb d_Y_highest_53 (by decide) ?_
                exact ih4 v3_4 (v3_4 + 1) hj H locs hw ls (lv_sub hl [2, 3, 1, 0] rfl)
  unfold j_Y_highest at hj
  refine lv_iconst (v := 0) hx hb d_Y_highest_0 (by decide) ?_
  refine lv_istore_n (lv' := [(2, .int 0), (0, .ref (ad 0)), (1, .int a1)]) hx hb d_Y_highest_1 rfl hl (by decide) rfl (fun ls hl => ?_)
  refine lv_iconst (v := 1) hx hb d_Y_highest_2 (by decide) ?_
  refine lv_istore_n (lv' := [(3, .int 1), (2, .int 0), (0, .ref (ad 0)), (1, .int a1)]) hx hb d_Y_highest_3 rfl hl (by decide) rfl (fun ls hl => ?_)
  exact L4 n 0 1 hj H locs hw ls (lv_sub hl [2, 3, 1, 0] rfl)
abbrev rm_Y_admitted : Room := { frames := 3, cells := 0, slots := 0, locals := 70 }
def ws_Y_admitted : List Cond := Cond.code y_Y_admitted b_Y_admitted 2 (some .int) :: wB
set_option maxHeartbeats 4000000 in
set_option maxRecDepth 100000 in
theorem c_Y_admitted {l : Launch} {D : va_G} {cI cZ : ClassId} {ad : Nat → Nat} {n : Nat} {M : MY} {r0 : Int32} {M0 : MY} (hj : j_Y_admitted n M = some (r0, M0)) : gw_Ci l y_Y_admitted ws_Y_admitted rm_Y_admitted D (tyY cI cZ) (wY cI cZ ad M) [.ref (ad 0)] r0 (wY cI cZ ad M0) := by
  intro sz
  refine gw_meti (cc := b_Y_admitted) (maxL := 2) (by decide) rfl (Nat.le_of_ble_eq_true rfl) ?_
  intro p e s m args below meth c A Q S H locs hw hend ls hl
  have S : CallFix p m c b_Y_admitted 2 s args ws_Y_admitted R_Y := S
  have hx := S.1
  have hb := S.2.1
  have hts := S.2.2.2.2
  have hl : lv_has ls 2 [(0, .ref (ad 0))] := hl
  have n_T_Y : ∀ w ∈ u_ws R_Y T_Y 29, w ∈ ws_Y_admitted := fun w h => List.mem_cons_of_mem _ (uT_Y w h)
  have f_17 : Cond.fieldLink R_Y 17 (T_Y 3).1 (T_Y 3).2.1 (T_Y 3).2.2.1 ∈ ws_Y_admitted := List.mem_cons_of_mem _ xw_269
  have f_20 : Cond.fieldLink R_Y 20 (T_Y 4).1 (T_Y 4).2.1 (T_Y 4).2.2.1 ∈ ws_Y_admitted := List.mem_cons_of_mem _ xw_270
  have f_113 : Cond.fieldLink R_Y 113 (T_Y 11).1 (T_Y 11).2.1 (T_Y 11).2.2.1 ∈ ws_Y_admitted := List.mem_cons_of_mem _ xw_320
  have f_122 : Cond.fieldLink R_Y 122 (T_Y 10).1 (T_Y 10).2.1 (T_Y 10).2.2.1 ∈ ws_Y_admitted := List.mem_cons_of_mem _ xw_323
  have w_103 : CallW rm_Y_admitted s args R_Y R_Y 103 y_Y_blocking b_Y_blocking 2 (some .int) ws_Y_blocking rm_Y_blocking 0 0 1 := cwV 1 hts (wB_callV (fun w h => List.mem_cons_of_mem _ h) xw_309 xw_310 xw_311 xw_312 xw_278) rfl rfl rfl (by decide +kernel) ⟨Nat.le_of_ble_eq_true rfl, Nat.le_of_ble_eq_true rfl⟩
  have w_134 : CallW rm_Y_admitted s args R_Y R_Y 134 y_Y_highest b_Y_highest 4 (some .int) ws_Y_highest rm_Y_highest 0 0 1 := cwV 1 hts (wB_callV (fun w h => List.mem_cons_of_mem _ h) xw_333 xw_334 xw_335 xw_336 xw_278) rfl rfl rfl (by decide +kernel) ⟨Nat.le_of_ble_eq_true rfl, Nat.le_of_ble_eq_true rfl⟩
  have w_137 : CallW rm_Y_admitted s args R_Y R_Y 137 y_Y_go b_Y_go 5 none ws_Y_go rm_Y_go 0 0 2 := cwV 2 hts (wB_callV (fun w h => List.mem_cons_of_mem _ h) xw_337 xw_338 xw_339 xw_340 xw_278) rfl rfl rfl (by decide +kernel) ⟨Nat.le_of_ble_eq_true rfl, Nat.le_of_ble_eq_true rfl⟩
  have L7 : ∀ (f7 : Nat) (v1_7 : Int32) (M7 : MY), j_Y_admitted_L7 n f7 v1_7 M7 = some (r0, M0) → ∀ (H : Heap) (locs : List Loc), gw_W D (tyY cI cZ) A (wY cI cZ ad M7) s H locs → ∀ ls : Array Slot, lv_has ls 2 [(0, .ref (ad 0)), (1, .int v1_7)] → W p l e rm_Y_admitted s m args below meth c H locs 0 0 Q (F0 m 7 ls []) := by
    intro f7
    induction f7 with
    | zero =>
      intro v1_7 M7 hj
      exact nomatch (show (none : Option (Int32 × MY)) = some (r0, M0) from hj)
    | succ f7 ih7 =>
      intro v1_7 M7 hj H locs hw ls hl
      rw [j_Y_admitted_L7] at hj
      refine lv_iload_n hx hb d_Y_admitted_7 rfl (lv_at hl 1 rfl) ?_
      refine lv_if_eq (tgt := 64) hx hb d_Y_admitted_8 (by decide) (fun c_3 => ?_) (fun c_3 => ?_)
      · rw [if_pos c_3] at hj
        refine lv_iconst (v := 1) hx hb d_Y_admitted_64 (by decide) ?_
        exact hend H locs ls 65 _ _ (Prod.mk.inj (Option.some.inj hj)).1 (congrArg (wY cI cZ ad) (Prod.mk.inj (Option.some.inj hj)).2) hw d_Y_admitted_65
      · rw [if_neg c_3] at hj
        refine lv_aload_n hx hb d_Y_admitted_11 rfl (lv_at hl 0 rfl) ?_
        refine lv_iload_n hx hb d_Y_admitted_12 rfl (lv_at hl 1 rfl) ?_
        refine lv_aload_n hx hb d_Y_admitted_13 rfl (lv_at hl 0 rfl) ?_
        refine lv_iload_n hx hb d_Y_admitted_14 rfl (lv_at hl 1 rfl) ?_
        obtain ⟨r_5, e_4, hj⟩ := Option.bind_eq_some_iff.mp hj
        refine gw_calli (As := [.int v1_7]) (rest := [.int v1_7, .ref (ad 0)]) S hw (c_Y_blocking e_4) w_103 ya_R rfl rfl hl.1 rfl (Nat.le_of_ble_eq_true rfl) d_Y_admitted_15 (fun H locs hw => ?_)
        obtain ⟨M_7, e_6, hj⟩ := Option.bind_eq_some_iff.mp hj
        refine gw_callv (As := [.int v1_7, .int r_5]) (rest := []) S hw (c_Y_go e_6) w_137 ya_R rfl rfl hl.1 rfl (Nat.le_of_ble_eq_true rfl) d_Y_admitted_18 (fun H locs hw => ?_)
        refine lv_aload_n hx hb d_Y_admitted_21 rfl (lv_at hl 0 rfl) ?_
        refine gw_get (v := .int (M_7.2 10)) S hw ya_R rfl (by decide) n_T_Y f_122 rfl d_Y_admitted_22 ?_
        refine lv_if_eq (tgt := 34) hx hb d_Y_admitted_25 (by decide) (fun c_8 => ?_) (fun c_8 => ?_)
        · rw [if_pos c_8] at hj
          refine lv_aload_n hx hb d_Y_admitted_34 rfl (lv_at hl 0 rfl) ?_
          refine gw_get (v := .int (M_7.2 11)) S hw ya_R rfl (by decide) n_T_Y f_113 rfl d_Y_admitted_35 ?_
          refine lv_aload_n hx hb d_Y_admitted_38 rfl (lv_at hl 0 rfl) ?_
          refine gw_get (v := .ref (ad 3)) S hw ya_R rfl (by decide) n_T_Y f_17 rfl d_Y_admitted_39 ?_
          refine lv_iload_n hx hb d_Y_admitted_42 rfl (lv_at hl 1 rfl) ?_
          obtain ⟨g_9, hj⟩ := gw_if hj
          refine gw_iald (t0 := 0) S hw ⟨ya_a3, rfl⟩ g_9 d_Y_admitted_43 ?_
          refine lv_icmp_le (tgt := 50) hx hb d_Y_admitted_44 (by decide) (fun c_10 => ?_) (fun c_10 => ?_)
          · rw [if_pos c_10] at hj
            refine lv_aload_n hx hb d_Y_admitted_50 rfl (lv_at hl 0 rfl) ?_
            refine lv_aload_n hx hb d_Y_admitted_51 rfl (lv_at hl 0 rfl) ?_
            refine gw_get (v := .ref (ad 4)) S hw ya_R rfl (by decide) n_T_Y f_20 rfl d_Y_admitted_52 ?_
            refine lv_iload_n hx hb d_Y_admitted_55 rfl (lv_at hl 1 rfl) ?_
            obtain ⟨g_11, hj⟩ := gw_if hj
            refine gw_iald (t0 := 0) S hw ⟨ya_a4, rfl⟩ g_11 d_Y_admitted_56 ?_
            obtain ⟨r_13, e_12, hj⟩ := Option.bind_eq_some_iff.mp hj
            refine gw_calli (As := [.int (M_7.1 4 v1_7.toNatClampNeg)]) (rest := []) S hw (c_Y_highest e_12) w_134 ya_R rfl rfl hl.1 rfl (Nat.le_of_ble_eq_true rfl) d_Y_admitted_57 (fun H locs hw => ?_)
            refine lv_istore_n (lv' := [(1, .int r_13), (0, .ref (ad 0))]) hx hb d_Y_admitted_60 rfl hl (by decide) rfl (fun ls hl => ?_)
            refine lv_goto (tgt := 7) hx hb d_Y_admitted_61 (by decide) ?_
            exact ih7 r_13 M_7 hj H locs hw ls (lv_sub hl [1, 0] rfl)
          · rw [if_neg c_10] at hj
            refine lv_iload_n hx hb d_Y_admitted_47 rfl (lv_at hl 1 rfl) ?_
            refine lv_ineg hx hb d_Y_admitted_48 ?_
            exact hend H locs ls 49 _ _ (Prod.mk.inj (Option.some.inj hj)).1 (congrArg (wY cI cZ ad) (Prod.mk.inj (Option.some.inj hj)).2) hw d_Y_admitted_49
        · rw [if_neg c_8] at hj
          refine lv_iload_n hx hb d_Y_admitted_28 rfl (lv_at hl 1 rfl) ?_
          refine lv_ineg hx hb d_Y_admitted_29 ?_
          refine lv_bipush (v := 100) hx hb d_Y_admitted_30 (by decide) ?_
          refine lv_isub hx hb d_Y_admitted_32 ?_
          exact hend H locs ls 33 _ _ (Prod.mk.inj (Option.some.inj hj)).1 (congrArg (wY cI cZ ad) (Prod.mk.inj (Option.some.inj hj)).2) hw d_Y_admitted_33
  unfold j_Y_admitted at hj
  refine lv_aload_n hx hb d_Y_admitted_0 rfl (lv_at hl 0 rfl) ?_
  refine lv_bipush (v := 100) hx hb d_Y_admitted_1 (by decide) ?_
  obtain ⟨r_2, e_1, hj⟩ := Option.bind_eq_some_iff.mp hj
  refine gw_calli (As := [.int 100]) (rest := []) S hw (c_Y_highest e_1) w_134 ya_R rfl rfl hl.1 rfl (Nat.le_of_ble_eq_true rfl) d_Y_admitted_3 (fun H locs hw => ?_)
  refine lv_istore_n (lv' := [(1, .int r_2), (0, .ref (ad 0))]) hx hb d_Y_admitted_6 rfl hl (by decide) rfl (fun ls hl => ?_)
  exact L7 n r_2 M hj H locs hw ls (lv_sub hl [1, 0] rfl)
abbrev rm_Y_admit : Room := { frames := 4, cells := 0, slots := 0, locals := 91 }
def ws_Y_admit : List Cond := Cond.code y_Y_admit b_Y_admit 1 (some .int) :: wB
set_option maxHeartbeats 4000000 in
set_option maxRecDepth 100000 in
theorem c_Y_admit {l : Launch} {D : va_G} {cI cZ : ClassId} {ad : Nat → Nat} {n : Nat} {M : MY} {r0 : Int32} {M0 : MY} (hj : j_Y_admit n M = some (r0, M0)) : gw_Ci l y_Y_admit ws_Y_admit rm_Y_admit D (tyY cI cZ) (wY cI cZ ad M) [.ref (ad 0)] r0 (wY cI cZ ad M0) := by
  intro sz
  refine gw_meti (cc := b_Y_admit) (maxL := 1) (by decide) rfl (Nat.le_of_ble_eq_true rfl) ?_
  intro p e s m args below meth c A Q S H locs hw hend ls hl
  have S : CallFix p m c b_Y_admit 1 s args ws_Y_admit R_Y := S
  have hx := S.1
  have hb := S.2.1
  have hts := S.2.2.2.2
  have hl : lv_has ls 1 [(0, .ref (ad 0))] := hl
  have n_T_Y : ∀ w ∈ u_ws R_Y T_Y 29, w ∈ ws_Y_admit := fun w h => List.mem_cons_of_mem _ (uT_Y w h)
  have f_62 : Cond.fieldLink R_Y 62 (T_Y 0).1 (T_Y 0).2.1 (T_Y 0).2.2.1 ∈ ws_Y_admit := List.mem_cons_of_mem _ xw_266
  have w_141 : CallW rm_Y_admit s args R_Y R_Y 141 y_Y_isReady b_Y_isReady 3 (some .boolean) ws_Y_isReady rm_Y_isReady 0 0 0 := cwV 0 hts (wB_callV (fun w h => List.mem_cons_of_mem _ h) xw_341 xw_342 xw_343 xw_344 xw_278) rfl rfl rfl (by decide +kernel) ⟨Nat.le_of_ble_eq_true rfl, Nat.le_of_ble_eq_true rfl⟩
  have w_145 : CallW rm_Y_admit s args R_Y R_Y 145 y_Y_raise b_Y_raise 2 (some .int) ws_Y_raise rm_Y_raise 0 0 1 := cwV 1 hts (wB_callV (fun w h => List.mem_cons_of_mem _ h) xw_345 xw_346 xw_347 xw_348 xw_278) rfl rfl rfl (by decide +kernel) ⟨Nat.le_of_ble_eq_true rfl, Nat.le_of_ble_eq_true rfl⟩
  have w_148 : CallW rm_Y_admit s args R_Y R_Y 148 y_Y_admitted b_Y_admitted 2 (some .int) ws_Y_admitted rm_Y_admitted 0 0 0 := cwV 0 hts (wB_callV (fun w h => List.mem_cons_of_mem _ h) xw_349 xw_350 xw_351 xw_352 xw_278) rfl rfl rfl (by decide +kernel) ⟨Nat.le_of_ble_eq_true rfl, Nat.le_of_ble_eq_true rfl⟩
  unfold j_Y_admit at hj
  refine lv_aload_n hx hb d_Y_admit_0 rfl (lv_at hl 0 rfl) ?_
  obtain ⟨r_2, e_1, hj⟩ := Option.bind_eq_some_iff.mp hj
  refine gw_calli (As := []) (rest := []) S hw (c_Y_isReady e_1) w_141 ya_R rfl rfl hl.1 rfl (Nat.le_of_ble_eq_true rfl) d_Y_admit_1 (fun H locs hw => ?_)
  refine lv_if_ne (tgt := 13) hx hb d_Y_admit_4 (by decide) (fun c_3 => ?_) (fun c_3 => ?_)
  · rw [if_neg c_3] at hj
    refine lv_aload_n hx hb d_Y_admit_13 rfl (lv_at hl 0 rfl) ?_
    refine lv_iconst (v := 0) hx hb d_Y_admit_14 (by decide) ?_
    refine gw_put (v := .int 0) (ty := .int) S hw ya_R rfl (by decide) n_T_Y f_62 tk_Y nm_Y rfl (by decide +kernel) rfl rfl (Nat.le_of_ble_eq_true rfl) (ys_R 0 0 (by decide)) d_Y_admit_15 (fun H locs hw => ?_)
    refine lv_aload_n hx hb d_Y_admit_18 rfl (lv_at hl 0 rfl) ?_
    obtain ⟨q_5, e_4, hj⟩ := Option.bind_eq_some_iff.mp hj
    refine gw_calli (As := []) (rest := []) S hw (c_Y_admitted e_4) w_148 ya_R rfl rfl hl.1 rfl (Nat.le_of_ble_eq_true rfl) d_Y_admit_19 (fun H locs hw => ?_)
    exact hend H locs ls 22 _ _ (Prod.mk.inj (Option.some.inj hj)).1 (congrArg (wY cI cZ ad) (Prod.mk.inj (Option.some.inj hj)).2) hw d_Y_admit_22
  · rw [if_pos c_3] at hj
    refine lv_aload_n hx hb d_Y_admit_7 rfl (lv_at hl 0 rfl) ?_
    refine lv_iconst (v := 1) hx hb d_Y_admit_8 (by decide) ?_
    obtain ⟨q_7, e_6, hj⟩ := Option.bind_eq_some_iff.mp hj
    refine gw_calli (As := [.int 1]) (rest := []) S hw (c_Y_raise e_6) w_145 ya_R rfl rfl hl.1 rfl (Nat.le_of_ble_eq_true rfl) d_Y_admit_9 (fun H locs hw => ?_)
    exact hend H locs ls 12 _ _ (Prod.mk.inj (Option.some.inj hj)).1 (congrArg (wY cI cZ ad) (Prod.mk.inj (Option.some.inj hj)).2) hw d_Y_admit_12
abbrev rm_Y_asks : Room := { frames := 3, cells := 0, slots := 0, locals := 70 }
def ws_Y_asks : List Cond := Cond.code y_Y_asks b_Y_asks 2 (some .boolean) :: wB
set_option maxHeartbeats 4000000 in
set_option maxRecDepth 100000 in
theorem c_Y_asks {l : Launch} {D : va_G} {cI cZ : ClassId} {ad : Nat → Nat} {n : Nat} {M : MY} {a1 : Int32} {r0 : Int32} {M0 : MY} (hj : j_Y_asks n M a1 = some (r0, M0)) : gw_Cz l y_Y_asks ws_Y_asks rm_Y_asks D (tyY cI cZ) (wY cI cZ ad M) [.ref (ad 0), .int a1] r0 (wY cI cZ ad M0) := by
  intro sz
  refine gw_metz (cc := b_Y_asks) (maxL := 2) (by decide) rfl (Nat.le_of_ble_eq_true rfl) ?_
  intro p e s m args below meth c A Q S H locs hw hend ls hl
  have S : CallFix p m c b_Y_asks 2 s args ws_Y_asks R_Y := S
  have hx := S.1
  have hb := S.2.1
  have hts := S.2.2.2.2
  have hl : lv_has ls 2 [(0, .ref (ad 0)), (1, .int a1)] := hl
  have n_T_Y : ∀ w ∈ u_ws R_Y T_Y 29, w ∈ ws_Y_asks := fun w h => List.mem_cons_of_mem _ (uT_Y w h)
  have f_62 : Cond.fieldLink R_Y 62 (T_Y 0).1 (T_Y 0).2.1 (T_Y 0).2.2.1 ∈ ws_Y_asks := List.mem_cons_of_mem _ xw_266
  have f_122 : Cond.fieldLink R_Y 122 (T_Y 10).1 (T_Y 10).2.1 (T_Y 10).2.2.1 ∈ ws_Y_asks := List.mem_cons_of_mem _ xw_323
  have w_70 : CallW rm_Y_asks s args R_Y R_Y 70 y_Y_isTask b_Y_isTask 2 (some .boolean) ws_Y_isTask rm_Y_isTask 0 0 1 := cwV 1 hts (wB_callV (fun w h => List.mem_cons_of_mem _ h) xw_274 xw_275 xw_276 xw_277 xw_278) rfl rfl rfl (by decide +kernel) ⟨Nat.le_of_ble_eq_true rfl, Nat.le_of_ble_eq_true rfl⟩
  have w_103 : CallW rm_Y_asks s args R_Y R_Y 103 y_Y_blocking b_Y_blocking 2 (some .int) ws_Y_blocking rm_Y_blocking 0 0 1 := cwV 1 hts (wB_callV (fun w h => List.mem_cons_of_mem _ h) xw_309 xw_310 xw_311 xw_312 xw_278) rfl rfl rfl (by decide +kernel) ⟨Nat.le_of_ble_eq_true rfl, Nat.le_of_ble_eq_true rfl⟩
  have w_137 : CallW rm_Y_asks s args R_Y R_Y 137 y_Y_go b_Y_go 5 none ws_Y_go rm_Y_go 0 0 2 := cwV 2 hts (wB_callV (fun w h => List.mem_cons_of_mem _ h) xw_337 xw_338 xw_339 xw_340 xw_278) rfl rfl rfl (by decide +kernel) ⟨Nat.le_of_ble_eq_true rfl, Nat.le_of_ble_eq_true rfl⟩
  have w_141 : CallW rm_Y_asks s args R_Y R_Y 141 y_Y_isReady b_Y_isReady 3 (some .boolean) ws_Y_isReady rm_Y_isReady 0 0 0 := cwV 0 hts (wB_callV (fun w h => List.mem_cons_of_mem _ h) xw_341 xw_342 xw_343 xw_344 xw_278) rfl rfl rfl (by decide +kernel) ⟨Nat.le_of_ble_eq_true rfl, Nat.le_of_ble_eq_true rfl⟩
  unfold j_Y_asks at hj
  refine lv_aload_n hx hb d_Y_asks_0 rfl (lv_at hl 0 rfl) ?_
  refine lv_aload_n hx hb d_Y_asks_1 rfl (lv_at hl 0 rfl) ?_
  refine lv_iload_n hx hb d_Y_asks_2 rfl (lv_at hl 1 rfl) ?_
  obtain ⟨r_2, e_1, hj⟩ := Option.bind_eq_some_iff.mp hj
  refine gw_calli (As := [.int a1]) (rest := [.ref (ad 0)]) S hw (c_Y_isTask e_1) w_70 ya_R rfl rfl hl.1 rfl (Nat.le_of_ble_eq_true rfl) d_Y_asks_3 (fun H locs hw => ?_)
  refine lv_if_ne (tgt := 13) hx hb d_Y_asks_6 (by decide) (fun c_3 => ?_) (fun c_3 => ?_)
  · rw [if_neg c_3] at hj
    refine lv_aload_n hx hb d_Y_asks_13 rfl (lv_at hl 0 rfl) ?_
    obtain ⟨r_5, e_4, hj⟩ := Option.bind_eq_some_iff.mp hj
    refine gw_calli (As := []) (rest := [.ref (ad 0)]) S hw (c_Y_isReady e_4) w_141 ya_R rfl rfl hl.1 rfl (Nat.le_of_ble_eq_true rfl) d_Y_asks_14 (fun H locs hw => ?_)
    refine lv_if_ne (tgt := 24) hx hb d_Y_asks_17 (by decide) (fun c_6 => ?_) (fun c_6 => ?_)
    · rw [if_neg c_6] at hj
      refine lv_iconst (v := 0) hx hb d_Y_asks_24 (by decide) ?_
      refine gw_put (v := .int 0) (ty := .int) S hw ya_R rfl (by decide) n_T_Y f_62 tk_Y nm_Y rfl (by decide +kernel) rfl rfl (Nat.le_of_ble_eq_true rfl) (ys_R 0 0 (by decide)) d_Y_asks_25 (fun H locs hw => ?_)
      refine lv_aload_n hx hb d_Y_asks_28 rfl (lv_at hl 0 rfl) ?_
      refine gw_get (v := .int ((sV M 0 0).2 0)) S hw ya_R rfl (by decide) n_T_Y f_62 rfl d_Y_asks_29 ?_
      refine lv_if_eq (tgt := 37) hx hb d_Y_asks_32 (by decide) (fun c_7 => ?_) (fun c_7 => ?_)
      · rw [if_pos c_7] at hj
        refine lv_aload_n hx hb d_Y_asks_37 rfl (lv_at hl 0 rfl) ?_
        refine lv_iload_n hx hb d_Y_asks_38 rfl (lv_at hl 1 rfl) ?_
        refine lv_aload_n hx hb d_Y_asks_39 rfl (lv_at hl 0 rfl) ?_
        refine lv_iload_n hx hb d_Y_asks_40 rfl (lv_at hl 1 rfl) ?_
        obtain ⟨r_9, e_8, hj⟩ := Option.bind_eq_some_iff.mp hj
        refine gw_calli (As := [.int a1]) (rest := [.int a1, .ref (ad 0)]) S hw (c_Y_blocking e_8) w_103 ya_R rfl rfl hl.1 rfl (Nat.le_of_ble_eq_true rfl) d_Y_asks_41 (fun H locs hw => ?_)
        obtain ⟨M_11, e_10, hj⟩ := Option.bind_eq_some_iff.mp hj
        refine gw_callv (As := [.int a1, .int r_9]) (rest := []) S hw (c_Y_go e_10) w_137 ya_R rfl rfl hl.1 rfl (Nat.le_of_ble_eq_true rfl) d_Y_asks_44 (fun H locs hw => ?_)
        refine lv_aload_n hx hb d_Y_asks_47 rfl (lv_at hl 0 rfl) ?_
        refine lv_aload_n hx hb d_Y_asks_48 rfl (lv_at hl 0 rfl) ?_
        refine gw_get (v := .int (M_11.2 10)) S hw ya_R rfl (by decide) n_T_Y f_122 rfl d_Y_asks_49 ?_
        refine lv_if_eq (tgt := 59) hx hb d_Y_asks_52 (by decide) (fun c_12 => ?_) (fun c_12 => ?_)
        · rw [if_pos c_12] at hj
          refine lv_iconst (v := 0) hx hb d_Y_asks_59 (by decide) ?_
          refine gw_put (v := .int 0) (ty := .int) S hw ya_R rfl (by decide) n_T_Y f_62 tk_Y nm_Y rfl (by decide +kernel) rfl rfl (Nat.le_of_ble_eq_true rfl) (ys_R 0 0 (by decide)) d_Y_asks_60 (fun H locs hw => ?_)
          refine lv_aload_n hx hb d_Y_asks_63 rfl (lv_at hl 0 rfl) ?_
          refine gw_get (v := .int ((sV M_11 0 0).2 10)) S hw ya_R rfl (by decide) n_T_Y f_122 rfl d_Y_asks_64 ?_
          refine lv_if_ne (tgt := 74) hx hb d_Y_asks_67 (by decide) (fun c_13 => ?_) (fun c_13 => ?_)
          · rw [if_neg c_13] at hj
            refine lv_iconst (v := 0) hx hb d_Y_asks_74 (by decide) ?_
            exact hend H locs ls 75 _ _ (Prod.mk.inj (Option.some.inj hj)).1 (congrArg (wY cI cZ ad) (Prod.mk.inj (Option.some.inj hj)).2) (Or.inl rfl) hw d_Y_asks_75
          · rw [if_pos c_13] at hj
            refine lv_iconst (v := 1) hx hb d_Y_asks_70 (by decide) ?_
            refine lv_goto (tgt := 75) hx hb d_Y_asks_71 (by decide) ?_
            exact hend H locs ls 75 _ _ (Prod.mk.inj (Option.some.inj hj)).1 (congrArg (wY cI cZ ad) (Prod.mk.inj (Option.some.inj hj)).2) (Or.inr rfl) hw d_Y_asks_75
        · rw [if_neg c_12] at hj
          refine lv_iconst (v := 3) hx hb d_Y_asks_55 (by decide) ?_
          refine lv_goto (tgt := 60) hx hb d_Y_asks_56 (by decide) ?_
          refine gw_put (v := .int 3) (ty := .int) S hw ya_R rfl (by decide) n_T_Y f_62 tk_Y nm_Y rfl (by decide +kernel) rfl rfl (Nat.le_of_ble_eq_true rfl) (ys_R 0 3 (by decide)) d_Y_asks_60 (fun H locs hw => ?_)
          refine lv_aload_n hx hb d_Y_asks_63 rfl (lv_at hl 0 rfl) ?_
          refine gw_get (v := .int ((sV M_11 0 3).2 10)) S hw ya_R rfl (by decide) n_T_Y f_122 rfl d_Y_asks_64 ?_
          refine lv_if_ne (tgt := 74) hx hb d_Y_asks_67 (by decide) (fun c_14 => ?_) (fun c_14 => ?_)
          · rw [if_neg c_14] at hj
            refine lv_iconst (v := 0) hx hb d_Y_asks_74 (by decide) ?_
            exact hend H locs ls 75 _ _ (Prod.mk.inj (Option.some.inj hj)).1 (congrArg (wY cI cZ ad) (Prod.mk.inj (Option.some.inj hj)).2) (Or.inl rfl) hw d_Y_asks_75
          · rw [if_pos c_14] at hj
            refine lv_iconst (v := 1) hx hb d_Y_asks_70 (by decide) ?_
            refine lv_goto (tgt := 75) hx hb d_Y_asks_71 (by decide) ?_
            exact hend H locs ls 75 _ _ (Prod.mk.inj (Option.some.inj hj)).1 (congrArg (wY cI cZ ad) (Prod.mk.inj (Option.some.inj hj)).2) (Or.inr rfl) hw d_Y_asks_75
      · rw [if_neg c_7] at hj
        refine lv_iconst (v := 0) hx hb d_Y_asks_35 (by decide) ?_
        exact hend H locs ls 36 _ _ (Prod.mk.inj (Option.some.inj hj)).1 (congrArg (wY cI cZ ad) (Prod.mk.inj (Option.some.inj hj)).2) (Or.inl rfl) hw d_Y_asks_36
    · rw [if_pos c_6] at hj
      refine lv_iconst (v := 2) hx hb d_Y_asks_20 (by decide) ?_
      refine lv_goto (tgt := 25) hx hb d_Y_asks_21 (by decide) ?_
      refine gw_put (v := .int 2) (ty := .int) S hw ya_R rfl (by decide) n_T_Y f_62 tk_Y nm_Y rfl (by decide +kernel) rfl rfl (Nat.le_of_ble_eq_true rfl) (ys_R 0 2 (by decide)) d_Y_asks_25 (fun H locs hw => ?_)
      refine lv_aload_n hx hb d_Y_asks_28 rfl (lv_at hl 0 rfl) ?_
      refine gw_get (v := .int ((sV M 0 2).2 0)) S hw ya_R rfl (by decide) n_T_Y f_62 rfl d_Y_asks_29 ?_
      refine lv_if_eq (tgt := 37) hx hb d_Y_asks_32 (by decide) (fun c_15 => ?_) (fun c_15 => ?_)
      · rw [if_pos c_15] at hj
        refine lv_aload_n hx hb d_Y_asks_37 rfl (lv_at hl 0 rfl) ?_
        refine lv_iload_n hx hb d_Y_asks_38 rfl (lv_at hl 1 rfl) ?_
        refine lv_aload_n hx hb d_Y_asks_39 rfl (lv_at hl 0 rfl) ?_
        refine lv_iload_n hx hb d_Y_asks_40 rfl (lv_at hl 1 rfl) ?_
        obtain ⟨r_17, e_16, hj⟩ := Option.bind_eq_some_iff.mp hj
        refine gw_calli (As := [.int a1]) (rest := [.int a1, .ref (ad 0)]) S hw (c_Y_blocking e_16) w_103 ya_R rfl rfl hl.1 rfl (Nat.le_of_ble_eq_true rfl) d_Y_asks_41 (fun H locs hw => ?_)
        obtain ⟨M_19, e_18, hj⟩ := Option.bind_eq_some_iff.mp hj
        refine gw_callv (As := [.int a1, .int r_17]) (rest := []) S hw (c_Y_go e_18) w_137 ya_R rfl rfl hl.1 rfl (Nat.le_of_ble_eq_true rfl) d_Y_asks_44 (fun H locs hw => ?_)
        refine lv_aload_n hx hb d_Y_asks_47 rfl (lv_at hl 0 rfl) ?_
        refine lv_aload_n hx hb d_Y_asks_48 rfl (lv_at hl 0 rfl) ?_
        refine gw_get (v := .int (M_19.2 10)) S hw ya_R rfl (by decide) n_T_Y f_122 rfl d_Y_asks_49 ?_
        refine lv_if_eq (tgt := 59) hx hb d_Y_asks_52 (by decide) (fun c_20 => ?_) (fun c_20 => ?_)
        · rw [if_pos c_20] at hj
          refine lv_iconst (v := 0) hx hb d_Y_asks_59 (by decide) ?_
          refine gw_put (v := .int 0) (ty := .int) S hw ya_R rfl (by decide) n_T_Y f_62 tk_Y nm_Y rfl (by decide +kernel) rfl rfl (Nat.le_of_ble_eq_true rfl) (ys_R 0 0 (by decide)) d_Y_asks_60 (fun H locs hw => ?_)
          refine lv_aload_n hx hb d_Y_asks_63 rfl (lv_at hl 0 rfl) ?_
          refine gw_get (v := .int ((sV M_19 0 0).2 10)) S hw ya_R rfl (by decide) n_T_Y f_122 rfl d_Y_asks_64 ?_
          refine lv_if_ne (tgt := 74) hx hb d_Y_asks_67 (by decide) (fun c_21 => ?_) (fun c_21 => ?_)
          · rw [if_neg c_21] at hj
            refine lv_iconst (v := 0) hx hb d_Y_asks_74 (by decide) ?_
            exact hend H locs ls 75 _ _ (Prod.mk.inj (Option.some.inj hj)).1 (congrArg (wY cI cZ ad) (Prod.mk.inj (Option.some.inj hj)).2) (Or.inl rfl) hw d_Y_asks_75
          · rw [if_pos c_21] at hj
            refine lv_iconst (v := 1) hx hb d_Y_asks_70 (by decide) ?_
            refine lv_goto (tgt := 75) hx hb d_Y_asks_71 (by decide) ?_
            exact hend H locs ls 75 _ _ (Prod.mk.inj (Option.some.inj hj)).1 (congrArg (wY cI cZ ad) (Prod.mk.inj (Option.some.inj hj)).2) (Or.inr rfl) hw d_Y_asks_75
        · rw [if_neg c_20] at hj
          refine lv_iconst (v := 3) hx hb d_Y_asks_55 (by decide) ?_
          refine lv_goto (tgt := 60) hx hb d_Y_asks_56 (by decide) ?_
          refine gw_put (v := .int 3) (ty := .int) S hw ya_R rfl (by decide) n_T_Y f_62 tk_Y nm_Y rfl (by decide +kernel) rfl rfl (Nat.le_of_ble_eq_true rfl) (ys_R 0 3 (by decide)) d_Y_asks_60 (fun H locs hw => ?_)
          refine lv_aload_n hx hb d_Y_asks_63 rfl (lv_at hl 0 rfl) ?_
          refine gw_get (v := .int ((sV M_19 0 3).2 10)) S hw ya_R rfl (by decide) n_T_Y f_122 rfl d_Y_asks_64 ?_
          refine lv_if_ne (tgt := 74) hx hb d_Y_asks_67 (by decide) (fun c_22 => ?_) (fun c_22 => ?_)
          · rw [if_neg c_22] at hj
            refine lv_iconst (v := 0) hx hb d_Y_asks_74 (by decide) ?_
            exact hend H locs ls 75 _ _ (Prod.mk.inj (Option.some.inj hj)).1 (congrArg (wY cI cZ ad) (Prod.mk.inj (Option.some.inj hj)).2) (Or.inl rfl) hw d_Y_asks_75
          · rw [if_pos c_22] at hj
            refine lv_iconst (v := 1) hx hb d_Y_asks_70 (by decide) ?_
            refine lv_goto (tgt := 75) hx hb d_Y_asks_71 (by decide) ?_
            exact hend H locs ls 75 _ _ (Prod.mk.inj (Option.some.inj hj)).1 (congrArg (wY cI cZ ad) (Prod.mk.inj (Option.some.inj hj)).2) (Or.inr rfl) hw d_Y_asks_75
      · rw [if_neg c_15] at hj
        refine lv_iconst (v := 0) hx hb d_Y_asks_35 (by decide) ?_
        exact hend H locs ls 36 _ _ (Prod.mk.inj (Option.some.inj hj)).1 (congrArg (wY cI cZ ad) (Prod.mk.inj (Option.some.inj hj)).2) (Or.inl rfl) hw d_Y_asks_36
  · rw [if_pos c_3] at hj
    refine lv_iconst (v := 1) hx hb d_Y_asks_9 (by decide) ?_
    refine lv_goto (tgt := 25) hx hb d_Y_asks_10 (by decide) ?_
    refine gw_put (v := .int 1) (ty := .int) S hw ya_R rfl (by decide) n_T_Y f_62 tk_Y nm_Y rfl (by decide +kernel) rfl rfl (Nat.le_of_ble_eq_true rfl) (ys_R 0 1 (by decide)) d_Y_asks_25 (fun H locs hw => ?_)
    refine lv_aload_n hx hb d_Y_asks_28 rfl (lv_at hl 0 rfl) ?_
    refine gw_get (v := .int ((sV M 0 1).2 0)) S hw ya_R rfl (by decide) n_T_Y f_62 rfl d_Y_asks_29 ?_
    refine lv_if_eq (tgt := 37) hx hb d_Y_asks_32 (by decide) (fun c_23 => ?_) (fun c_23 => ?_)
    · rw [if_pos c_23] at hj
      refine lv_aload_n hx hb d_Y_asks_37 rfl (lv_at hl 0 rfl) ?_
      refine lv_iload_n hx hb d_Y_asks_38 rfl (lv_at hl 1 rfl) ?_
      refine lv_aload_n hx hb d_Y_asks_39 rfl (lv_at hl 0 rfl) ?_
      refine lv_iload_n hx hb d_Y_asks_40 rfl (lv_at hl 1 rfl) ?_
      obtain ⟨r_25, e_24, hj⟩ := Option.bind_eq_some_iff.mp hj
      refine gw_calli (As := [.int a1]) (rest := [.int a1, .ref (ad 0)]) S hw (c_Y_blocking e_24) w_103 ya_R rfl rfl hl.1 rfl (Nat.le_of_ble_eq_true rfl) d_Y_asks_41 (fun H locs hw => ?_)
      obtain ⟨M_27, e_26, hj⟩ := Option.bind_eq_some_iff.mp hj
      refine gw_callv (As := [.int a1, .int r_25]) (rest := []) S hw (c_Y_go e_26) w_137 ya_R rfl rfl hl.1 rfl (Nat.le_of_ble_eq_true rfl) d_Y_asks_44 (fun H locs hw => ?_)
      refine lv_aload_n hx hb d_Y_asks_47 rfl (lv_at hl 0 rfl) ?_
      refine lv_aload_n hx hb d_Y_asks_48 rfl (lv_at hl 0 rfl) ?_
      refine gw_get (v := .int (M_27.2 10)) S hw ya_R rfl (by decide) n_T_Y f_122 rfl d_Y_asks_49 ?_
      refine lv_if_eq (tgt := 59) hx hb d_Y_asks_52 (by decide) (fun c_28 => ?_) (fun c_28 => ?_)
      · rw [if_pos c_28] at hj
        refine lv_iconst (v := 0) hx hb d_Y_asks_59 (by decide) ?_
        refine gw_put (v := .int 0) (ty := .int) S hw ya_R rfl (by decide) n_T_Y f_62 tk_Y nm_Y rfl (by decide +kernel) rfl rfl (Nat.le_of_ble_eq_true rfl) (ys_R 0 0 (by decide)) d_Y_asks_60 (fun H locs hw => ?_)
        refine lv_aload_n hx hb d_Y_asks_63 rfl (lv_at hl 0 rfl) ?_
        refine gw_get (v := .int ((sV M_27 0 0).2 10)) S hw ya_R rfl (by decide) n_T_Y f_122 rfl d_Y_asks_64 ?_
        refine lv_if_ne (tgt := 74) hx hb d_Y_asks_67 (by decide) (fun c_29 => ?_) (fun c_29 => ?_)
        · rw [if_neg c_29] at hj
          refine lv_iconst (v := 0) hx hb d_Y_asks_74 (by decide) ?_
          exact hend H locs ls 75 _ _ (Prod.mk.inj (Option.some.inj hj)).1 (congrArg (wY cI cZ ad) (Prod.mk.inj (Option.some.inj hj)).2) (Or.inl rfl) hw d_Y_asks_75
        · rw [if_pos c_29] at hj
          refine lv_iconst (v := 1) hx hb d_Y_asks_70 (by decide) ?_
          refine lv_goto (tgt := 75) hx hb d_Y_asks_71 (by decide) ?_
          exact hend H locs ls 75 _ _ (Prod.mk.inj (Option.some.inj hj)).1 (congrArg (wY cI cZ ad) (Prod.mk.inj (Option.some.inj hj)).2) (Or.inr rfl) hw d_Y_asks_75
      · rw [if_neg c_28] at hj
        refine lv_iconst (v := 3) hx hb d_Y_asks_55 (by decide) ?_
        refine lv_goto (tgt := 60) hx hb d_Y_asks_56 (by decide) ?_
        refine gw_put (v := .int 3) (ty := .int) S hw ya_R rfl (by decide) n_T_Y f_62 tk_Y nm_Y rfl (by decide +kernel) rfl rfl (Nat.le_of_ble_eq_true rfl) (ys_R 0 3 (by decide)) d_Y_asks_60 (fun H locs hw => ?_)
        refine lv_aload_n hx hb d_Y_asks_63 rfl (lv_at hl 0 rfl) ?_
        refine gw_get (v := .int ((sV M_27 0 3).2 10)) S hw ya_R rfl (by decide) n_T_Y f_122 rfl d_Y_asks_64 ?_
        refine lv_if_ne (tgt := 74) hx hb d_Y_asks_67 (by decide) (fun c_30 => ?_) (fun c_30 => ?_)
        · rw [if_neg c_30] at hj
          refine lv_iconst (v := 0) hx hb d_Y_asks_74 (by decide) ?_
          exact hend H locs ls 75 _ _ (Prod.mk.inj (Option.some.inj hj)).1 (congrArg (wY cI cZ ad) (Prod.mk.inj (Option.some.inj hj)).2) (Or.inl rfl) hw d_Y_asks_75
        · rw [if_pos c_30] at hj
          refine lv_iconst (v := 1) hx hb d_Y_asks_70 (by decide) ?_
          refine lv_goto (tgt := 75) hx hb d_Y_asks_71 (by decide) ?_
          exact hend H locs ls 75 _ _ (Prod.mk.inj (Option.some.inj hj)).1 (congrArg (wY cI cZ ad) (Prod.mk.inj (Option.some.inj hj)).2) (Or.inr rfl) hw d_Y_asks_75
    · rw [if_neg c_23] at hj
      refine lv_iconst (v := 0) hx hb d_Y_asks_35 (by decide) ?_
      exact hend H locs ls 36 _ _ (Prod.mk.inj (Option.some.inj hj)).1 (congrArg (wY cI cZ ad) (Prod.mk.inj (Option.some.inj hj)).2) (Or.inl rfl) hw d_Y_asks_36
abbrev rm_Y_response : Room := { frames := 4, cells := 0, slots := 0, locals := 91 }
def ws_Y_response : List Cond := Cond.code y_Y_response b_Y_response 2 (some .int) :: wB
set_option maxHeartbeats 4000000 in
set_option maxRecDepth 100000 in
theorem c_Y_response {l : Launch} {D : va_G} {cI cZ : ClassId} {ad : Nat → Nat} {n : Nat} {M : MY} {a1 : Int32} {r0 : Int32} {M0 : MY} (hj : j_Y_response n M a1 = some (r0, M0)) : gw_Ci l y_Y_response ws_Y_response rm_Y_response D (tyY cI cZ) (wY cI cZ ad M) [.ref (ad 0), .int a1] r0 (wY cI cZ ad M0) := by
  intro sz
  refine gw_meti (cc := b_Y_response) (maxL := 2) (by decide) rfl (Nat.le_of_ble_eq_true rfl) ?_
  intro p e s m args below meth c A Q S H locs hw hend ls hl
  have S : CallFix p m c b_Y_response 2 s args ws_Y_response R_Y := S
  have hx := S.1
  have hb := S.2.1
  have hts := S.2.2.2.2
  have hl : lv_has ls 2 [(0, .ref (ad 0)), (1, .int a1)] := hl
  have n_T_Y : ∀ w ∈ u_ws R_Y T_Y 29, w ∈ ws_Y_response := fun w h => List.mem_cons_of_mem _ (uT_Y w h)
  have f_113 : Cond.fieldLink R_Y 113 (T_Y 11).1 (T_Y 11).2.1 (T_Y 11).2.2.1 ∈ ws_Y_response := List.mem_cons_of_mem _ xw_320
  have w_152 : CallW rm_Y_response s args R_Y R_Y 152 y_Y_asks b_Y_asks 2 (some .boolean) ws_Y_asks rm_Y_asks 0 0 1 := cwV 1 hts (wB_callV (fun w h => List.mem_cons_of_mem _ h) xw_353 xw_354 xw_355 xw_356 xw_278) rfl rfl rfl (by decide +kernel) ⟨Nat.le_of_ble_eq_true rfl, Nat.le_of_ble_eq_true rfl⟩
  unfold j_Y_response at hj
  refine lv_aload_n hx hb d_Y_response_0 rfl (lv_at hl 0 rfl) ?_
  refine lv_iload_n hx hb d_Y_response_1 rfl (lv_at hl 1 rfl) ?_
  obtain ⟨q_2, e_1, hj⟩ := Option.bind_eq_some_iff.mp hj
  refine gw_calli (As := [.int a1]) (rest := []) S hw (c_Y_asks e_1) w_152 ya_R rfl rfl hl.1 rfl (Nat.le_of_ble_eq_true rfl) d_Y_response_2 (fun H locs hw => ?_)
  refine lv_if_eq (tgt := 15) hx hb d_Y_response_5 (by decide) (fun c_3 => ?_) (fun c_3 => ?_)
  · rw [if_pos c_3] at hj
    refine lv_iconst (v := 0) hx hb d_Y_response_15 (by decide) ?_
    exact hend H locs ls 16 _ _ (Prod.mk.inj (Option.some.inj hj)).1 (congrArg (wY cI cZ ad) (Prod.mk.inj (Option.some.inj hj)).2) hw d_Y_response_16
  · rw [if_neg c_3] at hj
    refine lv_aload_n hx hb d_Y_response_8 rfl (lv_at hl 0 rfl) ?_
    refine gw_get (v := .int (q_2.2.2 11)) S hw ya_R rfl (by decide) n_T_Y f_113 rfl d_Y_response_9 ?_
    refine lv_goto (tgt := 16) hx hb d_Y_response_12 (by decide) ?_
    exact hend H locs ls 16 _ _ (Prod.mk.inj (Option.some.inj hj)).1 (congrArg (wY cI cZ ad) (Prod.mk.inj (Option.some.inj hj)).2) hw d_Y_response_16
