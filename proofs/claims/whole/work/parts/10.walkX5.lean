abbrev rm_K_highestWithJob : Room := { frames := 1, cells := 0, slots := 0, locals := 20 }
def ws_K_highestWithJob : List Cond := Cond.code y_K_highestWithJob b_K_highestWithJob 2 (some (.object "SegmentKernel$Task")) :: wB
set_option maxHeartbeats 4000000 in
set_option maxRecDepth 100000 in
theorem c_K_highestWithJob {l : Launch} {D : va_G} {cI cT : ClassId} {ad : Nat → Nat} {n : Nat} {M : MX} {r0 : Option (Fin 8)} (hj : j_K_highestWithJob n M = some r0) : gw_Cq l y_K_highestWithJob ws_K_highestWithJob rm_K_highestWithJob D (tyX cI cT) (wX cI cT ad M) [.ref (ad 5)] (gw_oa ad r0) (wX cI cT ad M) := by
  intro sz
  refine gw_metq (cc := b_K_highestWithJob) (maxL := 2) (by decide) rfl (Nat.le_of_ble_eq_true rfl) ?_
  intro p e s m args below meth c A Q S H locs hw hend ls hl
  have S : CallFix p m c b_K_highestWithJob 2 s args ws_K_highestWithJob R_K := S
  have hx := S.1
  have hb := S.2.1
  have hts := S.2.2.2.2
  have hl : lv_has ls 2 [(0, .ref (ad 5))] := hl
  have n_T_K : ∀ w ∈ u_ws R_K T_K 6, w ∈ ws_K_highestWithJob := fun w h => List.mem_cons_of_mem _ (uT_K w h)
  have n_T_S : ∀ w ∈ u_ws R_S T_S 3, w ∈ ws_K_highestWithJob := fun w h => List.mem_cons_of_mem _ (uT_S w h)
  have n_T_T : ∀ w ∈ u_ws R_T T_T 13, w ∈ ws_K_highestWithJob := fun w h => List.mem_cons_of_mem _ (uT_T w h)
  have f_7 : Cond.fieldLink R_K 7 (T_K 0).1 (T_K 0).2.1 (T_K 0).2.2.1 ∈ ws_K_highestWithJob := List.mem_cons_of_mem _ xw_64
  have f_13 : Cond.fieldLink R_K 13 (T_S 2).1 (T_S 2).2.1 (T_S 2).2.2.1 ∈ ws_K_highestWithJob := List.mem_cons_of_mem _ xw_65
  have f_19 : Cond.fieldLink R_K 19 (T_S 1).1 (T_S 1).2.1 (T_S 1).2.2.1 ∈ ws_K_highestWithJob := List.mem_cons_of_mem _ xw_66
  have f_23 : Cond.fieldLink R_K 23 (T_T 1).1 (T_T 1).2.1 (T_T 1).2.2.1 ∈ ws_K_highestWithJob := List.mem_cons_of_mem _ xw_67
  have w_102 : CallW rm_K_highestWithJob s args R_K R_J 102 y_J_hasOpen b_J_hasOpen 1 (some .boolean) ws_J_hasOpen rm_J_hasOpen 0 0 0 := cwV 0 hts (wB_callV (fun w h => List.mem_cons_of_mem _ h) xw_218 xw_219 xw_220 xw_221 xw_77) rfl rfl rfl (by decide +kernel) ⟨Nat.le_of_ble_eq_true rfl, Nat.le_of_ble_eq_true rfl⟩
  have L2 : ∀ (f2 : Nat) (v1_2 : Int32), j_K_highestWithJob_L2 n M f2 v1_2 = some r0 → ∀ (H : Heap) (locs : List Loc), gw_W D (tyX cI cT) A (wX cI cT ad M) s H locs → ∀ ls : Array Slot, lv_has ls 2 [(0, .ref (ad 5)), (1, .int v1_2)] → W p l e rm_K_highestWithJob s m args below meth c H locs 0 0 Q (F0 m 2 ls []) := by
    intro f2
    induction f2 with
    | zero =>
      intro v1_2 hj
      exact nomatch (show (none : Option (Option (Fin 8))) = some r0 from hj)
    | succ f2 ih2 =>
      intro v1_2 hj H locs hw ls hl
      rw [j_K_highestWithJob_L2] at hj
      refine lv_iload_n hx hb d_K_highestWithJob_2 rfl (lv_at hl 1 rfl) ?_
      refine lv_aload_n hx hb d_K_highestWithJob_3 rfl (lv_at hl 0 rfl) ?_
      refine gw_get (v := .ref (ad 1)) S hw xa_K rfl (by decide) n_T_K f_7 rfl d_K_highestWithJob_4 ?_
      refine gw_get (v := .int (M.2.1 0 2)) S hw xa_S rfl (by decide) n_T_S f_13 rfl d_K_highestWithJob_7 ?_
      refine lv_icmp_ge (tgt := 47) hx hb d_K_highestWithJob_10 (by decide) (fun c_1 => ?_) (fun c_1 => ?_)
      · rw [if_pos c_1] at hj
        refine lv_null hx hb d_K_highestWithJob_47 ?_
        exact hend H locs ls 48 _ _ (congrArg (gw_oa ad) (Option.some.inj hj)) rfl hw d_K_highestWithJob_48
      · rw [if_neg c_1] at hj
        refine lv_aload_n hx hb d_K_highestWithJob_13 rfl (lv_at hl 0 rfl) ?_
        refine gw_get (v := .ref (ad 1)) S hw xa_K rfl (by decide) n_T_K f_7 rfl d_K_highestWithJob_14 ?_
        refine gw_get (v := .ref (ad 3)) S hw xa_S rfl (by decide) n_T_S f_19 rfl d_K_highestWithJob_17 ?_
        refine lv_iload_n hx hb d_K_highestWithJob_20 rfl (lv_at hl 1 rfl) ?_
        obtain ⟨g_2, hj⟩ := gw_if hj
        refine gw_aldq (t0 := 1) S hw ⟨xa_rk, rfl⟩ g_2 d_K_highestWithJob_21 ?_
        refine gw_get (v := .ref (ad (14 + (M.2.2.1 v1_2.toNatClampNeg).val))) S hw (xa_T (M.2.2.1 v1_2.toNatClampNeg)) rfl (by decide) n_T_T f_23 rfl d_K_highestWithJob_22 ?_
        obtain ⟨r_4, e_3, hj⟩ := Option.bind_eq_some_iff.mp hj
        refine gw_calli (As := []) (rest := []) S hw (c_J_hasOpen e_3) w_102 (xa_J (M.2.2.1 v1_2.toNatClampNeg)) rfl rfl hl.1 rfl (Nat.le_of_ble_eq_true rfl) d_K_highestWithJob_25 (fun H locs hw => ?_)
        refine lv_if_eq (tgt := 41) hx hb d_K_highestWithJob_28 (by decide) (fun c_5 => ?_) (fun c_5 => ?_)
        · rw [if_pos c_5] at hj
          refine lv_iinc (v := (v1_2 + 1)) (lv' := [(1, .int (v1_2 + 1)), (0, .ref (ad 5))]) hx hb d_K_highestWithJob_41 hl (k := 1) rfl rfl (by decide) rfl (fun ls hl => ?_)
          refine lv_goto (tgt := 2) hx hb d_K_highestWithJob_44 (by decide) ?_
          exact ih2 (v1_2 + 1) hj H locs hw ls (lv_sub hl [1, 0] rfl)
        · rw [if_neg c_5] at hj
          refine lv_aload_n hx hb d_K_highestWithJob_31 rfl (lv_at hl 0 rfl) ?_
          refine gw_get (v := .ref (ad 1)) S hw xa_K rfl (by decide) n_T_K f_7 rfl d_K_highestWithJob_32 ?_
          refine gw_get (v := .ref (ad 3)) S hw xa_S rfl (by decide) n_T_S f_19 rfl d_K_highestWithJob_35 ?_
          refine lv_iload_n hx hb d_K_highestWithJob_38 rfl (lv_at hl 1 rfl) ?_
          obtain ⟨g_6, hj⟩ := gw_if hj
          refine gw_aldq (t0 := 1) S hw ⟨xa_rk, rfl⟩ g_6 d_K_highestWithJob_39 ?_
          exact hend H locs ls 40 _ _ (congrArg (gw_oa ad) (Option.some.inj hj)) rfl hw d_K_highestWithJob_40
  unfold j_K_highestWithJob at hj
  refine lv_iconst (v := 0) hx hb d_K_highestWithJob_0 (by decide) ?_
  refine lv_istore_n (lv' := [(1, .int 0), (0, .ref (ad 5))]) hx hb d_K_highestWithJob_1 rfl hl (by decide) rfl (fun ls hl => ?_)
  exact L2 n 0 hj H locs hw ls (lv_sub hl [1, 0] rfl)
abbrev rm_K_beginSegment : Room := { frames := 2, cells := 0, slots := 0, locals := 41 }
def ws_K_beginSegment : List Cond := Cond.code y_K_beginSegment b_K_beginSegment 2 none :: wB
set_option maxHeartbeats 4000000 in
set_option maxRecDepth 100000 in
theorem c_K_beginSegment {l : Launch} {D : va_G} {cI cT : ClassId} {ad : Nat → Nat} {n : Nat} {M : MX} {M0 : MX} (hj : j_K_beginSegment n M = some M0) : gw_Cv l y_K_beginSegment ws_K_beginSegment rm_K_beginSegment D (tyX cI cT) (wX cI cT ad M) [.ref (ad 5)] (wX cI cT ad M0) := by
  intro sz
  refine gw_metv (cc := b_K_beginSegment) (maxL := 2) (by decide) rfl (Nat.le_of_ble_eq_true rfl) ?_
  intro p e s m args below meth c A Q S H locs hw hend ls hl
  have S : CallFix p m c b_K_beginSegment 2 s args ws_K_beginSegment R_K := S
  have hx := S.1
  have hb := S.2.1
  have hts := S.2.2.2.2
  have hl : lv_has ls 2 [(0, .ref (ad 5))] := hl
  have hinj := xi_inj hw
  have n_T_J : ∀ w ∈ u_ws R_J T_J 8, w ∈ ws_K_beginSegment := fun w h => List.mem_cons_of_mem _ (uT_J w h)
  have n_T_K : ∀ w ∈ u_ws R_K T_K 6, w ∈ ws_K_beginSegment := fun w h => List.mem_cons_of_mem _ (uT_K w h)
  have n_T_T : ∀ w ∈ u_ws R_T T_T 13, w ∈ ws_K_beginSegment := fun w h => List.mem_cons_of_mem _ (uT_T w h)
  have f_23 : Cond.fieldLink R_K 23 (T_T 1).1 (T_T 1).2.1 (T_T 1).2.2.1 ∈ ws_K_beginSegment := List.mem_cons_of_mem _ xw_67
  have f_41 : Cond.fieldLink R_K 41 (T_K 3).1 (T_K 3).2.1 (T_K 3).2.2.1 ∈ ws_K_beginSegment := List.mem_cons_of_mem _ xw_70
  have f_44 : Cond.fieldLink R_K 44 (T_K 4).1 (T_K 4).2.1 (T_K 4).2.2.1 ∈ ws_K_beginSegment := List.mem_cons_of_mem _ xw_71
  have f_48 : Cond.fieldLink R_K 48 (T_K 5).1 (T_K 5).2.1 (T_K 5).2.2.1 ∈ ws_K_beginSegment := List.mem_cons_of_mem _ xw_72
  have f_82 : Cond.fieldLink R_K 82 (T_J 5).1 (T_J 5).2.1 (T_J 5).2.2.1 ∈ ws_K_beginSegment := List.mem_cons_of_mem _ xw_222
  have f_85 : Cond.fieldLink R_K 85 (T_J 7).1 (T_J 7).2.1 (T_J 7).2.2.1 ∈ ws_K_beginSegment := List.mem_cons_of_mem _ xw_223
  have w_78 : CallW rm_K_beginSegment s args R_K R_K 78 y_K_highestWithJob b_K_highestWithJob 2 (some (.object "SegmentKernel$Task")) ws_K_highestWithJob rm_K_highestWithJob 0 0 0 := cwV 0 hts (wB_callV (fun w h => List.mem_cons_of_mem _ h) xw_224 xw_225 xw_226 xw_227 xw_82) rfl rfl rfl (by decide +kernel) ⟨Nat.le_of_ble_eq_true rfl, Nat.le_of_ble_eq_true rfl⟩
  have w_88 : CallW rm_K_beginSegment s args R_K R_T 88 y_T_segmentAt b_T_segmentAt 2 (some .int) ws_T_segmentAt rm_T_segmentAt 0 0 1 := cwV 1 hts (wB_callV (fun w h => List.mem_cons_of_mem _ h) xw_110 xw_228 xw_112 xw_113 xw_21) rfl rfl rfl (by decide +kernel) ⟨Nat.le_of_ble_eq_true rfl, Nat.le_of_ble_eq_true rfl⟩
  unfold j_K_beginSegment at hj
  refine lv_aload_n hx hb d_K_beginSegment_0 rfl (lv_at hl 0 rfl) ?_
  obtain ⟨r_2, e_1, hj⟩ := Option.bind_eq_some_iff.mp hj
  refine gw_callq (As := []) (rest := []) S hw (c_K_highestWithJob e_1) w_78 xa_K rfl rfl hl.1 rfl (Nat.le_of_ble_eq_true rfl) d_K_beginSegment_1 (fun H locs hw => ?_)
  refine gw_astore_n (lv' := [(1, va_rf (gw_oa ad r_2)), (0, .ref (ad 5))]) hx hb d_K_beginSegment_4 rfl hl (by decide) rfl (fun ls hl => ?_)
  refine gw_aload_n hx hb d_K_beginSegment_5 rfl (lv_at hl 0 rfl) ?_
  rcases r_2 with _ | y_3
  · rw [gw_oc_none rfl] at hj
    refine lv_ifnonnullN hx hb d_K_beginSegment_6 ?_
    exact hend H locs ls 9 _ (congrArg (wX cI cT ad) (Option.some.inj hj)) hw d_K_beginSegment_9
  · rw [gw_oc_some rfl] at hj
    refine lv_ifnonnull (tgt := 10) hx hb d_K_beginSegment_6 (by decide) ?_
    refine lv_aload_n hx hb d_K_beginSegment_10 rfl (lv_at hl 1 rfl) ?_
    refine gw_get (v := va_rf (gw_oa ad M.2.2.2.2)) S hw xa_K rfl (by decide) n_T_K f_48 rfl d_K_beginSegment_11 ?_
    rcases o_14 : M.2.2.2.2 with _ | y_4
    · rw [gw_oc_none o_14] at hj
      refine lv_ifnullN (tgt := 41) hx hb d_K_beginSegment_14 (by decide) ?_
      refine lv_aload_n hx hb d_K_beginSegment_41 rfl (lv_at hl 1 rfl) ?_
      refine lv_null hx hb d_K_beginSegment_42 ?_
      refine gw_put (v := .null) (ty := (.object "SegmentKernel$Task")) S hw xa_K rfl (by decide) n_T_K f_48 tk_K nm_K rfl (by decide +kernel) rfl rfl (Nat.le_of_ble_eq_true rfl) (xs_P none) d_K_beginSegment_43 (fun H locs hw => ?_)
      refine lv_aload_n hx hb d_K_beginSegment_46 rfl (lv_at hl 1 rfl) ?_
      refine lv_aload_n hx hb d_K_beginSegment_47 rfl (lv_at hl 0 rfl) ?_
      refine gw_put (v := .ref (ad (6 + y_3.val))) (ty := (.object "SegmentKernel$Task")) S hw xa_K rfl (by decide) n_T_K f_44 tk_K nm_K rfl (by decide +kernel) rfl rfl (Nat.le_of_ble_eq_true rfl) (xs_U (some y_3)) d_K_beginSegment_48 (fun H locs hw => ?_)
      refine lv_aload_n hx hb d_K_beginSegment_51 rfl (lv_at hl 1 rfl) ?_
      refine lv_aload_n hx hb d_K_beginSegment_52 rfl (lv_at hl 0 rfl) ?_
      refine lv_aload_n hx hb d_K_beginSegment_53 rfl (lv_at hl 0 rfl) ?_
      refine gw_get (v := .ref (ad (14 + y_3.val))) S hw (xa_T y_3) rfl (by decide) n_T_T f_23 rfl d_K_beginSegment_54 ?_
      refine gw_get (v := .int ((sU (sP M none) (some y_3)).1 1 y_3 7)) S hw (xa_J y_3) rfl (by decide) n_T_J f_85 rfl d_K_beginSegment_57 ?_
      obtain ⟨r_6, e_5, hj⟩ := Option.bind_eq_some_iff.mp hj
      refine gw_calli (As := [.int ((sU (sP M none) (some y_3)).1 1 y_3 7)]) (rest := [.ref (ad 5)]) S hw (c_T_segmentAt e_5) w_88 (xa_T y_3) rfl rfl hl.1 rfl (Nat.le_of_ble_eq_true rfl) d_K_beginSegment_60 (fun H locs hw => ?_)
      refine gw_put (v := .int r_6) (ty := .int) S hw xa_K rfl (by decide) n_T_K f_41 tk_K nm_K rfl (by decide +kernel) rfl rfl (Nat.le_of_ble_eq_true rfl) (xs_K 3 r_6 (by decide)) d_K_beginSegment_63 (fun H locs hw => ?_)
      exact hend H locs ls 66 _ (congrArg (wX cI cT ad) (Option.some.inj hj)) hw d_K_beginSegment_66
    · rw [gw_oc_some o_14] at hj
      refine lv_ifnull hx hb d_K_beginSegment_14 ?_
      refine lv_aload_n hx hb d_K_beginSegment_17 rfl (lv_at hl 1 rfl) ?_
      refine gw_get (v := va_rf (gw_oa ad M.2.2.2.2)) S hw xa_K rfl (by decide) n_T_K f_48 rfl d_K_beginSegment_18 ?_
      refine lv_aload_n hx hb d_K_beginSegment_21 rfl (lv_at hl 0 rfl) ?_
      refine gw_acmp_eq (ad := ad) (ox := M.2.2.2.2) (oy := (some y_3)) (tgt := 41) hinj hx hb d_K_beginSegment_22 (by decide) (fun c_7 => ?_) (fun c_7 => ?_)
      · rw [if_pos c_7] at hj
        refine lv_aload_n hx hb d_K_beginSegment_41 rfl (lv_at hl 1 rfl) ?_
        refine lv_null hx hb d_K_beginSegment_42 ?_
        refine gw_put (v := .null) (ty := (.object "SegmentKernel$Task")) S hw xa_K rfl (by decide) n_T_K f_48 tk_K nm_K rfl (by decide +kernel) rfl rfl (Nat.le_of_ble_eq_true rfl) (xs_P none) d_K_beginSegment_43 (fun H locs hw => ?_)
        refine lv_aload_n hx hb d_K_beginSegment_46 rfl (lv_at hl 1 rfl) ?_
        refine lv_aload_n hx hb d_K_beginSegment_47 rfl (lv_at hl 0 rfl) ?_
        refine gw_put (v := .ref (ad (6 + y_3.val))) (ty := (.object "SegmentKernel$Task")) S hw xa_K rfl (by decide) n_T_K f_44 tk_K nm_K rfl (by decide +kernel) rfl rfl (Nat.le_of_ble_eq_true rfl) (xs_U (some y_3)) d_K_beginSegment_48 (fun H locs hw => ?_)
        refine lv_aload_n hx hb d_K_beginSegment_51 rfl (lv_at hl 1 rfl) ?_
        refine lv_aload_n hx hb d_K_beginSegment_52 rfl (lv_at hl 0 rfl) ?_
        refine lv_aload_n hx hb d_K_beginSegment_53 rfl (lv_at hl 0 rfl) ?_
        refine gw_get (v := .ref (ad (14 + y_3.val))) S hw (xa_T y_3) rfl (by decide) n_T_T f_23 rfl d_K_beginSegment_54 ?_
        refine gw_get (v := .int ((sU (sP M none) (some y_3)).1 1 y_3 7)) S hw (xa_J y_3) rfl (by decide) n_T_J f_85 rfl d_K_beginSegment_57 ?_
        obtain ⟨r_9, e_8, hj⟩ := Option.bind_eq_some_iff.mp hj
        refine gw_calli (As := [.int ((sU (sP M none) (some y_3)).1 1 y_3 7)]) (rest := [.ref (ad 5)]) S hw (c_T_segmentAt e_8) w_88 (xa_T y_3) rfl rfl hl.1 rfl (Nat.le_of_ble_eq_true rfl) d_K_beginSegment_60 (fun H locs hw => ?_)
        refine gw_put (v := .int r_9) (ty := .int) S hw xa_K rfl (by decide) n_T_K f_41 tk_K nm_K rfl (by decide +kernel) rfl rfl (Nat.le_of_ble_eq_true rfl) (xs_K 3 r_9 (by decide)) d_K_beginSegment_63 (fun H locs hw => ?_)
        exact hend H locs ls 66 _ (congrArg (wX cI cT ad) (Option.some.inj hj)) hw d_K_beginSegment_66
      · rw [if_neg c_7] at hj
        refine lv_aload_n hx hb d_K_beginSegment_25 rfl (lv_at hl 1 rfl) ?_
        refine gw_get (v := va_rf (gw_oa ad M.2.2.2.2)) S hw xa_K rfl (by decide) n_T_K f_48 rfl d_K_beginSegment_26 ?_
        obtain ⟨y_10, e_11, hj⟩ := Option.bind_eq_some_iff.mp hj
        rw [e_11]
        show W p l _ _ s m args below meth c H locs 0 0 Q (F0 m 29 ls [.ref (ad (6 + y_10.val))])
        refine gw_get (v := .ref (ad (14 + y_10.val))) S hw (xa_T y_10) rfl (by decide) n_T_T f_23 rfl d_K_beginSegment_29 ?_
        refine lv_dup hx hb d_K_beginSegment_32 rfl ?_
        refine gw_get (v := .int (M.1 1 y_10 5)) S hw (xa_J y_10) rfl (by decide) n_T_J f_82 rfl d_K_beginSegment_33 ?_
        refine lv_iconst (v := 1) hx hb d_K_beginSegment_36 (by decide) ?_
        refine lv_iadd hx hb d_K_beginSegment_37 ?_
        refine gw_put (v := .int ((M.1 1 y_10 5) + 1)) (ty := .int) S hw (xa_J y_10) rfl (by decide) n_T_J f_82 tk_J nm_J rfl (by decide +kernel) rfl rfl (Nat.le_of_ble_eq_true rfl) (xs_J y_10 5 ((M.1 1 y_10 5) + 1) (by decide)) d_K_beginSegment_38 (fun H locs hw => ?_)
        refine lv_aload_n hx hb d_K_beginSegment_41 rfl (lv_at hl 1 rfl) ?_
        refine lv_null hx hb d_K_beginSegment_42 ?_
        refine gw_put (v := .null) (ty := (.object "SegmentKernel$Task")) S hw xa_K rfl (by decide) n_T_K f_48 tk_K nm_K rfl (by decide +kernel) rfl rfl (Nat.le_of_ble_eq_true rfl) (xs_P none) d_K_beginSegment_43 (fun H locs hw => ?_)
        refine lv_aload_n hx hb d_K_beginSegment_46 rfl (lv_at hl 1 rfl) ?_
        refine lv_aload_n hx hb d_K_beginSegment_47 rfl (lv_at hl 0 rfl) ?_
        refine gw_put (v := .ref (ad (6 + y_3.val))) (ty := (.object "SegmentKernel$Task")) S hw xa_K rfl (by decide) n_T_K f_44 tk_K nm_K rfl (by decide +kernel) rfl rfl (Nat.le_of_ble_eq_true rfl) (xs_U (some y_3)) d_K_beginSegment_48 (fun H locs hw => ?_)
        refine lv_aload_n hx hb d_K_beginSegment_51 rfl (lv_at hl 1 rfl) ?_
        refine lv_aload_n hx hb d_K_beginSegment_52 rfl (lv_at hl 0 rfl) ?_
        refine lv_aload_n hx hb d_K_beginSegment_53 rfl (lv_at hl 0 rfl) ?_
        refine gw_get (v := .ref (ad (14 + y_3.val))) S hw (xa_T y_3) rfl (by decide) n_T_T f_23 rfl d_K_beginSegment_54 ?_
        refine gw_get (v := .int ((sU (sP (sF M 1 y_10 5 ((M.1 1 y_10 5) + 1)) none) (some y_3)).1 1 y_3 7)) S hw (xa_J y_3) rfl (by decide) n_T_J f_85 rfl d_K_beginSegment_57 ?_
        obtain ⟨r_13, e_12, hj⟩ := Option.bind_eq_some_iff.mp hj
        refine gw_calli (As := [.int ((sU (sP (sF M 1 y_10 5 ((M.1 1 y_10 5) + 1)) none) (some y_3)).1 1 y_3 7)]) (rest := [.ref (ad 5)]) S hw (c_T_segmentAt e_12) w_88 (xa_T y_3) rfl rfl hl.1 rfl (Nat.le_of_ble_eq_true rfl) d_K_beginSegment_60 (fun H locs hw => ?_)
        refine gw_put (v := .int r_13) (ty := .int) S hw xa_K rfl (by decide) n_T_K f_41 tk_K nm_K rfl (by decide +kernel) rfl rfl (Nat.le_of_ble_eq_true rfl) (xs_K 3 r_13 (by decide)) d_K_beginSegment_63 (fun H locs hw => ?_)
        exact hend H locs ls 66 _ (congrArg (wX cI cT ad) (Option.some.inj hj)) hw d_K_beginSegment_66
abbrev rm_J_finishOldest : Room := { frames := 1, cells := 0, slots := 0, locals := 21 }
def ws_J_finishOldest : List Cond := Cond.code y_J_finishOldest b_J_finishOldest 4 none :: wB
set_option maxHeartbeats 4000000 in
set_option maxRecDepth 100000 in
theorem c_J_finishOldest {l : Launch} {D : va_G} {cI cT : ClassId} {ad : Nat → Nat} {n : Nat} {M : MX} {x0 : Fin 8} {a1 : Int32} {a2 : Int32} {M0 : MX} (hj : j_J_finishOldest n M x0 a1 a2 = some M0) : gw_Cv l y_J_finishOldest ws_J_finishOldest rm_J_finishOldest D (tyX cI cT) (wX cI cT ad M) [.ref (ad (14 + x0.val)), .int a1, .int a2] (wX cI cT ad M0) := by
  intro sz
  refine gw_metv (cc := b_J_finishOldest) (maxL := 4) (by decide) rfl (Nat.le_of_ble_eq_true rfl) ?_
  intro p e s m args below meth c A Q S H locs hw hend ls hl
  have S : CallFix p m c b_J_finishOldest 4 s args ws_J_finishOldest R_J := S
  have hx := S.1
  have hb := S.2.1
  have hts := S.2.2.2.2
  have hl : lv_has ls 4 [(0, .ref (ad (14 + x0.val))), (1, .int a1), (2, .int a2)] := hl
  have n_T_J : ∀ w ∈ u_ws R_J T_J 8, w ∈ ws_J_finishOldest := fun w h => List.mem_cons_of_mem _ (uT_J w h)
  have f_9 : Cond.fieldLink R_J 9 (T_J 0).1 (T_J 0).2.1 (T_J 0).2.2.1 ∈ ws_J_finishOldest := List.mem_cons_of_mem _ xw_204
  have f_15 : Cond.fieldLink R_J 15 (T_J 1).1 (T_J 1).2.1 (T_J 1).2.2.1 ∈ ws_J_finishOldest := List.mem_cons_of_mem _ xw_229
  have f_22 : Cond.fieldLink R_J 22 (T_J 3).1 (T_J 3).2.1 (T_J 3).2.2.1 ∈ ws_J_finishOldest := List.mem_cons_of_mem _ xw_59
  have f_25 : Cond.fieldLink R_J 25 (T_J 4).1 (T_J 4).2.1 (T_J 4).2.2.1 ∈ ws_J_finishOldest := List.mem_cons_of_mem _ xw_60
  have f_31 : Cond.fieldLink R_J 31 (T_J 6).1 (T_J 6).2.1 (T_J 6).2.2.1 ∈ ws_J_finishOldest := List.mem_cons_of_mem _ xw_62
  have f_34 : Cond.fieldLink R_J 34 (T_J 7).1 (T_J 7).2.1 (T_J 7).2.2.1 ∈ ws_J_finishOldest := List.mem_cons_of_mem _ xw_63
  have m_37 := hts _ (List.mem_cons_of_mem _ xw_230)
  have ms_max := hts _ (List.mem_cons_of_mem _ xw_88)
  have mc_max := hts _ (List.mem_cons_of_mem _ xw_89)
  have mi_ := hts _ (List.mem_cons_of_mem _ xw_90)
  unfold j_J_finishOldest at hj
  refine lv_iload_n hx hb d_J_finishOldest_0 rfl (lv_at hl 1 rfl) ?_
  refine lv_aload_n hx hb d_J_finishOldest_1 rfl (lv_at hl 0 rfl) ?_
  refine gw_get (v := .ref (ad (30 + x0.val))) S hw (xa_J x0) rfl (by decide) n_T_J f_9 rfl d_J_finishOldest_2 ?_
  refine lv_aload_n hx hb d_J_finishOldest_5 rfl (lv_at hl 0 rfl) ?_
  refine gw_get (v := .int (M.1 1 x0 3)) S hw (xa_J x0) rfl (by decide) n_T_J f_22 rfl d_J_finishOldest_6 ?_
  refine lv_bipush (v := 9) hx hb d_J_finishOldest_9 (by decide) ?_
  refine lv_irem hx hb d_J_finishOldest_11 (by decide) ?_
  obtain ⟨g_1, hj⟩ := gw_if hj
  refine gw_iald (t0 := 0) S hw ⟨xa_ar x0, rfl⟩ g_1 d_J_finishOldest_12 ?_
  refine lv_isub hx hb d_J_finishOldest_13 ?_
  refine lv_istore_n (lv' := [(3, .int (a1 - (M.1 3 x0 ((M.1 1 x0 3) - (M.1 1 x0 3) / 9 * 9).toNatClampNeg))), (0, .ref (ad (14 + x0.val))), (1, .int a1), (2, .int a2)]) hx hb d_J_finishOldest_14 rfl hl (by decide) rfl (fun ls hl => ?_)
  refine lv_aload_n hx hb d_J_finishOldest_15 rfl (lv_at hl 1 rfl) ?_
  refine gw_get (v := .int (M.1 1 x0 3)) S hw (xa_J x0) rfl (by decide) n_T_J f_22 rfl d_J_finishOldest_16 ?_
  refine lv_sipush (v := 200) hx hb d_J_finishOldest_19 (by decide) ?_
  refine lv_icmp_ge (tgt := 35) hx hb d_J_finishOldest_22 (by decide) (fun c_2 => ?_) (fun c_2 => ?_)
  · rw [if_pos c_2] at hj
    refine lv_aload_n hx hb d_J_finishOldest_35 rfl (lv_at hl 1 rfl) ?_
    refine lv_aload_n hx hb d_J_finishOldest_36 rfl (lv_at hl 1 rfl) ?_
    refine gw_get (v := .int (M.1 1 x0 4)) S hw (xa_J x0) rfl (by decide) n_T_J f_25 rfl d_J_finishOldest_37 ?_
    refine lv_iload_n hx hb d_J_finishOldest_40 rfl (lv_at hl 0 rfl) ?_
    refine va_mmax hx hb (S.2.2.1.trans hl.1.symm) S.2.2.2.1 m_37 ms_max mi_ mc_max (by decide) (Nat.le_of_ble_eq_true rfl) (Nat.zero_le _) (Nat.zero_le _) d_J_finishOldest_41 ?_
    refine gw_put (v := .int (if (M.1 1 x0 4) < (a1 - (M.1 3 x0 ((M.1 1 x0 3) - (M.1 1 x0 3) / 9 * 9).toNatClampNeg)) then (a1 - (M.1 3 x0 ((M.1 1 x0 3) - (M.1 1 x0 3) / 9 * 9).toNatClampNeg)) else (M.1 1 x0 4))) (ty := .int) S hw (xa_J x0) rfl (by decide) n_T_J f_25 tk_J nm_J rfl (by decide +kernel) rfl rfl (Nat.le_of_ble_eq_true rfl) (xs_J x0 4 (if (M.1 1 x0 4) < (a1 - (M.1 3 x0 ((M.1 1 x0 3) - (M.1 1 x0 3) / 9 * 9).toNatClampNeg)) then (a1 - (M.1 3 x0 ((M.1 1 x0 3) - (M.1 1 x0 3) / 9 * 9).toNatClampNeg)) else (M.1 1 x0 4)) (by decide)) d_J_finishOldest_44 (fun H locs hw => ?_)
    refine lv_iload_n hx hb d_J_finishOldest_47 rfl (lv_at hl 0 rfl) ?_
    refine lv_iload_n hx hb d_J_finishOldest_48 rfl (lv_at hl 3 rfl) ?_
    refine lv_icmp_le (tgt := 62) hx hb d_J_finishOldest_49 (by decide) (fun c_3 => ?_) (fun c_3 => ?_)
    · rw [if_pos c_3] at hj
      refine lv_aload_n hx hb d_J_finishOldest_62 rfl (lv_at hl 1 rfl) ?_
      refine lv_dup hx hb d_J_finishOldest_63 rfl ?_
      refine gw_get (v := .int ((sF M 1 x0 4 (if (M.1 1 x0 4) < (a1 - (M.1 3 x0 ((M.1 1 x0 3) - (M.1 1 x0 3) / 9 * 9).toNatClampNeg)) then (a1 - (M.1 3 x0 ((M.1 1 x0 3) - (M.1 1 x0 3) / 9 * 9).toNatClampNeg)) else (M.1 1 x0 4))).1 1 x0 3)) S hw (xa_J x0) rfl (by decide) n_T_J f_22 rfl d_J_finishOldest_64 ?_
      refine lv_iconst (v := 1) hx hb d_J_finishOldest_67 (by decide) ?_
      refine lv_iadd hx hb d_J_finishOldest_68 ?_
      refine gw_put (v := .int (((sF M 1 x0 4 (if (M.1 1 x0 4) < (a1 - (M.1 3 x0 ((M.1 1 x0 3) - (M.1 1 x0 3) / 9 * 9).toNatClampNeg)) then (a1 - (M.1 3 x0 ((M.1 1 x0 3) - (M.1 1 x0 3) / 9 * 9).toNatClampNeg)) else (M.1 1 x0 4))).1 1 x0 3) + 1)) (ty := .int) S hw (xa_J x0) rfl (by decide) n_T_J f_22 tk_J nm_J rfl (by decide +kernel) rfl rfl (Nat.le_of_ble_eq_true rfl) (xs_J x0 3 (((sF M 1 x0 4 (if (M.1 1 x0 4) < (a1 - (M.1 3 x0 ((M.1 1 x0 3) - (M.1 1 x0 3) / 9 * 9).toNatClampNeg)) then (a1 - (M.1 3 x0 ((M.1 1 x0 3) - (M.1 1 x0 3) / 9 * 9).toNatClampNeg)) else (M.1 1 x0 4))).1 1 x0 3) + 1) (by decide)) d_J_finishOldest_69 (fun H locs hw => ?_)
      refine lv_aload_n hx hb d_J_finishOldest_72 rfl (lv_at hl 1 rfl) ?_
      refine lv_iconst (v := 0) hx hb d_J_finishOldest_73 (by decide) ?_
      refine gw_put (v := .int 0) (ty := .int) S hw (xa_J x0) rfl (by decide) n_T_J f_34 tk_J nm_J rfl (by decide +kernel) rfl rfl (Nat.le_of_ble_eq_true rfl) (xs_J x0 7 0 (by decide)) d_J_finishOldest_74 (fun H locs hw => ?_)
      exact hend H locs ls 77 _ (congrArg (wX cI cT ad) (Option.some.inj hj)) hw d_J_finishOldest_77
    · rw [if_neg c_3] at hj
      refine lv_aload_n hx hb d_J_finishOldest_52 rfl (lv_at hl 1 rfl) ?_
      refine lv_dup hx hb d_J_finishOldest_53 rfl ?_
      refine gw_get (v := .int ((sF M 1 x0 4 (if (M.1 1 x0 4) < (a1 - (M.1 3 x0 ((M.1 1 x0 3) - (M.1 1 x0 3) / 9 * 9).toNatClampNeg)) then (a1 - (M.1 3 x0 ((M.1 1 x0 3) - (M.1 1 x0 3) / 9 * 9).toNatClampNeg)) else (M.1 1 x0 4))).1 1 x0 6)) S hw (xa_J x0) rfl (by decide) n_T_J f_31 rfl d_J_finishOldest_54 ?_
      refine lv_iconst (v := 1) hx hb d_J_finishOldest_57 (by decide) ?_
      refine lv_iadd hx hb d_J_finishOldest_58 ?_
      refine gw_put (v := .int (((sF M 1 x0 4 (if (M.1 1 x0 4) < (a1 - (M.1 3 x0 ((M.1 1 x0 3) - (M.1 1 x0 3) / 9 * 9).toNatClampNeg)) then (a1 - (M.1 3 x0 ((M.1 1 x0 3) - (M.1 1 x0 3) / 9 * 9).toNatClampNeg)) else (M.1 1 x0 4))).1 1 x0 6) + 1)) (ty := .int) S hw (xa_J x0) rfl (by decide) n_T_J f_31 tk_J nm_J rfl (by decide +kernel) rfl rfl (Nat.le_of_ble_eq_true rfl) (xs_J x0 6 (((sF M 1 x0 4 (if (M.1 1 x0 4) < (a1 - (M.1 3 x0 ((M.1 1 x0 3) - (M.1 1 x0 3) / 9 * 9).toNatClampNeg)) then (a1 - (M.1 3 x0 ((M.1 1 x0 3) - (M.1 1 x0 3) / 9 * 9).toNatClampNeg)) else (M.1 1 x0 4))).1 1 x0 6) + 1) (by decide)) d_J_finishOldest_59 (fun H locs hw => ?_)
      refine lv_aload_n hx hb d_J_finishOldest_62 rfl (lv_at hl 1 rfl) ?_
      refine lv_dup hx hb d_J_finishOldest_63 rfl ?_
      refine gw_get (v := .int ((sF (sF M 1 x0 4 (if (M.1 1 x0 4) < (a1 - (M.1 3 x0 ((M.1 1 x0 3) - (M.1 1 x0 3) / 9 * 9).toNatClampNeg)) then (a1 - (M.1 3 x0 ((M.1 1 x0 3) - (M.1 1 x0 3) / 9 * 9).toNatClampNeg)) else (M.1 1 x0 4))) 1 x0 6 (((sF M 1 x0 4 (if (M.1 1 x0 4) < (a1 - (M.1 3 x0 ((M.1 1 x0 3) - (M.1 1 x0 3) / 9 * 9).toNatClampNeg)) then (a1 - (M.1 3 x0 ((M.1 1 x0 3) - (M.1 1 x0 3) / 9 * 9).toNatClampNeg)) else (M.1 1 x0 4))).1 1 x0 6) + 1)).1 1 x0 3)) S hw (xa_J x0) rfl (by decide) n_T_J f_22 rfl d_J_finishOldest_64 ?_
      refine lv_iconst (v := 1) hx hb d_J_finishOldest_67 (by decide) ?_
      refine lv_iadd hx hb d_J_finishOldest_68 ?_
      refine gw_put (v := .int (((sF (sF M 1 x0 4 (if (M.1 1 x0 4) < (a1 - (M.1 3 x0 ((M.1 1 x0 3) - (M.1 1 x0 3) / 9 * 9).toNatClampNeg)) then (a1 - (M.1 3 x0 ((M.1 1 x0 3) - (M.1 1 x0 3) / 9 * 9).toNatClampNeg)) else (M.1 1 x0 4))) 1 x0 6 (((sF M 1 x0 4 (if (M.1 1 x0 4) < (a1 - (M.1 3 x0 ((M.1 1 x0 3) - (M.1 1 x0 3) / 9 * 9).toNatClampNeg)) then (a1 - (M.1 3 x0 ((M.1 1 x0 3) - (M.1 1 x0 3) / 9 * 9).toNatClampNeg)) else (M.1 1 x0 4))).1 1 x0 6) + 1)).1 1 x0 3) + 1)) (ty := .int) S hw (xa_J x0) rfl (by decide) n_T_J f_22 tk_J nm_J rfl (by decide +kernel) rfl rfl (Nat.le_of_ble_eq_true rfl) (xs_J x0 3 (((sF (sF M 1 x0 4 (if (M.1 1 x0 4) < (a1 - (M.1 3 x0 ((M.1 1 x0 3) - (M.1 1 x0 3) / 9 * 9).toNatClampNeg)) then (a1 - (M.1 3 x0 ((M.1 1 x0 3) - (M.1 1 x0 3) / 9 * 9).toNatClampNeg)) else (M.1 1 x0 4))) 1 x0 6 (((sF M 1 x0 4 (if (M.1 1 x0 4) < (a1 - (M.1 3 x0 ((M.1 1 x0 3) - (M.1 1 x0 3) / 9 * 9).toNatClampNeg)) then (a1 - (M.1 3 x0 ((M.1 1 x0 3) - (M.1 1 x0 3) / 9 * 9).toNatClampNeg)) else (M.1 1 x0 4))).1 1 x0 6) + 1)).1 1 x0 3) + 1) (by decide)) d_J_finishOldest_69 (fun H locs hw => ?_)
      refine lv_aload_n hx hb d_J_finishOldest_72 rfl (lv_at hl 1 rfl) ?_
      refine lv_iconst (v := 0) hx hb d_J_finishOldest_73 (by decide) ?_
      refine gw_put (v := .int 0) (ty := .int) S hw (xa_J x0) rfl (by decide) n_T_J f_34 tk_J nm_J rfl (by decide +kernel) rfl rfl (Nat.le_of_ble_eq_true rfl) (xs_J x0 7 0 (by decide)) d_J_finishOldest_74 (fun H locs hw => ?_)
      exact hend H locs ls 77 _ (congrArg (wX cI cT ad) (Option.some.inj hj)) hw d_J_finishOldest_77
  · rw [if_neg c_2] at hj
    refine lv_aload_n hx hb d_J_finishOldest_25 rfl (lv_at hl 1 rfl) ?_
    refine gw_get (v := .ref (ad (38 + x0.val))) S hw (xa_J x0) rfl (by decide) n_T_J f_15 rfl d_J_finishOldest_26 ?_
    refine lv_aload_n hx hb d_J_finishOldest_29 rfl (lv_at hl 1 rfl) ?_
    refine gw_get (v := .int (M.1 1 x0 3)) S hw (xa_J x0) rfl (by decide) n_T_J f_22 rfl d_J_finishOldest_30 ?_
    refine lv_iload_n hx hb d_J_finishOldest_33 rfl (lv_at hl 0 rfl) ?_
    obtain ⟨g_4, hj⟩ := gw_if hj
    refine gw_iast (t0 := 0) S hw ⟨xa_no x0, rfl⟩ g_4 (xs_no x0 (M.1 1 x0 3).toNatClampNeg (a1 - (M.1 3 x0 ((M.1 1 x0 3) - (M.1 1 x0 3) / 9 * 9).toNatClampNeg))) d_J_finishOldest_34 (fun H locs hw => ?_)
    refine lv_aload_n hx hb d_J_finishOldest_35 rfl (lv_at hl 1 rfl) ?_
    refine lv_aload_n hx hb d_J_finishOldest_36 rfl (lv_at hl 1 rfl) ?_
    refine gw_get (v := .int ((sF M 4 x0 (M.1 1 x0 3).toNatClampNeg (a1 - (M.1 3 x0 ((M.1 1 x0 3) - (M.1 1 x0 3) / 9 * 9).toNatClampNeg))).1 1 x0 4)) S hw (xa_J x0) rfl (by decide) n_T_J f_25 rfl d_J_finishOldest_37 ?_
    refine lv_iload_n hx hb d_J_finishOldest_40 rfl (lv_at hl 0 rfl) ?_
    refine va_mmax hx hb (S.2.2.1.trans hl.1.symm) S.2.2.2.1 m_37 ms_max mi_ mc_max (by decide) (Nat.le_of_ble_eq_true rfl) (Nat.zero_le _) (Nat.zero_le _) d_J_finishOldest_41 ?_
    refine gw_put (v := .int (if ((sF M 4 x0 (M.1 1 x0 3).toNatClampNeg (a1 - (M.1 3 x0 ((M.1 1 x0 3) - (M.1 1 x0 3) / 9 * 9).toNatClampNeg))).1 1 x0 4) < (a1 - (M.1 3 x0 ((M.1 1 x0 3) - (M.1 1 x0 3) / 9 * 9).toNatClampNeg)) then (a1 - (M.1 3 x0 ((M.1 1 x0 3) - (M.1 1 x0 3) / 9 * 9).toNatClampNeg)) else ((sF M 4 x0 (M.1 1 x0 3).toNatClampNeg (a1 - (M.1 3 x0 ((M.1 1 x0 3) - (M.1 1 x0 3) / 9 * 9).toNatClampNeg))).1 1 x0 4))) (ty := .int) S hw (xa_J x0) rfl (by decide) n_T_J f_25 tk_J nm_J rfl (by decide +kernel) rfl rfl (Nat.le_of_ble_eq_true rfl) (xs_J x0 4 (if ((sF M 4 x0 (M.1 1 x0 3).toNatClampNeg (a1 - (M.1 3 x0 ((M.1 1 x0 3) - (M.1 1 x0 3) / 9 * 9).toNatClampNeg))).1 1 x0 4) < (a1 - (M.1 3 x0 ((M.1 1 x0 3) - (M.1 1 x0 3) / 9 * 9).toNatClampNeg)) then (a1 - (M.1 3 x0 ((M.1 1 x0 3) - (M.1 1 x0 3) / 9 * 9).toNatClampNeg)) else ((sF M 4 x0 (M.1 1 x0 3).toNatClampNeg (a1 - (M.1 3 x0 ((M.1 1 x0 3) - (M.1 1 x0 3) / 9 * 9).toNatClampNeg))).1 1 x0 4)) (by decide)) d_J_finishOldest_44 (fun H locs hw => ?_)
    refine lv_iload_n hx hb d_J_finishOldest_47 rfl (lv_at hl 0 rfl) ?_
    refine lv_iload_n hx hb d_J_finishOldest_48 rfl (lv_at hl 3 rfl) ?_
    refine lv_icmp_le (tgt := 62) hx hb d_J_finishOldest_49 (by decide) (fun c_5 => ?_) (fun c_5 => ?_)
    · rw [if_pos c_5] at hj
      refine lv_aload_n hx hb d_J_finishOldest_62 rfl (lv_at hl 1 rfl) ?_
      refine lv_dup hx hb d_J_finishOldest_63 rfl ?_
      refine gw_get (v := .int ((sF (sF M 4 x0 (M.1 1 x0 3).toNatClampNeg (a1 - (M.1 3 x0 ((M.1 1 x0 3) - (M.1 1 x0 3) / 9 * 9).toNatClampNeg))) 1 x0 4 (if ((sF M 4 x0 (M.1 1 x0 3).toNatClampNeg (a1 - (M.1 3 x0 ((M.1 1 x0 3) - (M.1 1 x0 3) / 9 * 9).toNatClampNeg))).1 1 x0 4) < (a1 - (M.1 3 x0 ((M.1 1 x0 3) - (M.1 1 x0 3) / 9 * 9).toNatClampNeg)) then (a1 - (M.1 3 x0 ((M.1 1 x0 3) - (M.1 1 x0 3) / 9 * 9).toNatClampNeg)) else ((sF M 4 x0 (M.1 1 x0 3).toNatClampNeg (a1 - (M.1 3 x0 ((M.1 1 x0 3) - (M.1 1 x0 3) / 9 * 9).toNatClampNeg))).1 1 x0 4))).1 1 x0 3)) S hw (xa_J x0) rfl (by decide) n_T_J f_22 rfl d_J_finishOldest_64 ?_
      refine lv_iconst (v := 1) hx hb d_J_finishOldest_67 (by decide) ?_
      refine lv_iadd hx hb d_J_finishOldest_68 ?_
      refine gw_put (v := .int (((sF (sF M 4 x0 (M.1 1 x0 3).toNatClampNeg (a1 - (M.1 3 x0 ((M.1 1 x0 3) - (M.1 1 x0 3) / 9 * 9).toNatClampNeg))) 1 x0 4 (if ((sF M 4 x0 (M.1 1 x0 3).toNatClampNeg (a1 - (M.1 3 x0 ((M.1 1 x0 3) - (M.1 1 x0 3) / 9 * 9).toNatClampNeg))).1 1 x0 4) < (a1 - (M.1 3 x0 ((M.1 1 x0 3) - (M.1 1 x0 3) / 9 * 9).toNatClampNeg)) then (a1 - (M.1 3 x0 ((M.1 1 x0 3) - (M.1 1 x0 3) / 9 * 9).toNatClampNeg)) else ((sF M 4 x0 (M.1 1 x0 3).toNatClampNeg (a1 - (M.1 3 x0 ((M.1 1 x0 3) - (M.1 1 x0 3) / 9 * 9).toNatClampNeg))).1 1 x0 4))).1 1 x0 3) + 1)) (ty := .int) S hw (xa_J x0) rfl (by decide) n_T_J f_22 tk_J nm_J rfl (by decide +kernel) rfl rfl (Nat.le_of_ble_eq_true rfl) (xs_J x0 3 (((sF (sF M 4 x0 (M.1 1 x0 3).toNatClampNeg (a1 - (M.1 3 x0 ((M.1 1 x0 3) - (M.1 1 x0 3) / 9 * 9).toNatClampNeg))) 1 x0 4 (if ((sF M 4 x0 (M.1 1 x0 3).toNatClampNeg (a1 - (M.1 3 x0 ((M.1 1 x0 3) - (M.1 1 x0 3) / 9 * 9).toNatClampNeg))).1 1 x0 4) < (a1 - (M.1 3 x0 ((M.1 1 x0 3) - (M.1 1 x0 3) / 9 * 9).toNatClampNeg)) then (a1 - (M.1 3 x0 ((M.1 1 x0 3) - (M.1 1 x0 3) / 9 * 9).toNatClampNeg)) else ((sF M 4 x0 (M.1 1 x0 3).toNatClampNeg (a1 - (M.1 3 x0 ((M.1 1 x0 3) - (M.1 1 x0 3) / 9 * 9).toNatClampNeg))).1 1 x0 4))).1 1 x0 3) + 1) (by decide)) d_J_finishOldest_69 (fun H locs hw => ?_)
      refine lv_aload_n hx hb d_J_finishOldest_72 rfl (lv_at hl 1 rfl) ?_
      refine lv_iconst (v := 0) hx hb d_J_finishOldest_73 (by decide) ?_
      refine gw_put (v := .int 0) (ty := .int) S hw (xa_J x0) rfl (by decide) n_T_J f_34 tk_J nm_J rfl (by decide +kernel) rfl rfl (Nat.le_of_ble_eq_true rfl) (xs_J x0 7 0 (by decide)) d_J_finishOldest_74 (fun H locs hw => ?_)
      exact hend H locs ls 77 _ (congrArg (wX cI cT ad) (Option.some.inj hj)) hw d_J_finishOldest_77
    · rw [if_neg c_5] at hj
      refine lv_aload_n hx hb d_J_finishOldest_52 rfl (lv_at hl 1 rfl) ?_
      refine lv_dup hx hb d_J_finishOldest_53 rfl ?_
      refine gw_get (v := .int ((sF (sF M 4 x0 (M.1 1 x0 3).toNatClampNeg (a1 - (M.1 3 x0 ((M.1 1 x0 3) - (M.1 1 x0 3) / 9 * 9).toNatClampNeg))) 1 x0 4 (if ((sF M 4 x0 (M.1 1 x0 3).toNatClampNeg (a1 - (M.1 3 x0 ((M.1 1 x0 3) - (M.1 1 x0 3) / 9 * 9).toNatClampNeg))).1 1 x0 4) < (a1 - (M.1 3 x0 ((M.1 1 x0 3) - (M.1 1 x0 3) / 9 * 9).toNatClampNeg)) then (a1 - (M.1 3 x0 ((M.1 1 x0 3) - (M.1 1 x0 3) / 9 * 9).toNatClampNeg)) else ((sF M 4 x0 (M.1 1 x0 3).toNatClampNeg (a1 - (M.1 3 x0 ((M.1 1 x0 3) - (M.1 1 x0 3) / 9 * 9).toNatClampNeg))).1 1 x0 4))).1 1 x0 6)) S hw (xa_J x0) rfl (by decide) n_T_J f_31 rfl d_J_finishOldest_54 ?_
      refine lv_iconst (v := 1) hx hb d_J_finishOldest_57 (by decide) ?_
      refine lv_iadd hx hb d_J_finishOldest_58 ?_
      refine gw_put (v := .int (((sF (sF M 4 x0 (M.1 1 x0 3).toNatClampNeg (a1 - (M.1 3 x0 ((M.1 1 x0 3) - (M.1 1 x0 3) / 9 * 9).toNatClampNeg))) 1 x0 4 (if ((sF M 4 x0 (M.1 1 x0 3).toNatClampNeg (a1 - (M.1 3 x0 ((M.1 1 x0 3) - (M.1 1 x0 3) / 9 * 9).toNatClampNeg))).1 1 x0 4) < (a1 - (M.1 3 x0 ((M.1 1 x0 3) - (M.1 1 x0 3) / 9 * 9).toNatClampNeg)) then (a1 - (M.1 3 x0 ((M.1 1 x0 3) - (M.1 1 x0 3) / 9 * 9).toNatClampNeg)) else ((sF M 4 x0 (M.1 1 x0 3).toNatClampNeg (a1 - (M.1 3 x0 ((M.1 1 x0 3) - (M.1 1 x0 3) / 9 * 9).toNatClampNeg))).1 1 x0 4))).1 1 x0 6) + 1)) (ty := .int) S hw (xa_J x0) rfl (by decide) n_T_J f_31 tk_J nm_J rfl (by decide +kernel) rfl rfl (Nat.le_of_ble_eq_true rfl) (xs_J x0 6 (((sF (sF M 4 x0 (M.1 1 x0 3).toNatClampNeg (a1 - (M.1 3 x0 ((M.1 1 x0 3) - (M.1 1 x0 3) / 9 * 9).toNatClampNeg))) 1 x0 4 (if ((sF M 4 x0 (M.1 1 x0 3).toNatClampNeg (a1 - (M.1 3 x0 ((M.1 1 x0 3) - (M.1 1 x0 3) / 9 * 9).toNatClampNeg))).1 1 x0 4) < (a1 - (M.1 3 x0 ((M.1 1 x0 3) - (M.1 1 x0 3) / 9 * 9).toNatClampNeg)) then (a1 - (M.1 3 x0 ((M.1 1 x0 3) - (M.1 1 x0 3) / 9 * 9).toNatClampNeg)) else ((sF M 4 x0 (M.1 1 x0 3).toNatClampNeg (a1 - (M.1 3 x0 ((M.1 1 x0 3) - (M.1 1 x0 3) / 9 * 9).toNatClampNeg))).1 1 x0 4))).1 1 x0 6) + 1) (by decide)) d_J_finishOldest_59 (fun H locs hw => ?_)
      refine lv_aload_n hx hb d_J_finishOldest_62 rfl (lv_at hl 1 rfl) ?_
      refine lv_dup hx hb d_J_finishOldest_63 rfl ?_
      refine gw_get (v := .int ((sF (sF (sF M 4 x0 (M.1 1 x0 3).toNatClampNeg (a1 - (M.1 3 x0 ((M.1 1 x0 3) - (M.1 1 x0 3) / 9 * 9).toNatClampNeg))) 1 x0 4 (if ((sF M 4 x0 (M.1 1 x0 3).toNatClampNeg (a1 - (M.1 3 x0 ((M.1 1 x0 3) - (M.1 1 x0 3) / 9 * 9).toNatClampNeg))).1 1 x0 4) < (a1 - (M.1 3 x0 ((M.1 1 x0 3) - (M.1 1 x0 3) / 9 * 9).toNatClampNeg)) then (a1 - (M.1 3 x0 ((M.1 1 x0 3) - (M.1 1 x0 3) / 9 * 9).toNatClampNeg)) else ((sF M 4 x0 (M.1 1 x0 3).toNatClampNeg (a1 - (M.1 3 x0 ((M.1 1 x0 3) - (M.1 1 x0 3) / 9 * 9).toNatClampNeg))).1 1 x0 4))) 1 x0 6 (((sF (sF M 4 x0 (M.1 1 x0 3).toNatClampNeg (a1 - (M.1 3 x0 ((M.1 1 x0 3) - (M.1 1 x0 3) / 9 * 9).toNatClampNeg))) 1 x0 4 (if ((sF M 4 x0 (M.1 1 x0 3).toNatClampNeg (a1 - (M.1 3 x0 ((M.1 1 x0 3) - (M.1 1 x0 3) / 9 * 9).toNatClampNeg))).1 1 x0 4) < (a1 - (M.1 3 x0 ((M.1 1 x0 3) - (M.1 1 x0 3) / 9 * 9).toNatClampNeg)) then (a1 - (M.1 3 x0 ((M.1 1 x0 3) - (M.1 1 x0 3) / 9 * 9).toNatClampNeg)) else ((sF M 4 x0 (M.1 1 x0 3).toNatClampNeg (a1 - (M.1 3 x0 ((M.1 1 x0 3) - (M.1 1 x0 3) / 9 * 9).toNatClampNeg))).1 1 x0 4))).1 1 x0 6) + 1)).1 1 x0 3)) S hw (xa_J x0) rfl (by decide) n_T_J f_22 rfl d_J_finishOldest_64 ?_
      refine lv_iconst (v := 1) hx hb d_J_finishOldest_67 (by decide) ?_
      refine lv_iadd hx hb d_J_finishOldest_68 ?_
      refine gw_put (v := .int (((sF (sF (sF M 4 x0 (M.1 1 x0 3).toNatClampNeg (a1 - (M.1 3 x0 ((M.1 1 x0 3) - (M.1 1 x0 3) / 9 * 9).toNatClampNeg))) 1 x0 4 (if ((sF M 4 x0 (M.1 1 x0 3).toNatClampNeg (a1 - (M.1 3 x0 ((M.1 1 x0 3) - (M.1 1 x0 3) / 9 * 9).toNatClampNeg))).1 1 x0 4) < (a1 - (M.1 3 x0 ((M.1 1 x0 3) - (M.1 1 x0 3) / 9 * 9).toNatClampNeg)) then (a1 - (M.1 3 x0 ((M.1 1 x0 3) - (M.1 1 x0 3) / 9 * 9).toNatClampNeg)) else ((sF M 4 x0 (M.1 1 x0 3).toNatClampNeg (a1 - (M.1 3 x0 ((M.1 1 x0 3) - (M.1 1 x0 3) / 9 * 9).toNatClampNeg))).1 1 x0 4))) 1 x0 6 (((sF (sF M 4 x0 (M.1 1 x0 3).toNatClampNeg (a1 - (M.1 3 x0 ((M.1 1 x0 3) - (M.1 1 x0 3) / 9 * 9).toNatClampNeg))) 1 x0 4 (if ((sF M 4 x0 (M.1 1 x0 3).toNatClampNeg (a1 - (M.1 3 x0 ((M.1 1 x0 3) - (M.1 1 x0 3) / 9 * 9).toNatClampNeg))).1 1 x0 4) < (a1 - (M.1 3 x0 ((M.1 1 x0 3) - (M.1 1 x0 3) / 9 * 9).toNatClampNeg)) then (a1 - (M.1 3 x0 ((M.1 1 x0 3) - (M.1 1 x0 3) / 9 * 9).toNatClampNeg)) else ((sF M 4 x0 (M.1 1 x0 3).toNatClampNeg (a1 - (M.1 3 x0 ((M.1 1 x0 3) - (M.1 1 x0 3) / 9 * 9).toNatClampNeg))).1 1 x0 4))).1 1 x0 6) + 1)).1 1 x0 3) + 1)) (ty := .int) S hw (xa_J x0) rfl (by decide) n_T_J f_22 tk_J nm_J rfl (by decide +kernel) rfl rfl (Nat.le_of_ble_eq_true rfl) (xs_J x0 3 (((sF (sF (sF M 4 x0 (M.1 1 x0 3).toNatClampNeg (a1 - (M.1 3 x0 ((M.1 1 x0 3) - (M.1 1 x0 3) / 9 * 9).toNatClampNeg))) 1 x0 4 (if ((sF M 4 x0 (M.1 1 x0 3).toNatClampNeg (a1 - (M.1 3 x0 ((M.1 1 x0 3) - (M.1 1 x0 3) / 9 * 9).toNatClampNeg))).1 1 x0 4) < (a1 - (M.1 3 x0 ((M.1 1 x0 3) - (M.1 1 x0 3) / 9 * 9).toNatClampNeg)) then (a1 - (M.1 3 x0 ((M.1 1 x0 3) - (M.1 1 x0 3) / 9 * 9).toNatClampNeg)) else ((sF M 4 x0 (M.1 1 x0 3).toNatClampNeg (a1 - (M.1 3 x0 ((M.1 1 x0 3) - (M.1 1 x0 3) / 9 * 9).toNatClampNeg))).1 1 x0 4))) 1 x0 6 (((sF (sF M 4 x0 (M.1 1 x0 3).toNatClampNeg (a1 - (M.1 3 x0 ((M.1 1 x0 3) - (M.1 1 x0 3) / 9 * 9).toNatClampNeg))) 1 x0 4 (if ((sF M 4 x0 (M.1 1 x0 3).toNatClampNeg (a1 - (M.1 3 x0 ((M.1 1 x0 3) - (M.1 1 x0 3) / 9 * 9).toNatClampNeg))).1 1 x0 4) < (a1 - (M.1 3 x0 ((M.1 1 x0 3) - (M.1 1 x0 3) / 9 * 9).toNatClampNeg)) then (a1 - (M.1 3 x0 ((M.1 1 x0 3) - (M.1 1 x0 3) / 9 * 9).toNatClampNeg)) else ((sF M 4 x0 (M.1 1 x0 3).toNatClampNeg (a1 - (M.1 3 x0 ((M.1 1 x0 3) - (M.1 1 x0 3) / 9 * 9).toNatClampNeg))).1 1 x0 4))).1 1 x0 6) + 1)).1 1 x0 3) + 1) (by decide)) d_J_finishOldest_69 (fun H locs hw => ?_)
      refine lv_aload_n hx hb d_J_finishOldest_72 rfl (lv_at hl 1 rfl) ?_
      refine lv_iconst (v := 0) hx hb d_J_finishOldest_73 (by decide) ?_
      refine gw_put (v := .int 0) (ty := .int) S hw (xa_J x0) rfl (by decide) n_T_J f_34 tk_J nm_J rfl (by decide +kernel) rfl rfl (Nat.le_of_ble_eq_true rfl) (xs_J x0 7 0 (by decide)) d_J_finishOldest_74 (fun H locs hw => ?_)
      exact hend H locs ls 77 _ (congrArg (wX cI cT ad) (Option.some.inj hj)) hw d_J_finishOldest_77
abbrev rm_K_endSegment : Room := { frames := 2, cells := 0, slots := 0, locals := 44 }
def ws_K_endSegment : List Cond := Cond.code y_K_endSegment b_K_endSegment 2 none :: wB
set_option maxHeartbeats 4000000 in
set_option maxRecDepth 100000 in
theorem c_K_endSegment {l : Launch} {D : va_G} {cI cT : ClassId} {ad : Nat → Nat} {n : Nat} {M : MX} {x1 : Fin 8} {M0 : MX} (hj : j_K_endSegment n M x1 = some M0) : gw_Cv l y_K_endSegment ws_K_endSegment rm_K_endSegment D (tyX cI cT) (wX cI cT ad M) [.ref (ad 5), .ref (ad (6 + x1.val))] (wX cI cT ad M0) := by
  intro sz
  refine gw_metv (cc := b_K_endSegment) (maxL := 2) (by decide) rfl (Nat.le_of_ble_eq_true rfl) ?_
  intro p e s m args below meth c A Q S H locs hw hend ls hl
  have S : CallFix p m c b_K_endSegment 2 s args ws_K_endSegment R_K := S
  have hx := S.1
  have hb := S.2.1
  have hts := S.2.2.2.2
  have hl : lv_has ls 2 [(0, .ref (ad 5)), (1, .ref (ad (6 + x1.val)))] := hl
  have n_T_J : ∀ w ∈ u_ws R_J T_J 8, w ∈ ws_K_endSegment := fun w h => List.mem_cons_of_mem _ (uT_J w h)
  have n_T_K : ∀ w ∈ u_ws R_K T_K 6, w ∈ ws_K_endSegment := fun w h => List.mem_cons_of_mem _ (uT_K w h)
  have n_T_T : ∀ w ∈ u_ws R_T T_T 13, w ∈ ws_K_endSegment := fun w h => List.mem_cons_of_mem _ (uT_T w h)
  have f_23 : Cond.fieldLink R_K 23 (T_T 1).1 (T_T 1).2.1 (T_T 1).2.2.1 ∈ ws_K_endSegment := List.mem_cons_of_mem _ xw_67
  have f_38 : Cond.fieldLink R_K 38 (T_K 2).1 (T_K 2).2.1 (T_K 2).2.2.1 ∈ ws_K_endSegment := List.mem_cons_of_mem _ xw_69
  have f_44 : Cond.fieldLink R_K 44 (T_K 4).1 (T_K 4).2.1 (T_K 4).2.2.1 ∈ ws_K_endSegment := List.mem_cons_of_mem _ xw_71
  have f_48 : Cond.fieldLink R_K 48 (T_K 5).1 (T_K 5).2.1 (T_K 5).2.2.1 ∈ ws_K_endSegment := List.mem_cons_of_mem _ xw_72
  have f_85 : Cond.fieldLink R_K 85 (T_J 7).1 (T_J 7).2.1 (T_J 7).2.2.1 ∈ ws_K_endSegment := List.mem_cons_of_mem _ xw_223
  have f_92 : Cond.fieldLink R_K 92 (T_T 6).1 (T_T 6).2.1 (T_T 6).2.2.1 ∈ ws_K_endSegment := List.mem_cons_of_mem _ xw_231
  have f_95 : Cond.fieldLink R_K 95 (T_T 4).1 (T_T 4).2.1 (T_T 4).2.2.1 ∈ ws_K_endSegment := List.mem_cons_of_mem _ xw_232
  have w_98 : CallW rm_K_endSegment s args R_K R_J 98 y_J_finishOldest b_J_finishOldest 4 none ws_J_finishOldest rm_J_finishOldest 0 0 2 := cwV 2 hts (wB_callV (fun w h => List.mem_cons_of_mem _ h) xw_233 xw_234 xw_235 xw_236 xw_77) rfl rfl rfl (by decide +kernel) ⟨Nat.le_of_ble_eq_true rfl, Nat.le_of_ble_eq_true rfl⟩
  unfold j_K_endSegment at hj
  refine lv_aload_n hx hb d_K_endSegment_0 rfl (lv_at hl 0 rfl) ?_
  refine lv_null hx hb d_K_endSegment_1 ?_
  refine gw_put (v := .null) (ty := (.object "SegmentKernel$Task")) S hw xa_K rfl (by decide) n_T_K f_44 tk_K nm_K rfl (by decide +kernel) rfl rfl (Nat.le_of_ble_eq_true rfl) (xs_U none) d_K_endSegment_2 (fun H locs hw => ?_)
  refine lv_aload_n hx hb d_K_endSegment_5 rfl (lv_at hl 1 rfl) ?_
  refine gw_get (v := .ref (ad (14 + x1.val))) S hw (xa_T x1) rfl (by decide) n_T_T f_23 rfl d_K_endSegment_6 ?_
  refine lv_dup hx hb d_K_endSegment_9 rfl ?_
  refine gw_get (v := .int ((sU M none).1 1 x1 7)) S hw (xa_J x1) rfl (by decide) n_T_J f_85 rfl d_K_endSegment_10 ?_
  refine lv_iconst (v := 1) hx hb d_K_endSegment_13 (by decide) ?_
  refine lv_iadd hx hb d_K_endSegment_14 ?_
  refine gw_put (v := .int (((sU M none).1 1 x1 7) + 1)) (ty := .int) S hw (xa_J x1) rfl (by decide) n_T_J f_85 tk_J nm_J rfl (by decide +kernel) rfl rfl (Nat.le_of_ble_eq_true rfl) (xs_J x1 7 (((sU M none).1 1 x1 7) + 1) (by decide)) d_K_endSegment_15 (fun H locs hw => ?_)
  refine lv_aload_n hx hb d_K_endSegment_18 rfl (lv_at hl 1 rfl) ?_
  refine gw_get (v := .ref (ad (14 + x1.val))) S hw (xa_T x1) rfl (by decide) n_T_T f_23 rfl d_K_endSegment_19 ?_
  refine gw_get (v := .int ((sF (sU M none) 1 x1 7 (((sU M none).1 1 x1 7) + 1)).1 1 x1 7)) S hw (xa_J x1) rfl (by decide) n_T_J f_85 rfl d_K_endSegment_22 ?_
  refine lv_aload_n hx hb d_K_endSegment_25 rfl (lv_at hl 1 rfl) ?_
  refine gw_get (v := .int ((sF (sU M none) 1 x1 7 (((sU M none).1 1 x1 7) + 1)).1 0 x1 6)) S hw (xa_T x1) rfl (by decide) n_T_T f_92 rfl d_K_endSegment_26 ?_
  refine lv_icmp_ge (tgt := 40) hx hb d_K_endSegment_29 (by decide) (fun c_1 => ?_) (fun c_1 => ?_)
  · rw [if_pos c_1] at hj
    refine lv_aload_n hx hb d_K_endSegment_40 rfl (lv_at hl 1 rfl) ?_
    refine gw_get (v := .ref (ad (14 + x1.val))) S hw (xa_T x1) rfl (by decide) n_T_T f_23 rfl d_K_endSegment_41 ?_
    refine lv_aload_n hx hb d_K_endSegment_44 rfl (lv_at hl 0 rfl) ?_
    refine gw_get (v := .int ((sF (sU M none) 1 x1 7 (((sU M none).1 1 x1 7) + 1)).2.1 2 2)) S hw xa_K rfl (by decide) n_T_K f_38 rfl d_K_endSegment_45 ?_
    refine lv_aload_n hx hb d_K_endSegment_48 rfl (lv_at hl 1 rfl) ?_
    refine gw_get (v := .int ((sF (sU M none) 1 x1 7 (((sU M none).1 1 x1 7) + 1)).1 0 x1 4)) S hw (xa_T x1) rfl (by decide) n_T_T f_95 rfl d_K_endSegment_49 ?_
    obtain ⟨M_3, e_2, hj⟩ := Option.bind_eq_some_iff.mp hj
    refine gw_callv (As := [.int ((sF (sU M none) 1 x1 7 (((sU M none).1 1 x1 7) + 1)).2.1 2 2), .int ((sF (sU M none) 1 x1 7 (((sU M none).1 1 x1 7) + 1)).1 0 x1 4)]) (rest := []) S hw (c_J_finishOldest e_2) w_98 (xa_J x1) rfl rfl hl.1 rfl (Nat.le_of_ble_eq_true rfl) d_K_endSegment_52 (fun H locs hw => ?_)
    exact hend H locs ls 55 _ (congrArg (wX cI cT ad) (Option.some.inj hj)) hw d_K_endSegment_55
  · rw [if_neg c_1] at hj
    refine lv_aload_n hx hb d_K_endSegment_32 rfl (lv_at hl 0 rfl) ?_
    refine lv_aload_n hx hb d_K_endSegment_33 rfl (lv_at hl 1 rfl) ?_
    refine gw_put (v := .ref (ad (6 + x1.val))) (ty := (.object "SegmentKernel$Task")) S hw xa_K rfl (by decide) n_T_K f_48 tk_K nm_K rfl (by decide +kernel) rfl rfl (Nat.le_of_ble_eq_true rfl) (xs_P (some x1)) d_K_endSegment_34 (fun H locs hw => ?_)
    refine lv_goto (tgt := 55) hx hb d_K_endSegment_37 (by decide) ?_
    exact hend H locs ls 55 _ (congrArg (wX cI cT ad) (Option.some.inj hj)) hw d_K_endSegment_55
abbrev rm_K_run : Room := { frames := 3, cells := 0, slots := 0, locals := 65 }
def ws_K_run : List Cond := Cond.code y_K_run b_K_run 3 none :: wB
set_option maxHeartbeats 4000000 in
set_option maxRecDepth 100000 in
theorem c_K_run {l : Launch} {D : va_G} {cI cT : ClassId} {ad : Nat → Nat} {n : Nat} {M : MX} {x1 : Fin 8} {a2 : Int32} {M0 : MX} (hj : j_K_run n M x1 a2 = some M0) : gw_Cv l y_K_run ws_K_run rm_K_run D (tyX cI cT) (wX cI cT ad M) [.ref (ad 5), .ref (ad (6 + x1.val)), .int a2] (wX cI cT ad M0) := by
  intro sz
  refine gw_metv (cc := b_K_run) (maxL := 3) (by decide) rfl (Nat.le_of_ble_eq_true rfl) ?_
  intro p e s m args below meth c A Q S H locs hw hend ls hl
  have S : CallFix p m c b_K_run 3 s args ws_K_run R_K := S
  have hx := S.1
  have hb := S.2.1
  have hts := S.2.2.2.2
  have hl : lv_has ls 3 [(0, .ref (ad 5)), (1, .ref (ad (6 + x1.val))), (2, .int a2)] := hl
  have n_T_K : ∀ w ∈ u_ws R_K T_K 6, w ∈ ws_K_run := fun w h => List.mem_cons_of_mem _ (uT_K w h)
  have f_38 : Cond.fieldLink R_K 38 (T_K 2).1 (T_K 2).2.1 (T_K 2).2.2.1 ∈ ws_K_run := List.mem_cons_of_mem _ xw_69
  have f_41 : Cond.fieldLink R_K 41 (T_K 3).1 (T_K 3).2.1 (T_K 3).2.2.1 ∈ ws_K_run := List.mem_cons_of_mem _ xw_70
  have w_74 : CallW rm_K_run s args R_K R_K 74 y_K_endSegment b_K_endSegment 2 none ws_K_endSegment rm_K_endSegment 0 0 1 := cwV 1 hts (wB_callV (fun w h => List.mem_cons_of_mem _ h) xw_237 xw_238 xw_239 xw_240 xw_82) rfl rfl rfl (by decide +kernel) ⟨Nat.le_of_ble_eq_true rfl, Nat.le_of_ble_eq_true rfl⟩
  unfold j_K_run at hj
  refine lv_aload_n hx hb d_K_run_0 rfl (lv_at hl 0 rfl) ?_
  refine lv_dup hx hb d_K_run_1 rfl ?_
  refine gw_get (v := .int (M.2.1 2 2)) S hw xa_K rfl (by decide) n_T_K f_38 rfl d_K_run_2 ?_
  refine lv_iload_n hx hb d_K_run_5 rfl (lv_at hl 2 rfl) ?_
  refine lv_iadd hx hb d_K_run_6 ?_
  refine gw_put (v := .int ((M.2.1 2 2) + a2)) (ty := .int) S hw xa_K rfl (by decide) n_T_K f_38 tk_K nm_K rfl (by decide +kernel) rfl rfl (Nat.le_of_ble_eq_true rfl) (xs_K 2 ((M.2.1 2 2) + a2) (by decide)) d_K_run_7 (fun H locs hw => ?_)
  refine lv_aload_n hx hb d_K_run_10 rfl (lv_at hl 0 rfl) ?_
  refine lv_dup hx hb d_K_run_11 rfl ?_
  refine gw_get (v := .int ((sG M 2 2 ((M.2.1 2 2) + a2)).2.1 2 3)) S hw xa_K rfl (by decide) n_T_K f_41 rfl d_K_run_12 ?_
  refine lv_iload_n hx hb d_K_run_15 rfl (lv_at hl 2 rfl) ?_
  refine lv_isub hx hb d_K_run_16 ?_
  refine gw_put (v := .int (((sG M 2 2 ((M.2.1 2 2) + a2)).2.1 2 3) - a2)) (ty := .int) S hw xa_K rfl (by decide) n_T_K f_41 tk_K nm_K rfl (by decide +kernel) rfl rfl (Nat.le_of_ble_eq_true rfl) (xs_K 3 (((sG M 2 2 ((M.2.1 2 2) + a2)).2.1 2 3) - a2) (by decide)) d_K_run_17 (fun H locs hw => ?_)
  refine lv_aload_n hx hb d_K_run_20 rfl (lv_at hl 0 rfl) ?_
  refine gw_get (v := .int ((sG (sG M 2 2 ((M.2.1 2 2) + a2)) 2 3 (((sG M 2 2 ((M.2.1 2 2) + a2)).2.1 2 3) - a2)).2.1 2 3)) S hw xa_K rfl (by decide) n_T_K f_41 rfl d_K_run_21 ?_
  refine lv_if_ne (tgt := 32) hx hb d_K_run_24 (by decide) (fun c_1 => ?_) (fun c_1 => ?_)
  · rw [if_neg c_1] at hj
    exact hend H locs ls 32 _ (congrArg (wX cI cT ad) (Option.some.inj hj)) hw d_K_run_32
  · rw [if_pos c_1] at hj
    refine lv_aload_n hx hb d_K_run_27 rfl (lv_at hl 0 rfl) ?_
    refine lv_aload_n hx hb d_K_run_28 rfl (lv_at hl 1 rfl) ?_
    obtain ⟨M_3, e_2, hj⟩ := Option.bind_eq_some_iff.mp hj
    refine gw_callv (As := [.ref (ad (6 + x1.val))]) (rest := []) S hw (c_K_endSegment e_2) w_74 xa_K rfl rfl hl.1 rfl (Nat.le_of_ble_eq_true rfl) d_K_run_29 (fun H locs hw => ?_)
    exact hend H locs ls 32 _ (congrArg (wX cI cT ad) (Option.some.inj hj)) hw d_K_run_32
abbrev rm_K_advance : Room := { frames := 4, cells := 0, slots := 0, locals := 87 }
def ws_K_advance : List Cond := Cond.code y_K_advance b_K_advance 6 (some .int) :: wB
set_option maxHeartbeats 4000000 in
set_option maxRecDepth 100000 in
theorem c_K_advance {l : Launch} {D : va_G} {cI cT : ClassId} {ad : Nat → Nat} {n : Nat} {M : MX} {a1 : Int32} {r0 : Int32} {M0 : MX} (hj : j_K_advance n M a1 = some (r0, M0)) : gw_Ci l y_K_advance ws_K_advance rm_K_advance D (tyX cI cT) (wX cI cT ad M) [.ref (ad 5), .int a1] r0 (wX cI cT ad M0) := by
  intro sz
  refine gw_meti (cc := b_K_advance) (maxL := 6) (by decide) rfl (Nat.le_of_ble_eq_true rfl) ?_
  intro p e s m args below meth c A Q S H locs hw hend ls hl
  have S : CallFix p m c b_K_advance 6 s args ws_K_advance R_K := S
  have hx := S.1
  have hb := S.2.1
  have hts := S.2.2.2.2
  have hl : lv_has ls 6 [(0, .ref (ad 5)), (1, .int a1)] := hl
  have n_T_K : ∀ w ∈ u_ws R_K T_K 6, w ∈ ws_K_advance := fun w h => List.mem_cons_of_mem _ (uT_K w h)
  have n_T_T : ∀ w ∈ u_ws R_T T_T 13, w ∈ ws_K_advance := fun w h => List.mem_cons_of_mem _ (uT_T w h)
  have f_38 : Cond.fieldLink R_K 38 (T_K 2).1 (T_K 2).2.1 (T_K 2).2.2.1 ∈ ws_K_advance := List.mem_cons_of_mem _ xw_69
  have f_41 : Cond.fieldLink R_K 41 (T_K 3).1 (T_K 3).2.1 (T_K 3).2.2.1 ∈ ws_K_advance := List.mem_cons_of_mem _ xw_70
  have f_44 : Cond.fieldLink R_K 44 (T_K 4).1 (T_K 4).2.1 (T_K 4).2.2.1 ∈ ws_K_advance := List.mem_cons_of_mem _ xw_71
  have f_61 : Cond.fieldLink R_K 61 (T_T 0).1 (T_T 0).2.1 (T_T 0).2.2.1 ∈ ws_K_advance := List.mem_cons_of_mem _ xw_241
  have m_64 := hts _ (List.mem_cons_of_mem _ xw_242)
  have ms_min := hts _ (List.mem_cons_of_mem _ xw_171)
  have mc_min := hts _ (List.mem_cons_of_mem _ xw_172)
  have mi_ := hts _ (List.mem_cons_of_mem _ xw_90)
  have w_58 : CallW rm_K_advance s args R_K R_K 58 y_K_beginSegment b_K_beginSegment 2 none ws_K_beginSegment rm_K_beginSegment 0 0 0 := cwV 0 hts (wB_callV (fun w h => List.mem_cons_of_mem _ h) xw_243 xw_244 xw_245 xw_246 xw_82) rfl rfl rfl (by decide +kernel) ⟨Nat.le_of_ble_eq_true rfl, Nat.le_of_ble_eq_true rfl⟩
  have w_70 : CallW rm_K_advance s args R_K R_K 70 y_K_run b_K_run 3 none ws_K_run rm_K_run 0 0 2 := cwV 2 hts (wB_callV (fun w h => List.mem_cons_of_mem _ h) xw_247 xw_248 xw_249 xw_250 xw_82) rfl rfl rfl (by decide +kernel) ⟨Nat.le_of_ble_eq_true rfl, Nat.le_of_ble_eq_true rfl⟩
  have L7 : ∀ (f7 : Nat) (v2_7 : Int32) (v3_7 : Int32) (v4_7 : Int32) (M7 : MX), j_K_advance_L7 n a1 f7 v2_7 v3_7 v4_7 M7 = some (r0, M0) → ∀ (H : Heap) (locs : List Loc), gw_W D (tyX cI cT) A (wX cI cT ad M7) s H locs → ∀ ls : Array Slot, lv_has ls 6 [(0, .ref (ad 5)), (1, .int a1), (2, .int v2_7), (3, .int v3_7), (4, .int v4_7)] → W p l e rm_K_advance s m args below meth c H locs 0 0 Q (F0 m 7 ls []) := by
    intro f7
    induction f7 with
    | zero =>
      intro v2_7 v3_7 v4_7 M7 hj
      exact nomatch (show (none : Option (Int32 × MX)) = some (r0, M0) from hj)
    | succ f7 ih7 =>
      intro v2_7 v3_7 v4_7 M7 hj H locs hw ls hl
      rw [j_K_advance_L7] at hj
      refine lv_iload hx hb d_K_advance_7 (lv_at hl 4 rfl) ?_
      refine lv_iload_n hx hb d_K_advance_9 rfl (lv_at hl 1 rfl) ?_
      refine lv_icmp_ge (tgt := 86) hx hb d_K_advance_10 (by decide) (fun c_1 => ?_) (fun c_1 => ?_)
      · rw [if_pos c_1] at hj
        refine lv_iload_n hx hb d_K_advance_86 rfl (lv_at hl 2 rfl) ?_
        exact hend H locs ls 87 _ _ (Prod.mk.inj (Option.some.inj hj)).1 (congrArg (wX cI cT ad) (Prod.mk.inj (Option.some.inj hj)).2) hw d_K_advance_87
      · rw [if_neg c_1] at hj
        refine lv_iload_n hx hb d_K_advance_13 rfl (lv_at hl 3 rfl) ?_
        refine lv_if_le (tgt := 86) hx hb d_K_advance_14 (by decide) (fun c_2 => ?_) (fun c_2 => ?_)
        · rw [if_pos c_2] at hj
          refine lv_iload_n hx hb d_K_advance_86 rfl (lv_at hl 2 rfl) ?_
          exact hend H locs ls 87 _ _ (Prod.mk.inj (Option.some.inj hj)).1 (congrArg (wX cI cT ad) (Prod.mk.inj (Option.some.inj hj)).2) hw d_K_advance_87
        · rw [if_neg c_2] at hj
          refine lv_aload_n hx hb d_K_advance_17 rfl (lv_at hl 0 rfl) ?_
          refine gw_get (v := va_rf (gw_oa ad M7.2.2.2.1)) S hw xa_K rfl (by decide) n_T_K f_44 rfl d_K_advance_18 ?_
          rcases o_22 : M7.2.2.2.1 with _ | y_3
          · rw [gw_oc_none o_22] at hj
            refine lv_ifnonnullN hx hb d_K_advance_21 ?_
            refine lv_aload_n hx hb d_K_advance_24 rfl (lv_at hl 0 rfl) ?_
            obtain ⟨M_5, e_4, hj⟩ := Option.bind_eq_some_iff.mp hj
            refine gw_callv (As := []) (rest := []) S hw (c_K_beginSegment e_4) w_58 xa_K rfl rfl hl.1 rfl (Nat.le_of_ble_eq_true rfl) d_K_advance_25 (fun H locs hw => ?_)
            refine lv_aload_n hx hb d_K_advance_28 rfl (lv_at hl 0 rfl) ?_
            refine gw_get (v := va_rf (gw_oa ad M_5.2.2.2.1)) S hw xa_K rfl (by decide) n_T_K f_44 rfl d_K_advance_29 ?_
            rcases o_13 : M_5.2.2.2.1 with _ | y_6
            · rw [gw_oc_none o_13] at hj
              refine lv_ifnonnullN hx hb d_K_advance_32 ?_
              refine lv_aload_n hx hb d_K_advance_35 rfl (lv_at hl 0 rfl) ?_
              refine lv_dup hx hb d_K_advance_36 rfl ?_
              refine gw_get (v := .int (M_5.2.1 2 2)) S hw xa_K rfl (by decide) n_T_K f_38 rfl d_K_advance_37 ?_
              refine lv_iload_n hx hb d_K_advance_40 rfl (lv_at hl 3 rfl) ?_
              refine lv_iadd hx hb d_K_advance_41 ?_
              refine gw_put (v := .int ((M_5.2.1 2 2) + v3_7)) (ty := .int) S hw xa_K rfl (by decide) n_T_K f_38 tk_K nm_K rfl (by decide +kernel) rfl rfl (Nat.le_of_ble_eq_true rfl) (xs_K 2 ((M_5.2.1 2 2) + v3_7) (by decide)) d_K_advance_42 (fun H locs hw => ?_)
              refine lv_iconst (v := 0) hx hb d_K_advance_45 (by decide) ?_
              exact hend H locs ls 46 _ _ (Prod.mk.inj (Option.some.inj hj)).1 (congrArg (wX cI cT ad) (Prod.mk.inj (Option.some.inj hj)).2) hw d_K_advance_46
            · rw [gw_oc_some o_13] at hj
              refine lv_ifnonnull (tgt := 47) hx hb d_K_advance_32 (by decide) ?_
              refine lv_aload_n hx hb d_K_advance_47 rfl (lv_at hl 0 rfl) ?_
              refine gw_get (v := va_rf (gw_oa ad M_5.2.2.2.1)) S hw xa_K rfl (by decide) n_T_K f_44 rfl d_K_advance_48 ?_
              obtain ⟨y_7, e_8, hj⟩ := Option.bind_eq_some_iff.mp hj
              rw [e_8]
              show W p l _ _ s m args below meth c H locs 0 0 Q (F0 m 51 ls [.ref (ad (6 + y_7.val))])
              refine gw_get (v := .int (M_5.1 0 y_7 0)) S hw (xa_T y_7) rfl (by decide) n_T_T f_61 rfl d_K_advance_51 ?_
              refine lv_istore_n (lv' := [(2, .int (M_5.1 0 y_7 0)), (0, .ref (ad 5)), (1, .int a1), (3, .int v3_7), (4, .int v4_7)]) hx hb d_K_advance_54 rfl hl (by decide) rfl (fun ls hl => ?_)
              refine lv_aload_n hx hb d_K_advance_55 rfl (lv_at hl 1 rfl) ?_
              refine gw_get (v := .int (M_5.2.1 2 3)) S hw xa_K rfl (by decide) n_T_K f_41 rfl d_K_advance_56 ?_
              refine lv_iload_n hx hb d_K_advance_59 rfl (lv_at hl 3 rfl) ?_
              refine va_mmin hx hb (S.2.2.1.trans hl.1.symm) S.2.2.2.1 m_64 ms_min mi_ mc_min (by decide) (Nat.le_of_ble_eq_true rfl) (Nat.zero_le _) (Nat.zero_le _) d_K_advance_60 ?_
              refine lv_istore (lv' := [(5, .int (if v3_7 < (M_5.2.1 2 3) then v3_7 else (M_5.2.1 2 3))), (2, .int (M_5.1 0 y_7 0)), (0, .ref (ad 5)), (1, .int a1), (3, .int v3_7), (4, .int v4_7)]) hx hb d_K_advance_63 hl (by decide) rfl (fun ls hl => ?_)
              refine lv_iload_n hx hb d_K_advance_65 rfl (lv_at hl 4 rfl) ?_
              refine lv_iload hx hb d_K_advance_66 (lv_at hl 0 rfl) ?_
              refine lv_isub hx hb d_K_advance_68 ?_
              refine lv_istore_n (lv' := [(3, .int (v3_7 - (if v3_7 < (M_5.2.1 2 3) then v3_7 else (M_5.2.1 2 3)))), (5, .int (if v3_7 < (M_5.2.1 2 3) then v3_7 else (M_5.2.1 2 3))), (2, .int (M_5.1 0 y_7 0)), (0, .ref (ad 5)), (1, .int a1), (4, .int v4_7)]) hx hb d_K_advance_69 rfl hl (by decide) rfl (fun ls hl => ?_)
              refine lv_aload_n hx hb d_K_advance_70 rfl (lv_at hl 3 rfl) ?_
              refine lv_aload_n hx hb d_K_advance_71 rfl (lv_at hl 3 rfl) ?_
              refine gw_get (v := va_rf (gw_oa ad M_5.2.2.2.1)) S hw xa_K rfl (by decide) n_T_K f_44 rfl d_K_advance_72 ?_
              refine lv_iload hx hb d_K_advance_75 (lv_at hl 1 rfl) ?_
              obtain ⟨y_9, e_10, hj⟩ := Option.bind_eq_some_iff.mp hj
              rw [e_10]
              show W p l _ _ s m args below meth c H locs 0 0 Q (F0 m 77 ls [.int (if v3_7 < (M_5.2.1 2 3) then v3_7 else (M_5.2.1 2 3)), .ref (ad (6 + y_9.val)), .ref (ad 5)])
              obtain ⟨M_12, e_11, hj⟩ := Option.bind_eq_some_iff.mp hj
              refine gw_callv (As := [.ref (ad (6 + y_9.val)), .int (if v3_7 < (M_5.2.1 2 3) then v3_7 else (M_5.2.1 2 3))]) (rest := []) S hw (c_K_run e_11) w_70 xa_K rfl rfl hl.1 rfl (Nat.le_of_ble_eq_true rfl) d_K_advance_77 (fun H locs hw => ?_)
              refine lv_iinc (v := (v4_7 + 1)) (lv' := [(4, .int (v4_7 + 1)), (3, .int (v3_7 - (if v3_7 < (M_5.2.1 2 3) then v3_7 else (M_5.2.1 2 3)))), (5, .int (if v3_7 < (M_5.2.1 2 3) then v3_7 else (M_5.2.1 2 3))), (2, .int (M_5.1 0 y_7 0)), (0, .ref (ad 5)), (1, .int a1)]) hx hb d_K_advance_80 hl (k := 5) rfl rfl (by decide) rfl (fun ls hl => ?_)
              refine lv_goto (tgt := 7) hx hb d_K_advance_83 (by decide) ?_
              exact ih7 (M_5.1 0 y_7 0) (v3_7 - (if v3_7 < (M_5.2.1 2 3) then v3_7 else (M_5.2.1 2 3))) (v4_7 + 1) M_12 hj H locs hw ls (lv_sub hl [4, 5, 3, 1, 0] rfl)
          · rw [gw_oc_some o_22] at hj
            refine lv_ifnonnull (tgt := 28) hx hb d_K_advance_21 (by decide) ?_
            refine lv_aload_n hx hb d_K_advance_28 rfl (lv_at hl 0 rfl) ?_
            refine gw_get (v := va_rf (gw_oa ad M7.2.2.2.1)) S hw xa_K rfl (by decide) n_T_K f_44 rfl d_K_advance_29 ?_
            rcases o_21 : M7.2.2.2.1 with _ | y_14
            · rw [gw_oc_none o_21] at hj
              refine lv_ifnonnullN hx hb d_K_advance_32 ?_
              refine lv_aload_n hx hb d_K_advance_35 rfl (lv_at hl 0 rfl) ?_
              refine lv_dup hx hb d_K_advance_36 rfl ?_
              refine gw_get (v := .int (M7.2.1 2 2)) S hw xa_K rfl (by decide) n_T_K f_38 rfl d_K_advance_37 ?_
              refine lv_iload_n hx hb d_K_advance_40 rfl (lv_at hl 3 rfl) ?_
              refine lv_iadd hx hb d_K_advance_41 ?_
              refine gw_put (v := .int ((M7.2.1 2 2) + v3_7)) (ty := .int) S hw xa_K rfl (by decide) n_T_K f_38 tk_K nm_K rfl (by decide +kernel) rfl rfl (Nat.le_of_ble_eq_true rfl) (xs_K 2 ((M7.2.1 2 2) + v3_7) (by decide)) d_K_advance_42 (fun H locs hw => ?_)
              refine lv_iconst (v := 0) hx hb d_K_advance_45 (by decide) ?_
              exact hend H locs ls 46 _ _ (Prod.mk.inj (Option.some.inj hj)).1 (congrArg (wX cI cT ad) (Prod.mk.inj (Option.some.inj hj)).2) hw d_K_advance_46
            · rw [gw_oc_some o_21] at hj
              refine lv_ifnonnull (tgt := 47) hx hb d_K_advance_32 (by decide) ?_
              refine lv_aload_n hx hb d_K_advance_47 rfl (lv_at hl 0 rfl) ?_
              refine gw_get (v := va_rf (gw_oa ad M7.2.2.2.1)) S hw xa_K rfl (by decide) n_T_K f_44 rfl d_K_advance_48 ?_
              obtain ⟨y_15, e_16, hj⟩ := Option.bind_eq_some_iff.mp hj
              rw [e_16]
              show W p l _ _ s m args below meth c H locs 0 0 Q (F0 m 51 ls [.ref (ad (6 + y_15.val))])
              refine gw_get (v := .int (M7.1 0 y_15 0)) S hw (xa_T y_15) rfl (by decide) n_T_T f_61 rfl d_K_advance_51 ?_
              refine lv_istore_n (lv' := [(2, .int (M7.1 0 y_15 0)), (0, .ref (ad 5)), (1, .int a1), (3, .int v3_7), (4, .int v4_7)]) hx hb d_K_advance_54 rfl hl (by decide) rfl (fun ls hl => ?_)
              refine lv_aload_n hx hb d_K_advance_55 rfl (lv_at hl 1 rfl) ?_
              refine gw_get (v := .int (M7.2.1 2 3)) S hw xa_K rfl (by decide) n_T_K f_41 rfl d_K_advance_56 ?_
              refine lv_iload_n hx hb d_K_advance_59 rfl (lv_at hl 3 rfl) ?_
              refine va_mmin hx hb (S.2.2.1.trans hl.1.symm) S.2.2.2.1 m_64 ms_min mi_ mc_min (by decide) (Nat.le_of_ble_eq_true rfl) (Nat.zero_le _) (Nat.zero_le _) d_K_advance_60 ?_
              refine lv_istore (lv' := [(5, .int (if v3_7 < (M7.2.1 2 3) then v3_7 else (M7.2.1 2 3))), (2, .int (M7.1 0 y_15 0)), (0, .ref (ad 5)), (1, .int a1), (3, .int v3_7), (4, .int v4_7)]) hx hb d_K_advance_63 hl (by decide) rfl (fun ls hl => ?_)
              refine lv_iload_n hx hb d_K_advance_65 rfl (lv_at hl 4 rfl) ?_
              refine lv_iload hx hb d_K_advance_66 (lv_at hl 0 rfl) ?_
              refine lv_isub hx hb d_K_advance_68 ?_
              refine lv_istore_n (lv' := [(3, .int (v3_7 - (if v3_7 < (M7.2.1 2 3) then v3_7 else (M7.2.1 2 3)))), (5, .int (if v3_7 < (M7.2.1 2 3) then v3_7 else (M7.2.1 2 3))), (2, .int (M7.1 0 y_15 0)), (0, .ref (ad 5)), (1, .int a1), (4, .int v4_7)]) hx hb d_K_advance_69 rfl hl (by decide) rfl (fun ls hl => ?_)
              refine lv_aload_n hx hb d_K_advance_70 rfl (lv_at hl 3 rfl) ?_
              refine lv_aload_n hx hb d_K_advance_71 rfl (lv_at hl 3 rfl) ?_
              refine gw_get (v := va_rf (gw_oa ad M7.2.2.2.1)) S hw xa_K rfl (by decide) n_T_K f_44 rfl d_K_advance_72 ?_
              refine lv_iload hx hb d_K_advance_75 (lv_at hl 1 rfl) ?_
              obtain ⟨y_17, e_18, hj⟩ := Option.bind_eq_some_iff.mp hj
              rw [e_18]
              show W p l _ _ s m args below meth c H locs 0 0 Q (F0 m 77 ls [.int (if v3_7 < (M7.2.1 2 3) then v3_7 else (M7.2.1 2 3)), .ref (ad (6 + y_17.val)), .ref (ad 5)])
              obtain ⟨M_20, e_19, hj⟩ := Option.bind_eq_some_iff.mp hj
              refine gw_callv (As := [.ref (ad (6 + y_17.val)), .int (if v3_7 < (M7.2.1 2 3) then v3_7 else (M7.2.1 2 3))]) (rest := []) S hw (c_K_run e_19) w_70 xa_K rfl rfl hl.1 rfl (Nat.le_of_ble_eq_true rfl) d_K_advance_77 (fun H locs hw => ?_)
              refine lv_iinc (v := (v4_7 + 1)) (lv' := [(4, .int (v4_7 + 1)), (3, .int (v3_7 - (if v3_7 < (M7.2.1 2 3) then v3_7 else (M7.2.1 2 3)))), (5, .int (if v3_7 < (M7.2.1 2 3) then v3_7 else (M7.2.1 2 3))), (2, .int (M7.1 0 y_15 0)), (0, .ref (ad 5)), (1, .int a1)]) hx hb d_K_advance_80 hl (k := 5) rfl rfl (by decide) rfl (fun ls hl => ?_)
              refine lv_goto (tgt := 7) hx hb d_K_advance_83 (by decide) ?_
              exact ih7 (M7.1 0 y_15 0) (v3_7 - (if v3_7 < (M7.2.1 2 3) then v3_7 else (M7.2.1 2 3))) (v4_7 + 1) M_20 hj H locs hw ls (lv_sub hl [4, 5, 3, 1, 0] rfl)
  unfold j_K_advance at hj
  refine lv_iconst (v := 0) hx hb d_K_advance_0 (by decide) ?_
  refine lv_istore_n (lv' := [(2, .int 0), (0, .ref (ad 5)), (1, .int a1)]) hx hb d_K_advance_1 rfl hl (by decide) rfl (fun ls hl => ?_)
  refine lv_iload_n hx hb d_K_advance_2 rfl (lv_at hl 2 rfl) ?_
  refine lv_istore_n (lv' := [(3, .int a1), (2, .int 0), (0, .ref (ad 5)), (1, .int a1)]) hx hb d_K_advance_3 rfl hl (by decide) rfl (fun ls hl => ?_)
  refine lv_iconst (v := 0) hx hb d_K_advance_4 (by decide) ?_
  refine lv_istore (lv' := [(4, .int 0), (3, .int a1), (2, .int 0), (0, .ref (ad 5)), (1, .int a1)]) hx hb d_K_advance_5 hl (by decide) rfl (fun ls hl => ?_)
  exact L7 n 0 a1 0 M hj H locs hw ls (lv_sub hl [3, 4, 2, 1, 0] rfl)
abbrev rm_O_now : Room := { frames := 0, cells := 0, slots := 0, locals := 0 }
def ws_O_now : List Cond := Cond.code y_O_now b_O_now 1 (some .int) :: wB
set_option maxHeartbeats 4000000 in
set_option maxRecDepth 100000 in
theorem c_O_now {l : Launch} {D : va_G} {cI cT : ClassId} {ad : Nat → Nat} {n : Nat} {M : MX} {r0 : Int32} (hj : j_O_now n M = some r0) : gw_Ci l y_O_now ws_O_now rm_O_now D (tyX cI cT) (wX cI cT ad M) [.ref (ad 0)] r0 (wX cI cT ad M) := by
  intro sz
  refine gw_meti (cc := b_O_now) (maxL := 1) (by decide) rfl (Nat.le_of_ble_eq_true rfl) ?_
  intro p e s m args below meth c A Q S H locs hw hend ls hl
  have S : CallFix p m c b_O_now 1 s args ws_O_now R_O := S
  have hx := S.1
  have hb := S.2.1
  have hts := S.2.2.2.2
  have hl : lv_has ls 1 [(0, .ref (ad 0))] := hl
  have n_T_K : ∀ w ∈ u_ws R_K T_K 6, w ∈ ws_O_now := fun w h => List.mem_cons_of_mem _ (uT_K w h)
  have n_T_O : ∀ w ∈ u_ws R_O T_O 3, w ∈ ws_O_now := fun w h => List.mem_cons_of_mem _ (uT_O w h)
  have f_28 : Cond.fieldLink R_O 28 (T_O 2).1 (T_O 2).2.1 (T_O 2).2.2.1 ∈ ws_O_now := List.mem_cons_of_mem _ xw_43
  have f_124 : Cond.fieldLink R_O 124 (T_K 2).1 (T_K 2).2.1 (T_K 2).2.2.1 ∈ ws_O_now := List.mem_cons_of_mem _ xw_251
  unfold j_O_now at hj
  refine lv_aload_n hx hb d_O_now_0 rfl (lv_at hl 0 rfl) ?_
  refine gw_get (v := .ref (ad 5)) S hw xa_O rfl (by decide) n_T_O f_28 rfl d_O_now_1 ?_
  refine gw_get (v := .int (M.2.1 2 2)) S hw xa_K rfl (by decide) n_T_K f_124 rfl d_O_now_4 ?_
  exact hend H locs ls 7 _ _ (Option.some.inj hj) rfl hw d_O_now_7
abbrev rm_J_notedResponse : Room := { frames := 0, cells := 0, slots := 0, locals := 0 }
def ws_J_notedResponse : List Cond := Cond.code y_J_notedResponse b_J_notedResponse 2 (some .int) :: wB
set_option maxHeartbeats 4000000 in
set_option maxRecDepth 100000 in
theorem c_J_notedResponse {l : Launch} {D : va_G} {cI cT : ClassId} {ad : Nat → Nat} {n : Nat} {M : MX} {x0 : Fin 8} {a1 : Int32} {r0 : Int32} (hj : j_J_notedResponse n M x0 a1 = some r0) : gw_Ci l y_J_notedResponse ws_J_notedResponse rm_J_notedResponse D (tyX cI cT) (wX cI cT ad M) [.ref (ad (14 + x0.val)), .int a1] r0 (wX cI cT ad M) := by
  intro sz
  refine gw_meti (cc := b_J_notedResponse) (maxL := 2) (by decide) rfl (Nat.le_of_ble_eq_true rfl) ?_
  intro p e s m args below meth c A Q S H locs hw hend ls hl
  have S : CallFix p m c b_J_notedResponse 2 s args ws_J_notedResponse R_J := S
  have hx := S.1
  have hb := S.2.1
  have hts := S.2.2.2.2
  have hl : lv_has ls 2 [(0, .ref (ad (14 + x0.val))), (1, .int a1)] := hl
  have n_T_J : ∀ w ∈ u_ws R_J T_J 8, w ∈ ws_J_notedResponse := fun w h => List.mem_cons_of_mem _ (uT_J w h)
  have f_15 : Cond.fieldLink R_J 15 (T_J 1).1 (T_J 1).2.1 (T_J 1).2.2.1 ∈ ws_J_notedResponse := List.mem_cons_of_mem _ xw_229
  have f_22 : Cond.fieldLink R_J 22 (T_J 3).1 (T_J 3).2.1 (T_J 3).2.2.1 ∈ ws_J_notedResponse := List.mem_cons_of_mem _ xw_59
  unfold j_J_notedResponse at hj
  refine lv_iload_n hx hb d_J_notedResponse_0 rfl (lv_at hl 1 rfl) ?_
  refine lv_if_lt (tgt := 19) hx hb d_J_notedResponse_1 (by decide) (fun c_1 => ?_) (fun c_1 => ?_)
  · rw [if_pos c_1] at hj
    refine lv_iconst (v := -1) hx hb d_J_notedResponse_19 (by decide) ?_
    refine lv_goto (tgt := 29) hx hb d_J_notedResponse_20 (by decide) ?_
    exact hend H locs ls 29 _ _ (Option.some.inj hj) rfl hw d_J_notedResponse_29
  · rw [if_neg c_1] at hj
    refine lv_iload_n hx hb d_J_notedResponse_4 rfl (lv_at hl 1 rfl) ?_
    refine lv_aload_n hx hb d_J_notedResponse_5 rfl (lv_at hl 0 rfl) ?_
    refine gw_get (v := .int (M.1 1 x0 3)) S hw (xa_J x0) rfl (by decide) n_T_J f_22 rfl d_J_notedResponse_6 ?_
    refine lv_icmp_ge (tgt := 19) hx hb d_J_notedResponse_9 (by decide) (fun c_2 => ?_) (fun c_2 => ?_)
    · rw [if_pos c_2] at hj
      refine lv_iconst (v := -1) hx hb d_J_notedResponse_19 (by decide) ?_
      refine lv_goto (tgt := 29) hx hb d_J_notedResponse_20 (by decide) ?_
      exact hend H locs ls 29 _ _ (Option.some.inj hj) rfl hw d_J_notedResponse_29
    · rw [if_neg c_2] at hj
      refine lv_iload_n hx hb d_J_notedResponse_12 rfl (lv_at hl 1 rfl) ?_
      refine lv_sipush (v := 200) hx hb d_J_notedResponse_13 (by decide) ?_
      refine lv_icmp_lt (tgt := 23) hx hb d_J_notedResponse_16 (by decide) (fun c_3 => ?_) (fun c_3 => ?_)
      · rw [if_pos c_3] at hj
        refine lv_aload_n hx hb d_J_notedResponse_23 rfl (lv_at hl 0 rfl) ?_
        refine gw_get (v := .ref (ad (38 + x0.val))) S hw (xa_J x0) rfl (by decide) n_T_J f_15 rfl d_J_notedResponse_24 ?_
        refine lv_iload_n hx hb d_J_notedResponse_27 rfl (lv_at hl 1 rfl) ?_
        obtain ⟨g_4, hj⟩ := gw_if hj
        refine gw_iald (t0 := 0) S hw ⟨xa_no x0, rfl⟩ g_4 d_J_notedResponse_28 ?_
        exact hend H locs ls 29 _ _ (Option.some.inj hj) rfl hw d_J_notedResponse_29
      · rw [if_neg c_3] at hj
        refine lv_iconst (v := -1) hx hb d_J_notedResponse_19 (by decide) ?_
        refine lv_goto (tgt := 29) hx hb d_J_notedResponse_20 (by decide) ?_
        exact hend H locs ls 29 _ _ (Option.some.inj hj) rfl hw d_J_notedResponse_29
abbrev rm_O_ended : Room := { frames := 1, cells := 0, slots := 0, locals := 22 }
def ws_O_ended : List Cond := Cond.code y_O_ended b_O_ended 4 (some .int) :: wB
set_option maxHeartbeats 4000000 in
set_option maxRecDepth 100000 in
theorem c_O_ended {l : Launch} {D : va_G} {cI cT : ClassId} {ad : Nat → Nat} {n : Nat} {M : MX} {a1 : Int32} {a2 : Int32} {r0 : Int32} (hj : j_O_ended n M a1 a2 = some r0) : gw_Ci l y_O_ended ws_O_ended rm_O_ended D (tyX cI cT) (wX cI cT ad M) [.ref (ad 0), .int a1, .int a2] r0 (wX cI cT ad M) := by
  intro sz
  refine gw_meti (cc := b_O_ended) (maxL := 4) (by decide) rfl (Nat.le_of_ble_eq_true rfl) ?_
  intro p e s m args below meth c A Q S H locs hw hend ls hl
  have S : CallFix p m c b_O_ended 4 s args ws_O_ended R_O := S
  have hx := S.1
  have hb := S.2.1
  have hts := S.2.2.2.2
  have hl : lv_has ls 4 [(0, .ref (ad 0)), (1, .int a1), (2, .int a2)] := hl
  have n_T_O : ∀ w ∈ u_ws R_O T_O 3, w ∈ ws_O_ended := fun w h => List.mem_cons_of_mem _ (uT_O w h)
  have n_T_T : ∀ w ∈ u_ws R_T T_T 13, w ∈ ws_O_ended := fun w h => List.mem_cons_of_mem _ (uT_T w h)
  have f_10 : Cond.fieldLink R_O 10 (T_O 0).1 (T_O 0).2.1 (T_O 0).2.2.1 ∈ ws_O_ended := List.mem_cons_of_mem _ xw_42
  have f_127 : Cond.fieldLink R_O 127 (T_T 1).1 (T_T 1).2.1 (T_T 1).2.2.1 ∈ ws_O_ended := List.mem_cons_of_mem _ xw_252
  have w_50 : CallW rm_O_ended s args R_O R_S 50 y_S_find b_S_find 3 (some (.object "SegmentKernel$Task")) ws_S_find rm_S_find 0 0 1 := cwV 1 hts (wB_callV (fun w h => List.mem_cons_of_mem _ h) xw_26 xw_105 xw_28 xw_29 xw_14) rfl rfl rfl (by decide +kernel) ⟨Nat.le_of_ble_eq_true rfl, Nat.le_of_ble_eq_true rfl⟩
  have w_131 : CallW rm_O_ended s args R_O R_J 131 y_J_notedResponse b_J_notedResponse 2 (some .int) ws_J_notedResponse rm_J_notedResponse 0 0 1 := cwV 1 hts (wB_callV (fun w h => List.mem_cons_of_mem _ h) xw_253 xw_254 xw_255 xw_256 xw_77) rfl rfl rfl (by decide +kernel) ⟨Nat.le_of_ble_eq_true rfl, Nat.le_of_ble_eq_true rfl⟩
  unfold j_O_ended at hj
  refine lv_aload_n hx hb d_O_ended_0 rfl (lv_at hl 0 rfl) ?_
  refine gw_get (v := .ref (ad 1)) S hw xa_O rfl (by decide) n_T_O f_10 rfl d_O_ended_1 ?_
  refine lv_iload_n hx hb d_O_ended_4 rfl (lv_at hl 1 rfl) ?_
  obtain ⟨r_2, e_1, hj⟩ := Option.bind_eq_some_iff.mp hj
  refine gw_callq (As := [.int a1]) (rest := []) S hw (c_S_find e_1) w_50 xa_S rfl rfl hl.1 rfl (Nat.le_of_ble_eq_true rfl) d_O_ended_5 (fun H locs hw => ?_)
  refine gw_astore_n (lv' := [(3, va_rf (gw_oa ad r_2)), (0, .ref (ad 0)), (1, .int a1), (2, .int a2)]) hx hb d_O_ended_8 rfl hl (by decide) rfl (fun ls hl => ?_)
  refine gw_aload_n hx hb d_O_ended_9 rfl (lv_at hl 0 rfl) ?_
  rcases r_2 with _ | y_3
  · rw [gw_oc_none rfl] at hj
    refine lv_ifnonnullN hx hb d_O_ended_10 ?_
    refine lv_iconst (v := -1) hx hb d_O_ended_13 (by decide) ?_
    refine lv_goto (tgt := 25) hx hb d_O_ended_14 (by decide) ?_
    exact hend H locs ls 25 _ _ (Option.some.inj hj) rfl hw d_O_ended_25
  · rw [gw_oc_some rfl] at hj
    refine lv_ifnonnull (tgt := 17) hx hb d_O_ended_10 (by decide) ?_
    refine lv_aload_n hx hb d_O_ended_17 rfl (lv_at hl 0 rfl) ?_
    refine gw_get (v := .ref (ad (14 + y_3.val))) S hw (xa_T y_3) rfl (by decide) n_T_T f_127 rfl d_O_ended_18 ?_
    refine lv_iload_n hx hb d_O_ended_21 rfl (lv_at hl 3 rfl) ?_
    obtain ⟨r_5, e_4, hj⟩ := Option.bind_eq_some_iff.mp hj
    refine gw_calli (As := [.int a2]) (rest := []) S hw (c_J_notedResponse e_4) w_131 (xa_J y_3) rfl rfl hl.1 rfl (Nat.le_of_ble_eq_true rfl) d_O_ended_22 (fun H locs hw => ?_)
    exact hend H locs ls 25 _ _ (Option.some.inj hj) rfl hw d_O_ended_25
abbrev rm_K_leftOf : Room := { frames := 0, cells := 0, slots := 0, locals := 0 }
def ws_K_leftOf : List Cond := Cond.code y_K_leftOf b_K_leftOf 2 (some .int) :: wB
set_option maxHeartbeats 4000000 in
set_option maxRecDepth 100000 in
theorem c_K_leftOf {l : Launch} {D : va_G} {cI cT : ClassId} {ad : Nat → Nat} {n : Nat} {M : MX} {x1 : Fin 8} {r0 : Int32} (hj : j_K_leftOf n M x1 = some r0) : gw_Ci l y_K_leftOf ws_K_leftOf rm_K_leftOf D (tyX cI cT) (wX cI cT ad M) [.ref (ad 5), .ref (ad (6 + x1.val))] r0 (wX cI cT ad M) := by
  intro sz
  refine gw_meti (cc := b_K_leftOf) (maxL := 2) (by decide) rfl (Nat.le_of_ble_eq_true rfl) ?_
  intro p e s m args below meth c A Q S H locs hw hend ls hl
  have S : CallFix p m c b_K_leftOf 2 s args ws_K_leftOf R_K := S
  have hx := S.1
  have hb := S.2.1
  have hts := S.2.2.2.2
  have hl : lv_has ls 2 [(0, .ref (ad 5)), (1, .ref (ad (6 + x1.val)))] := hl
  have hinj := xi_inj hw
  have n_T_K : ∀ w ∈ u_ws R_K T_K 6, w ∈ ws_K_leftOf := fun w h => List.mem_cons_of_mem _ (uT_K w h)
  have f_41 : Cond.fieldLink R_K 41 (T_K 3).1 (T_K 3).2.1 (T_K 3).2.2.1 ∈ ws_K_leftOf := List.mem_cons_of_mem _ xw_70
  have f_44 : Cond.fieldLink R_K 44 (T_K 4).1 (T_K 4).2.1 (T_K 4).2.2.1 ∈ ws_K_leftOf := List.mem_cons_of_mem _ xw_71
  unfold j_K_leftOf at hj
  refine lv_aload_n hx hb d_K_leftOf_0 rfl (lv_at hl 1 rfl) ?_
  refine lv_aload_n hx hb d_K_leftOf_1 rfl (lv_at hl 0 rfl) ?_
  refine gw_get (v := va_rf (gw_oa ad M.2.2.2.1)) S hw xa_K rfl (by decide) n_T_K f_44 rfl d_K_leftOf_2 ?_
  refine gw_acmp_ne (ad := ad) (ox := (some x1)) (oy := M.2.2.2.1) (tgt := 15) hinj hx hb d_K_leftOf_5 (by decide) (fun c_1 => ?_) (fun c_1 => ?_)
  · rw [if_neg c_1] at hj
    refine lv_iconst (v := 0) hx hb d_K_leftOf_15 (by decide) ?_
    exact hend H locs ls 16 _ _ (Option.some.inj hj) rfl hw d_K_leftOf_16
  · rw [if_pos c_1] at hj
    refine lv_aload_n hx hb d_K_leftOf_8 rfl (lv_at hl 0 rfl) ?_
    refine gw_get (v := .int (M.2.1 2 3)) S hw xa_K rfl (by decide) n_T_K f_41 rfl d_K_leftOf_9 ?_
    refine lv_goto (tgt := 16) hx hb d_K_leftOf_12 (by decide) ?_
    exact hend H locs ls 16 _ _ (Option.some.inj hj) rfl hw d_K_leftOf_16
abbrev rm_O_seen : Room := { frames := 1, cells := 0, slots := 0, locals := 22 }
def ws_O_seen : List Cond := Cond.code y_O_seen b_O_seen 4 (some .int) :: wB
set_option maxHeartbeats 4000000 in
set_option maxRecDepth 100000 in
theorem c_O_seen {l : Launch} {D : va_G} {cI cT : ClassId} {ad : Nat → Nat} {n : Nat} {M : MX} {a1 : Int32} {a2 : Int32} {r0 : Int32} (hj : j_O_seen n M a1 a2 = some r0) : gw_Ci l y_O_seen ws_O_seen rm_O_seen D (tyX cI cT) (wX cI cT ad M) [.ref (ad 0), .int a1, .int a2] r0 (wX cI cT ad M) := by
  intro sz
  refine gw_meti (cc := b_O_seen) (maxL := 4) (by decide) rfl (Nat.le_of_ble_eq_true rfl) ?_
  intro p e s m args below meth c A Q S H locs hw hend ls hl
  have S : CallFix p m c b_O_seen 4 s args ws_O_seen R_O := S
  have hx := S.1
  have hb := S.2.1
  have hts := S.2.2.2.2
  have hl : lv_has ls 4 [(0, .ref (ad 0)), (1, .int a1), (2, .int a2)] := hl
  have n_T_J : ∀ w ∈ u_ws R_J T_J 8, w ∈ ws_O_seen := fun w h => List.mem_cons_of_mem _ (uT_J w h)
  have n_T_O : ∀ w ∈ u_ws R_O T_O 3, w ∈ ws_O_seen := fun w h => List.mem_cons_of_mem _ (uT_O w h)
  have n_T_T : ∀ w ∈ u_ws R_T T_T 13, w ∈ ws_O_seen := fun w h => List.mem_cons_of_mem _ (uT_T w h)
  have f_10 : Cond.fieldLink R_O 10 (T_O 0).1 (T_O 0).2.1 (T_O 0).2.2.1 ∈ ws_O_seen := List.mem_cons_of_mem _ xw_42
  have f_28 : Cond.fieldLink R_O 28 (T_O 2).1 (T_O 2).2.1 (T_O 2).2.2.1 ∈ ws_O_seen := List.mem_cons_of_mem _ xw_43
  have f_127 : Cond.fieldLink R_O 127 (T_T 1).1 (T_T 1).2.1 (T_T 1).2.2.1 ∈ ws_O_seen := List.mem_cons_of_mem _ xw_252
  have f_136 : Cond.fieldLink R_O 136 (T_J 2).1 (T_J 2).2.1 (T_J 2).2.2.1 ∈ ws_O_seen := List.mem_cons_of_mem _ xw_257
  have f_139 : Cond.fieldLink R_O 139 (T_J 3).1 (T_J 3).2.1 (T_J 3).2.2.1 ∈ ws_O_seen := List.mem_cons_of_mem _ xw_258
  have f_142 : Cond.fieldLink R_O 142 (T_J 4).1 (T_J 4).2.1 (T_J 4).2.2.1 ∈ ws_O_seen := List.mem_cons_of_mem _ xw_259
  have f_145 : Cond.fieldLink R_O 145 (T_J 5).1 (T_J 5).2.1 (T_J 5).2.2.1 ∈ ws_O_seen := List.mem_cons_of_mem _ xw_260
  have f_148 : Cond.fieldLink R_O 148 (T_J 6).1 (T_J 6).2.1 (T_J 6).2.2.1 ∈ ws_O_seen := List.mem_cons_of_mem _ xw_261
  have w_50 : CallW rm_O_seen s args R_O R_S 50 y_S_find b_S_find 3 (some (.object "SegmentKernel$Task")) ws_S_find rm_S_find 0 0 1 := cwV 1 hts (wB_callV (fun w h => List.mem_cons_of_mem _ h) xw_26 xw_105 xw_28 xw_29 xw_14) rfl rfl rfl (by decide +kernel) ⟨Nat.le_of_ble_eq_true rfl, Nat.le_of_ble_eq_true rfl⟩
  have w_151 : CallW rm_O_seen s args R_O R_K 151 y_K_leftOf b_K_leftOf 2 (some .int) ws_K_leftOf rm_K_leftOf 0 0 1 := cwV 1 hts (wB_callV (fun w h => List.mem_cons_of_mem _ h) xw_262 xw_263 xw_264 xw_265 xw_82) rfl rfl rfl (by decide +kernel) ⟨Nat.le_of_ble_eq_true rfl, Nat.le_of_ble_eq_true rfl⟩
  unfold j_O_seen at hj
  refine lv_aload_n hx hb d_O_seen_0 rfl (lv_at hl 0 rfl) ?_
  refine gw_get (v := .ref (ad 1)) S hw xa_O rfl (by decide) n_T_O f_10 rfl d_O_seen_1 ?_
  refine lv_iload_n hx hb d_O_seen_4 rfl (lv_at hl 1 rfl) ?_
  obtain ⟨r_2, e_1, hj⟩ := Option.bind_eq_some_iff.mp hj
  refine gw_callq (As := [.int a1]) (rest := []) S hw (c_S_find e_1) w_50 xa_S rfl rfl hl.1 rfl (Nat.le_of_ble_eq_true rfl) d_O_seen_5 (fun H locs hw => ?_)
  refine gw_astore_n (lv' := [(3, va_rf (gw_oa ad r_2)), (0, .ref (ad 0)), (1, .int a1), (2, .int a2)]) hx hb d_O_seen_8 rfl hl (by decide) rfl (fun ls hl => ?_)
  refine gw_aload_n hx hb d_O_seen_9 rfl (lv_at hl 0 rfl) ?_
  rcases r_2 with _ | y_3
  · rw [gw_oc_none rfl] at hj
    refine lv_ifnonnullN hx hb d_O_seen_10 ?_
    refine lv_iconst (v := -1) hx hb d_O_seen_13 (by decide) ?_
    exact hend H locs ls 14 _ _ (Option.some.inj hj) rfl hw d_O_seen_14
  · rw [gw_oc_some rfl] at hj
    refine lv_ifnonnull (tgt := 15) hx hb d_O_seen_10 (by decide) ?_
    refine lv_iload_n hx hb d_O_seen_15 rfl (lv_at hl 3 rfl) ?_
    by_cases c_4 : a2 = 0
    · rw [if_pos c_4] at hj
      refine lv_tableIn (tgt := 56) hx hb d_O_seen_16 (by rw [c_4]; decide) (by rw [c_4]; decide) (by rw [c_4]; rfl) (by decide) ?_
      refine lv_aload_n hx hb d_O_seen_56 rfl (lv_at hl 0 rfl) ?_
      refine gw_get (v := .ref (ad (14 + y_3.val))) S hw (xa_T y_3) rfl (by decide) n_T_T f_127 rfl d_O_seen_57 ?_
      refine gw_get (v := .int (M.1 1 y_3 2)) S hw (xa_J y_3) rfl (by decide) n_T_J f_136 rfl d_O_seen_60 ?_
      exact hend H locs ls 63 _ _ (Option.some.inj hj) rfl hw d_O_seen_63
    rw [if_neg c_4] at hj
    by_cases c_5 : a2 = 1
    · rw [if_pos c_5] at hj
      refine lv_tableIn (tgt := 64) hx hb d_O_seen_16 (by rw [c_5]; decide) (by rw [c_5]; decide) (by rw [c_5]; rfl) (by decide) ?_
      refine lv_aload_n hx hb d_O_seen_64 rfl (lv_at hl 0 rfl) ?_
      refine gw_get (v := .ref (ad (14 + y_3.val))) S hw (xa_T y_3) rfl (by decide) n_T_T f_127 rfl d_O_seen_65 ?_
      refine gw_get (v := .int (M.1 1 y_3 3)) S hw (xa_J y_3) rfl (by decide) n_T_J f_139 rfl d_O_seen_68 ?_
      exact hend H locs ls 71 _ _ (Option.some.inj hj) rfl hw d_O_seen_71
    rw [if_neg c_5] at hj
    by_cases c_6 : a2 = 2
    · rw [if_pos c_6] at hj
      refine lv_tableIn (tgt := 72) hx hb d_O_seen_16 (by rw [c_6]; decide) (by rw [c_6]; decide) (by rw [c_6]; rfl) (by decide) ?_
      refine lv_aload_n hx hb d_O_seen_72 rfl (lv_at hl 0 rfl) ?_
      refine gw_get (v := .ref (ad (14 + y_3.val))) S hw (xa_T y_3) rfl (by decide) n_T_T f_127 rfl d_O_seen_73 ?_
      refine gw_get (v := .int (M.1 1 y_3 4)) S hw (xa_J y_3) rfl (by decide) n_T_J f_142 rfl d_O_seen_76 ?_
      exact hend H locs ls 79 _ _ (Option.some.inj hj) rfl hw d_O_seen_79
    rw [if_neg c_6] at hj
    by_cases c_7 : a2 = 3
    · rw [if_pos c_7] at hj
      refine lv_tableIn (tgt := 80) hx hb d_O_seen_16 (by rw [c_7]; decide) (by rw [c_7]; decide) (by rw [c_7]; rfl) (by decide) ?_
      refine lv_aload_n hx hb d_O_seen_80 rfl (lv_at hl 0 rfl) ?_
      refine gw_get (v := .ref (ad (14 + y_3.val))) S hw (xa_T y_3) rfl (by decide) n_T_T f_127 rfl d_O_seen_81 ?_
      refine gw_get (v := .int (M.1 1 y_3 5)) S hw (xa_J y_3) rfl (by decide) n_T_J f_145 rfl d_O_seen_84 ?_
      exact hend H locs ls 87 _ _ (Option.some.inj hj) rfl hw d_O_seen_87
    rw [if_neg c_7] at hj
    by_cases c_8 : a2 = 4
    · rw [if_pos c_8] at hj
      refine lv_tableIn (tgt := 88) hx hb d_O_seen_16 (by rw [c_8]; decide) (by rw [c_8]; decide) (by rw [c_8]; rfl) (by decide) ?_
      refine lv_aload_n hx hb d_O_seen_88 rfl (lv_at hl 0 rfl) ?_
      refine gw_get (v := .ref (ad (14 + y_3.val))) S hw (xa_T y_3) rfl (by decide) n_T_T f_127 rfl d_O_seen_89 ?_
      refine gw_get (v := .int (M.1 1 y_3 6)) S hw (xa_J y_3) rfl (by decide) n_T_J f_148 rfl d_O_seen_92 ?_
      exact hend H locs ls 95 _ _ (Option.some.inj hj) rfl hw d_O_seen_95
    rw [if_neg c_8] at hj
    by_cases c_11 : a2 = 5
    · rw [if_pos c_11] at hj
      refine lv_tableIn (tgt := 96) hx hb d_O_seen_16 (by rw [c_11]; decide) (by rw [c_11]; decide) (by rw [c_11]; rfl) (by decide) ?_
      refine lv_aload_n hx hb d_O_seen_96 rfl (lv_at hl 1 rfl) ?_
      refine gw_get (v := .ref (ad 5)) S hw xa_O rfl (by decide) n_T_O f_28 rfl d_O_seen_97 ?_
      refine lv_aload_n hx hb d_O_seen_100 rfl (lv_at hl 0 rfl) ?_
      obtain ⟨r_10, e_9, hj⟩ := Option.bind_eq_some_iff.mp hj
      refine gw_calli (As := [.ref (ad (6 + y_3.val))]) (rest := []) S hw (c_K_leftOf e_9) w_151 xa_K rfl rfl hl.1 rfl (Nat.le_of_ble_eq_true rfl) d_O_seen_101 (fun H locs hw => ?_)
      exact hend H locs ls 104 _ _ (Option.some.inj hj) rfl hw d_O_seen_104
    rw [if_neg c_11] at hj
    refine lv_tableOut (tgt := 105) hx hb d_O_seen_16 (gw_out6 c_4 c_5 c_6 c_7 c_8 c_11) (by decide) ?_
    refine lv_iconst (v := -1) hx hb d_O_seen_105 (by decide) ?_
    exact hend H locs ls 106 _ _ (Option.some.inj hj) rfl hw d_O_seen_106
