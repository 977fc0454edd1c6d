/-! the contracts of the methods that throw, where they throw -/
abbrev rmT_O_admit : Room := { frames := 6, cells := 1, slots := 6, locals := 144 }
def wsT_O_admit : List Cond := Cond.code y_O_admit b_O_admit 1 (some .int) :: wA
set_option maxHeartbeats 4000000 in
set_option maxRecDepth 100000 in
theorem ct_O_admit {l : Launch} (hlt : l.stackTraces = false) {D : va_G} {cI cT : ClassId} {ad : Nat → Nat} {n : Nat} {M : MX} {E0 : String} {M0 : MX} (hj : j_O_admit n M = some (Sum.inl (E0, M0))) : gx_C l y_O_admit wsT_O_admit rmT_O_admit D (tyX cI cT) (wX cI cT ad M) [.ref (ad 0)] E0 (wX cI cT ad M0) := by
  intro sz
  refine gx_met (cc := b_O_admit) (maxL := 1) (by decide) rfl (Nat.le_of_ble_eq_true rfl) ?_
  intro p e s m args below meth c A S hlk hno H locs hw hZ ls hl
  have S : CallFix p m c b_O_admit 1 s args wsT_O_admit R_O := S
  have hx := S.1
  have hb := S.2.1
  have hts := S.2.2.2.2
  have hl : lv_has ls 1 [(0, .ref (ad 0))] := hl
  have n_T_O : ∀ w ∈ u_ws R_O T_O 3, w ∈ wsT_O_admit := fun w h => List.mem_cons_of_mem _ (wA_of (uT_O w h))
  have f_10 : Cond.fieldLink R_O 10 (T_O 0).1 (T_O 0).2.1 (T_O 0).2.2.1 ∈ wsT_O_admit := List.mem_cons_of_mem _ (wA_of xw_42)
  have f_21 : Cond.fieldLink R_O 21 (T_O 1).1 (T_O 1).2.1 (T_O 1).2.2.1 ∈ wsT_O_admit := List.mem_cons_of_mem _ (wA_of xw_384)
  have w_80 : CallW rmT_O_admit s args R_O R_S 80 y_S_isReady b_S_isReady 2 (some .boolean) ws_S_isReady rm_S_isReady 0 0 0 := cwV 0 hts (wB_callV (fun w h => List.mem_cons_of_mem _ (wA_of h)) xw_210 xw_211 xw_212 xw_213 xw_14) rfl rfl rfl (by decide +kernel) ⟨Nat.le_of_ble_eq_true rfl, Nat.le_of_ble_eq_true rfl⟩
  have w_87 : CallW rmT_O_admit s args R_O R_A 87 y_A_verdict b_A_verdict 3 (some .int) ws_A_verdict rm_A_verdict 0 0 0 := cwV 0 hts (wB_callV (fun w h => List.mem_cons_of_mem _ (wA_of h)) xw_385 xw_386 xw_387 xw_388 xw_127) rfl rfl rfl (by decide +kernel) ⟨Nat.le_of_ble_eq_true rfl, Nat.le_of_ble_eq_true rfl⟩
  have k_84 : Cond.classLink R_O 84 "java/lang/IllegalStateException" ∈ wsT_O_admit := List.mem_cons_of_mem _ (wA_of xw_421)
  have k_84i : Cond.initialized "java/lang/IllegalStateException" ∈ wsT_O_admit := List.mem_cons_of_mem _ (wA_of xw_422)
  have a_86 : ∀ w ∈ Bundle.ownAtoms0 R_O 86 "java/lang/IllegalStateException" ["java/lang/RuntimeException", "java/lang/Exception"], gx_h w = false → w ∈ wsT_O_admit ∧ w.onTables = true := fun w h g => ⟨List.mem_cons_of_mem _ (xt_86 w h g).1, (xt_86 w h g).2⟩
  unfold j_O_admit at hj
  refine lv_aload_n hx hb d_O_admit_0 rfl (lv_at hl 0 rfl) ?_
  refine gw_get (v := .ref (ad 1)) S hw xa_O rfl (by decide) n_T_O f_10 rfl d_O_admit_1 ?_
  obtain ⟨r_2, e_1, hj⟩ := Option.bind_eq_some_iff.mp hj
  refine gw_calli (As := []) (rest := []) S hw (c_S_isReady e_1) w_80 xa_S rfl rfl hl.1 rfl (Nat.le_of_ble_eq_true rfl) d_O_admit_4 (fun H locs hw => ?_)
  refine lv_if_ne (tgt := 18) hx hb d_O_admit_7 (by decide) (fun c_3 => ?_) (fun c_3 => ?_)
  · rw [if_neg c_3] at hj
    refine lv_aload_n hx hb d_O_admit_18 rfl (lv_at hl 0 rfl) ?_
    refine gw_get (v := .ref (ad 4)) S hw xa_O rfl (by decide) n_T_O f_21 rfl d_O_admit_19 ?_
    obtain ⟨q_5, e_4, hj⟩ := Option.bind_eq_some_iff.mp hj
    refine gw_calli (As := []) (rest := []) S hw (c_A_verdict e_4) w_87 xa_A rfl rfl hl.1 rfl (Nat.le_of_ble_eq_true rfl) d_O_admit_22 (fun H locs hw => ?_)
    exact nomatch (Option.some.inj hj)
  · rw [if_pos c_3] at hj
    obtain ⟨rfl, rfl⟩ := Prod.mk.inj (Sum.inl.inj (Option.some.inj hj))
    exact gx_throw (names := ["java/lang/RuntimeException", "java/lang/Exception"]) S hlt hlk hno hw hZ (by decide +kernel) (by decide +kernel) k_84 k_84i a_86 hl.1 d_O_admit_10 d_O_admit_13 d_O_admit_14 d_O_admit_17 (by decide) (Nat.le_of_ble_eq_true rfl) (by decide) (by decide)
abbrev rmT_O_readyTask : Room := { frames := 6, cells := 1, slots := 6, locals := 89 }
def wsT_O_readyTask : List Cond := Cond.code y_O_readyTask b_O_readyTask 3 (some (.object "SegmentKernel$Task")) :: wA
set_option maxHeartbeats 4000000 in
set_option maxRecDepth 100000 in
theorem ct_O_readyTask {l : Launch} (hlt : l.stackTraces = false) {D : va_G} {cI cT : ClassId} {ad : Nat → Nat} {n : Nat} {M : MX} {a1 : Int32} {E0 : String} {M0 : MX} (hj : j_O_readyTask n M a1 = some (Sum.inl (E0, M0))) : gx_C l y_O_readyTask wsT_O_readyTask rmT_O_readyTask D (tyX cI cT) (wX cI cT ad M) [.ref (ad 0), .int a1] E0 (wX cI cT ad M0) := by
  intro sz
  refine gx_met (cc := b_O_readyTask) (maxL := 3) (by decide) rfl (Nat.le_of_ble_eq_true rfl) ?_
  intro p e s m args below meth c A S hlk hno H locs hw hZ ls hl
  have S : CallFix p m c b_O_readyTask 3 s args wsT_O_readyTask R_O := S
  have hx := S.1
  have hb := S.2.1
  have hts := S.2.2.2.2
  have hl : lv_has ls 3 [(0, .ref (ad 0)), (1, .int a1)] := hl
  have n_T_O : ∀ w ∈ u_ws R_O T_O 3, w ∈ wsT_O_readyTask := fun w h => List.mem_cons_of_mem _ (wA_of (uT_O w h))
  have f_10 : Cond.fieldLink R_O 10 (T_O 0).1 (T_O 0).2.1 (T_O 0).2.2.1 ∈ wsT_O_readyTask := List.mem_cons_of_mem _ (wA_of xw_42)
  have w_50 : CallW rmT_O_readyTask s args R_O R_S 50 y_S_find b_S_find 3 (some (.object "SegmentKernel$Task")) ws_S_find rm_S_find 0 0 1 := cwV 1 hts (wB_callV (fun w h => List.mem_cons_of_mem _ (wA_of h)) xw_26 xw_105 xw_28 xw_29 xw_14) rfl rfl rfl (by decide +kernel) ⟨Nat.le_of_ble_eq_true rfl, Nat.le_of_ble_eq_true rfl⟩
  have w_80 : CallW rmT_O_readyTask s args R_O R_S 80 y_S_isReady b_S_isReady 2 (some .boolean) ws_S_isReady rm_S_isReady 0 0 0 := cwV 0 hts (wB_callV (fun w h => List.mem_cons_of_mem _ (wA_of h)) xw_210 xw_211 xw_212 xw_213 xw_14) rfl rfl rfl (by decide +kernel) ⟨Nat.le_of_ble_eq_true rfl, Nat.le_of_ble_eq_true rfl⟩
  have k_84 : Cond.classLink R_O 84 "java/lang/IllegalStateException" ∈ wsT_O_readyTask := List.mem_cons_of_mem _ (wA_of xw_421)
  have k_84i : Cond.initialized "java/lang/IllegalStateException" ∈ wsT_O_readyTask := List.mem_cons_of_mem _ (wA_of xw_422)
  have a_86 : ∀ w ∈ Bundle.ownAtoms0 R_O 86 "java/lang/IllegalStateException" ["java/lang/RuntimeException", "java/lang/Exception"], gx_h w = false → w ∈ wsT_O_readyTask ∧ w.onTables = true := fun w h g => ⟨List.mem_cons_of_mem _ (xt_86 w h g).1, (xt_86 w h g).2⟩
  have k_154 : Cond.classLink R_O 154 "java/lang/IndexOutOfBoundsException" ∈ wsT_O_readyTask := List.mem_cons_of_mem _ (wA_of xw_423)
  have k_154i : Cond.initialized "java/lang/IndexOutOfBoundsException" ∈ wsT_O_readyTask := List.mem_cons_of_mem _ (wA_of xw_424)
  have a_156 : ∀ w ∈ Bundle.ownAtoms0 R_O 156 "java/lang/IndexOutOfBoundsException" ["java/lang/RuntimeException", "java/lang/Exception"], gx_h w = false → w ∈ wsT_O_readyTask ∧ w.onTables = true := fun w h g => ⟨List.mem_cons_of_mem _ (xt_156 w h g).1, (xt_156 w h g).2⟩
  unfold j_O_readyTask at hj
  refine lv_aload_n hx hb d_O_readyTask_0 rfl (lv_at hl 0 rfl) ?_
  refine gw_get (v := .ref (ad 1)) S hw xa_O rfl (by decide) n_T_O f_10 rfl d_O_readyTask_1 ?_
  refine lv_iload_n hx hb d_O_readyTask_4 rfl (lv_at hl 1 rfl) ?_
  obtain ⟨r_2, e_1, hj⟩ := Option.bind_eq_some_iff.mp hj
  refine gw_callq (As := [.int a1]) (rest := []) S hw (c_S_find e_1) w_50 xa_S rfl rfl hl.1 rfl (Nat.le_of_ble_eq_true rfl) d_O_readyTask_5 (fun H locs hw => ?_)
  refine gw_astore_n (lv' := [(2, va_rf (gw_oa ad r_2)), (0, .ref (ad 0)), (1, .int a1)]) hx hb d_O_readyTask_8 rfl hl (by decide) rfl (fun ls hl => ?_)
  refine gw_aload_n hx hb d_O_readyTask_9 rfl (lv_at hl 0 rfl) ?_
  rcases r_2 with _ | y_3
  · rw [gw_oc_none rfl] at hj
    refine lv_ifnonnullN hx hb d_O_readyTask_10 ?_
    obtain ⟨rfl, rfl⟩ := Prod.mk.inj (Sum.inl.inj (Option.some.inj hj))
    exact gx_throw (names := ["java/lang/RuntimeException", "java/lang/Exception"]) S hlt hlk hno hw hZ (by decide +kernel) (by decide +kernel) k_154 k_154i a_156 hl.1 d_O_readyTask_13 d_O_readyTask_16 d_O_readyTask_17 d_O_readyTask_20 (by decide) (Nat.le_of_ble_eq_true rfl) (by decide) (by decide)
  · rw [gw_oc_some rfl] at hj
    refine lv_ifnonnull (tgt := 21) hx hb d_O_readyTask_10 (by decide) ?_
    refine lv_aload_n hx hb d_O_readyTask_21 rfl (lv_at hl 1 rfl) ?_
    refine gw_get (v := .ref (ad 1)) S hw xa_O rfl (by decide) n_T_O f_10 rfl d_O_readyTask_22 ?_
    obtain ⟨r_5, e_4, hj⟩ := Option.bind_eq_some_iff.mp hj
    refine gw_calli (As := []) (rest := []) S hw (c_S_isReady e_4) w_80 xa_S rfl rfl hl.1 rfl (Nat.le_of_ble_eq_true rfl) d_O_readyTask_25 (fun H locs hw => ?_)
    refine lv_if_ne (tgt := 39) hx hb d_O_readyTask_28 (by decide) (fun c_6 => ?_) (fun c_6 => ?_)
    · rw [if_neg c_6] at hj
      refine lv_aload_n hx hb d_O_readyTask_39 rfl (lv_at hl 0 rfl) ?_
      exact nomatch (Option.some.inj hj)
    · rw [if_pos c_6] at hj
      obtain ⟨rfl, rfl⟩ := Prod.mk.inj (Sum.inl.inj (Option.some.inj hj))
      exact gx_throw (names := ["java/lang/RuntimeException", "java/lang/Exception"]) S hlt hlk hno hw hZ (by decide +kernel) (by decide +kernel) k_84 k_84i a_86 hl.1 d_O_readyTask_31 d_O_readyTask_34 d_O_readyTask_35 d_O_readyTask_38 (by decide) (Nat.le_of_ble_eq_true rfl) (by decide) (by decide)
abbrev rmT_O_surveyedTask : Room := { frames := 7, cells := 1, slots := 6, locals := 122 }
def wsT_O_surveyedTask : List Cond := Cond.code y_O_surveyedTask b_O_surveyedTask 3 (some (.object "SegmentKernel$Task")) :: wA
set_option maxHeartbeats 4000000 in
set_option maxRecDepth 100000 in
theorem ct_O_surveyedTask {l : Launch} (hlt : l.stackTraces = false) {D : va_G} {cI cT : ClassId} {ad : Nat → Nat} {n : Nat} {M : MX} {a1 : Int32} {E0 : String} {M0 : MX} (hj : j_O_surveyedTask n M a1 = some (Sum.inl (E0, M0))) : gx_C l y_O_surveyedTask wsT_O_surveyedTask rmT_O_surveyedTask D (tyX cI cT) (wX cI cT ad M) [.ref (ad 0), .int a1] E0 (wX cI cT ad M0) := by
  intro sz
  refine gx_met (cc := b_O_surveyedTask) (maxL := 3) (by decide) rfl (Nat.le_of_ble_eq_true rfl) ?_
  intro p e s m args below meth c A S hlk hno H locs hw hZ ls hl
  have S : CallFix p m c b_O_surveyedTask 3 s args wsT_O_surveyedTask R_O := S
  have hx := S.1
  have hb := S.2.1
  have hts := S.2.2.2.2
  have hl : lv_has ls 3 [(0, .ref (ad 0)), (1, .int a1)] := hl
  have n_T_O : ∀ w ∈ u_ws R_O T_O 3, w ∈ wsT_O_surveyedTask := fun w h => List.mem_cons_of_mem _ (wA_of (uT_O w h))
  have f_21 : Cond.fieldLink R_O 21 (T_O 1).1 (T_O 1).2.1 (T_O 1).2.2.1 ∈ wsT_O_surveyedTask := List.mem_cons_of_mem _ (wA_of xw_384)
  have w_101 : CallW rmT_O_surveyedTask s args R_O R_O 101 y_O_readyTask b_O_readyTask 3 (some (.object "SegmentKernel$Task")) ws_O_readyTask rm_O_readyTask 0 0 1 := cwV 1 hts (wB_callV (fun w h => List.mem_cons_of_mem _ (wA_of h)) xw_389 xw_390 xw_391 xw_392 xw_393) rfl rfl rfl (by decide +kernel) ⟨Nat.le_of_ble_eq_true rfl, Nat.le_of_ble_eq_true rfl⟩
  have w_157 : CallW rmT_O_surveyedTask s args R_O R_A 157 y_A_survey b_A_survey 2 none ws_A_survey rm_A_survey 0 0 1 := cwV 1 hts (wB_callV (fun w h => List.mem_cons_of_mem _ (wA_of h)) xw_156 xw_394 xw_158 xw_159 xw_127) rfl rfl rfl (by decide +kernel) ⟨Nat.le_of_ble_eq_true rfl, Nat.le_of_ble_eq_true rfl⟩
  have w_161 : CallW rmT_O_surveyedTask s args R_O R_T 161 y_T_isTooLong b_T_isTooLong 1 (some .boolean) ws_T_isTooLong rm_T_isTooLong 0 0 0 := cwV 0 hts (wB_callV (fun w h => List.mem_cons_of_mem _ (wA_of h)) xw_160 xw_395 xw_162 xw_163 xw_21) rfl rfl rfl (by decide +kernel) ⟨Nat.le_of_ble_eq_true rfl, Nat.le_of_ble_eq_true rfl⟩
  have wt_101 : CallW rmT_O_surveyedTask s args R_O R_O 101 y_O_readyTask b_O_readyTask 3 (some (.object "SegmentKernel$Task")) wsT_O_readyTask rmT_O_readyTask 1 6 1 := gx_cw 1 hts (fun w h => List.mem_cons_of_mem _ h) xw_389 xw_390 xw_391 xw_392 xw_393 rfl rfl (by decide +kernel) ⟨Nat.le_of_ble_eq_true rfl, Nat.le_of_ble_eq_true rfl⟩
  have k_164 : Cond.classLink R_O 164 "java/lang/ArithmeticException" ∈ wsT_O_surveyedTask := List.mem_cons_of_mem _ (wA_of xw_425)
  have k_164i : Cond.initialized "java/lang/ArithmeticException" ∈ wsT_O_surveyedTask := List.mem_cons_of_mem _ (wA_of xw_426)
  have a_166 : ∀ w ∈ Bundle.ownAtoms0 R_O 166 "java/lang/ArithmeticException" ["java/lang/RuntimeException", "java/lang/Exception"], gx_h w = false → w ∈ wsT_O_surveyedTask ∧ w.onTables = true := fun w h g => ⟨List.mem_cons_of_mem _ (xt_166 w h g).1, (xt_166 w h g).2⟩
  unfold j_O_surveyedTask at hj
  refine lv_aload_n hx hb d_O_surveyedTask_0 rfl (lv_at hl 0 rfl) ?_
  refine lv_iload_n hx hb d_O_surveyedTask_1 rfl (lv_at hl 1 rfl) ?_
  obtain ⟨q_4, e_1, hj⟩ := Option.bind_eq_some_iff.mp hj
  rcases q_4 with z_5 | w_3
  · obtain rfl := Sum.inl.inj (Option.some.inj (show some (Sum.inl z_5) = some _ from hj))
    refine gx_callV (As := [.int a1]) (rest := []) S hw hZ (ct_O_readyTask hlt e_1) wt_101 xa_O rfl rfl hl.1 rfl (Nat.le_of_ble_eq_true rfl) d_O_surveyedTask_2 (by decide) (by decide) (fun H locs q ce hw hcell hv hcl => ?_)
    exact gx_out hno hlk hw hcell hv hcl
  · rw [Sum.elim_inr] at hj
    refine gw_callq (As := [.int a1]) (rest := []) S hw (c_O_readyTask e_1) w_101 xa_O rfl rfl hl.1 rfl (Nat.le_of_ble_eq_true rfl) d_O_surveyedTask_2 (fun H locs hw => ?_)
    refine lv_astore_n (lv' := [(2, .ref (ad (6 + w_3.1.val))), (0, .ref (ad 0)), (1, .int a1)]) hx hb d_O_surveyedTask_5 rfl hl (by decide) rfl (fun ls hl => ?_)
    refine lv_aload_n hx hb d_O_surveyedTask_6 rfl (lv_at hl 1 rfl) ?_
    refine gw_get (v := .ref (ad 4)) S hw xa_O rfl (by decide) n_T_O f_21 rfl d_O_surveyedTask_7 ?_
    refine lv_aload_n hx hb d_O_surveyedTask_10 rfl (lv_at hl 0 rfl) ?_
    obtain ⟨M_7, e_6, hj⟩ := Option.bind_eq_some_iff.mp hj
    refine gw_callv (As := [.ref (ad (6 + w_3.1.val))]) (rest := []) S hw (c_A_survey e_6) w_157 xa_A rfl rfl hl.1 rfl (Nat.le_of_ble_eq_true rfl) d_O_surveyedTask_11 (fun H locs hw => ?_)
    refine lv_aload_n hx hb d_O_surveyedTask_14 rfl (lv_at hl 0 rfl) ?_
    obtain ⟨r_9, e_8, hj⟩ := Option.bind_eq_some_iff.mp hj
    refine gw_calli (As := []) (rest := []) S hw (c_T_isTooLong e_8) w_161 (xa_T w_3.1) rfl rfl hl.1 rfl (Nat.le_of_ble_eq_true rfl) d_O_surveyedTask_15 (fun H locs hw => ?_)
    refine lv_if_eq (tgt := 29) hx hb d_O_surveyedTask_18 (by decide) (fun c_10 => ?_) (fun c_10 => ?_)
    · rw [if_pos c_10] at hj
      refine lv_aload_n hx hb d_O_surveyedTask_29 rfl (lv_at hl 0 rfl) ?_
      exact nomatch (Option.some.inj hj)
    · rw [if_neg c_10] at hj
      obtain ⟨rfl, rfl⟩ := Prod.mk.inj (Sum.inl.inj (Option.some.inj hj))
      exact gx_throw (names := ["java/lang/RuntimeException", "java/lang/Exception"]) S hlt hlk hno hw hZ (by decide +kernel) (by decide +kernel) k_164 k_164i a_166 hl.1 d_O_surveyedTask_21 d_O_surveyedTask_24 d_O_surveyedTask_25 d_O_surveyedTask_28 (by decide) (Nat.le_of_ble_eq_true rfl) (by decide) (by decide)
abbrev rmT_O_response : Room := { frames := 8, cells := 1, slots := 6, locals := 144 }
def wsT_O_response : List Cond := Cond.code y_O_response b_O_response 2 (some .int) :: wA
set_option maxHeartbeats 4000000 in
set_option maxRecDepth 100000 in
theorem ct_O_response {l : Launch} (hlt : l.stackTraces = false) {D : va_G} {cI cT : ClassId} {ad : Nat → Nat} {n : Nat} {M : MX} {a1 : Int32} {E0 : String} {M0 : MX} (hj : j_O_response n M a1 = some (Sum.inl (E0, M0))) : gx_C l y_O_response wsT_O_response rmT_O_response D (tyX cI cT) (wX cI cT ad M) [.ref (ad 0), .int a1] E0 (wX cI cT ad M0) := by
  intro sz
  refine gx_met (cc := b_O_response) (maxL := 2) (by decide) rfl (Nat.le_of_ble_eq_true rfl) ?_
  intro p e s m args below meth c A S hlk hno H locs hw hZ ls hl
  have S : CallFix p m c b_O_response 2 s args wsT_O_response R_O := S
  have hx := S.1
  have hb := S.2.1
  have hts := S.2.2.2.2
  have hl : lv_has ls 2 [(0, .ref (ad 0)), (1, .int a1)] := hl
  have n_T_T : ∀ w ∈ u_ws R_T T_T 13, w ∈ wsT_O_response := fun w h => List.mem_cons_of_mem _ (wA_of (uT_T w h))
  have f_94 : Cond.fieldLink R_O 94 (T_T 9).1 (T_T 9).2.1 (T_T 9).2.2.1 ∈ wsT_O_response := List.mem_cons_of_mem _ (wA_of xw_396)
  have w_91 : CallW rmT_O_response s args R_O R_O 91 y_O_surveyedTask b_O_surveyedTask 3 (some (.object "SegmentKernel$Task")) ws_O_surveyedTask rm_O_surveyedTask 0 0 1 := cwV 1 hts (wB_callV (fun w h => List.mem_cons_of_mem _ (wA_of h)) xw_397 xw_398 xw_399 xw_400 xw_393) rfl rfl rfl (by decide +kernel) ⟨Nat.le_of_ble_eq_true rfl, Nat.le_of_ble_eq_true rfl⟩
  have wt_91 : CallW rmT_O_response s args R_O R_O 91 y_O_surveyedTask b_O_surveyedTask 3 (some (.object "SegmentKernel$Task")) wsT_O_surveyedTask rmT_O_surveyedTask 1 6 1 := gx_cw 1 hts (fun w h => List.mem_cons_of_mem _ h) xw_397 xw_398 xw_399 xw_400 xw_393 rfl rfl (by decide +kernel) ⟨Nat.le_of_ble_eq_true rfl, Nat.le_of_ble_eq_true rfl⟩
  unfold j_O_response at hj
  refine lv_aload_n hx hb d_O_response_0 rfl (lv_at hl 0 rfl) ?_
  refine lv_iload_n hx hb d_O_response_1 rfl (lv_at hl 1 rfl) ?_
  obtain ⟨q_4, e_1, hj⟩ := Option.bind_eq_some_iff.mp hj
  rcases q_4 with z_5 | w_3
  · obtain rfl := Sum.inl.inj (Option.some.inj (show some (Sum.inl z_5) = some _ from hj))
    refine gx_callV (As := [.int a1]) (rest := []) S hw hZ (ct_O_surveyedTask hlt e_1) wt_91 xa_O rfl rfl hl.1 rfl (Nat.le_of_ble_eq_true rfl) d_O_response_2 (by decide) (by decide) (fun H locs q ce hw hcell hv hcl => ?_)
    exact gx_out hno hlk hw hcell hv hcl
  · rw [Sum.elim_inr] at hj
    refine gw_callq (As := [.int a1]) (rest := []) S hw (c_O_surveyedTask e_1) w_91 xa_O rfl rfl hl.1 rfl (Nat.le_of_ble_eq_true rfl) d_O_response_2 (fun H locs hw => ?_)
    refine gw_get (v := .int (w_3.2.1 0 w_3.1 9)) S hw (xa_T w_3.1) rfl (by decide) n_T_T f_94 rfl d_O_response_5 ?_
    exact nomatch (Option.some.inj hj)
abbrev rmT_O_job : Room := { frames := 8, cells := 1, slots := 6, locals := 144 }
def wsT_O_job : List Cond := Cond.code y_O_job b_O_job 3 (some .int) :: wA
set_option maxHeartbeats 4000000 in
set_option maxRecDepth 100000 in
theorem ct_O_job {l : Launch} (hlt : l.stackTraces = false) {D : va_G} {cI cT : ClassId} {ad : Nat → Nat} {n : Nat} {M : MX} {a1 : Int32} {a2 : Int32} {E0 : String} {M0 : MX} (hj : j_O_job n M a1 a2 = some (Sum.inl (E0, M0))) : gx_C l y_O_job wsT_O_job rmT_O_job D (tyX cI cT) (wX cI cT ad M) [.ref (ad 0), .int a1, .int a2] E0 (wX cI cT ad M0) := by
  intro sz
  refine gx_met (cc := b_O_job) (maxL := 3) (by decide) rfl (Nat.le_of_ble_eq_true rfl) ?_
  intro p e s m args below meth c A S hlk hno H locs hw hZ ls hl
  have S : CallFix p m c b_O_job 3 s args wsT_O_job R_O := S
  have hx := S.1
  have hb := S.2.1
  have hts := S.2.2.2.2
  have hl : lv_has ls 3 [(0, .ref (ad 0)), (1, .int a1), (2, .int a2)] := hl
  have n_T_O : ∀ w ∈ u_ws R_O T_O 3, w ∈ wsT_O_job := fun w h => List.mem_cons_of_mem _ (wA_of (uT_O w h))
  have f_21 : Cond.fieldLink R_O 21 (T_O 1).1 (T_O 1).2.1 (T_O 1).2.2.1 ∈ wsT_O_job := List.mem_cons_of_mem _ (wA_of xw_384)
  have w_91 : CallW rmT_O_job s args R_O R_O 91 y_O_surveyedTask b_O_surveyedTask 3 (some (.object "SegmentKernel$Task")) ws_O_surveyedTask rm_O_surveyedTask 0 0 1 := cwV 1 hts (wB_callV (fun w h => List.mem_cons_of_mem _ (wA_of h)) xw_397 xw_398 xw_399 xw_400 xw_393) rfl rfl rfl (by decide +kernel) ⟨Nat.le_of_ble_eq_true rfl, Nat.le_of_ble_eq_true rfl⟩
  have w_97 : CallW rmT_O_job s args R_O R_A 97 y_A_responseOfJob b_A_responseOfJob 3 (some .int) ws_A_responseOfJob rm_A_responseOfJob 0 0 2 := cwV 2 hts (wB_callV (fun w h => List.mem_cons_of_mem _ (wA_of h)) xw_401 xw_402 xw_403 xw_404 xw_127) rfl rfl rfl (by decide +kernel) ⟨Nat.le_of_ble_eq_true rfl, Nat.le_of_ble_eq_true rfl⟩
  have wt_91 : CallW rmT_O_job s args R_O R_O 91 y_O_surveyedTask b_O_surveyedTask 3 (some (.object "SegmentKernel$Task")) wsT_O_surveyedTask rmT_O_surveyedTask 1 6 1 := gx_cw 1 hts (fun w h => List.mem_cons_of_mem _ h) xw_397 xw_398 xw_399 xw_400 xw_393 rfl rfl (by decide +kernel) ⟨Nat.le_of_ble_eq_true rfl, Nat.le_of_ble_eq_true rfl⟩
  unfold j_O_job at hj
  refine lv_aload_n hx hb d_O_job_0 rfl (lv_at hl 0 rfl) ?_
  refine gw_get (v := .ref (ad 4)) S hw xa_O rfl (by decide) n_T_O f_21 rfl d_O_job_1 ?_
  refine lv_aload_n hx hb d_O_job_4 rfl (lv_at hl 0 rfl) ?_
  refine lv_iload_n hx hb d_O_job_5 rfl (lv_at hl 1 rfl) ?_
  obtain ⟨q_4, e_1, hj⟩ := Option.bind_eq_some_iff.mp hj
  rcases q_4 with z_5 | w_3
  · obtain rfl := Sum.inl.inj (Option.some.inj (show some (Sum.inl z_5) = some _ from hj))
    refine gx_callV (As := [.int a1]) (rest := [.ref (ad 4)]) S hw hZ (ct_O_surveyedTask hlt e_1) wt_91 xa_O rfl rfl hl.1 rfl (Nat.le_of_ble_eq_true rfl) d_O_job_6 (by decide) (by decide) (fun H locs q ce hw hcell hv hcl => ?_)
    exact gx_out hno hlk hw hcell hv hcl
  · rw [Sum.elim_inr] at hj
    refine gw_callq (As := [.int a1]) (rest := [.ref (ad 4)]) S hw (c_O_surveyedTask e_1) w_91 xa_O rfl rfl hl.1 rfl (Nat.le_of_ble_eq_true rfl) d_O_job_6 (fun H locs hw => ?_)
    refine lv_iload_n hx hb d_O_job_9 rfl (lv_at hl 2 rfl) ?_
    obtain ⟨r_7, e_6, hj⟩ := Option.bind_eq_some_iff.mp hj
    refine gw_calli (As := [.ref (ad (6 + w_3.1.val)), .int a2]) (rest := []) S hw (c_A_responseOfJob e_6) w_97 xa_A rfl rfl hl.1 rfl (Nat.le_of_ble_eq_true rfl) d_O_job_10 (fun H locs hw => ?_)
    exact nomatch (Option.some.inj hj)
abbrev rmT_O_tolerance : Room := { frames := 7, cells := 1, slots := 6, locals := 147 }
def wsT_O_tolerance : List Cond := Cond.code y_O_tolerance b_O_tolerance 2 (some .int) :: wA
set_option maxHeartbeats 4000000 in
set_option maxRecDepth 100000 in
theorem ct_O_tolerance {l : Launch} (hlt : l.stackTraces = false) {D : va_G} {cI cT : ClassId} {ad : Nat → Nat} {n : Nat} {M : MX} {a1 : Int32} {E0 : String} {M0 : MX} (hj : j_O_tolerance n M a1 = some (Sum.inl (E0, M0))) : gx_C l y_O_tolerance wsT_O_tolerance rmT_O_tolerance D (tyX cI cT) (wX cI cT ad M) [.ref (ad 0), .int a1] E0 (wX cI cT ad M0) := by
  intro sz
  refine gx_met (cc := b_O_tolerance) (maxL := 2) (by decide) rfl (Nat.le_of_ble_eq_true rfl) ?_
  intro p e s m args below meth c A S hlk hno H locs hw hZ ls hl
  have S : CallFix p m c b_O_tolerance 2 s args wsT_O_tolerance R_O := S
  have hx := S.1
  have hb := S.2.1
  have hts := S.2.2.2.2
  have hl : lv_has ls 2 [(0, .ref (ad 0)), (1, .int a1)] := hl
  have n_T_O : ∀ w ∈ u_ws R_O T_O 3, w ∈ wsT_O_tolerance := fun w h => List.mem_cons_of_mem _ (wA_of (uT_O w h))
  have f_21 : Cond.fieldLink R_O 21 (T_O 1).1 (T_O 1).2.1 (T_O 1).2.2.1 ∈ wsT_O_tolerance := List.mem_cons_of_mem _ (wA_of xw_384)
  have w_101 : CallW rmT_O_tolerance s args R_O R_O 101 y_O_readyTask b_O_readyTask 3 (some (.object "SegmentKernel$Task")) ws_O_readyTask rm_O_readyTask 0 0 1 := cwV 1 hts (wB_callV (fun w h => List.mem_cons_of_mem _ (wA_of h)) xw_389 xw_390 xw_391 xw_392 xw_393) rfl rfl rfl (by decide +kernel) ⟨Nat.le_of_ble_eq_true rfl, Nat.le_of_ble_eq_true rfl⟩
  have w_104 : CallW rmT_O_tolerance s args R_O R_A 104 y_A_bearableBy b_A_bearableBy 2 (some .int) ws_A_bearableBy rm_A_bearableBy 0 0 1 := cwV 1 hts (wB_callV (fun w h => List.mem_cons_of_mem _ (wA_of h)) xw_405 xw_406 xw_407 xw_408 xw_127) rfl rfl rfl (by decide +kernel) ⟨Nat.le_of_ble_eq_true rfl, Nat.le_of_ble_eq_true rfl⟩
  have wt_101 : CallW rmT_O_tolerance s args R_O R_O 101 y_O_readyTask b_O_readyTask 3 (some (.object "SegmentKernel$Task")) wsT_O_readyTask rmT_O_readyTask 1 6 1 := gx_cw 1 hts (fun w h => List.mem_cons_of_mem _ h) xw_389 xw_390 xw_391 xw_392 xw_393 rfl rfl (by decide +kernel) ⟨Nat.le_of_ble_eq_true rfl, Nat.le_of_ble_eq_true rfl⟩
  unfold j_O_tolerance at hj
  refine lv_aload_n hx hb d_O_tolerance_0 rfl (lv_at hl 0 rfl) ?_
  refine gw_get (v := .ref (ad 4)) S hw xa_O rfl (by decide) n_T_O f_21 rfl d_O_tolerance_1 ?_
  refine lv_aload_n hx hb d_O_tolerance_4 rfl (lv_at hl 0 rfl) ?_
  refine lv_iload_n hx hb d_O_tolerance_5 rfl (lv_at hl 1 rfl) ?_
  obtain ⟨q_4, e_1, hj⟩ := Option.bind_eq_some_iff.mp hj
  rcases q_4 with z_5 | w_3
  · obtain rfl := Sum.inl.inj (Option.some.inj (show some (Sum.inl z_5) = some _ from hj))
    refine gx_callV (As := [.int a1]) (rest := [.ref (ad 4)]) S hw hZ (ct_O_readyTask hlt e_1) wt_101 xa_O rfl rfl hl.1 rfl (Nat.le_of_ble_eq_true rfl) d_O_tolerance_6 (by decide) (by decide) (fun H locs q ce hw hcell hv hcl => ?_)
    exact gx_out hno hlk hw hcell hv hcl
  · rw [Sum.elim_inr] at hj
    refine gw_callq (As := [.int a1]) (rest := [.ref (ad 4)]) S hw (c_O_readyTask e_1) w_101 xa_O rfl rfl hl.1 rfl (Nat.le_of_ble_eq_true rfl) d_O_tolerance_6 (fun H locs hw => ?_)
    obtain ⟨q_7, e_6, hj⟩ := Option.bind_eq_some_iff.mp hj
    refine gw_calli (As := [.ref (ad (6 + w_3.1.val))]) (rest := []) S hw (c_A_bearableBy e_6) w_104 xa_A rfl rfl hl.1 rfl (Nat.le_of_ble_eq_true rfl) d_O_tolerance_9 (fun H locs hw => ?_)
    exact nomatch (Option.some.inj hj)
abbrev rmT_O_stretch : Room := { frames := 6, cells := 1, slots := 6, locals := 150 }
def wsT_O_stretch : List Cond := Cond.code y_O_stretch b_O_stretch 1 (some .int) :: wA
set_option maxHeartbeats 4000000 in
set_option maxRecDepth 100000 in
theorem ct_O_stretch {l : Launch} (hlt : l.stackTraces = false) {D : va_G} {cI cT : ClassId} {ad : Nat → Nat} {n : Nat} {M : MX} {E0 : String} {M0 : MX} (hj : j_O_stretch n M = some (Sum.inl (E0, M0))) : gx_C l y_O_stretch wsT_O_stretch rmT_O_stretch D (tyX cI cT) (wX cI cT ad M) [.ref (ad 0)] E0 (wX cI cT ad M0) := by
  intro sz
  refine gx_met (cc := b_O_stretch) (maxL := 1) (by decide) rfl (Nat.le_of_ble_eq_true rfl) ?_
  intro p e s m args below meth c A S hlk hno H locs hw hZ ls hl
  have S : CallFix p m c b_O_stretch 1 s args wsT_O_stretch R_O := S
  have hx := S.1
  have hb := S.2.1
  have hts := S.2.2.2.2
  have hl : lv_has ls 1 [(0, .ref (ad 0))] := hl
  have n_T_K : ∀ w ∈ u_ws R_K T_K 6, w ∈ wsT_O_stretch := fun w h => List.mem_cons_of_mem _ (wA_of (uT_K w h))
  have n_T_O : ∀ w ∈ u_ws R_O T_O 3, w ∈ wsT_O_stretch := fun w h => List.mem_cons_of_mem _ (wA_of (uT_O w h))
  have f_10 : Cond.fieldLink R_O 10 (T_O 0).1 (T_O 0).2.1 (T_O 0).2.2.1 ∈ wsT_O_stretch := List.mem_cons_of_mem _ (wA_of xw_42)
  have f_21 : Cond.fieldLink R_O 21 (T_O 1).1 (T_O 1).2.1 (T_O 1).2.2.1 ∈ wsT_O_stretch := List.mem_cons_of_mem _ (wA_of xw_384)
  have f_28 : Cond.fieldLink R_O 28 (T_O 2).1 (T_O 2).2.1 (T_O 2).2.2.1 ∈ wsT_O_stretch := List.mem_cons_of_mem _ (wA_of xw_43)
  have f_32 : Cond.fieldLink R_O 32 (T_K 1).1 (T_K 1).2.1 (T_K 1).2.2.1 ∈ wsT_O_stretch := List.mem_cons_of_mem _ (wA_of xw_44)
  have w_80 : CallW rmT_O_stretch s args R_O R_S 80 y_S_isReady b_S_isReady 2 (some .boolean) ws_S_isReady rm_S_isReady 0 0 0 := cwV 0 hts (wB_callV (fun w h => List.mem_cons_of_mem _ (wA_of h)) xw_210 xw_211 xw_212 xw_213 xw_14) rfl rfl rfl (by decide +kernel) ⟨Nat.le_of_ble_eq_true rfl, Nat.le_of_ble_eq_true rfl⟩
  have w_87 : CallW rmT_O_stretch s args R_O R_A 87 y_A_verdict b_A_verdict 3 (some .int) ws_A_verdict rm_A_verdict 0 0 0 := cwV 0 hts (wB_callV (fun w h => List.mem_cons_of_mem _ (wA_of h)) xw_385 xw_386 xw_387 xw_388 xw_127) rfl rfl rfl (by decide +kernel) ⟨Nat.le_of_ble_eq_true rfl, Nat.le_of_ble_eq_true rfl⟩
  have w_107 : CallW rmT_O_stretch s args R_O R_A 107 y_A_stretchTasks b_A_stretchTasks 5 (some .int) ws_A_stretchTasks rm_A_stretchTasks 0 0 0 := cwV 0 hts (wB_callV (fun w h => List.mem_cons_of_mem _ (wA_of h)) xw_409 xw_410 xw_411 xw_412 xw_127) rfl rfl rfl (by decide +kernel) ⟨Nat.le_of_ble_eq_true rfl, Nat.le_of_ble_eq_true rfl⟩
  have k_84 : Cond.classLink R_O 84 "java/lang/IllegalStateException" ∈ wsT_O_stretch := List.mem_cons_of_mem _ (wA_of xw_421)
  have k_84i : Cond.initialized "java/lang/IllegalStateException" ∈ wsT_O_stretch := List.mem_cons_of_mem _ (wA_of xw_422)
  have a_86 : ∀ w ∈ Bundle.ownAtoms0 R_O 86 "java/lang/IllegalStateException" ["java/lang/RuntimeException", "java/lang/Exception"], gx_h w = false → w ∈ wsT_O_stretch ∧ w.onTables = true := fun w h g => ⟨List.mem_cons_of_mem _ (xt_86 w h g).1, (xt_86 w h g).2⟩
  unfold j_O_stretch at hj
  refine lv_aload_n hx hb d_O_stretch_0 rfl (lv_at hl 0 rfl) ?_
  refine gw_get (v := .ref (ad 1)) S hw xa_O rfl (by decide) n_T_O f_10 rfl d_O_stretch_1 ?_
  obtain ⟨r_2, e_1, hj⟩ := Option.bind_eq_some_iff.mp hj
  refine gw_calli (As := []) (rest := []) S hw (c_S_isReady e_1) w_80 xa_S rfl rfl hl.1 rfl (Nat.le_of_ble_eq_true rfl) d_O_stretch_4 (fun H locs hw => ?_)
  refine lv_if_eq (tgt := 31) hx hb d_O_stretch_7 (by decide) (fun c_3 => ?_) (fun c_3 => ?_)
  · rw [if_pos c_3] at hj
    obtain ⟨rfl, rfl⟩ := Prod.mk.inj (Sum.inl.inj (Option.some.inj hj))
    exact gx_throw (names := ["java/lang/RuntimeException", "java/lang/Exception"]) S hlt hlk hno hw hZ (by decide +kernel) (by decide +kernel) k_84 k_84i a_86 hl.1 d_O_stretch_31 d_O_stretch_34 d_O_stretch_35 d_O_stretch_38 (by decide) (Nat.le_of_ble_eq_true rfl) (by decide) (by decide)
  · rw [if_neg c_3] at hj
    refine lv_aload_n hx hb d_O_stretch_10 rfl (lv_at hl 0 rfl) ?_
    refine gw_get (v := .ref (ad 5)) S hw xa_O rfl (by decide) n_T_O f_28 rfl d_O_stretch_11 ?_
    refine gw_get (v := .int (M.2.1 2 1)) S hw xa_K rfl (by decide) n_T_K f_32 rfl d_O_stretch_14 ?_
    refine lv_if_ne (tgt := 31) hx hb d_O_stretch_17 (by decide) (fun c_4 => ?_) (fun c_4 => ?_)
    · rw [if_neg c_4] at hj
      obtain ⟨rfl, rfl⟩ := Prod.mk.inj (Sum.inl.inj (Option.some.inj hj))
      exact gx_throw (names := ["java/lang/RuntimeException", "java/lang/Exception"]) S hlt hlk hno hw hZ (by decide +kernel) (by decide +kernel) k_84 k_84i a_86 hl.1 d_O_stretch_31 d_O_stretch_34 d_O_stretch_35 d_O_stretch_38 (by decide) (Nat.le_of_ble_eq_true rfl) (by decide) (by decide)
    · rw [if_pos c_4] at hj
      refine lv_aload_n hx hb d_O_stretch_20 rfl (lv_at hl 0 rfl) ?_
      refine gw_get (v := .ref (ad 4)) S hw xa_O rfl (by decide) n_T_O f_21 rfl d_O_stretch_21 ?_
      obtain ⟨q_6, e_5, hj⟩ := Option.bind_eq_some_iff.mp hj
      refine gw_calli (As := []) (rest := []) S hw (c_A_verdict e_5) w_87 xa_A rfl rfl hl.1 rfl (Nat.le_of_ble_eq_true rfl) d_O_stretch_24 (fun H locs hw => ?_)
      refine lv_iconst (v := 1) hx hb d_O_stretch_27 (by decide) ?_
      refine lv_icmp_eq (tgt := 39) hx hb d_O_stretch_28 (by decide) (fun c_7 => ?_) (fun c_7 => ?_)
      · rw [if_pos c_7] at hj
        refine lv_aload_n hx hb d_O_stretch_39 rfl (lv_at hl 0 rfl) ?_
        refine gw_get (v := .ref (ad 4)) S hw xa_O rfl (by decide) n_T_O f_21 rfl d_O_stretch_40 ?_
        obtain ⟨q_9, e_8, hj⟩ := Option.bind_eq_some_iff.mp hj
        refine gw_calli (As := []) (rest := []) S hw (c_A_stretchTasks e_8) w_107 xa_A rfl rfl hl.1 rfl (Nat.le_of_ble_eq_true rfl) d_O_stretch_43 (fun H locs hw => ?_)
        exact nomatch (Option.some.inj hj)
      · rw [if_neg c_7] at hj
        obtain ⟨rfl, rfl⟩ := Prod.mk.inj (Sum.inl.inj (Option.some.inj hj))
        exact gx_throw (names := ["java/lang/RuntimeException", "java/lang/Exception"]) S hlt hlk hno hw hZ (by decide +kernel) (by decide +kernel) k_84 k_84i a_86 hl.1 d_O_stretch_31 d_O_stretch_34 d_O_stretch_35 d_O_stretch_38 (by decide) (Nat.le_of_ble_eq_true rfl) (by decide) (by decide)
abbrev rmT_O_scenario : Room := { frames := 8, cells := 1, slots := 6, locals := 144 }
def wsT_O_scenario : List Cond := Cond.code y_O_scenario b_O_scenario 5 (some .int) :: wA
set_option maxHeartbeats 4000000 in
set_option maxRecDepth 100000 in
theorem ct_O_scenario {l : Launch} (hlt : l.stackTraces = false) {D : va_G} {cI cT : ClassId} {ad : Nat → Nat} {n : Nat} {M : MX} {a1 : Int32} {a2 : Int32} {a3 : Int32} {E0 : String} {M0 : MX} (hj : j_O_scenario n M a1 a2 a3 = some (Sum.inl (E0, M0))) : gx_C l y_O_scenario wsT_O_scenario rmT_O_scenario D (tyX cI cT) (wX cI cT ad M) [.ref (ad 0), .int a1, .int a2, .int a3] E0 (wX cI cT ad M0) := by
  intro sz
  refine gx_met (cc := b_O_scenario) (maxL := 5) (by decide) rfl (Nat.le_of_ble_eq_true rfl) ?_
  intro p e s m args below meth c A S hlk hno H locs hw hZ ls hl
  have S : CallFix p m c b_O_scenario 5 s args wsT_O_scenario R_O := S
  have hx := S.1
  have hb := S.2.1
  have hts := S.2.2.2.2
  have hl : lv_has ls 5 [(0, .ref (ad 0)), (1, .int a1), (2, .int a2), (3, .int a3)] := hl
  have n_T_O : ∀ w ∈ u_ws R_O T_O 3, w ∈ wsT_O_scenario := fun w h => List.mem_cons_of_mem _ (wA_of (uT_O w h))
  have f_21 : Cond.fieldLink R_O 21 (T_O 1).1 (T_O 1).2.1 (T_O 1).2.2.1 ∈ wsT_O_scenario := List.mem_cons_of_mem _ (wA_of xw_384)
  have w_91 : CallW rmT_O_scenario s args R_O R_O 91 y_O_surveyedTask b_O_surveyedTask 3 (some (.object "SegmentKernel$Task")) ws_O_surveyedTask rm_O_surveyedTask 0 0 1 := cwV 1 hts (wB_callV (fun w h => List.mem_cons_of_mem _ (wA_of h)) xw_397 xw_398 xw_399 xw_400 xw_393) rfl rfl rfl (by decide +kernel) ⟨Nat.le_of_ble_eq_true rfl, Nat.le_of_ble_eq_true rfl⟩
  have w_110 : CallW rmT_O_scenario s args R_O R_A 110 y_A_scenarioItem b_A_scenarioItem 8 (some .int) ws_A_scenarioItem rm_A_scenarioItem 0 0 3 := cwV 3 hts (wB_callV (fun w h => List.mem_cons_of_mem _ (wA_of h)) xw_413 xw_414 xw_415 xw_416 xw_127) rfl rfl rfl (by decide +kernel) ⟨Nat.le_of_ble_eq_true rfl, Nat.le_of_ble_eq_true rfl⟩
  have wt_91 : CallW rmT_O_scenario s args R_O R_O 91 y_O_surveyedTask b_O_surveyedTask 3 (some (.object "SegmentKernel$Task")) wsT_O_surveyedTask rmT_O_surveyedTask 1 6 1 := gx_cw 1 hts (fun w h => List.mem_cons_of_mem _ h) xw_397 xw_398 xw_399 xw_400 xw_393 rfl rfl (by decide +kernel) ⟨Nat.le_of_ble_eq_true rfl, Nat.le_of_ble_eq_true rfl⟩
  unfold j_O_scenario at hj
  refine lv_aload_n hx hb d_O_scenario_0 rfl (lv_at hl 0 rfl) ?_
  refine lv_iload_n hx hb d_O_scenario_1 rfl (lv_at hl 1 rfl) ?_
  obtain ⟨q_4, e_1, hj⟩ := Option.bind_eq_some_iff.mp hj
  rcases q_4 with z_5 | w_3
  · obtain rfl := Sum.inl.inj (Option.some.inj (show some (Sum.inl z_5) = some _ from hj))
    refine gx_callV (As := [.int a1]) (rest := []) S hw hZ (ct_O_surveyedTask hlt e_1) wt_91 xa_O rfl rfl hl.1 rfl (Nat.le_of_ble_eq_true rfl) d_O_scenario_2 (by decide) (by decide) (fun H locs q ce hw hcell hv hcl => ?_)
    exact gx_out hno hlk hw hcell hv hcl
  · rw [Sum.elim_inr] at hj
    refine gw_callq (As := [.int a1]) (rest := []) S hw (c_O_surveyedTask e_1) w_91 xa_O rfl rfl hl.1 rfl (Nat.le_of_ble_eq_true rfl) d_O_scenario_2 (fun H locs hw => ?_)
    refine lv_astore (lv' := [(4, .ref (ad (6 + w_3.1.val))), (0, .ref (ad 0)), (1, .int a1), (2, .int a2), (3, .int a3)]) hx hb d_O_scenario_5 hl (by decide) rfl (fun ls hl => ?_)
    refine lv_iload_n hx hb d_O_scenario_7 rfl (lv_at hl 3 rfl) ?_
    refine lv_if_lt (tgt := 20) hx hb d_O_scenario_8 (by decide) (fun c_6 => ?_) (fun c_6 => ?_)
    · rw [if_pos c_6] at hj
      refine lv_iconst (v := -1) hx hb d_O_scenario_20 (by decide) ?_
      exact nomatch (Option.some.inj hj)
    · rw [if_neg c_6] at hj
      refine lv_iload_n hx hb d_O_scenario_11 rfl (lv_at hl 4 rfl) ?_
      refine lv_if_lt (tgt := 20) hx hb d_O_scenario_12 (by decide) (fun c_7 => ?_) (fun c_7 => ?_)
      · rw [if_pos c_7] at hj
        refine lv_iconst (v := -1) hx hb d_O_scenario_20 (by decide) ?_
        exact nomatch (Option.some.inj hj)
      · rw [if_neg c_7] at hj
        refine lv_iload_n hx hb d_O_scenario_15 rfl (lv_at hl 4 rfl) ?_
        refine lv_iconst (v := 1) hx hb d_O_scenario_16 (by decide) ?_
        refine lv_icmp_le (tgt := 22) hx hb d_O_scenario_17 (by decide) (fun c_8 => ?_) (fun c_8 => ?_)
        · rw [if_pos c_8] at hj
          refine lv_aload_n hx hb d_O_scenario_22 rfl (lv_at hl 1 rfl) ?_
          refine gw_get (v := .ref (ad 4)) S hw xa_O rfl (by decide) n_T_O f_21 rfl d_O_scenario_23 ?_
          refine lv_aload hx hb d_O_scenario_26 (lv_at hl 0 rfl) ?_
          refine lv_iload_n hx hb d_O_scenario_28 rfl (lv_at hl 3 rfl) ?_
          refine lv_iload_n hx hb d_O_scenario_29 rfl (lv_at hl 4 rfl) ?_
          refine lv_if_ne (tgt := 37) hx hb d_O_scenario_30 (by decide) (fun c_9 => ?_) (fun c_9 => ?_)
          · rw [if_neg c_9] at hj
            refine lv_iconst (v := 0) hx hb d_O_scenario_37 (by decide) ?_
            obtain ⟨r_11, e_10, hj⟩ := Option.bind_eq_some_iff.mp hj
            refine gw_calli (As := [.ref (ad (6 + w_3.1.val)), .int a2, .int 0]) (rest := []) S hw (c_A_scenarioItem e_10) w_110 xa_A rfl rfl hl.1 rfl (Nat.le_of_ble_eq_true rfl) d_O_scenario_38 (fun H locs hw => ?_)
            exact nomatch (Option.some.inj hj)
          · rw [if_pos c_9] at hj
            refine lv_iconst (v := 1) hx hb d_O_scenario_33 (by decide) ?_
            refine lv_goto (tgt := 38) hx hb d_O_scenario_34 (by decide) ?_
            obtain ⟨r_13, e_12, hj⟩ := Option.bind_eq_some_iff.mp hj
            refine gw_calli (As := [.ref (ad (6 + w_3.1.val)), .int a2, .int 1]) (rest := []) S hw (c_A_scenarioItem e_12) w_110 xa_A rfl rfl hl.1 rfl (Nat.le_of_ble_eq_true rfl) d_O_scenario_38 (fun H locs hw => ?_)
            exact nomatch (Option.some.inj hj)
        · rw [if_neg c_8] at hj
          refine lv_iconst (v := -1) hx hb d_O_scenario_20 (by decide) ?_
          exact nomatch (Option.some.inj hj)
abbrev rmT_O_tick : Room := { frames := 6, cells := 1, slots := 6, locals := 112 }
def wsT_O_tick : List Cond := Cond.code y_O_tick b_O_tick 2 (some .int) :: wA
set_option maxHeartbeats 4000000 in
set_option maxRecDepth 100000 in
theorem ct_O_tick {l : Launch} (hlt : l.stackTraces = false) {D : va_G} {cI cT : ClassId} {ad : Nat → Nat} {n : Nat} {M : MX} {a1 : Int32} {E0 : String} {M0 : MX} (hj : j_O_tick n M a1 = some (Sum.inl (E0, M0))) : gx_C l y_O_tick wsT_O_tick rmT_O_tick D (tyX cI cT) (wX cI cT ad M) [.ref (ad 0), .int a1] E0 (wX cI cT ad M0) := by
  intro sz
  refine gx_met (cc := b_O_tick) (maxL := 2) (by decide) rfl (Nat.le_of_ble_eq_true rfl) ?_
  intro p e s m args below meth c A S hlk hno H locs hw hZ ls hl
  have S : CallFix p m c b_O_tick 2 s args wsT_O_tick R_O := S
  have hx := S.1
  have hb := S.2.1
  have hts := S.2.2.2.2
  have hl : lv_has ls 2 [(0, .ref (ad 0)), (1, .int a1)] := hl
  have n_T_O : ∀ w ∈ u_ws R_O T_O 3, w ∈ wsT_O_tick := fun w h => List.mem_cons_of_mem _ (wA_of (uT_O w h))
  have f_28 : Cond.fieldLink R_O 28 (T_O 2).1 (T_O 2).2.1 (T_O 2).2.2.1 ∈ wsT_O_tick := List.mem_cons_of_mem _ (wA_of xw_43)
  have w_121 : CallW rmT_O_tick s args R_O R_K 121 y_K_advance b_K_advance 6 (some .int) ws_K_advance rm_K_advance 0 0 1 := cwV 1 hts (wB_callV (fun w h => List.mem_cons_of_mem _ (wA_of h)) xw_417 xw_418 xw_419 xw_420 xw_82) rfl rfl rfl (by decide +kernel) ⟨Nat.le_of_ble_eq_true rfl, Nat.le_of_ble_eq_true rfl⟩
  have k_118 : Cond.classLink R_O 118 "java/lang/IllegalArgumentException" ∈ wsT_O_tick := List.mem_cons_of_mem _ (wA_of xw_427)
  have k_118i : Cond.initialized "java/lang/IllegalArgumentException" ∈ wsT_O_tick := List.mem_cons_of_mem _ (wA_of xw_428)
  have a_120 : ∀ w ∈ Bundle.ownAtoms0 R_O 120 "java/lang/IllegalArgumentException" ["java/lang/RuntimeException", "java/lang/Exception"], gx_h w = false → w ∈ wsT_O_tick ∧ w.onTables = true := fun w h g => ⟨List.mem_cons_of_mem _ (xt_120 w h g).1, (xt_120 w h g).2⟩
  unfold j_O_tick at hj
  refine lv_iload_n hx hb d_O_tick_0 rfl (lv_at hl 1 rfl) ?_
  refine lv_iconst (v := 1) hx hb d_O_tick_1 (by decide) ?_
  refine lv_icmp_lt (tgt := 12) hx hb d_O_tick_2 (by decide) (fun c_1 => ?_) (fun c_1 => ?_)
  · rw [if_pos c_1] at hj
    obtain ⟨rfl, rfl⟩ := Prod.mk.inj (Sum.inl.inj (Option.some.inj hj))
    exact gx_throw (names := ["java/lang/RuntimeException", "java/lang/Exception"]) S hlt hlk hno hw hZ (by decide +kernel) (by decide +kernel) k_118 k_118i a_120 hl.1 d_O_tick_12 d_O_tick_15 d_O_tick_16 d_O_tick_19 (by decide) (Nat.le_of_ble_eq_true rfl) (by decide) (by decide)
  · rw [if_neg c_1] at hj
    refine lv_iload_n hx hb d_O_tick_5 rfl (lv_at hl 1 rfl) ?_
    refine lv_sipush (v := 2000) hx hb d_O_tick_6 (by decide) ?_
    refine lv_icmp_le (tgt := 20) hx hb d_O_tick_9 (by decide) (fun c_2 => ?_) (fun c_2 => ?_)
    · rw [if_pos c_2] at hj
      refine lv_aload_n hx hb d_O_tick_20 rfl (lv_at hl 0 rfl) ?_
      refine gw_get (v := .ref (ad 5)) S hw xa_O rfl (by decide) n_T_O f_28 rfl d_O_tick_21 ?_
      refine lv_iload_n hx hb d_O_tick_24 rfl (lv_at hl 1 rfl) ?_
      obtain ⟨q_4, e_3, hj⟩ := Option.bind_eq_some_iff.mp hj
      refine gw_calli (As := [.int a1]) (rest := []) S hw (c_K_advance e_3) w_121 xa_K rfl rfl hl.1 rfl (Nat.le_of_ble_eq_true rfl) d_O_tick_25 (fun H locs hw => ?_)
      exact nomatch (Option.some.inj hj)
    · rw [if_neg c_2] at hj
      obtain ⟨rfl, rfl⟩ := Prod.mk.inj (Sum.inl.inj (Option.some.inj hj))
      exact gx_throw (names := ["java/lang/RuntimeException", "java/lang/Exception"]) S hlt hlk hno hw hZ (by decide +kernel) (by decide +kernel) k_118 k_118i a_120 hl.1 d_O_tick_12 d_O_tick_15 d_O_tick_16 d_O_tick_19 (by decide) (Nat.le_of_ble_eq_true rfl) (by decide) (by decide)
