/-! the helpers: where they return (h_L), where they catch (ht_L) -/
abbrev rm_L_admit : Room := { frames := 7, cells := 1, slots := 6, locals := 164 }
def ws_L_admit : List Cond := Cond.codeWith y_L_admit b_L_admit 3 (some .int) hh_L_admit :: wA
set_option maxHeartbeats 4000000 in
set_option maxRecDepth 100000 in
theorem h_L_admit {l : Launch} {D : va_G} {cI cT cL : ClassId} {ad : Nat → Nat} {oa : Nat} {f : Nat → Int64} {n : Nat} {M : MX} {r0 : Int32} {M0 : MX} (hj : j_O_admit n M = some (Sum.inr (r0, M0))) : gl_C l y_L_admit ws_L_admit rm_L_admit D (tyH cI cT cL) (wX cI cT ad M ++ [oC oa cL f]) [.ref (ad 0), .ref oa] 0 (wX cI cT ad M0 ++ [oC oa cL (vp_updL f 0 r0.toInt64)]) := by
  intro sz
  refine gl_met (cc := b_L_admit) (maxL := 3) (hh := hh_L_admit) (by decide) rfl (Nat.le_of_ble_eq_true rfl) ?_
  intro p e s m args below meth c A Q S htab H locs hw hZ hN kret ls hl
  have S : CallFix p m c b_L_admit 3 s args ws_L_admit R_L := S
  have hx := S.1
  have hb := S.2.1
  have hts := S.2.2.2.2
  have hl : lv_has ls 3 [(0, .ref (ad 0)), (1, .ref oa)] := hl
  have w_c : CallW rm_L_admit s args R_L R_O 7 y_O_admit b_O_admit 1 (some .int) ws_O_admit rm_O_admit 0 0 0 := cwV 0 hts (wB_callV (fun w h => List.mem_cons_of_mem _ (wA_of h)) xw_467 xw_468 xw_469 xw_470 xw_393) rfl rfl rfl (by decide +kernel) ⟨Nat.le_of_ble_eq_true rfl, Nat.le_of_ble_eq_true rfl⟩
  refine lv_aload_n hx hb d_L_admit_0 rfl (lv_at hl 1 rfl) ?_
  refine lv_iconst (v := 0) hx hb d_L_admit_1 (by decide) ?_
  refine lv_aload_n hx hb d_L_admit_2 rfl (lv_at hl 0 rfl) ?_
  refine fr_calli (wa := []) (w1 := wX cI cT ad M) (wb := [oC oa cL f]) (w2 := wX cI cT ad M0) (As := []) (rest := [.int 0, .ref oa]) S hw [0, 1] rfl (c_O_admit hj) w_c xa_O rfl rfl hl.1 rfl (Nat.le_of_ble_eq_true rfl) d_L_admit_3 ⟨Nat.zero_le _, Nat.zero_le _⟩ (fun H locs hw => ?_)
  refine lv_i2l hx hb d_L_admit_6 rfl ?_
  refine gl_last (q0 := (wX cI cT ad M0).length + 0) (t0 := 2) (ws := wX cI cT ad M0 ++ [oC oa cL f]) S hw (ap_at 0) rfl (by decide) (ap_set 0 _) d_L_admit_7 (fun H locs hw => ?_)
  refine lv_goto (tgt := 14) hx hb d_L_admit_8 (by decide) ?_
  refine lv_iconst (v := 0) hx hb d_L_admit_14 (by decide) ?_
  exact kret H locs ls _ 0 _ 0 0 rfl rfl (by decide) (by decide) hw d_L_admit_15
set_option maxHeartbeats 4000000 in
set_option maxRecDepth 100000 in
theorem ht_L_admit {l : Launch} {D : va_G} {cI cT cL : ClassId} {ad : Nat → Nat} {oa : Nat} {f : Nat → Int64} {n : Nat} {M : MX} {E0 : String} {k0 : Int32} {M0 : MX} (hlt : l.stackTraces = false) (hj : j_O_admit n M = some (Sum.inl (E0, M0))) (hE : (E0 = "java/lang/IllegalStateException" ∧ k0 = 1)) : gl_C l y_L_admit ws_L_admit rm_L_admit D (tyH cI cT cL) (wX cI cT ad M ++ [oC oa cL f]) [.ref (ad 0), .ref oa] k0 (wX cI cT ad M0 ++ [oC oa cL f]) := by
  intro sz
  refine gl_met (cc := b_L_admit) (maxL := 3) (hh := hh_L_admit) (by decide) rfl (Nat.le_of_ble_eq_true rfl) ?_
  intro p e s m args below meth c A Q S htab H locs hw hZ hN kret ls hl
  have S : CallFix p m c b_L_admit 3 s args ws_L_admit R_L := S
  have hx := S.1
  have hb := S.2.1
  have hts := S.2.2.2.2
  have hl : lv_has ls 3 [(0, .ref (ad 0)), (1, .ref oa)] := hl
  have w_c : CallW rm_L_admit s args R_L R_O 7 y_O_admit b_O_admit 1 (some .int) wsT_O_admit rmT_O_admit 1 6 0 := gx_cw 0 hts (fun w h => List.mem_cons_of_mem _ h) xw_467 xw_468 xw_469 xw_470 xw_393 rfl rfl (by decide +kernel) ⟨Nat.le_of_ble_eq_true rfl, Nat.le_of_ble_eq_true rfl⟩
  refine lv_aload_n hx hb d_L_admit_0 rfl (lv_at hl 1 rfl) ?_
  refine lv_iconst (v := 0) hx hb d_L_admit_1 (by decide) ?_
  refine lv_aload_n hx hb d_L_admit_2 rfl (lv_at hl 0 rfl) ?_
  refine fr_throw (wa := []) (w1 := wX cI cT ad M) (wb := [oC oa cL f]) (w2 := wX cI cT ad M0) (As := []) (rest := [.int 0, .ref oa]) S hw hZ [0, 1] rfl (ct_O_admit hlt hj) w_c xa_O rfl rfl hl.1 rfl (Nat.le_of_ble_eq_true rfl) d_L_admit_3 (by decide) (by decide) (fun H locs q ce hw hce hcv hcl => ?_)
  obtain ⟨rfl, rfl⟩ := hE
  refine gl_catch (hh := hh_L_admit) (pre := []) (suf := []) (s0 := 0) (e0 := 8) (hp := 11) (ct := 13) S htab rfl (fun z hz => absurd hz List.not_mem_nil) (by decide) (by decide) (List.mem_cons_of_mem _ xv_0) (List.mem_cons_of_mem _ xv_1) hce hcv hcl ?_
  refine lv_astore_n (lv' := [(2, .ref q), (0, .ref (ad 0)), (1, .ref oa)]) hx hb d_L_admit_11 rfl hl (by decide) rfl (fun ls hl => ?_)
  refine lv_iconst (v := 1) hx hb d_L_admit_12 (by decide) ?_
  exact kret H locs ls _ 1 _ 1 6 rfl rfl (by decide) (by decide) hw d_L_admit_13
abbrev rm_L_response : Room := { frames := 9, cells := 1, slots := 6, locals := 165 }
def ws_L_response : List Cond := Cond.codeWith y_L_response b_L_response 4 (some .int) hh_L_response :: wA
set_option maxHeartbeats 4000000 in
set_option maxRecDepth 100000 in
theorem h_L_response {l : Launch} {D : va_G} {cI cT cL : ClassId} {ad : Nat → Nat} {oa : Nat} {f : Nat → Int64} {n : Nat} {M : MX} {a1 : Int32} {r0 : Int32} {M0 : MX} (hj : j_O_response n M a1 = some (Sum.inr (r0, M0))) : gl_C l y_L_response ws_L_response rm_L_response D (tyH cI cT cL) (wX cI cT ad M ++ [oC oa cL f]) [.ref (ad 0), .int a1, .ref oa] 0 (wX cI cT ad M0 ++ [oC oa cL (vp_updL f 0 r0.toInt64)]) := by
  intro sz
  refine gl_met (cc := b_L_response) (maxL := 4) (hh := hh_L_response) (by decide) rfl (Nat.le_of_ble_eq_true rfl) ?_
  intro p e s m args below meth c A Q S htab H locs hw hZ hN kret ls hl
  have S : CallFix p m c b_L_response 4 s args ws_L_response R_L := S
  have hx := S.1
  have hb := S.2.1
  have hts := S.2.2.2.2
  have hl : lv_has ls 4 [(0, .ref (ad 0)), (1, .int a1), (2, .ref oa)] := hl
  have w_c : CallW rm_L_response s args R_L R_O 15 y_O_response b_O_response 2 (some .int) ws_O_response rm_O_response 0 0 1 := cwV 1 hts (wB_callV (fun w h => List.mem_cons_of_mem _ (wA_of h)) xw_471 xw_472 xw_473 xw_474 xw_393) rfl rfl rfl (by decide +kernel) ⟨Nat.le_of_ble_eq_true rfl, Nat.le_of_ble_eq_true rfl⟩
  refine lv_aload_n hx hb d_L_response_0 rfl (lv_at hl 2 rfl) ?_
  refine lv_iconst (v := 0) hx hb d_L_response_1 (by decide) ?_
  refine lv_aload_n hx hb d_L_response_2 rfl (lv_at hl 0 rfl) ?_
  refine lv_iload_n hx hb d_L_response_3 rfl (lv_at hl 1 rfl) ?_
  refine fr_calli (wa := []) (w1 := wX cI cT ad M) (wb := [oC oa cL f]) (w2 := wX cI cT ad M0) (As := [.int a1]) (rest := [.int 0, .ref oa]) S hw [0, 1] rfl (c_O_response hj) w_c xa_O rfl rfl hl.1 rfl (Nat.le_of_ble_eq_true rfl) d_L_response_4 ⟨Nat.zero_le _, Nat.zero_le _⟩ (fun H locs hw => ?_)
  refine lv_i2l hx hb d_L_response_7 rfl ?_
  refine gl_last (q0 := (wX cI cT ad M0).length + 0) (t0 := 2) (ws := wX cI cT ad M0 ++ [oC oa cL f]) S hw (ap_at 0) rfl (by decide) (ap_set 0 _) d_L_response_8 (fun H locs hw => ?_)
  refine lv_goto (tgt := 21) hx hb d_L_response_9 (by decide) ?_
  refine lv_iconst (v := 0) hx hb d_L_response_21 (by decide) ?_
  exact kret H locs ls _ 0 _ 0 0 rfl rfl (by decide) (by decide) hw d_L_response_22
set_option maxHeartbeats 4000000 in
set_option maxRecDepth 100000 in
theorem ht_L_response {l : Launch} {D : va_G} {cI cT cL : ClassId} {ad : Nat → Nat} {oa : Nat} {f : Nat → Int64} {n : Nat} {M : MX} {a1 : Int32} {E0 : String} {k0 : Int32} {M0 : MX} (hlt : l.stackTraces = false) (hj : j_O_response n M a1 = some (Sum.inl (E0, M0))) (hE : (E0 = "java/lang/IndexOutOfBoundsException" ∧ k0 = 1) ∨ (E0 = "java/lang/IllegalStateException" ∧ k0 = 2) ∨ (E0 = "java/lang/ArithmeticException" ∧ k0 = 3)) : gl_C l y_L_response ws_L_response rm_L_response D (tyH cI cT cL) (wX cI cT ad M ++ [oC oa cL f]) [.ref (ad 0), .int a1, .ref oa] k0 (wX cI cT ad M0 ++ [oC oa cL f]) := by
  intro sz
  refine gl_met (cc := b_L_response) (maxL := 4) (hh := hh_L_response) (by decide) rfl (Nat.le_of_ble_eq_true rfl) ?_
  intro p e s m args below meth c A Q S htab H locs hw hZ hN kret ls hl
  have S : CallFix p m c b_L_response 4 s args ws_L_response R_L := S
  have hx := S.1
  have hb := S.2.1
  have hts := S.2.2.2.2
  have hl : lv_has ls 4 [(0, .ref (ad 0)), (1, .int a1), (2, .ref oa)] := hl
  have w_c : CallW rm_L_response s args R_L R_O 15 y_O_response b_O_response 2 (some .int) wsT_O_response rmT_O_response 1 6 1 := gx_cw 1 hts (fun w h => List.mem_cons_of_mem _ h) xw_471 xw_472 xw_473 xw_474 xw_393 rfl rfl (by decide +kernel) ⟨Nat.le_of_ble_eq_true rfl, Nat.le_of_ble_eq_true rfl⟩
  refine lv_aload_n hx hb d_L_response_0 rfl (lv_at hl 2 rfl) ?_
  refine lv_iconst (v := 0) hx hb d_L_response_1 (by decide) ?_
  refine lv_aload_n hx hb d_L_response_2 rfl (lv_at hl 0 rfl) ?_
  refine lv_iload_n hx hb d_L_response_3 rfl (lv_at hl 1 rfl) ?_
  refine fr_throw (wa := []) (w1 := wX cI cT ad M) (wb := [oC oa cL f]) (w2 := wX cI cT ad M0) (As := [.int a1]) (rest := [.int 0, .ref oa]) S hw hZ [0, 1] rfl (ct_O_response hlt hj) w_c xa_O rfl rfl hl.1 rfl (Nat.le_of_ble_eq_true rfl) d_L_response_4 (by decide) (by decide) (fun H locs q ce hw hce hcv hcl => ?_)
  rcases hE with ⟨rfl, rfl⟩ | ⟨rfl, rfl⟩ | ⟨rfl, rfl⟩
  · refine gl_catch (hh := hh_L_response) (pre := []) (suf := [(0, 9, 15, 13), (0, 9, 18, 21)]) (s0 := 0) (e0 := 9) (hp := 12) (ct := 19) S htab rfl (fun z hz => absurd hz List.not_mem_nil) (by decide) (by decide) (List.mem_cons_of_mem _ xv_2) (List.mem_cons_of_mem _ xv_3) hce hcv hcl ?_
    refine lv_astore_n (lv' := [(3, .ref q), (0, .ref (ad 0)), (1, .int a1), (2, .ref oa)]) hx hb d_L_response_12 rfl hl (by decide) rfl (fun ls hl => ?_)
    refine lv_iconst (v := 1) hx hb d_L_response_13 (by decide) ?_
    exact kret H locs ls _ 1 _ 1 6 rfl rfl (by decide) (by decide) hw d_L_response_14
  · refine gl_catch (hh := hh_L_response) (pre := [(0, 9, 12, 19)]) (suf := [(0, 9, 18, 21)]) (s0 := 0) (e0 := 9) (hp := 15) (ct := 13) S htab rfl (fun z hz => by
      simp only [List.mem_cons, List.not_mem_nil, or_false] at hz
      subst hz
      exact ⟨by decide, "java/lang/IndexOutOfBoundsException", List.mem_cons_of_mem _ xv_2, hN.1⟩) (by decide) (by decide) (List.mem_cons_of_mem _ xv_0) (List.mem_cons_of_mem _ xv_1) hce hcv hcl ?_
    refine lv_astore_n (lv' := [(3, .ref q), (0, .ref (ad 0)), (1, .int a1), (2, .ref oa)]) hx hb d_L_response_15 rfl hl (by decide) rfl (fun ls hl => ?_)
    refine lv_iconst (v := 2) hx hb d_L_response_16 (by decide) ?_
    exact kret H locs ls _ 2 _ 1 6 rfl rfl (by decide) (by decide) hw d_L_response_17
  · refine gl_catch (hh := hh_L_response) (pre := [(0, 9, 12, 19), (0, 9, 15, 13)]) (suf := []) (s0 := 0) (e0 := 9) (hp := 18) (ct := 21) S htab rfl (fun z hz => by
      simp only [List.mem_cons, List.not_mem_nil, or_false] at hz
      rcases hz with rfl | rfl
      · exact ⟨by decide, "java/lang/IndexOutOfBoundsException", List.mem_cons_of_mem _ xv_2, hN.2.1⟩
      · exact ⟨by decide, "java/lang/IllegalStateException", List.mem_cons_of_mem _ xv_0, hN.2.2⟩) (by decide) (by decide) (List.mem_cons_of_mem _ xv_4) (List.mem_cons_of_mem _ xv_5) hce hcv hcl ?_
    refine lv_astore_n (lv' := [(3, .ref q), (0, .ref (ad 0)), (1, .int a1), (2, .ref oa)]) hx hb d_L_response_18 rfl hl (by decide) rfl (fun ls hl => ?_)
    refine lv_iconst (v := 3) hx hb d_L_response_19 (by decide) ?_
    exact kret H locs ls _ 3 _ 1 6 rfl rfl (by decide) (by decide) hw d_L_response_20
abbrev rm_L_job : Room := { frames := 9, cells := 1, slots := 6, locals := 166 }
def ws_L_job : List Cond := Cond.codeWith y_L_job b_L_job 5 (some .int) hh_L_job :: wA
set_option maxHeartbeats 4000000 in
set_option maxRecDepth 100000 in
theorem h_L_job {l : Launch} {D : va_G} {cI cT cL : ClassId} {ad : Nat → Nat} {oa : Nat} {f : Nat → Int64} {n : Nat} {M : MX} {a1 : Int32} {a2 : Int32} {r0 : Int32} {M0 : MX} (hj : j_O_job n M a1 a2 = some (Sum.inr (r0, M0))) : gl_C l y_L_job ws_L_job rm_L_job D (tyH cI cT cL) (wX cI cT ad M ++ [oC oa cL f]) [.ref (ad 0), .int a1, .int a2, .ref oa] 0 (wX cI cT ad M0 ++ [oC oa cL (vp_updL f 0 r0.toInt64)]) := by
  intro sz
  refine gl_met (cc := b_L_job) (maxL := 5) (hh := hh_L_job) (by decide) rfl (Nat.le_of_ble_eq_true rfl) ?_
  intro p e s m args below meth c A Q S htab H locs hw hZ hN kret ls hl
  have S : CallFix p m c b_L_job 5 s args ws_L_job R_L := S
  have hx := S.1
  have hb := S.2.1
  have hts := S.2.2.2.2
  have hl : lv_has ls 5 [(0, .ref (ad 0)), (1, .int a1), (2, .int a2), (3, .ref oa)] := hl
  have w_c : CallW rm_L_job s args R_L R_O 23 y_O_job b_O_job 3 (some .int) ws_O_job rm_O_job 0 0 2 := cwV 2 hts (wB_callV (fun w h => List.mem_cons_of_mem _ (wA_of h)) xw_475 xw_476 xw_477 xw_478 xw_393) rfl rfl rfl (by decide +kernel) ⟨Nat.le_of_ble_eq_true rfl, Nat.le_of_ble_eq_true rfl⟩
  refine lv_aload_n hx hb d_L_job_0 rfl (lv_at hl 3 rfl) ?_
  refine lv_iconst (v := 0) hx hb d_L_job_1 (by decide) ?_
  refine lv_aload_n hx hb d_L_job_2 rfl (lv_at hl 0 rfl) ?_
  refine lv_iload_n hx hb d_L_job_3 rfl (lv_at hl 1 rfl) ?_
  refine lv_iload_n hx hb d_L_job_4 rfl (lv_at hl 2 rfl) ?_
  refine fr_calli (wa := []) (w1 := wX cI cT ad M) (wb := [oC oa cL f]) (w2 := wX cI cT ad M0) (As := [.int a1, .int a2]) (rest := [.int 0, .ref oa]) S hw [0, 1] rfl (c_O_job hj) w_c xa_O rfl rfl hl.1 rfl (Nat.le_of_ble_eq_true rfl) d_L_job_5 ⟨Nat.zero_le _, Nat.zero_le _⟩ (fun H locs hw => ?_)
  refine lv_i2l hx hb d_L_job_8 rfl ?_
  refine gl_last (q0 := (wX cI cT ad M0).length + 0) (t0 := 2) (ws := wX cI cT ad M0 ++ [oC oa cL f]) S hw (ap_at 0) rfl (by decide) (ap_set 0 _) d_L_job_9 (fun H locs hw => ?_)
  refine lv_goto (tgt := 25) hx hb d_L_job_10 (by decide) ?_
  refine lv_iconst (v := 0) hx hb d_L_job_25 (by decide) ?_
  exact kret H locs ls _ 0 _ 0 0 rfl rfl (by decide) (by decide) hw d_L_job_26
set_option maxHeartbeats 4000000 in
set_option maxRecDepth 100000 in
theorem ht_L_job {l : Launch} {D : va_G} {cI cT cL : ClassId} {ad : Nat → Nat} {oa : Nat} {f : Nat → Int64} {n : Nat} {M : MX} {a1 : Int32} {a2 : Int32} {E0 : String} {k0 : Int32} {M0 : MX} (hlt : l.stackTraces = false) (hj : j_O_job n M a1 a2 = some (Sum.inl (E0, M0))) (hE : (E0 = "java/lang/IndexOutOfBoundsException" ∧ k0 = 1) ∨ (E0 = "java/lang/IllegalStateException" ∧ k0 = 2) ∨ (E0 = "java/lang/ArithmeticException" ∧ k0 = 3)) : gl_C l y_L_job ws_L_job rm_L_job D (tyH cI cT cL) (wX cI cT ad M ++ [oC oa cL f]) [.ref (ad 0), .int a1, .int a2, .ref oa] k0 (wX cI cT ad M0 ++ [oC oa cL f]) := by
  intro sz
  refine gl_met (cc := b_L_job) (maxL := 5) (hh := hh_L_job) (by decide) rfl (Nat.le_of_ble_eq_true rfl) ?_
  intro p e s m args below meth c A Q S htab H locs hw hZ hN kret ls hl
  have S : CallFix p m c b_L_job 5 s args ws_L_job R_L := S
  have hx := S.1
  have hb := S.2.1
  have hts := S.2.2.2.2
  have hl : lv_has ls 5 [(0, .ref (ad 0)), (1, .int a1), (2, .int a2), (3, .ref oa)] := hl
  have w_c : CallW rm_L_job s args R_L R_O 23 y_O_job b_O_job 3 (some .int) wsT_O_job rmT_O_job 1 6 2 := gx_cw 2 hts (fun w h => List.mem_cons_of_mem _ h) xw_475 xw_476 xw_477 xw_478 xw_393 rfl rfl (by decide +kernel) ⟨Nat.le_of_ble_eq_true rfl, Nat.le_of_ble_eq_true rfl⟩
  refine lv_aload_n hx hb d_L_job_0 rfl (lv_at hl 3 rfl) ?_
  refine lv_iconst (v := 0) hx hb d_L_job_1 (by decide) ?_
  refine lv_aload_n hx hb d_L_job_2 rfl (lv_at hl 0 rfl) ?_
  refine lv_iload_n hx hb d_L_job_3 rfl (lv_at hl 1 rfl) ?_
  refine lv_iload_n hx hb d_L_job_4 rfl (lv_at hl 2 rfl) ?_
  refine fr_throw (wa := []) (w1 := wX cI cT ad M) (wb := [oC oa cL f]) (w2 := wX cI cT ad M0) (As := [.int a1, .int a2]) (rest := [.int 0, .ref oa]) S hw hZ [0, 1] rfl (ct_O_job hlt hj) w_c xa_O rfl rfl hl.1 rfl (Nat.le_of_ble_eq_true rfl) d_L_job_5 (by decide) (by decide) (fun H locs q ce hw hce hcv hcl => ?_)
  rcases hE with ⟨rfl, rfl⟩ | ⟨rfl, rfl⟩ | ⟨rfl, rfl⟩
  · refine gl_catch (hh := hh_L_job) (pre := []) (suf := [(0, 10, 17, 13), (0, 10, 21, 21)]) (s0 := 0) (e0 := 10) (hp := 13) (ct := 19) S htab rfl (fun z hz => absurd hz List.not_mem_nil) (by decide) (by decide) (List.mem_cons_of_mem _ xv_2) (List.mem_cons_of_mem _ xv_3) hce hcv hcl ?_
    refine lv_astore (lv' := [(4, .ref q), (0, .ref (ad 0)), (1, .int a1), (2, .int a2), (3, .ref oa)]) hx hb d_L_job_13 hl (by decide) rfl (fun ls hl => ?_)
    refine lv_iconst (v := 1) hx hb d_L_job_15 (by decide) ?_
    exact kret H locs ls _ 1 _ 1 6 rfl rfl (by decide) (by decide) hw d_L_job_16
  · refine gl_catch (hh := hh_L_job) (pre := [(0, 10, 13, 19)]) (suf := [(0, 10, 21, 21)]) (s0 := 0) (e0 := 10) (hp := 17) (ct := 13) S htab rfl (fun z hz => by
      simp only [List.mem_cons, List.not_mem_nil, or_false] at hz
      subst hz
      exact ⟨by decide, "java/lang/IndexOutOfBoundsException", List.mem_cons_of_mem _ xv_2, hN.1⟩) (by decide) (by decide) (List.mem_cons_of_mem _ xv_0) (List.mem_cons_of_mem _ xv_1) hce hcv hcl ?_
    refine lv_astore (lv' := [(4, .ref q), (0, .ref (ad 0)), (1, .int a1), (2, .int a2), (3, .ref oa)]) hx hb d_L_job_17 hl (by decide) rfl (fun ls hl => ?_)
    refine lv_iconst (v := 2) hx hb d_L_job_19 (by decide) ?_
    exact kret H locs ls _ 2 _ 1 6 rfl rfl (by decide) (by decide) hw d_L_job_20
  · refine gl_catch (hh := hh_L_job) (pre := [(0, 10, 13, 19), (0, 10, 17, 13)]) (suf := []) (s0 := 0) (e0 := 10) (hp := 21) (ct := 21) S htab rfl (fun z hz => by
      simp only [List.mem_cons, List.not_mem_nil, or_false] at hz
      rcases hz with rfl | rfl
      · exact ⟨by decide, "java/lang/IndexOutOfBoundsException", List.mem_cons_of_mem _ xv_2, hN.2.1⟩
      · exact ⟨by decide, "java/lang/IllegalStateException", List.mem_cons_of_mem _ xv_0, hN.2.2⟩) (by decide) (by decide) (List.mem_cons_of_mem _ xv_4) (List.mem_cons_of_mem _ xv_5) hce hcv hcl ?_
    refine lv_astore (lv' := [(4, .ref q), (0, .ref (ad 0)), (1, .int a1), (2, .int a2), (3, .ref oa)]) hx hb d_L_job_21 hl (by decide) rfl (fun ls hl => ?_)
    refine lv_iconst (v := 3) hx hb d_L_job_23 (by decide) ?_
    exact kret H locs ls _ 3 _ 1 6 rfl rfl (by decide) (by decide) hw d_L_job_24
abbrev rm_L_tolerance : Room := { frames := 8, cells := 1, slots := 6, locals := 168 }
def ws_L_tolerance : List Cond := Cond.codeWith y_L_tolerance b_L_tolerance 4 (some .int) hh_L_tolerance :: wA
set_option maxHeartbeats 4000000 in
set_option maxRecDepth 100000 in
theorem h_L_tolerance {l : Launch} {D : va_G} {cI cT cL : ClassId} {ad : Nat → Nat} {oa : Nat} {f : Nat → Int64} {n : Nat} {M : MX} {a1 : Int32} {r0 : Int32} {M0 : MX} (hj : j_O_tolerance n M a1 = some (Sum.inr (r0, M0))) : gl_C l y_L_tolerance ws_L_tolerance rm_L_tolerance D (tyH cI cT cL) (wX cI cT ad M ++ [oC oa cL f]) [.ref (ad 0), .int a1, .ref oa] 0 (wX cI cT ad M0 ++ [oC oa cL (vp_updL f 0 r0.toInt64)]) := by
  intro sz
  refine gl_met (cc := b_L_tolerance) (maxL := 4) (hh := hh_L_tolerance) (by decide) rfl (Nat.le_of_ble_eq_true rfl) ?_
  intro p e s m args below meth c A Q S htab H locs hw hZ hN kret ls hl
  have S : CallFix p m c b_L_tolerance 4 s args ws_L_tolerance R_L := S
  have hx := S.1
  have hb := S.2.1
  have hts := S.2.2.2.2
  have hl : lv_has ls 4 [(0, .ref (ad 0)), (1, .int a1), (2, .ref oa)] := hl
  have w_c : CallW rm_L_tolerance s args R_L R_O 27 y_O_tolerance b_O_tolerance 2 (some .int) ws_O_tolerance rm_O_tolerance 0 0 1 := cwV 1 hts (wB_callV (fun w h => List.mem_cons_of_mem _ (wA_of h)) xw_479 xw_480 xw_481 xw_482 xw_393) rfl rfl rfl (by decide +kernel) ⟨Nat.le_of_ble_eq_true rfl, Nat.le_of_ble_eq_true rfl⟩
  refine lv_aload_n hx hb d_L_tolerance_0 rfl (lv_at hl 2 rfl) ?_
  refine lv_iconst (v := 0) hx hb d_L_tolerance_1 (by decide) ?_
  refine lv_aload_n hx hb d_L_tolerance_2 rfl (lv_at hl 0 rfl) ?_
  refine lv_iload_n hx hb d_L_tolerance_3 rfl (lv_at hl 1 rfl) ?_
  refine fr_calli (wa := []) (w1 := wX cI cT ad M) (wb := [oC oa cL f]) (w2 := wX cI cT ad M0) (As := [.int a1]) (rest := [.int 0, .ref oa]) S hw [0, 1] rfl (c_O_tolerance hj) w_c xa_O rfl rfl hl.1 rfl (Nat.le_of_ble_eq_true rfl) d_L_tolerance_4 ⟨Nat.zero_le _, Nat.zero_le _⟩ (fun H locs hw => ?_)
  refine lv_i2l hx hb d_L_tolerance_7 rfl ?_
  refine gl_last (q0 := (wX cI cT ad M0).length + 0) (t0 := 2) (ws := wX cI cT ad M0 ++ [oC oa cL f]) S hw (ap_at 0) rfl (by decide) (ap_set 0 _) d_L_tolerance_8 (fun H locs hw => ?_)
  refine lv_goto (tgt := 18) hx hb d_L_tolerance_9 (by decide) ?_
  refine lv_iconst (v := 0) hx hb d_L_tolerance_18 (by decide) ?_
  exact kret H locs ls _ 0 _ 0 0 rfl rfl (by decide) (by decide) hw d_L_tolerance_19
set_option maxHeartbeats 4000000 in
set_option maxRecDepth 100000 in
theorem ht_L_tolerance {l : Launch} {D : va_G} {cI cT cL : ClassId} {ad : Nat → Nat} {oa : Nat} {f : Nat → Int64} {n : Nat} {M : MX} {a1 : Int32} {E0 : String} {k0 : Int32} {M0 : MX} (hlt : l.stackTraces = false) (hj : j_O_tolerance n M a1 = some (Sum.inl (E0, M0))) (hE : (E0 = "java/lang/IndexOutOfBoundsException" ∧ k0 = 1) ∨ (E0 = "java/lang/IllegalStateException" ∧ k0 = 2)) : gl_C l y_L_tolerance ws_L_tolerance rm_L_tolerance D (tyH cI cT cL) (wX cI cT ad M ++ [oC oa cL f]) [.ref (ad 0), .int a1, .ref oa] k0 (wX cI cT ad M0 ++ [oC oa cL f]) := by
  intro sz
  refine gl_met (cc := b_L_tolerance) (maxL := 4) (hh := hh_L_tolerance) (by decide) rfl (Nat.le_of_ble_eq_true rfl) ?_
  intro p e s m args below meth c A Q S htab H locs hw hZ hN kret ls hl
  have S : CallFix p m c b_L_tolerance 4 s args ws_L_tolerance R_L := S
  have hx := S.1
  have hb := S.2.1
  have hts := S.2.2.2.2
  have hl : lv_has ls 4 [(0, .ref (ad 0)), (1, .int a1), (2, .ref oa)] := hl
  have w_c : CallW rm_L_tolerance s args R_L R_O 27 y_O_tolerance b_O_tolerance 2 (some .int) wsT_O_tolerance rmT_O_tolerance 1 6 1 := gx_cw 1 hts (fun w h => List.mem_cons_of_mem _ h) xw_479 xw_480 xw_481 xw_482 xw_393 rfl rfl (by decide +kernel) ⟨Nat.le_of_ble_eq_true rfl, Nat.le_of_ble_eq_true rfl⟩
  refine lv_aload_n hx hb d_L_tolerance_0 rfl (lv_at hl 2 rfl) ?_
  refine lv_iconst (v := 0) hx hb d_L_tolerance_1 (by decide) ?_
  refine lv_aload_n hx hb d_L_tolerance_2 rfl (lv_at hl 0 rfl) ?_
  refine lv_iload_n hx hb d_L_tolerance_3 rfl (lv_at hl 1 rfl) ?_
  refine fr_throw (wa := []) (w1 := wX cI cT ad M) (wb := [oC oa cL f]) (w2 := wX cI cT ad M0) (As := [.int a1]) (rest := [.int 0, .ref oa]) S hw hZ [0, 1] rfl (ct_O_tolerance hlt hj) w_c xa_O rfl rfl hl.1 rfl (Nat.le_of_ble_eq_true rfl) d_L_tolerance_4 (by decide) (by decide) (fun H locs q ce hw hce hcv hcl => ?_)
  rcases hE with ⟨rfl, rfl⟩ | ⟨rfl, rfl⟩
  · refine gl_catch (hh := hh_L_tolerance) (pre := []) (suf := [(0, 9, 15, 13)]) (s0 := 0) (e0 := 9) (hp := 12) (ct := 19) S htab rfl (fun z hz => absurd hz List.not_mem_nil) (by decide) (by decide) (List.mem_cons_of_mem _ xv_2) (List.mem_cons_of_mem _ xv_3) hce hcv hcl ?_
    refine lv_astore_n (lv' := [(3, .ref q), (0, .ref (ad 0)), (1, .int a1), (2, .ref oa)]) hx hb d_L_tolerance_12 rfl hl (by decide) rfl (fun ls hl => ?_)
    refine lv_iconst (v := 1) hx hb d_L_tolerance_13 (by decide) ?_
    exact kret H locs ls _ 1 _ 1 6 rfl rfl (by decide) (by decide) hw d_L_tolerance_14
  · refine gl_catch (hh := hh_L_tolerance) (pre := [(0, 9, 12, 19)]) (suf := []) (s0 := 0) (e0 := 9) (hp := 15) (ct := 13) S htab rfl (fun z hz => by
      simp only [List.mem_cons, List.not_mem_nil, or_false] at hz
      subst hz
      exact ⟨by decide, "java/lang/IndexOutOfBoundsException", List.mem_cons_of_mem _ xv_2, hN.1⟩) (by decide) (by decide) (List.mem_cons_of_mem _ xv_0) (List.mem_cons_of_mem _ xv_1) hce hcv hcl ?_
    refine lv_astore_n (lv' := [(3, .ref q), (0, .ref (ad 0)), (1, .int a1), (2, .ref oa)]) hx hb d_L_tolerance_15 rfl hl (by decide) rfl (fun ls hl => ?_)
    refine lv_iconst (v := 2) hx hb d_L_tolerance_16 (by decide) ?_
    exact kret H locs ls _ 2 _ 1 6 rfl rfl (by decide) (by decide) hw d_L_tolerance_17
abbrev rm_L_stretch : Room := { frames := 7, cells := 1, slots := 6, locals := 170 }
def ws_L_stretch : List Cond := Cond.codeWith y_L_stretch b_L_stretch 3 (some .int) hh_L_stretch :: wA
set_option maxHeartbeats 4000000 in
set_option maxRecDepth 100000 in
theorem h_L_stretch {l : Launch} {D : va_G} {cI cT cL : ClassId} {ad : Nat → Nat} {oa : Nat} {f : Nat → Int64} {n : Nat} {M : MX} {r0 : Int32} {M0 : MX} (hj : j_O_stretch n M = some (Sum.inr (r0, M0))) : gl_C l y_L_stretch ws_L_stretch rm_L_stretch D (tyH cI cT cL) (wX cI cT ad M ++ [oC oa cL f]) [.ref (ad 0), .ref oa] 0 (wX cI cT ad M0 ++ [oC oa cL (vp_updL f 0 r0.toInt64)]) := by
  intro sz
  refine gl_met (cc := b_L_stretch) (maxL := 3) (hh := hh_L_stretch) (by decide) rfl (Nat.le_of_ble_eq_true rfl) ?_
  intro p e s m args below meth c A Q S htab H locs hw hZ hN kret ls hl
  have S : CallFix p m c b_L_stretch 3 s args ws_L_stretch R_L := S
  have hx := S.1
  have hb := S.2.1
  have hts := S.2.2.2.2
  have hl : lv_has ls 3 [(0, .ref (ad 0)), (1, .ref oa)] := hl
  have w_c : CallW rm_L_stretch s args R_L R_O 30 y_O_stretch b_O_stretch 1 (some .int) ws_O_stretch rm_O_stretch 0 0 0 := cwV 0 hts (wB_callV (fun w h => List.mem_cons_of_mem _ (wA_of h)) xw_483 xw_484 xw_485 xw_486 xw_393) rfl rfl rfl (by decide +kernel) ⟨Nat.le_of_ble_eq_true rfl, Nat.le_of_ble_eq_true rfl⟩
  refine lv_aload_n hx hb d_L_stretch_0 rfl (lv_at hl 1 rfl) ?_
  refine lv_iconst (v := 0) hx hb d_L_stretch_1 (by decide) ?_
  refine lv_aload_n hx hb d_L_stretch_2 rfl (lv_at hl 0 rfl) ?_
  refine fr_calli (wa := []) (w1 := wX cI cT ad M) (wb := [oC oa cL f]) (w2 := wX cI cT ad M0) (As := []) (rest := [.int 0, .ref oa]) S hw [0, 1] rfl (c_O_stretch hj) w_c xa_O rfl rfl hl.1 rfl (Nat.le_of_ble_eq_true rfl) d_L_stretch_3 ⟨Nat.zero_le _, Nat.zero_le _⟩ (fun H locs hw => ?_)
  refine lv_i2l hx hb d_L_stretch_6 rfl ?_
  refine gl_last (q0 := (wX cI cT ad M0).length + 0) (t0 := 2) (ws := wX cI cT ad M0 ++ [oC oa cL f]) S hw (ap_at 0) rfl (by decide) (ap_set 0 _) d_L_stretch_7 (fun H locs hw => ?_)
  refine lv_goto (tgt := 14) hx hb d_L_stretch_8 (by decide) ?_
  refine lv_iconst (v := 0) hx hb d_L_stretch_14 (by decide) ?_
  exact kret H locs ls _ 0 _ 0 0 rfl rfl (by decide) (by decide) hw d_L_stretch_15
set_option maxHeartbeats 4000000 in
set_option maxRecDepth 100000 in
theorem ht_L_stretch {l : Launch} {D : va_G} {cI cT cL : ClassId} {ad : Nat → Nat} {oa : Nat} {f : Nat → Int64} {n : Nat} {M : MX} {E0 : String} {k0 : Int32} {M0 : MX} (hlt : l.stackTraces = false) (hj : j_O_stretch n M = some (Sum.inl (E0, M0))) (hE : (E0 = "java/lang/IllegalStateException" ∧ k0 = 1)) : gl_C l y_L_stretch ws_L_stretch rm_L_stretch D (tyH cI cT cL) (wX cI cT ad M ++ [oC oa cL f]) [.ref (ad 0), .ref oa] k0 (wX cI cT ad M0 ++ [oC oa cL f]) := by
  intro sz
  refine gl_met (cc := b_L_stretch) (maxL := 3) (hh := hh_L_stretch) (by decide) rfl (Nat.le_of_ble_eq_true rfl) ?_
  intro p e s m args below meth c A Q S htab H locs hw hZ hN kret ls hl
  have S : CallFix p m c b_L_stretch 3 s args ws_L_stretch R_L := S
  have hx := S.1
  have hb := S.2.1
  have hts := S.2.2.2.2
  have hl : lv_has ls 3 [(0, .ref (ad 0)), (1, .ref oa)] := hl
  have w_c : CallW rm_L_stretch s args R_L R_O 30 y_O_stretch b_O_stretch 1 (some .int) wsT_O_stretch rmT_O_stretch 1 6 0 := gx_cw 0 hts (fun w h => List.mem_cons_of_mem _ h) xw_483 xw_484 xw_485 xw_486 xw_393 rfl rfl (by decide +kernel) ⟨Nat.le_of_ble_eq_true rfl, Nat.le_of_ble_eq_true rfl⟩
  refine lv_aload_n hx hb d_L_stretch_0 rfl (lv_at hl 1 rfl) ?_
  refine lv_iconst (v := 0) hx hb d_L_stretch_1 (by decide) ?_
  refine lv_aload_n hx hb d_L_stretch_2 rfl (lv_at hl 0 rfl) ?_
  refine fr_throw (wa := []) (w1 := wX cI cT ad M) (wb := [oC oa cL f]) (w2 := wX cI cT ad M0) (As := []) (rest := [.int 0, .ref oa]) S hw hZ [0, 1] rfl (ct_O_stretch hlt hj) w_c xa_O rfl rfl hl.1 rfl (Nat.le_of_ble_eq_true rfl) d_L_stretch_3 (by decide) (by decide) (fun H locs q ce hw hce hcv hcl => ?_)
  obtain ⟨rfl, rfl⟩ := hE
  refine gl_catch (hh := hh_L_stretch) (pre := []) (suf := []) (s0 := 0) (e0 := 8) (hp := 11) (ct := 13) S htab rfl (fun z hz => absurd hz List.not_mem_nil) (by decide) (by decide) (List.mem_cons_of_mem _ xv_0) (List.mem_cons_of_mem _ xv_1) hce hcv hcl ?_
  refine lv_astore_n (lv' := [(2, .ref q), (0, .ref (ad 0)), (1, .ref oa)]) hx hb d_L_stretch_11 rfl hl (by decide) rfl (fun ls hl => ?_)
  refine lv_iconst (v := 1) hx hb d_L_stretch_12 (by decide) ?_
  exact kret H locs ls _ 1 _ 1 6 rfl rfl (by decide) (by decide) hw d_L_stretch_13
abbrev rm_L_scenario : Room := { frames := 9, cells := 1, slots := 6, locals := 168 }
def ws_L_scenario : List Cond := Cond.codeWith y_L_scenario b_L_scenario 6 (some .int) hh_L_scenario :: wA
set_option maxHeartbeats 4000000 in
set_option maxRecDepth 100000 in
theorem h_L_scenario {l : Launch} {D : va_G} {cI cT cL : ClassId} {ad : Nat → Nat} {oa : Nat} {f : Nat → Int64} {n : Nat} {M : MX} {a1 : Int32} {a2 : Int32} {a3 : Int32} {r0 : Int32} {M0 : MX} (hj : j_O_scenario n M a1 a2 a3 = some (Sum.inr (r0, M0))) : gl_C l y_L_scenario ws_L_scenario rm_L_scenario D (tyH cI cT cL) (wX cI cT ad M ++ [oC oa cL f]) [.ref (ad 0), .int a1, .int a2, .int a3, .ref oa] 0 (wX cI cT ad M0 ++ [oC oa cL (vp_updL f 0 r0.toInt64)]) := by
  intro sz
  refine gl_met (cc := b_L_scenario) (maxL := 6) (hh := hh_L_scenario) (by decide) rfl (Nat.le_of_ble_eq_true rfl) ?_
  intro p e s m args below meth c A Q S htab H locs hw hZ hN kret ls hl
  have S : CallFix p m c b_L_scenario 6 s args ws_L_scenario R_L := S
  have hx := S.1
  have hb := S.2.1
  have hts := S.2.2.2.2
  have hl : lv_has ls 6 [(0, .ref (ad 0)), (1, .int a1), (2, .int a2), (3, .int a3), (4, .ref oa)] := hl
  have w_c : CallW rm_L_scenario s args R_L R_O 33 y_O_scenario b_O_scenario 5 (some .int) ws_O_scenario rm_O_scenario 0 0 3 := cwV 3 hts (wB_callV (fun w h => List.mem_cons_of_mem _ (wA_of h)) xw_487 xw_488 xw_489 xw_490 xw_393) rfl rfl rfl (by decide +kernel) ⟨Nat.le_of_ble_eq_true rfl, Nat.le_of_ble_eq_true rfl⟩
  refine lv_aload hx hb d_L_scenario_0 (lv_at hl 4 rfl) ?_
  refine lv_iconst (v := 0) hx hb d_L_scenario_2 (by decide) ?_
  refine lv_aload_n hx hb d_L_scenario_3 rfl (lv_at hl 0 rfl) ?_
  refine lv_iload_n hx hb d_L_scenario_4 rfl (lv_at hl 1 rfl) ?_
  refine lv_iload_n hx hb d_L_scenario_5 rfl (lv_at hl 2 rfl) ?_
  refine lv_iload_n hx hb d_L_scenario_6 rfl (lv_at hl 3 rfl) ?_
  refine fr_calli (wa := []) (w1 := wX cI cT ad M) (wb := [oC oa cL f]) (w2 := wX cI cT ad M0) (As := [.int a1, .int a2, .int a3]) (rest := [.int 0, .ref oa]) S hw [0, 1] rfl (c_O_scenario hj) w_c xa_O rfl rfl hl.1 rfl (Nat.le_of_ble_eq_true rfl) d_L_scenario_7 ⟨Nat.zero_le _, Nat.zero_le _⟩ (fun H locs hw => ?_)
  refine lv_i2l hx hb d_L_scenario_10 rfl ?_
  refine gl_last (q0 := (wX cI cT ad M0).length + 0) (t0 := 2) (ws := wX cI cT ad M0 ++ [oC oa cL f]) S hw (ap_at 0) rfl (by decide) (ap_set 0 _) d_L_scenario_11 (fun H locs hw => ?_)
  refine lv_goto (tgt := 27) hx hb d_L_scenario_12 (by decide) ?_
  refine lv_iconst (v := 0) hx hb d_L_scenario_27 (by decide) ?_
  exact kret H locs ls _ 0 _ 0 0 rfl rfl (by decide) (by decide) hw d_L_scenario_28
set_option maxHeartbeats 4000000 in
set_option maxRecDepth 100000 in
theorem ht_L_scenario {l : Launch} {D : va_G} {cI cT cL : ClassId} {ad : Nat → Nat} {oa : Nat} {f : Nat → Int64} {n : Nat} {M : MX} {a1 : Int32} {a2 : Int32} {a3 : Int32} {E0 : String} {k0 : Int32} {M0 : MX} (hlt : l.stackTraces = false) (hj : j_O_scenario n M a1 a2 a3 = some (Sum.inl (E0, M0))) (hE : (E0 = "java/lang/IndexOutOfBoundsException" ∧ k0 = 1) ∨ (E0 = "java/lang/IllegalStateException" ∧ k0 = 2) ∨ (E0 = "java/lang/ArithmeticException" ∧ k0 = 3)) : gl_C l y_L_scenario ws_L_scenario rm_L_scenario D (tyH cI cT cL) (wX cI cT ad M ++ [oC oa cL f]) [.ref (ad 0), .int a1, .int a2, .int a3, .ref oa] k0 (wX cI cT ad M0 ++ [oC oa cL f]) := by
  intro sz
  refine gl_met (cc := b_L_scenario) (maxL := 6) (hh := hh_L_scenario) (by decide) rfl (Nat.le_of_ble_eq_true rfl) ?_
  intro p e s m args below meth c A Q S htab H locs hw hZ hN kret ls hl
  have S : CallFix p m c b_L_scenario 6 s args ws_L_scenario R_L := S
  have hx := S.1
  have hb := S.2.1
  have hts := S.2.2.2.2
  have hl : lv_has ls 6 [(0, .ref (ad 0)), (1, .int a1), (2, .int a2), (3, .int a3), (4, .ref oa)] := hl
  have w_c : CallW rm_L_scenario s args R_L R_O 33 y_O_scenario b_O_scenario 5 (some .int) wsT_O_scenario rmT_O_scenario 1 6 3 := gx_cw 3 hts (fun w h => List.mem_cons_of_mem _ h) xw_487 xw_488 xw_489 xw_490 xw_393 rfl rfl (by decide +kernel) ⟨Nat.le_of_ble_eq_true rfl, Nat.le_of_ble_eq_true rfl⟩
  refine lv_aload hx hb d_L_scenario_0 (lv_at hl 4 rfl) ?_
  refine lv_iconst (v := 0) hx hb d_L_scenario_2 (by decide) ?_
  refine lv_aload_n hx hb d_L_scenario_3 rfl (lv_at hl 0 rfl) ?_
  refine lv_iload_n hx hb d_L_scenario_4 rfl (lv_at hl 1 rfl) ?_
  refine lv_iload_n hx hb d_L_scenario_5 rfl (lv_at hl 2 rfl) ?_
  refine lv_iload_n hx hb d_L_scenario_6 rfl (lv_at hl 3 rfl) ?_
  refine fr_throw (wa := []) (w1 := wX cI cT ad M) (wb := [oC oa cL f]) (w2 := wX cI cT ad M0) (As := [.int a1, .int a2, .int a3]) (rest := [.int 0, .ref oa]) S hw hZ [0, 1] rfl (ct_O_scenario hlt hj) w_c xa_O rfl rfl hl.1 rfl (Nat.le_of_ble_eq_true rfl) d_L_scenario_7 (by decide) (by decide) (fun H locs q ce hw hce hcv hcl => ?_)
  rcases hE with ⟨rfl, rfl⟩ | ⟨rfl, rfl⟩ | ⟨rfl, rfl⟩
  · refine gl_catch (hh := hh_L_scenario) (pre := []) (suf := [(0, 12, 19, 13), (0, 12, 23, 21)]) (s0 := 0) (e0 := 12) (hp := 15) (ct := 19) S htab rfl (fun z hz => absurd hz List.not_mem_nil) (by decide) (by decide) (List.mem_cons_of_mem _ xv_2) (List.mem_cons_of_mem _ xv_3) hce hcv hcl ?_
    refine lv_astore (lv' := [(5, .ref q), (0, .ref (ad 0)), (1, .int a1), (2, .int a2), (3, .int a3), (4, .ref oa)]) hx hb d_L_scenario_15 hl (by decide) rfl (fun ls hl => ?_)
    refine lv_iconst (v := 1) hx hb d_L_scenario_17 (by decide) ?_
    exact kret H locs ls _ 1 _ 1 6 rfl rfl (by decide) (by decide) hw d_L_scenario_18
  · refine gl_catch (hh := hh_L_scenario) (pre := [(0, 12, 15, 19)]) (suf := [(0, 12, 23, 21)]) (s0 := 0) (e0 := 12) (hp := 19) (ct := 13) S htab rfl (fun z hz => by
      simp only [List.mem_cons, List.not_mem_nil, or_false] at hz
      subst hz
      exact ⟨by decide, "java/lang/IndexOutOfBoundsException", List.mem_cons_of_mem _ xv_2, hN.1⟩) (by decide) (by decide) (List.mem_cons_of_mem _ xv_0) (List.mem_cons_of_mem _ xv_1) hce hcv hcl ?_
    refine lv_astore (lv' := [(5, .ref q), (0, .ref (ad 0)), (1, .int a1), (2, .int a2), (3, .int a3), (4, .ref oa)]) hx hb d_L_scenario_19 hl (by decide) rfl (fun ls hl => ?_)
    refine lv_iconst (v := 2) hx hb d_L_scenario_21 (by decide) ?_
    exact kret H locs ls _ 2 _ 1 6 rfl rfl (by decide) (by decide) hw d_L_scenario_22
  · refine gl_catch (hh := hh_L_scenario) (pre := [(0, 12, 15, 19), (0, 12, 19, 13)]) (suf := []) (s0 := 0) (e0 := 12) (hp := 23) (ct := 21) S htab rfl (fun z hz => by
      simp only [List.mem_cons, List.not_mem_nil, or_false] at hz
      rcases hz with rfl | rfl
      · exact ⟨by decide, "java/lang/IndexOutOfBoundsException", List.mem_cons_of_mem _ xv_2, hN.2.1⟩
      · exact ⟨by decide, "java/lang/IllegalStateException", List.mem_cons_of_mem _ xv_0, hN.2.2⟩) (by decide) (by decide) (List.mem_cons_of_mem _ xv_4) (List.mem_cons_of_mem _ xv_5) hce hcv hcl ?_
    refine lv_astore (lv' := [(5, .ref q), (0, .ref (ad 0)), (1, .int a1), (2, .int a2), (3, .int a3), (4, .ref oa)]) hx hb d_L_scenario_23 hl (by decide) rfl (fun ls hl => ?_)
    refine lv_iconst (v := 3) hx hb d_L_scenario_25 (by decide) ?_
    exact kret H locs ls _ 3 _ 1 6 rfl rfl (by decide) (by decide) hw d_L_scenario_26
abbrev rm_L_tick : Room := { frames := 7, cells := 1, slots := 6, locals := 133 }
def ws_L_tick : List Cond := Cond.codeWith y_L_tick b_L_tick 4 (some .int) hh_L_tick :: wA
set_option maxHeartbeats 4000000 in
set_option maxRecDepth 100000 in
theorem h_L_tick {l : Launch} {D : va_G} {cI cT cL : ClassId} {ad : Nat → Nat} {oa : Nat} {f : Nat → Int64} {n : Nat} {M : MX} {a1 : Int32} {r0 : Int32} {M0 : MX} (hj : j_O_tick n M a1 = some (Sum.inr (r0, M0))) : gl_C l y_L_tick ws_L_tick rm_L_tick D (tyH cI cT cL) (wX cI cT ad M ++ [oC oa cL f]) [.ref (ad 0), .int a1, .ref oa] 0 (wX cI cT ad M0 ++ [oC oa cL (vp_updL f 0 r0.toInt64)]) := by
  intro sz
  refine gl_met (cc := b_L_tick) (maxL := 4) (hh := hh_L_tick) (by decide) rfl (Nat.le_of_ble_eq_true rfl) ?_
  intro p e s m args below meth c A Q S htab H locs hw hZ hN kret ls hl
  have S : CallFix p m c b_L_tick 4 s args ws_L_tick R_L := S
  have hx := S.1
  have hb := S.2.1
  have hts := S.2.2.2.2
  have hl : lv_has ls 4 [(0, .ref (ad 0)), (1, .int a1), (2, .ref oa)] := hl
  have w_c : CallW rm_L_tick s args R_L R_O 37 y_O_tick b_O_tick 2 (some .int) ws_O_tick rm_O_tick 0 0 1 := cwV 1 hts (wB_callV (fun w h => List.mem_cons_of_mem _ (wA_of h)) xw_491 xw_492 xw_493 xw_494 xw_393) rfl rfl rfl (by decide +kernel) ⟨Nat.le_of_ble_eq_true rfl, Nat.le_of_ble_eq_true rfl⟩
  refine lv_aload_n hx hb d_L_tick_0 rfl (lv_at hl 2 rfl) ?_
  refine lv_iconst (v := 0) hx hb d_L_tick_1 (by decide) ?_
  refine lv_aload_n hx hb d_L_tick_2 rfl (lv_at hl 0 rfl) ?_
  refine lv_iload_n hx hb d_L_tick_3 rfl (lv_at hl 1 rfl) ?_
  refine fr_calli (wa := []) (w1 := wX cI cT ad M) (wb := [oC oa cL f]) (w2 := wX cI cT ad M0) (As := [.int a1]) (rest := [.int 0, .ref oa]) S hw [0, 1] rfl (c_O_tick hj) w_c xa_O rfl rfl hl.1 rfl (Nat.le_of_ble_eq_true rfl) d_L_tick_4 ⟨Nat.zero_le _, Nat.zero_le _⟩ (fun H locs hw => ?_)
  refine lv_i2l hx hb d_L_tick_7 rfl ?_
  refine gl_last (q0 := (wX cI cT ad M0).length + 0) (t0 := 2) (ws := wX cI cT ad M0 ++ [oC oa cL f]) S hw (ap_at 0) rfl (by decide) (ap_set 0 _) d_L_tick_8 (fun H locs hw => ?_)
  refine lv_goto (tgt := 15) hx hb d_L_tick_9 (by decide) ?_
  refine lv_iconst (v := 0) hx hb d_L_tick_15 (by decide) ?_
  exact kret H locs ls _ 0 _ 0 0 rfl rfl (by decide) (by decide) hw d_L_tick_16
set_option maxHeartbeats 4000000 in
set_option maxRecDepth 100000 in
theorem ht_L_tick {l : Launch} {D : va_G} {cI cT cL : ClassId} {ad : Nat → Nat} {oa : Nat} {f : Nat → Int64} {n : Nat} {M : MX} {a1 : Int32} {E0 : String} {k0 : Int32} {M0 : MX} (hlt : l.stackTraces = false) (hj : j_O_tick n M a1 = some (Sum.inl (E0, M0))) (hE : (E0 = "java/lang/IllegalArgumentException" ∧ k0 = 1)) : gl_C l y_L_tick ws_L_tick rm_L_tick D (tyH cI cT cL) (wX cI cT ad M ++ [oC oa cL f]) [.ref (ad 0), .int a1, .ref oa] k0 (wX cI cT ad M0 ++ [oC oa cL f]) := by
  intro sz
  refine gl_met (cc := b_L_tick) (maxL := 4) (hh := hh_L_tick) (by decide) rfl (Nat.le_of_ble_eq_true rfl) ?_
  intro p e s m args below meth c A Q S htab H locs hw hZ hN kret ls hl
  have S : CallFix p m c b_L_tick 4 s args ws_L_tick R_L := S
  have hx := S.1
  have hb := S.2.1
  have hts := S.2.2.2.2
  have hl : lv_has ls 4 [(0, .ref (ad 0)), (1, .int a1), (2, .ref oa)] := hl
  have w_c : CallW rm_L_tick s args R_L R_O 37 y_O_tick b_O_tick 2 (some .int) wsT_O_tick rmT_O_tick 1 6 1 := gx_cw 1 hts (fun w h => List.mem_cons_of_mem _ h) xw_491 xw_492 xw_493 xw_494 xw_393 rfl rfl (by decide +kernel) ⟨Nat.le_of_ble_eq_true rfl, Nat.le_of_ble_eq_true rfl⟩
  refine lv_aload_n hx hb d_L_tick_0 rfl (lv_at hl 2 rfl) ?_
  refine lv_iconst (v := 0) hx hb d_L_tick_1 (by decide) ?_
  refine lv_aload_n hx hb d_L_tick_2 rfl (lv_at hl 0 rfl) ?_
  refine lv_iload_n hx hb d_L_tick_3 rfl (lv_at hl 1 rfl) ?_
  refine fr_throw (wa := []) (w1 := wX cI cT ad M) (wb := [oC oa cL f]) (w2 := wX cI cT ad M0) (As := [.int a1]) (rest := [.int 0, .ref oa]) S hw hZ [0, 1] rfl (ct_O_tick hlt hj) w_c xa_O rfl rfl hl.1 rfl (Nat.le_of_ble_eq_true rfl) d_L_tick_4 (by decide) (by decide) (fun H locs q ce hw hce hcv hcl => ?_)
  obtain ⟨rfl, rfl⟩ := hE
  refine gl_catch (hh := hh_L_tick) (pre := []) (suf := []) (s0 := 0) (e0 := 9) (hp := 12) (ct := 40) S htab rfl (fun z hz => absurd hz List.not_mem_nil) (by decide) (by decide) (List.mem_cons_of_mem _ xv_6) (List.mem_cons_of_mem _ xv_7) hce hcv hcl ?_
  refine lv_astore_n (lv' := [(3, .ref q), (0, .ref (ad 0)), (1, .int a1), (2, .ref oa)]) hx hb d_L_tick_12 rfl hl (by decide) rfl (fun ls hl => ?_)
  refine lv_iconst (v := 1) hx hb d_L_tick_13 (by decide) ?_
  exact kret H locs ls _ 1 _ 1 6 rfl rfl (by decide) (by decide) hw d_L_tick_14
