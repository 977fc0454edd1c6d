abbrev rm_A_stretchTasks : Room := { frames := 5, cells := 0, slots := 0, locals := 126 }
def ws_A_stretchTasks : List Cond := Cond.code y_A_stretchTasks b_A_stretchTasks 5 (some .int) :: wB
set_option maxHeartbeats 4000000 in
set_option maxRecDepth 100000 in
theorem c_A_stretchTasks {l : Launch} {D : va_G} {cI cT : ClassId} {ad : Nat → Nat} {n : Nat} {M : MX} {r0 : Int32} {M0 : MX} (hj : j_A_stretchTasks n M = some (r0, M0)) : gw_Ci l y_A_stretchTasks ws_A_stretchTasks rm_A_stretchTasks D (tyX cI cT) (wX cI cT ad M) [.ref (ad 4)] r0 (wX cI cT ad M0) := by
  intro sz
  refine gw_meti (cc := b_A_stretchTasks) (maxL := 5) (by decide) rfl (Nat.le_of_ble_eq_true rfl) ?_
  intro p e s m args below meth c A Q S H locs hw hend ls hl
  have S : CallFix p m c b_A_stretchTasks 5 s args ws_A_stretchTasks R_A := S
  have hx := S.1
  have hb := S.2.1
  have hts := S.2.2.2.2
  have hl : lv_has ls 5 [(0, .ref (ad 4))] := hl
  have n_T_A : ∀ w ∈ u_ws R_A T_A 3, w ∈ ws_A_stretchTasks := fun w h => List.mem_cons_of_mem _ (uT_A w h)
  have n_T_S : ∀ w ∈ u_ws R_S T_S 3, w ∈ ws_A_stretchTasks := fun w h => List.mem_cons_of_mem _ (uT_S w h)
  have n_T_T : ∀ w ∈ u_ws R_T T_T 13, w ∈ ws_A_stretchTasks := fun w h => List.mem_cons_of_mem _ (uT_T w h)
  have f_9 : Cond.fieldLink R_A 9 (T_A 0).1 (T_A 0).2.1 (T_A 0).2.2.1 ∈ ws_A_stretchTasks := List.mem_cons_of_mem _ xw_115
  have f_43 : Cond.fieldLink R_A 43 (T_S 2).1 (T_S 2).2.1 (T_S 2).2.2.1 ∈ ws_A_stretchTasks := List.mem_cons_of_mem _ xw_153
  have f_46 : Cond.fieldLink R_A 46 (T_S 1).1 (T_S 1).2.1 (T_S 1).2.2.1 ∈ ws_A_stretchTasks := List.mem_cons_of_mem _ xw_116
  have f_82 : Cond.fieldLink R_A 82 (T_T 7).1 (T_T 7).2.1 (T_T 7).2.2.1 ∈ ws_A_stretchTasks := List.mem_cons_of_mem _ xw_117
  have k_81 := hts _ (List.mem_cons_of_mem _ xw_135)
  have m_85 := hts _ (List.mem_cons_of_mem _ xw_170)
  have ms_min := hts _ (List.mem_cons_of_mem _ xw_171)
  have mc_min := hts _ (List.mem_cons_of_mem _ xw_172)
  have mi_ := hts _ (List.mem_cons_of_mem _ xw_90)
  have w_78 : CallW rm_A_stretchTasks s args R_A R_A 78 y_A_greatestBorne b_A_greatestBorne 6 (some .int) ws_A_greatestBorne rm_A_greatestBorne 0 0 1 := cwV 1 hts (wB_callV (fun w h => List.mem_cons_of_mem _ h) xw_166 xw_167 xw_168 xw_169 xw_127) rfl rfl rfl (by decide +kernel) ⟨Nat.le_of_ble_eq_true rfl, Nat.le_of_ble_eq_true rfl⟩
  have w_91 : CallW rm_A_stretchTasks s args R_A R_T 91 y_T_growLast b_T_growLast 5 (some .int) ws_T_growLast rm_T_growLast 0 0 1 := cwV 1 hts (wB_callV (fun w h => List.mem_cons_of_mem _ h) xw_173 xw_174 xw_175 xw_176 xw_21) rfl rfl rfl (by decide +kernel) ⟨Nat.le_of_ble_eq_true rfl, Nat.le_of_ble_eq_true rfl⟩
  have w_95 : CallW rm_A_stretchTasks s args R_A R_S 95 y_S_forgetFindings b_S_forgetFindings 2 none ws_S_forgetFindings rm_S_forgetFindings 0 0 0 := cwV 0 hts (wB_callV (fun w h => List.mem_cons_of_mem _ h) xw_38 xw_177 xw_40 xw_41 xw_14) rfl rfl rfl (by decide +kernel) ⟨Nat.le_of_ble_eq_true rfl, Nat.le_of_ble_eq_true rfl⟩
  have L7 : ∀ (f7 : Nat) (v1_7 : Int32) (v2_7 : Int32) (v3_7 : Int32) (M7 : MX), j_A_stretchTasks_L7 n f7 v1_7 v2_7 v3_7 M7 = some (r0, M0) → ∀ (H : Heap) (locs : List Loc), gw_W D (tyX cI cT) A (wX cI cT ad M7) s H locs → ∀ ls : Array Slot, lv_has ls 5 [(0, .ref (ad 4)), (1, .int v1_7), (2, .int v2_7), (3, .int v3_7)] → W p l e rm_A_stretchTasks s m args below meth c H locs 0 0 Q (F0 m 7 ls []) := by
    intro f7
    induction f7 with
    | zero =>
      intro v1_7 v2_7 v3_7 M7 hj
      exact nomatch (show (none : Option (Int32 × MX)) = some (r0, M0) from hj)
    | succ f7 ih7 =>
      intro v1_7 v2_7 v3_7 M7 hj H locs hw ls hl
      rw [j_A_stretchTasks_L7] at hj
      refine lv_iload_n hx hb d_A_stretchTasks_7 rfl (lv_at hl 3 rfl) ?_
      refine lv_aload_n hx hb d_A_stretchTasks_8 rfl (lv_at hl 0 rfl) ?_
      refine gw_get (v := .ref (ad 1)) S hw xa_A rfl (by decide) n_T_A f_9 rfl d_A_stretchTasks_9 ?_
      refine gw_get (v := .int (M7.2.1 0 2)) S hw xa_S rfl (by decide) n_T_S f_43 rfl d_A_stretchTasks_12 ?_
      refine lv_icmp_ge (tgt := 65) hx hb d_A_stretchTasks_15 (by decide) (fun c_1 => ?_) (fun c_1 => ?_)
      · rw [if_pos c_1] at hj
        refine lv_aload_n hx hb d_A_stretchTasks_65 rfl (lv_at hl 0 rfl) ?_
        refine gw_get (v := .ref (ad 1)) S hw xa_A rfl (by decide) n_T_A f_9 rfl d_A_stretchTasks_66 ?_
        obtain ⟨M_3, e_2, hj⟩ := Option.bind_eq_some_iff.mp hj
        refine gw_callv (As := []) (rest := []) S hw (c_S_forgetFindings e_2) w_95 xa_S rfl rfl hl.1 rfl (Nat.le_of_ble_eq_true rfl) d_A_stretchTasks_69 (fun H locs hw => ?_)
        refine lv_iload_n hx hb d_A_stretchTasks_72 rfl (lv_at hl 1 rfl) ?_
        exact hend H locs ls 73 _ _ (Prod.mk.inj (Option.some.inj hj)).1 (congrArg (wX cI cT ad) (Prod.mk.inj (Option.some.inj hj)).2) hw d_A_stretchTasks_73
      · rw [if_neg c_1] at hj
        refine lv_aload_n hx hb d_A_stretchTasks_18 rfl (lv_at hl 0 rfl) ?_
        refine gw_get (v := .ref (ad 1)) S hw xa_A rfl (by decide) n_T_A f_9 rfl d_A_stretchTasks_19 ?_
        refine gw_get (v := .ref (ad 3)) S hw xa_S rfl (by decide) n_T_S f_46 rfl d_A_stretchTasks_22 ?_
        refine lv_iload_n hx hb d_A_stretchTasks_25 rfl (lv_at hl 3 rfl) ?_
        obtain ⟨g_4, hj⟩ := gw_if hj
        refine gw_aldq (t0 := 1) S hw ⟨xa_rk, rfl⟩ g_4 d_A_stretchTasks_26 ?_
        refine lv_astore (lv' := [(4, .ref (ad (6 + (M7.2.2.1 v3_7.toNatClampNeg).val))), (0, .ref (ad 4)), (1, .int v1_7), (2, .int v2_7), (3, .int v3_7)]) hx hb d_A_stretchTasks_27 hl (by decide) rfl (fun ls hl => ?_)
        refine lv_iload_n hx hb d_A_stretchTasks_29 rfl (lv_at hl 2 rfl) ?_
        refine lv_aload hx hb d_A_stretchTasks_30 (lv_at hl 0 rfl) ?_
        refine lv_aload hx hb d_A_stretchTasks_32 (lv_at hl 0 rfl) ?_
        refine gw_get (v := .int (M7.1 0 (M7.2.2.1 v3_7.toNatClampNeg) 7)) S hw (xa_T (M7.2.2.1 v3_7.toNatClampNeg)) rfl (by decide) n_T_T f_82 rfl d_A_stretchTasks_34 ?_
        refine lv_iload_n hx hb d_A_stretchTasks_37 rfl (lv_at hl 3 rfl) ?_
        refine va_mmin hx hb (S.2.2.1.trans hl.1.symm) S.2.2.2.1 m_85 ms_min mi_ mc_min (by decide) (Nat.le_of_ble_eq_true rfl) (Nat.zero_le _) (Nat.zero_le _) d_A_stretchTasks_38 ?_
        obtain ⟨q_6, e_5, hj⟩ := Option.bind_eq_some_iff.mp hj
        refine gw_calli (As := [.int (if v2_7 < (M7.1 0 (M7.2.2.1 v3_7.toNatClampNeg) 7) then v2_7 else (M7.1 0 (M7.2.2.1 v3_7.toNatClampNeg) 7))]) (rest := [.int v1_7]) S hw (c_T_growLast e_5) w_91 (xa_T (M7.2.2.1 v3_7.toNatClampNeg)) rfl rfl hl.1 rfl (Nat.le_of_ble_eq_true rfl) d_A_stretchTasks_41 (fun H locs hw => ?_)
        refine lv_iadd hx hb d_A_stretchTasks_44 ?_
        refine lv_istore_n (lv' := [(1, .int (v1_7 + q_6.1)), (4, .ref (ad (6 + (M7.2.2.1 v3_7.toNatClampNeg).val))), (0, .ref (ad 4)), (2, .int v2_7), (3, .int v3_7)]) hx hb d_A_stretchTasks_45 rfl hl (by decide) rfl (fun ls hl => ?_)
        refine lv_iload_n hx hb d_A_stretchTasks_46 rfl (lv_at hl 3 rfl) ?_
        refine lv_aload_n hx hb d_A_stretchTasks_47 rfl (lv_at hl 2 rfl) ?_
        refine lv_aload hx hb d_A_stretchTasks_48 (lv_at hl 1 rfl) ?_
        obtain ⟨q_8, e_7, hj⟩ := Option.bind_eq_some_iff.mp hj
        refine gw_calli (As := [.ref (ad (6 + (M7.2.2.1 v3_7.toNatClampNeg).val))]) (rest := [.int v2_7]) S hw (c_A_greatestBorne e_7) w_78 xa_A rfl rfl hl.1 rfl (Nat.le_of_ble_eq_true rfl) d_A_stretchTasks_50 (fun H locs hw => ?_)
        refine lv_iconst (v := 1) hx hb d_A_stretchTasks_53 (by decide) ?_
        refine lv_iadd hx hb d_A_stretchTasks_54 ?_
        refine va_mmin hx hb (S.2.2.1.trans hl.1.symm) S.2.2.2.1 m_85 ms_min mi_ mc_min (by decide) (Nat.le_of_ble_eq_true rfl) (Nat.zero_le _) (Nat.zero_le _) d_A_stretchTasks_55 ?_
        refine lv_istore_n (lv' := [(2, .int (if (q_8.1 + 1) < v2_7 then (q_8.1 + 1) else v2_7)), (1, .int (v1_7 + q_6.1)), (4, .ref (ad (6 + (M7.2.2.1 v3_7.toNatClampNeg).val))), (0, .ref (ad 4)), (3, .int v3_7)]) hx hb d_A_stretchTasks_58 rfl hl (by decide) rfl (fun ls hl => ?_)
        refine lv_iinc (v := (v3_7 + 1)) (lv' := [(3, .int (v3_7 + 1)), (2, .int (if (q_8.1 + 1) < v2_7 then (q_8.1 + 1) else v2_7)), (1, .int (v1_7 + q_6.1)), (4, .ref (ad (6 + (M7.2.2.1 v3_7.toNatClampNeg).val))), (0, .ref (ad 4))]) hx hb d_A_stretchTasks_59 hl (k := 4) rfl rfl (by decide) rfl (fun ls hl => ?_)
        refine lv_goto (tgt := 7) hx hb d_A_stretchTasks_62 (by decide) ?_
        exact ih7 (v1_7 + q_6.1) (if (q_8.1 + 1) < v2_7 then (q_8.1 + 1) else v2_7) (v3_7 + 1) q_8.2 hj H locs hw ls (lv_sub hl [4, 2, 1, 0] rfl)
  unfold j_A_stretchTasks at hj
  refine lv_iconst (v := 0) hx hb d_A_stretchTasks_0 (by decide) ?_
  refine lv_istore_n (lv' := [(1, .int 0), (0, .ref (ad 4))]) hx hb d_A_stretchTasks_1 rfl hl (by decide) rfl (fun ls hl => ?_)
  refine lv_ldc (v := 1000000000) hx hb S.2.2.2.1 k_81 d_A_stretchTasks_2 ?_
  refine lv_istore_n (lv' := [(2, .int 1000000000), (1, .int 0), (0, .ref (ad 4))]) hx hb d_A_stretchTasks_4 rfl hl (by decide) rfl (fun ls hl => ?_)
  refine lv_iconst (v := 0) hx hb d_A_stretchTasks_5 (by decide) ?_
  refine lv_istore_n (lv' := [(3, .int 0), (2, .int 1000000000), (1, .int 0), (0, .ref (ad 4))]) hx hb d_A_stretchTasks_6 rfl hl (by decide) rfl (fun ls hl => ?_)
  exact L7 n 0 1000000000 0 M hj H locs hw ls (lv_sub hl [3, 2, 1, 0] rfl)
abbrev rm_A_highestBelowWith : Room := { frames := 2, cells := 0, slots := 0, locals := 43 }
def ws_A_highestBelowWith : List Cond := Cond.code y_A_highestBelowWith b_A_highestBelowWith 4 (some (.object "SegmentKernel$Task")) :: wB
set_option maxHeartbeats 4000000 in
set_option maxRecDepth 100000 in
theorem c_A_highestBelowWith {l : Launch} {D : va_G} {cI cT : ClassId} {ad : Nat → Nat} {n : Nat} {M : MX} {x1 : Fin 8} {a2 : Int32} {r0 : Fin 8} (hj : j_A_highestBelowWith n M x1 a2 = some r0) : gw_Cq l y_A_highestBelowWith ws_A_highestBelowWith rm_A_highestBelowWith D (tyX cI cT) (wX cI cT ad M) [.ref (ad 4), .ref (ad (6 + x1.val)), .int a2] (gw_oa ad (some r0)) (wX cI cT ad M) := by
  intro sz
  refine gw_metq (cc := b_A_highestBelowWith) (maxL := 4) (by decide) rfl (Nat.le_of_ble_eq_true rfl) ?_
  intro p e s m args below meth c A Q S H locs hw hend ls hl
  have S : CallFix p m c b_A_highestBelowWith 4 s args ws_A_highestBelowWith R_A := S
  have hx := S.1
  have hb := S.2.1
  have hts := S.2.2.2.2
  have hl : lv_has ls 4 [(0, .ref (ad 4)), (1, .ref (ad (6 + x1.val))), (2, .int a2)] := hl
  have n_T_A : ∀ w ∈ u_ws R_A T_A 3, w ∈ ws_A_highestBelowWith := fun w h => List.mem_cons_of_mem _ (uT_A w h)
  have n_T_S : ∀ w ∈ u_ws R_S T_S 3, w ∈ ws_A_highestBelowWith := fun w h => List.mem_cons_of_mem _ (uT_S w h)
  have n_T_T : ∀ w ∈ u_ws R_T T_T 13, w ∈ ws_A_highestBelowWith := fun w h => List.mem_cons_of_mem _ (uT_T w h)
  have f_9 : Cond.fieldLink R_A 9 (T_A 0).1 (T_A 0).2.1 (T_A 0).2.2.1 ∈ ws_A_highestBelowWith := List.mem_cons_of_mem _ xw_115
  have f_43 : Cond.fieldLink R_A 43 (T_S 2).1 (T_S 2).2.1 (T_S 2).2.2.1 ∈ ws_A_highestBelowWith := List.mem_cons_of_mem _ xw_153
  have f_46 : Cond.fieldLink R_A 46 (T_S 1).1 (T_S 1).2.1 (T_S 1).2.2.1 ∈ ws_A_highestBelowWith := List.mem_cons_of_mem _ xw_116
  have f_118 : Cond.fieldLink R_A 118 (T_T 8).1 (T_T 8).2.1 (T_T 8).2.2.1 ∈ ws_A_highestBelowWith := List.mem_cons_of_mem _ xw_118
  have w_121 : CallW rm_A_highestBelowWith s args R_A R_T 121 y_T_longestSegment b_T_longestSegment 3 (some .int) ws_T_longestSegment rm_T_longestSegment 0 0 0 := cwV 0 hts (wB_callV (fun w h => List.mem_cons_of_mem _ h) xw_92 xw_178 xw_94 xw_95 xw_21) rfl rfl rfl (by decide +kernel) ⟨Nat.le_of_ble_eq_true rfl, Nat.le_of_ble_eq_true rfl⟩
  have L7 : ∀ (f7 : Nat) (v3_7 : Int32), j_A_highestBelowWith_L7 n M x1 a2 f7 v3_7 = some r0 → ∀ (H : Heap) (locs : List Loc), gw_W D (tyX cI cT) A (wX cI cT ad M) s H locs → ∀ ls : Array Slot, lv_has ls 4 [(0, .ref (ad 4)), (1, .ref (ad (6 + x1.val))), (2, .int a2), (3, .int v3_7)] → W p l e rm_A_highestBelowWith s m args below meth c H locs 0 0 Q (F0 m 7 ls []) := by
    intro f7
    induction f7 with
    | zero =>
      intro v3_7 hj
      exact nomatch (show (none : Option (Fin 8)) = some r0 from hj)
    | succ f7 ih7 =>
      intro v3_7 hj H locs hw ls hl
      rw [j_A_highestBelowWith_L7] at hj
      refine lv_iload_n hx hb d_A_highestBelowWith_7 rfl (lv_at hl 3 rfl) ?_
      refine lv_aload_n hx hb d_A_highestBelowWith_8 rfl (lv_at hl 0 rfl) ?_
      refine gw_get (v := .ref (ad 1)) S hw xa_A rfl (by decide) n_T_A f_9 rfl d_A_highestBelowWith_9 ?_
      refine gw_get (v := .int (M.2.1 0 2)) S hw xa_S rfl (by decide) n_T_S f_43 rfl d_A_highestBelowWith_12 ?_
      refine lv_icmp_ge (tgt := 50) hx hb d_A_highestBelowWith_15 (by decide) (fun c_1 => ?_) (fun c_1 => ?_)
      · rw [if_pos c_1] at hj
        refine lv_aload_n hx hb d_A_highestBelowWith_50 rfl (lv_at hl 1 rfl) ?_
        exact hend H locs ls 51 _ _ (congrArg (fun z => gw_oa ad (some z)) (Option.some.inj hj)) rfl hw d_A_highestBelowWith_51
      · rw [if_neg c_1] at hj
        refine lv_aload_n hx hb d_A_highestBelowWith_18 rfl (lv_at hl 0 rfl) ?_
        refine gw_get (v := .ref (ad 1)) S hw xa_A rfl (by decide) n_T_A f_9 rfl d_A_highestBelowWith_19 ?_
        refine gw_get (v := .ref (ad 3)) S hw xa_S rfl (by decide) n_T_S f_46 rfl d_A_highestBelowWith_22 ?_
        refine lv_iload_n hx hb d_A_highestBelowWith_25 rfl (lv_at hl 3 rfl) ?_
        obtain ⟨g_2, hj⟩ := gw_if hj
        refine gw_aldq (t0 := 1) S hw ⟨xa_rk, rfl⟩ g_2 d_A_highestBelowWith_26 ?_
        obtain ⟨r_4, e_3, hj⟩ := Option.bind_eq_some_iff.mp hj
        refine gw_calli (As := []) (rest := []) S hw (c_T_longestSegment e_3) w_121 (xa_T (M.2.2.1 v3_7.toNatClampNeg)) rfl rfl hl.1 rfl (Nat.le_of_ble_eq_true rfl) d_A_highestBelowWith_27 (fun H locs hw => ?_)
        refine lv_iload_n hx hb d_A_highestBelowWith_30 rfl (lv_at hl 2 rfl) ?_
        refine lv_icmp_ne (tgt := 44) hx hb d_A_highestBelowWith_31 (by decide) (fun c_5 => ?_) (fun c_5 => ?_)
        · rw [if_neg c_5] at hj
          refine lv_iinc (v := (v3_7 + 1)) (lv' := [(3, .int (v3_7 + 1)), (0, .ref (ad 4)), (1, .ref (ad (6 + x1.val))), (2, .int a2)]) hx hb d_A_highestBelowWith_44 hl (k := 3) rfl rfl (by decide) rfl (fun ls hl => ?_)
          refine lv_goto (tgt := 7) hx hb d_A_highestBelowWith_47 (by decide) ?_
          exact ih7 (v3_7 + 1) hj H locs hw ls (lv_sub hl [1, 2, 3, 0] rfl)
        · rw [if_pos c_5] at hj
          refine lv_aload_n hx hb d_A_highestBelowWith_34 rfl (lv_at hl 0 rfl) ?_
          refine gw_get (v := .ref (ad 1)) S hw xa_A rfl (by decide) n_T_A f_9 rfl d_A_highestBelowWith_35 ?_
          refine gw_get (v := .ref (ad 3)) S hw xa_S rfl (by decide) n_T_S f_46 rfl d_A_highestBelowWith_38 ?_
          refine lv_iload_n hx hb d_A_highestBelowWith_41 rfl (lv_at hl 3 rfl) ?_
          obtain ⟨g_6, hj⟩ := gw_if hj
          refine gw_aldq (t0 := 1) S hw ⟨xa_rk, rfl⟩ g_6 d_A_highestBelowWith_42 ?_
          exact hend H locs ls 43 _ _ (congrArg (fun z => gw_oa ad (some z)) (Option.some.inj hj)) rfl hw d_A_highestBelowWith_43
  unfold j_A_highestBelowWith at hj
  refine lv_aload_n hx hb d_A_highestBelowWith_0 rfl (lv_at hl 1 rfl) ?_
  refine gw_get (v := .int (M.1 0 x1 8)) S hw (xa_T x1) rfl (by decide) n_T_T f_118 rfl d_A_highestBelowWith_1 ?_
  refine lv_iconst (v := 1) hx hb d_A_highestBelowWith_4 (by decide) ?_
  refine lv_iadd hx hb d_A_highestBelowWith_5 ?_
  refine lv_istore_n (lv' := [(3, .int ((M.1 0 x1 8) + 1)), (0, .ref (ad 4)), (1, .ref (ad (6 + x1.val))), (2, .int a2)]) hx hb d_A_highestBelowWith_6 rfl hl (by decide) rfl (fun ls hl => ?_)
  exact L7 n ((M.1 0 x1 8) + 1) hj H locs hw ls (lv_sub hl [1, 2, 3, 0] rfl)
abbrev rm_T_workAheadOf : Room := { frames := 0, cells := 0, slots := 0, locals := 0 }
def ws_T_workAheadOf : List Cond := Cond.code y_T_workAheadOf b_T_workAheadOf 4 (some .int) :: wB
set_option maxHeartbeats 4000000 in
set_option maxRecDepth 100000 in
theorem c_T_workAheadOf {l : Launch} {D : va_G} {cI cT : ClassId} {ad : Nat → Nat} {n : Nat} {M : MX} {x0 : Fin 8} {a1 : Int32} {r0 : Int32} (hj : j_T_workAheadOf n M x0 a1 = some r0) : gw_Ci l y_T_workAheadOf ws_T_workAheadOf rm_T_workAheadOf D (tyX cI cT) (wX cI cT ad M) [.ref (ad (6 + x0.val)), .int a1] r0 (wX cI cT ad M) := by
  intro sz
  refine gw_meti (cc := b_T_workAheadOf) (maxL := 4) (by decide) rfl (Nat.le_of_ble_eq_true rfl) ?_
  intro p e s m args below meth c A Q S H locs hw hend ls hl
  have S : CallFix p m c b_T_workAheadOf 4 s args ws_T_workAheadOf R_T := S
  have hx := S.1
  have hb := S.2.1
  have hts := S.2.2.2.2
  have hl : lv_has ls 4 [(0, .ref (ad (6 + x0.val))), (1, .int a1)] := hl
  have n_T_T : ∀ w ∈ u_ws R_T T_T 13, w ∈ ws_T_workAheadOf := fun w h => List.mem_cons_of_mem _ (uT_T w h)
  have f_18 : Cond.fieldLink R_T 18 (T_T 2).1 (T_T 2).2.1 (T_T 2).2.2.1 ∈ ws_T_workAheadOf := List.mem_cons_of_mem _ xw_49
  have f_44 : Cond.fieldLink R_T 44 (T_T 6).1 (T_T 6).2.1 (T_T 6).2.2.1 ∈ ws_T_workAheadOf := List.mem_cons_of_mem _ xw_8
  have L4 : ∀ (f4 : Nat) (v2_4 : Int32) (v3_4 : Int32), j_T_workAheadOf_L4 n M x0 a1 f4 v2_4 v3_4 = some r0 → ∀ (H : Heap) (locs : List Loc), gw_W D (tyX cI cT) A (wX cI cT ad M) s H locs → ∀ ls : Array Slot, lv_has ls 4 [(0, .ref (ad (6 + x0.val))), (1, .int a1), (2, .int v2_4), (3, .int v3_4)] → W p l e rm_T_workAheadOf s m args below meth c H locs 0 0 Q (F0 m 4 ls []) := by
    intro f4
    induction f4 with
    | zero =>
      intro v2_4 v3_4 hj
      exact nomatch (show (none : Option Int32) = some r0 from hj)
    | succ f4 ih4 =>
      intro v2_4 v3_4 hj H locs hw ls hl
      rw [j_T_workAheadOf_L4] at hj
      refine lv_iload_n hx hb d_T_workAheadOf_4 rfl (lv_at hl 3 rfl) ?_
      refine lv_aload_n hx hb d_T_workAheadOf_5 rfl (lv_at hl 0 rfl) ?_
      refine gw_get (v := .int (M.1 0 x0 6)) S hw (xa_T x0) rfl (by decide) n_T_T f_44 rfl d_T_workAheadOf_6 ?_
      refine lv_icmp_ge (tgt := 37) hx hb d_T_workAheadOf_9 (by decide) (fun c_1 => ?_) (fun c_1 => ?_)
      · rw [if_pos c_1] at hj
        refine lv_iload_n hx hb d_T_workAheadOf_37 rfl (lv_at hl 2 rfl) ?_
        exact hend H locs ls 38 _ _ (Option.some.inj hj) rfl hw d_T_workAheadOf_38
      · rw [if_neg c_1] at hj
        refine lv_aload_n hx hb d_T_workAheadOf_12 rfl (lv_at hl 0 rfl) ?_
        refine gw_get (v := .ref (ad (22 + x0.val))) S hw (xa_T x0) rfl (by decide) n_T_T f_18 rfl d_T_workAheadOf_13 ?_
        refine lv_iload_n hx hb d_T_workAheadOf_16 rfl (lv_at hl 3 rfl) ?_
        obtain ⟨g_2, hj⟩ := gw_if hj
        refine gw_iald (t0 := 0) S hw ⟨xa_sg x0, rfl⟩ g_2 d_T_workAheadOf_17 ?_
        refine lv_iload_n hx hb d_T_workAheadOf_18 rfl (lv_at hl 1 rfl) ?_
        refine lv_icmp_eq (tgt := 37) hx hb d_T_workAheadOf_19 (by decide) (fun c_3 => ?_) (fun c_3 => ?_)
        · rw [if_pos c_3] at hj
          refine lv_iload_n hx hb d_T_workAheadOf_37 rfl (lv_at hl 2 rfl) ?_
          exact hend H locs ls 38 _ _ (Option.some.inj hj) rfl hw d_T_workAheadOf_38
        · rw [if_neg c_3] at hj
          refine lv_iload_n hx hb d_T_workAheadOf_22 rfl (lv_at hl 2 rfl) ?_
          refine lv_aload_n hx hb d_T_workAheadOf_23 rfl (lv_at hl 0 rfl) ?_
          refine gw_get (v := .ref (ad (22 + x0.val))) S hw (xa_T x0) rfl (by decide) n_T_T f_18 rfl d_T_workAheadOf_24 ?_
          refine lv_iload_n hx hb d_T_workAheadOf_27 rfl (lv_at hl 3 rfl) ?_
          obtain ⟨g_4, hj⟩ := gw_if hj
          refine gw_iald (t0 := 0) S hw ⟨xa_sg x0, rfl⟩ g_4 d_T_workAheadOf_28 ?_
          refine lv_iadd hx hb d_T_workAheadOf_29 ?_
          refine lv_istore_n (lv' := [(2, .int (v2_4 + (M.1 2 x0 v3_4.toNatClampNeg))), (0, .ref (ad (6 + x0.val))), (1, .int a1), (3, .int v3_4)]) hx hb d_T_workAheadOf_30 rfl hl (by decide) rfl (fun ls hl => ?_)
          refine lv_iinc (v := (v3_4 + 1)) (lv' := [(3, .int (v3_4 + 1)), (2, .int (v2_4 + (M.1 2 x0 v3_4.toNatClampNeg))), (0, .ref (ad (6 + x0.val))), (1, .int a1)]) hx hb d_T_workAheadOf_31 hl (k := 3) rfl rfl (by decide) rfl (fun ls hl => ?_)
          refine lv_goto (tgt := 4) hx hb d_T_workAheadOf_34 (by decide) ?_
          exact ih4 (v2_4 + (M.1 2 x0 v3_4.toNatClampNeg)) (v3_4 + 1) hj H locs hw ls (lv_sub hl [2, 3, 1, 0] rfl)
  unfold j_T_workAheadOf at hj
  refine lv_iconst (v := 0) hx hb d_T_workAheadOf_0 (by decide) ?_
  refine lv_istore_n (lv' := [(2, .int 0), (0, .ref (ad (6 + x0.val))), (1, .int a1)]) hx hb d_T_workAheadOf_1 rfl hl (by decide) rfl (fun ls hl => ?_)
  refine lv_iconst (v := 0) hx hb d_T_workAheadOf_2 (by decide) ?_
  refine lv_istore_n (lv' := [(3, .int 0), (2, .int 0), (0, .ref (ad (6 + x0.val))), (1, .int a1)]) hx hb d_T_workAheadOf_3 rfl hl (by decide) rfl (fun ls hl => ?_)
  exact L4 n 0 0 hj H locs hw ls (lv_sub hl [2, 3, 1, 0] rfl)
abbrev rm_A_ownArrivalsBy : Room := { frames := 1, cells := 0, slots := 0, locals := 21 }
def ws_A_ownArrivalsBy : List Cond := Cond.code y_A_ownArrivalsBy b_A_ownArrivalsBy 3 (some .int) :: wB
set_option maxHeartbeats 4000000 in
set_option maxRecDepth 100000 in
theorem c_A_ownArrivalsBy {l : Launch} {D : va_G} {cI cT : ClassId} {ad : Nat → Nat} {n : Nat} {M : MX} {x1 : Fin 8} {a2 : Int32} {r0 : Int32} (hj : j_A_ownArrivalsBy n M x1 a2 = some r0) : gw_Ci l y_A_ownArrivalsBy ws_A_ownArrivalsBy rm_A_ownArrivalsBy D (tyX cI cT) (wX cI cT ad M) [.ref (ad 4), .ref (ad (6 + x1.val)), .int a2] r0 (wX cI cT ad M) := by
  intro sz
  refine gw_meti (cc := b_A_ownArrivalsBy) (maxL := 3) (by decide) rfl (Nat.le_of_ble_eq_true rfl) ?_
  intro p e s m args below meth c A Q S H locs hw hend ls hl
  have S : CallFix p m c b_A_ownArrivalsBy 3 s args ws_A_ownArrivalsBy R_A := S
  have hx := S.1
  have hb := S.2.1
  have hts := S.2.2.2.2
  have hl : lv_has ls 3 [(0, .ref (ad 4)), (1, .ref (ad (6 + x1.val))), (2, .int a2)] := hl
  have n_T_T : ∀ w ∈ u_ws R_T T_T 13, w ∈ ws_A_ownArrivalsBy := fun w h => List.mem_cons_of_mem _ (uT_T w h)
  have f_34 : Cond.fieldLink R_A 34 (T_T 10).1 (T_T 10).2.1 (T_T 10).2.2.1 ∈ ws_A_ownArrivalsBy := List.mem_cons_of_mem _ xw_145
  have m_85 := hts _ (List.mem_cons_of_mem _ xw_170)
  have ms_min := hts _ (List.mem_cons_of_mem _ xw_171)
  have mc_min := hts _ (List.mem_cons_of_mem _ xw_172)
  have mi_ := hts _ (List.mem_cons_of_mem _ xw_90)
  have w_124 : CallW rm_A_ownArrivalsBy s args R_A R_T 124 y_T_arrivalsBy b_T_arrivalsBy 2 (some .int) ws_T_arrivalsBy rm_T_arrivalsBy 0 0 1 := cwV 1 hts (wB_callV (fun w h => List.mem_cons_of_mem _ h) xw_119 xw_120 xw_121 xw_122 xw_21) rfl rfl rfl (by decide +kernel) ⟨Nat.le_of_ble_eq_true rfl, Nat.le_of_ble_eq_true rfl⟩
  unfold j_A_ownArrivalsBy at hj
  refine lv_aload_n hx hb d_A_ownArrivalsBy_0 rfl (lv_at hl 1 rfl) ?_
  refine gw_get (v := .int (M.1 0 x1 10)) S hw (xa_T x1) rfl (by decide) n_T_T f_34 rfl d_A_ownArrivalsBy_1 ?_
  refine lv_iconst (v := 1) hx hb d_A_ownArrivalsBy_4 (by decide) ?_
  refine lv_iadd hx hb d_A_ownArrivalsBy_5 ?_
  refine lv_aload_n hx hb d_A_ownArrivalsBy_6 rfl (lv_at hl 1 rfl) ?_
  refine lv_iload_n hx hb d_A_ownArrivalsBy_7 rfl (lv_at hl 2 rfl) ?_
  obtain ⟨r_2, e_1, hj⟩ := Option.bind_eq_some_iff.mp hj
  refine gw_calli (As := [.int a2]) (rest := [.int ((M.1 0 x1 10) + 1)]) S hw (c_T_arrivalsBy e_1) w_124 (xa_T x1) rfl rfl hl.1 rfl (Nat.le_of_ble_eq_true rfl) d_A_ownArrivalsBy_8 (fun H locs hw => ?_)
  refine va_mmin hx hb (S.2.2.1.trans hl.1.symm) S.2.2.2.1 m_85 ms_min mi_ mc_min (by decide) (Nat.le_of_ble_eq_true rfl) (Nat.zero_le _) (Nat.zero_le _) d_A_ownArrivalsBy_11 ?_
  exact hend H locs ls 14 _ _ (Option.some.inj hj) rfl hw d_A_ownArrivalsBy_14
abbrev rm_A_scenarioArrivalsBy : Room := { frames := 2, cells := 0, slots := 0, locals := 43 }
def ws_A_scenarioArrivalsBy : List Cond := Cond.code y_A_scenarioArrivalsBy b_A_scenarioArrivalsBy 5 (some .int) :: wB
set_option maxHeartbeats 4000000 in
set_option maxRecDepth 100000 in
theorem c_A_scenarioArrivalsBy {l : Launch} {D : va_G} {cI cT : ClassId} {ad : Nat → Nat} {n : Nat} {M : MX} {x1 : Fin 8} {a2 : Int32} {r0 : Int32} (hj : j_A_scenarioArrivalsBy n M x1 a2 = some r0) : gw_Ci l y_A_scenarioArrivalsBy ws_A_scenarioArrivalsBy rm_A_scenarioArrivalsBy D (tyX cI cT) (wX cI cT ad M) [.ref (ad 4), .ref (ad (6 + x1.val)), .int a2] r0 (wX cI cT ad M) := by
  intro sz
  refine gw_meti (cc := b_A_scenarioArrivalsBy) (maxL := 5) (by decide) rfl (Nat.le_of_ble_eq_true rfl) ?_
  intro p e s m args below meth c A Q S H locs hw hend ls hl
  have S : CallFix p m c b_A_scenarioArrivalsBy 5 s args ws_A_scenarioArrivalsBy R_A := S
  have hx := S.1
  have hb := S.2.1
  have hts := S.2.2.2.2
  have hl : lv_has ls 5 [(0, .ref (ad 4)), (1, .ref (ad (6 + x1.val))), (2, .int a2)] := hl
  have n_T_A : ∀ w ∈ u_ws R_A T_A 3, w ∈ ws_A_scenarioArrivalsBy := fun w h => List.mem_cons_of_mem _ (uT_A w h)
  have n_T_S : ∀ w ∈ u_ws R_S T_S 3, w ∈ ws_A_scenarioArrivalsBy := fun w h => List.mem_cons_of_mem _ (uT_S w h)
  have n_T_T : ∀ w ∈ u_ws R_T T_T 13, w ∈ ws_A_scenarioArrivalsBy := fun w h => List.mem_cons_of_mem _ (uT_T w h)
  have f_9 : Cond.fieldLink R_A 9 (T_A 0).1 (T_A 0).2.1 (T_A 0).2.2.1 ∈ ws_A_scenarioArrivalsBy := List.mem_cons_of_mem _ xw_115
  have f_46 : Cond.fieldLink R_A 46 (T_S 1).1 (T_S 1).2.1 (T_S 1).2.2.1 ∈ ws_A_scenarioArrivalsBy := List.mem_cons_of_mem _ xw_116
  have f_118 : Cond.fieldLink R_A 118 (T_T 8).1 (T_T 8).2.1 (T_T 8).2.2.1 ∈ ws_A_scenarioArrivalsBy := List.mem_cons_of_mem _ xw_118
  have w_124 : CallW rm_A_scenarioArrivalsBy s args R_A R_T 124 y_T_arrivalsBy b_T_arrivalsBy 2 (some .int) ws_T_arrivalsBy rm_T_arrivalsBy 0 0 1 := cwV 1 hts (wB_callV (fun w h => List.mem_cons_of_mem _ h) xw_119 xw_120 xw_121 xw_122 xw_21) rfl rfl rfl (by decide +kernel) ⟨Nat.le_of_ble_eq_true rfl, Nat.le_of_ble_eq_true rfl⟩
  have w_127 : CallW rm_A_scenarioArrivalsBy s args R_A R_A 127 y_A_ownArrivalsBy b_A_ownArrivalsBy 3 (some .int) ws_A_ownArrivalsBy rm_A_ownArrivalsBy 0 0 2 := cwV 2 hts (wB_callV (fun w h => List.mem_cons_of_mem _ h) xw_179 xw_180 xw_181 xw_182 xw_127) rfl rfl rfl (by decide +kernel) ⟨Nat.le_of_ble_eq_true rfl, Nat.le_of_ble_eq_true rfl⟩
  have L10 : ∀ (f10 : Nat) (v3_10 : Int32) (v4_10 : Int32), j_A_scenarioArrivalsBy_L10 n M x1 a2 f10 v3_10 v4_10 = some r0 → ∀ (H : Heap) (locs : List Loc), gw_W D (tyX cI cT) A (wX cI cT ad M) s H locs → ∀ ls : Array Slot, lv_has ls 5 [(0, .ref (ad 4)), (1, .ref (ad (6 + x1.val))), (2, .int a2), (3, .int v3_10), (4, .int v4_10)] → W p l e rm_A_scenarioArrivalsBy s m args below meth c H locs 0 0 Q (F0 m 10 ls []) := by
    intro f10
    induction f10 with
    | zero =>
      intro v3_10 v4_10 hj
      exact nomatch (show (none : Option Int32) = some r0 from hj)
    | succ f10 ih10 =>
      intro v3_10 v4_10 hj H locs hw ls hl
      rw [j_A_scenarioArrivalsBy_L10] at hj
      refine lv_iload hx hb d_A_scenarioArrivalsBy_10 (lv_at hl 4 rfl) ?_
      refine lv_aload_n hx hb d_A_scenarioArrivalsBy_12 rfl (lv_at hl 1 rfl) ?_
      refine gw_get (v := .int (M.1 0 x1 8)) S hw (xa_T x1) rfl (by decide) n_T_T f_118 rfl d_A_scenarioArrivalsBy_13 ?_
      refine lv_icmp_ge (tgt := 42) hx hb d_A_scenarioArrivalsBy_16 (by decide) (fun c_3 => ?_) (fun c_3 => ?_)
      · rw [if_pos c_3] at hj
        refine lv_iload_n hx hb d_A_scenarioArrivalsBy_42 rfl (lv_at hl 3 rfl) ?_
        exact hend H locs ls 43 _ _ (Option.some.inj hj) rfl hw d_A_scenarioArrivalsBy_43
      · rw [if_neg c_3] at hj
        refine lv_iload_n hx hb d_A_scenarioArrivalsBy_19 rfl (lv_at hl 3 rfl) ?_
        refine lv_aload_n hx hb d_A_scenarioArrivalsBy_20 rfl (lv_at hl 0 rfl) ?_
        refine gw_get (v := .ref (ad 1)) S hw xa_A rfl (by decide) n_T_A f_9 rfl d_A_scenarioArrivalsBy_21 ?_
        refine gw_get (v := .ref (ad 3)) S hw xa_S rfl (by decide) n_T_S f_46 rfl d_A_scenarioArrivalsBy_24 ?_
        refine lv_iload hx hb d_A_scenarioArrivalsBy_27 (lv_at hl 4 rfl) ?_
        obtain ⟨g_4, hj⟩ := gw_if hj
        refine gw_aldq (t0 := 1) S hw ⟨xa_rk, rfl⟩ g_4 d_A_scenarioArrivalsBy_29 ?_
        refine lv_iload_n hx hb d_A_scenarioArrivalsBy_30 rfl (lv_at hl 2 rfl) ?_
        obtain ⟨r_6, e_5, hj⟩ := Option.bind_eq_some_iff.mp hj
        refine gw_calli (As := [.int a2]) (rest := [.int v3_10]) S hw (c_T_arrivalsBy e_5) w_124 (xa_T (M.2.2.1 v4_10.toNatClampNeg)) rfl rfl hl.1 rfl (Nat.le_of_ble_eq_true rfl) d_A_scenarioArrivalsBy_31 (fun H locs hw => ?_)
        refine lv_iadd hx hb d_A_scenarioArrivalsBy_34 ?_
        refine lv_istore_n (lv' := [(3, .int (v3_10 + r_6)), (0, .ref (ad 4)), (1, .ref (ad (6 + x1.val))), (2, .int a2), (4, .int v4_10)]) hx hb d_A_scenarioArrivalsBy_35 rfl hl (by decide) rfl (fun ls hl => ?_)
        refine lv_iinc (v := (v4_10 + 1)) (lv' := [(4, .int (v4_10 + 1)), (3, .int (v3_10 + r_6)), (0, .ref (ad 4)), (1, .ref (ad (6 + x1.val))), (2, .int a2)]) hx hb d_A_scenarioArrivalsBy_36 hl (k := 4) rfl rfl (by decide) rfl (fun ls hl => ?_)
        refine lv_goto (tgt := 10) hx hb d_A_scenarioArrivalsBy_39 (by decide) ?_
        exact ih10 (v3_10 + r_6) (v4_10 + 1) hj H locs hw ls (lv_sub hl [2, 3, 4, 1, 0] rfl)
  unfold j_A_scenarioArrivalsBy at hj
  refine lv_aload_n hx hb d_A_scenarioArrivalsBy_0 rfl (lv_at hl 0 rfl) ?_
  refine lv_aload_n hx hb d_A_scenarioArrivalsBy_1 rfl (lv_at hl 1 rfl) ?_
  refine lv_iload_n hx hb d_A_scenarioArrivalsBy_2 rfl (lv_at hl 2 rfl) ?_
  obtain ⟨r_2, e_1, hj⟩ := Option.bind_eq_some_iff.mp hj
  refine gw_calli (As := [.ref (ad (6 + x1.val)), .int a2]) (rest := []) S hw (c_A_ownArrivalsBy e_1) w_127 xa_A rfl rfl hl.1 rfl (Nat.le_of_ble_eq_true rfl) d_A_scenarioArrivalsBy_3 (fun H locs hw => ?_)
  refine lv_istore_n (lv' := [(3, .int r_2), (0, .ref (ad 4)), (1, .ref (ad (6 + x1.val))), (2, .int a2)]) hx hb d_A_scenarioArrivalsBy_6 rfl hl (by decide) rfl (fun ls hl => ?_)
  refine lv_iconst (v := 0) hx hb d_A_scenarioArrivalsBy_7 (by decide) ?_
  refine lv_istore (lv' := [(4, .int 0), (3, .int r_2), (0, .ref (ad 4)), (1, .ref (ad (6 + x1.val))), (2, .int a2)]) hx hb d_A_scenarioArrivalsBy_8 hl (by decide) rfl (fun ls hl => ?_)
  exact L10 n r_2 0 hj H locs hw ls (lv_sub hl [2, 3, 4, 1, 0] rfl)
abbrev rm_A_timeOfArrival : Room := { frames := 3, cells := 0, slots := 0, locals := 67 }
def ws_A_timeOfArrival : List Cond := Cond.code y_A_timeOfArrival b_A_timeOfArrival 8 (some .int) :: wB
set_option maxHeartbeats 4000000 in
set_option maxRecDepth 100000 in
theorem c_A_timeOfArrival {l : Launch} {D : va_G} {cI cT : ClassId} {ad : Nat → Nat} {n : Nat} {M : MX} {x1 : Fin 8} {a2 : Int32} {a3 : Int32} {r0 : Int32} (hj : j_A_timeOfArrival n M x1 a2 a3 = some r0) : gw_Ci l y_A_timeOfArrival ws_A_timeOfArrival rm_A_timeOfArrival D (tyX cI cT) (wX cI cT ad M) [.ref (ad 4), .ref (ad (6 + x1.val)), .int a2, .int a3] r0 (wX cI cT ad M) := by
  intro sz
  refine gw_meti (cc := b_A_timeOfArrival) (maxL := 8) (by decide) rfl (Nat.le_of_ble_eq_true rfl) ?_
  intro p e s m args below meth c A Q S H locs hw hend ls hl
  have S : CallFix p m c b_A_timeOfArrival 8 s args ws_A_timeOfArrival R_A := S
  have hx := S.1
  have hb := S.2.1
  have hts := S.2.2.2.2
  have hl : lv_has ls 8 [(0, .ref (ad 4)), (1, .ref (ad (6 + x1.val))), (2, .int a2), (3, .int a3)] := hl
  have w_108 : CallW rm_A_timeOfArrival s args R_A R_A 108 y_A_scenarioArrivalsBy b_A_scenarioArrivalsBy 5 (some .int) ws_A_scenarioArrivalsBy rm_A_scenarioArrivalsBy 0 0 2 := cwV 2 hts (wB_callV (fun w h => List.mem_cons_of_mem _ h) xw_183 xw_184 xw_185 xw_186 xw_127) rfl rfl rfl (by decide +kernel) ⟨Nat.le_of_ble_eq_true rfl, Nat.le_of_ble_eq_true rfl⟩
  have L11 : ∀ (f11 : Nat) (v4_11 : Int32) (v5_11 : Int32) (v6_11 : Int32), j_A_timeOfArrival_L11 n M x1 a2 a3 f11 v4_11 v5_11 v6_11 = some r0 → ∀ (H : Heap) (locs : List Loc), gw_W D (tyX cI cT) A (wX cI cT ad M) s H locs → ∀ ls : Array Slot, lv_has ls 8 [(0, .ref (ad 4)), (1, .ref (ad (6 + x1.val))), (2, .int a2), (3, .int a3), (4, .int v4_11), (5, .int v5_11), (6, .int v6_11)] → W p l e rm_A_timeOfArrival s m args below meth c H locs 0 0 Q (F0 m 11 ls []) := by
    intro f11
    induction f11 with
    | zero =>
      intro v4_11 v5_11 v6_11 hj
      exact nomatch (show (none : Option Int32) = some r0 from hj)
    | succ f11 ih11 =>
      intro v4_11 v5_11 v6_11 hj H locs hw ls hl
      rw [j_A_timeOfArrival_L11] at hj
      refine lv_iload hx hb d_A_timeOfArrival_11 (lv_at hl 6 rfl) ?_
      refine lv_bipush (v := 64) hx hb d_A_timeOfArrival_13 (by decide) ?_
      refine lv_icmp_ge (tgt := 64) hx hb d_A_timeOfArrival_15 (by decide) (fun c_1 => ?_) (fun c_1 => ?_)
      · rw [if_pos c_1] at hj
        refine lv_iload hx hb d_A_timeOfArrival_64 (lv_at hl 4 rfl) ?_
        exact hend H locs ls 66 _ _ (Option.some.inj hj) rfl hw d_A_timeOfArrival_66
      · rw [if_neg c_1] at hj
        refine lv_iload hx hb d_A_timeOfArrival_18 (lv_at hl 4 rfl) ?_
        refine lv_iload hx hb d_A_timeOfArrival_20 (lv_at hl 5 rfl) ?_
        refine lv_icmp_ge (tgt := 64) hx hb d_A_timeOfArrival_22 (by decide) (fun c_2 => ?_) (fun c_2 => ?_)
        · rw [if_pos c_2] at hj
          refine lv_iload hx hb d_A_timeOfArrival_64 (lv_at hl 4 rfl) ?_
          exact hend H locs ls 66 _ _ (Option.some.inj hj) rfl hw d_A_timeOfArrival_66
        · rw [if_neg c_2] at hj
          refine lv_iload hx hb d_A_timeOfArrival_25 (lv_at hl 4 rfl) ?_
          refine lv_iload hx hb d_A_timeOfArrival_27 (lv_at hl 5 rfl) ?_
          refine lv_iadd hx hb d_A_timeOfArrival_29 ?_
          refine lv_iconst (v := 2) hx hb d_A_timeOfArrival_30 (by decide) ?_
          refine lv_idiv hx hb d_A_timeOfArrival_31 (by decide) ?_
          refine lv_istore (lv' := [(7, .int ((v4_11 + v5_11) / 2)), (0, .ref (ad 4)), (1, .ref (ad (6 + x1.val))), (2, .int a2), (3, .int a3), (4, .int v4_11), (5, .int v5_11), (6, .int v6_11)]) hx hb d_A_timeOfArrival_32 hl (by decide) rfl (fun ls hl => ?_)
          refine lv_aload_n hx hb d_A_timeOfArrival_34 rfl (lv_at hl 1 rfl) ?_
          refine lv_aload_n hx hb d_A_timeOfArrival_35 rfl (lv_at hl 2 rfl) ?_
          refine lv_iload hx hb d_A_timeOfArrival_36 (lv_at hl 0 rfl) ?_
          obtain ⟨r_4, e_3, hj⟩ := Option.bind_eq_some_iff.mp hj
          refine gw_calli (As := [.ref (ad (6 + x1.val)), .int ((v4_11 + v5_11) / 2)]) (rest := []) S hw (c_A_scenarioArrivalsBy e_3) w_108 xa_A rfl rfl hl.1 rfl (Nat.le_of_ble_eq_true rfl) d_A_timeOfArrival_38 (fun H locs hw => ?_)
          refine lv_iload_n hx hb d_A_timeOfArrival_41 rfl (lv_at hl 3 rfl) ?_
          refine lv_icmp_le (tgt := 52) hx hb d_A_timeOfArrival_42 (by decide) (fun c_5 => ?_) (fun c_5 => ?_)
          · rw [if_pos c_5] at hj
            refine lv_iload hx hb d_A_timeOfArrival_52 (lv_at hl 0 rfl) ?_
            refine lv_iconst (v := 1) hx hb d_A_timeOfArrival_54 (by decide) ?_
            refine lv_iadd hx hb d_A_timeOfArrival_55 ?_
            refine lv_istore (lv' := [(4, .int (((v4_11 + v5_11) / 2) + 1)), (7, .int ((v4_11 + v5_11) / 2)), (0, .ref (ad 4)), (1, .ref (ad (6 + x1.val))), (2, .int a2), (3, .int a3), (5, .int v5_11), (6, .int v6_11)]) hx hb d_A_timeOfArrival_56 hl (by decide) rfl (fun ls hl => ?_)
            refine lv_iinc (v := (v6_11 + 1)) (lv' := [(6, .int (v6_11 + 1)), (4, .int (((v4_11 + v5_11) / 2) + 1)), (7, .int ((v4_11 + v5_11) / 2)), (0, .ref (ad 4)), (1, .ref (ad (6 + x1.val))), (2, .int a2), (3, .int a3), (5, .int v5_11)]) hx hb d_A_timeOfArrival_58 hl (k := 7) rfl rfl (by decide) rfl (fun ls hl => ?_)
            refine lv_goto (tgt := 11) hx hb d_A_timeOfArrival_61 (by decide) ?_
            exact ih11 (((v4_11 + v5_11) / 2) + 1) v5_11 (v6_11 + 1) hj H locs hw ls (lv_sub hl [3, 4, 5, 6, 1, 7, 0] rfl)
          · rw [if_neg c_5] at hj
            refine lv_iload hx hb d_A_timeOfArrival_45 (lv_at hl 0 rfl) ?_
            refine lv_istore (lv' := [(5, .int ((v4_11 + v5_11) / 2)), (7, .int ((v4_11 + v5_11) / 2)), (0, .ref (ad 4)), (1, .ref (ad (6 + x1.val))), (2, .int a2), (3, .int a3), (4, .int v4_11), (6, .int v6_11)]) hx hb d_A_timeOfArrival_47 hl (by decide) rfl (fun ls hl => ?_)
            refine lv_goto (tgt := 58) hx hb d_A_timeOfArrival_49 (by decide) ?_
            refine lv_iinc (v := (v6_11 + 1)) (lv' := [(6, .int (v6_11 + 1)), (5, .int ((v4_11 + v5_11) / 2)), (7, .int ((v4_11 + v5_11) / 2)), (0, .ref (ad 4)), (1, .ref (ad (6 + x1.val))), (2, .int a2), (3, .int a3), (4, .int v4_11)]) hx hb d_A_timeOfArrival_58 hl (k := 7) rfl rfl (by decide) rfl (fun ls hl => ?_)
            refine lv_goto (tgt := 11) hx hb d_A_timeOfArrival_61 (by decide) ?_
            exact ih11 v4_11 ((v4_11 + v5_11) / 2) (v6_11 + 1) hj H locs hw ls (lv_sub hl [3, 4, 5, 6, 7, 1, 0] rfl)
  unfold j_A_timeOfArrival at hj
  refine lv_iconst (v := 0) hx hb d_A_timeOfArrival_0 (by decide) ?_
  refine lv_istore (lv' := [(4, .int 0), (0, .ref (ad 4)), (1, .ref (ad (6 + x1.val))), (2, .int a2), (3, .int a3)]) hx hb d_A_timeOfArrival_1 hl (by decide) rfl (fun ls hl => ?_)
  refine lv_iload_n hx hb d_A_timeOfArrival_3 rfl (lv_at hl 4 rfl) ?_
  refine lv_iconst (v := 1) hx hb d_A_timeOfArrival_4 (by decide) ?_
  refine lv_isub hx hb d_A_timeOfArrival_5 ?_
  refine lv_istore (lv' := [(5, .int (a3 - 1)), (4, .int 0), (0, .ref (ad 4)), (1, .ref (ad (6 + x1.val))), (2, .int a2), (3, .int a3)]) hx hb d_A_timeOfArrival_6 hl (by decide) rfl (fun ls hl => ?_)
  refine lv_iconst (v := 0) hx hb d_A_timeOfArrival_8 (by decide) ?_
  refine lv_istore (lv' := [(6, .int 0), (5, .int (a3 - 1)), (4, .int 0), (0, .ref (ad 4)), (1, .ref (ad (6 + x1.val))), (2, .int a2), (3, .int a3)]) hx hb d_A_timeOfArrival_9 hl (by decide) rfl (fun ls hl => ?_)
  exact L11 n 0 (a3 - 1) 0 hj H locs hw ls (lv_sub hl [3, 4, 5, 6, 2, 1, 0] rfl)
abbrev rm_A_taskOfArrival : Room := { frames := 3, cells := 0, slots := 0, locals := 67 }
def ws_A_taskOfArrival : List Cond := Cond.code y_A_taskOfArrival b_A_taskOfArrival 7 (some .int) :: wB
set_option maxHeartbeats 4000000 in
set_option maxRecDepth 100000 in
theorem c_A_taskOfArrival {l : Launch} {D : va_G} {cI cT : ClassId} {ad : Nat → Nat} {n : Nat} {M : MX} {x1 : Fin 8} {a2 : Int32} {a3 : Int32} {r0 : Int32} (hj : j_A_taskOfArrival n M x1 a2 a3 = some r0) : gw_Ci l y_A_taskOfArrival ws_A_taskOfArrival rm_A_taskOfArrival D (tyX cI cT) (wX cI cT ad M) [.ref (ad 4), .ref (ad (6 + x1.val)), .int a2, .int a3] r0 (wX cI cT ad M) := by
  intro sz
  refine gw_meti (cc := b_A_taskOfArrival) (maxL := 7) (by decide) rfl (Nat.le_of_ble_eq_true rfl) ?_
  intro p e s m args below meth c A Q S H locs hw hend ls hl
  have S : CallFix p m c b_A_taskOfArrival 7 s args ws_A_taskOfArrival R_A := S
  have hx := S.1
  have hb := S.2.1
  have hts := S.2.2.2.2
  have hl : lv_has ls 7 [(0, .ref (ad 4)), (1, .ref (ad (6 + x1.val))), (2, .int a2), (3, .int a3)] := hl
  have n_T_A : ∀ w ∈ u_ws R_A T_A 3, w ∈ ws_A_taskOfArrival := fun w h => List.mem_cons_of_mem _ (uT_A w h)
  have n_T_S : ∀ w ∈ u_ws R_S T_S 3, w ∈ ws_A_taskOfArrival := fun w h => List.mem_cons_of_mem _ (uT_S w h)
  have n_T_T : ∀ w ∈ u_ws R_T T_T 13, w ∈ ws_A_taskOfArrival := fun w h => List.mem_cons_of_mem _ (uT_T w h)
  have f_9 : Cond.fieldLink R_A 9 (T_A 0).1 (T_A 0).2.1 (T_A 0).2.2.1 ∈ ws_A_taskOfArrival := List.mem_cons_of_mem _ xw_115
  have f_46 : Cond.fieldLink R_A 46 (T_S 1).1 (T_S 1).2.1 (T_S 1).2.2.1 ∈ ws_A_taskOfArrival := List.mem_cons_of_mem _ xw_116
  have f_58 : Cond.fieldLink R_A 58 (T_T 0).1 (T_T 0).2.1 (T_T 0).2.2.1 ∈ ws_A_taskOfArrival := List.mem_cons_of_mem _ xw_154
  have f_118 : Cond.fieldLink R_A 118 (T_T 8).1 (T_T 8).2.1 (T_T 8).2.2.1 ∈ ws_A_taskOfArrival := List.mem_cons_of_mem _ xw_118
  have w_108 : CallW rm_A_taskOfArrival s args R_A R_A 108 y_A_scenarioArrivalsBy b_A_scenarioArrivalsBy 5 (some .int) ws_A_scenarioArrivalsBy rm_A_scenarioArrivalsBy 0 0 2 := cwV 2 hts (wB_callV (fun w h => List.mem_cons_of_mem _ h) xw_183 xw_184 xw_185 xw_186 xw_127) rfl rfl rfl (by decide +kernel) ⟨Nat.le_of_ble_eq_true rfl, Nat.le_of_ble_eq_true rfl⟩
  have w_124 : CallW rm_A_taskOfArrival s args R_A R_T 124 y_T_arrivalsBy b_T_arrivalsBy 2 (some .int) ws_T_arrivalsBy rm_T_arrivalsBy 0 0 1 := cwV 1 hts (wB_callV (fun w h => List.mem_cons_of_mem _ h) xw_119 xw_120 xw_121 xw_122 xw_21) rfl rfl rfl (by decide +kernel) ⟨Nat.le_of_ble_eq_true rfl, Nat.le_of_ble_eq_true rfl⟩
  have L13 : ∀ (f13 : Nat) (v4_13 : Int32) (v5_13 : Int32), j_A_taskOfArrival_L13 n M x1 a2 a3 f13 v4_13 v5_13 = some r0 → ∀ (H : Heap) (locs : List Loc), gw_W D (tyX cI cT) A (wX cI cT ad M) s H locs → ∀ ls : Array Slot, lv_has ls 7 [(0, .ref (ad 4)), (1, .ref (ad (6 + x1.val))), (2, .int a2), (3, .int a3), (4, .int v4_13), (5, .int v5_13)] → W p l e rm_A_taskOfArrival s m args below meth c H locs 0 0 Q (F0 m 13 ls []) := by
    intro f13
    induction f13 with
    | zero =>
      intro v4_13 v5_13 hj
      exact nomatch (show (none : Option Int32) = some r0 from hj)
    | succ f13 ih13 =>
      intro v4_13 v5_13 hj H locs hw ls hl
      rw [j_A_taskOfArrival_L13] at hj
      refine lv_iload hx hb d_A_taskOfArrival_13 (lv_at hl 5 rfl) ?_
      refine lv_aload_n hx hb d_A_taskOfArrival_15 rfl (lv_at hl 1 rfl) ?_
      refine gw_get (v := .int (M.1 0 x1 8)) S hw (xa_T x1) rfl (by decide) n_T_T f_118 rfl d_A_taskOfArrival_16 ?_
      refine lv_icmp_ge (tgt := 72) hx hb d_A_taskOfArrival_19 (by decide) (fun c_3 => ?_) (fun c_3 => ?_)
      · rw [if_pos c_3] at hj
        refine lv_aload_n hx hb d_A_taskOfArrival_72 rfl (lv_at hl 1 rfl) ?_
        refine gw_get (v := .int (M.1 0 x1 0)) S hw (xa_T x1) rfl (by decide) n_T_T f_58 rfl d_A_taskOfArrival_73 ?_
        exact hend H locs ls 76 _ _ (Option.some.inj hj) rfl hw d_A_taskOfArrival_76
      · rw [if_neg c_3] at hj
        refine lv_aload_n hx hb d_A_taskOfArrival_22 rfl (lv_at hl 0 rfl) ?_
        refine gw_get (v := .ref (ad 1)) S hw xa_A rfl (by decide) n_T_A f_9 rfl d_A_taskOfArrival_23 ?_
        refine gw_get (v := .ref (ad 3)) S hw xa_S rfl (by decide) n_T_S f_46 rfl d_A_taskOfArrival_26 ?_
        refine lv_iload hx hb d_A_taskOfArrival_29 (lv_at hl 5 rfl) ?_
        obtain ⟨g_4, hj⟩ := gw_if hj
        refine gw_aldq (t0 := 1) S hw ⟨xa_rk, rfl⟩ g_4 d_A_taskOfArrival_31 ?_
        refine lv_astore (lv' := [(6, .ref (ad (6 + (M.2.2.1 v5_13.toNatClampNeg).val))), (0, .ref (ad 4)), (1, .ref (ad (6 + x1.val))), (2, .int a2), (3, .int a3), (4, .int v4_13), (5, .int v5_13)]) hx hb d_A_taskOfArrival_32 hl (by decide) rfl (fun ls hl => ?_)
        refine lv_iload hx hb d_A_taskOfArrival_34 (lv_at hl 5 rfl) ?_
        refine lv_aload hx hb d_A_taskOfArrival_36 (lv_at hl 0 rfl) ?_
        refine lv_iload_n hx hb d_A_taskOfArrival_38 rfl (lv_at hl 4 rfl) ?_
        obtain ⟨r_6, e_5, hj⟩ := Option.bind_eq_some_iff.mp hj
        refine gw_calli (As := [.int a3]) (rest := [.int v4_13]) S hw (c_T_arrivalsBy e_5) w_124 (xa_T (M.2.2.1 v5_13.toNatClampNeg)) rfl rfl hl.1 rfl (Nat.le_of_ble_eq_true rfl) d_A_taskOfArrival_39 (fun H locs hw => ?_)
        refine lv_aload hx hb d_A_taskOfArrival_42 (lv_at hl 0 rfl) ?_
        refine lv_iload_n hx hb d_A_taskOfArrival_44 rfl (lv_at hl 4 rfl) ?_
        refine lv_iconst (v := 1) hx hb d_A_taskOfArrival_45 (by decide) ?_
        refine lv_isub hx hb d_A_taskOfArrival_46 ?_
        obtain ⟨r_8, e_7, hj⟩ := Option.bind_eq_some_iff.mp hj
        refine gw_calli (As := [.int (a3 - 1)]) (rest := [.int r_6, .int v4_13]) S hw (c_T_arrivalsBy e_7) w_124 (xa_T (M.2.2.1 v5_13.toNatClampNeg)) rfl rfl hl.1 rfl (Nat.le_of_ble_eq_true rfl) d_A_taskOfArrival_47 (fun H locs hw => ?_)
        refine lv_isub hx hb d_A_taskOfArrival_50 ?_
        refine lv_iadd hx hb d_A_taskOfArrival_51 ?_
        refine lv_istore (lv' := [(4, .int (v4_13 + (r_6 - r_8))), (6, .ref (ad (6 + (M.2.2.1 v5_13.toNatClampNeg).val))), (0, .ref (ad 4)), (1, .ref (ad (6 + x1.val))), (2, .int a2), (3, .int a3), (5, .int v5_13)]) hx hb d_A_taskOfArrival_52 hl (by decide) rfl (fun ls hl => ?_)
        refine lv_iload hx hb d_A_taskOfArrival_54 (lv_at hl 0 rfl) ?_
        refine lv_iload_n hx hb d_A_taskOfArrival_56 rfl (lv_at hl 4 rfl) ?_
        refine lv_icmp_le (tgt := 66) hx hb d_A_taskOfArrival_57 (by decide) (fun c_9 => ?_) (fun c_9 => ?_)
        · rw [if_pos c_9] at hj
          refine lv_iinc (v := (v5_13 + 1)) (lv' := [(5, .int (v5_13 + 1)), (4, .int (v4_13 + (r_6 - r_8))), (6, .ref (ad (6 + (M.2.2.1 v5_13.toNatClampNeg).val))), (0, .ref (ad 4)), (1, .ref (ad (6 + x1.val))), (2, .int a2), (3, .int a3)]) hx hb d_A_taskOfArrival_66 hl (k := 6) rfl rfl (by decide) rfl (fun ls hl => ?_)
          refine lv_goto (tgt := 13) hx hb d_A_taskOfArrival_69 (by decide) ?_
          exact ih13 (v4_13 + (r_6 - r_8)) (v5_13 + 1) hj H locs hw ls (lv_sub hl [3, 4, 5, 6, 1, 0] rfl)
        · rw [if_neg c_9] at hj
          refine lv_aload hx hb d_A_taskOfArrival_60 (lv_at hl 1 rfl) ?_
          refine gw_get (v := .int (M.1 0 (M.2.2.1 v5_13.toNatClampNeg) 0)) S hw (xa_T (M.2.2.1 v5_13.toNatClampNeg)) rfl (by decide) n_T_T f_58 rfl d_A_taskOfArrival_62 ?_
          exact hend H locs ls 65 _ _ (Option.some.inj hj) rfl hw d_A_taskOfArrival_65
  unfold j_A_taskOfArrival at hj
  refine lv_aload_n hx hb d_A_taskOfArrival_0 rfl (lv_at hl 0 rfl) ?_
  refine lv_aload_n hx hb d_A_taskOfArrival_1 rfl (lv_at hl 1 rfl) ?_
  refine lv_iload_n hx hb d_A_taskOfArrival_2 rfl (lv_at hl 3 rfl) ?_
  refine lv_iconst (v := 1) hx hb d_A_taskOfArrival_3 (by decide) ?_
  refine lv_isub hx hb d_A_taskOfArrival_4 ?_
  obtain ⟨r_2, e_1, hj⟩ := Option.bind_eq_some_iff.mp hj
  refine gw_calli (As := [.ref (ad (6 + x1.val)), .int (a3 - 1)]) (rest := []) S hw (c_A_scenarioArrivalsBy e_1) w_108 xa_A rfl rfl hl.1 rfl (Nat.le_of_ble_eq_true rfl) d_A_taskOfArrival_5 (fun H locs hw => ?_)
  refine lv_istore (lv' := [(4, .int r_2), (0, .ref (ad 4)), (1, .ref (ad (6 + x1.val))), (2, .int a2), (3, .int a3)]) hx hb d_A_taskOfArrival_8 hl (by decide) rfl (fun ls hl => ?_)
  refine lv_iconst (v := 0) hx hb d_A_taskOfArrival_10 (by decide) ?_
  refine lv_istore (lv' := [(5, .int 0), (4, .int r_2), (0, .ref (ad 4)), (1, .ref (ad (6 + x1.val))), (2, .int a2), (3, .int a3)]) hx hb d_A_taskOfArrival_11 hl (by decide) rfl (fun ls hl => ?_)
  exact L13 n r_2 0 hj H locs hw ls (lv_sub hl [2, 3, 4, 5, 1, 0] rfl)
abbrev rm_A_scenarioItem : Room := { frames := 4, cells := 0, slots := 0, locals := 94 }
def ws_A_scenarioItem : List Cond := Cond.code y_A_scenarioItem b_A_scenarioItem 8 (some .int) :: wB
set_option maxHeartbeats 4000000 in
set_option maxRecDepth 100000 in
theorem c_A_scenarioItem {l : Launch} {D : va_G} {cI cT : ClassId} {ad : Nat → Nat} {n : Nat} {M : MX} {x1 : Fin 8} {a2 : Int32} {a3 : Int32} {r0 : Int32} (hj : j_A_scenarioItem n M x1 a2 a3 = some r0) : gw_Ci l y_A_scenarioItem ws_A_scenarioItem rm_A_scenarioItem D (tyX cI cT) (wX cI cT ad M) [.ref (ad 4), .ref (ad (6 + x1.val)), .int a2, .int a3] r0 (wX cI cT ad M) := by
  intro sz
  refine gw_meti (cc := b_A_scenarioItem) (maxL := 8) (by decide) rfl (Nat.le_of_ble_eq_true rfl) ?_
  intro p e s m args below meth c A Q S H locs hw hend ls hl
  have S : CallFix p m c b_A_scenarioItem 8 s args ws_A_scenarioItem R_A := S
  have hx := S.1
  have hb := S.2.1
  have hts := S.2.2.2.2
  have hl : lv_has ls 8 [(0, .ref (ad 4)), (1, .ref (ad (6 + x1.val))), (2, .int a2), (3, .int a3)] := hl
  have n_T_A : ∀ w ∈ u_ws R_A T_A 3, w ∈ ws_A_scenarioItem := fun w h => List.mem_cons_of_mem _ (uT_A w h)
  have n_T_T : ∀ w ∈ u_ws R_T T_T 13, w ∈ ws_A_scenarioItem := fun w h => List.mem_cons_of_mem _ (uT_T w h)
  have f_9 : Cond.fieldLink R_A 9 (T_A 0).1 (T_A 0).2.1 (T_A 0).2.2.1 ∈ ws_A_scenarioItem := List.mem_cons_of_mem _ xw_115
  have f_15 : Cond.fieldLink R_A 15 (T_T 9).1 (T_T 9).2.1 (T_T 9).2.2.1 ∈ ws_A_scenarioItem := List.mem_cons_of_mem _ xw_144
  have f_34 : Cond.fieldLink R_A 34 (T_T 10).1 (T_T 10).2.1 (T_T 10).2.2.1 ∈ ws_A_scenarioItem := List.mem_cons_of_mem _ xw_145
  have f_58 : Cond.fieldLink R_A 58 (T_T 0).1 (T_T 0).2.1 (T_T 0).2.2.1 ∈ ws_A_scenarioItem := List.mem_cons_of_mem _ xw_154
  have f_72 : Cond.fieldLink R_A 72 (T_T 3).1 (T_T 3).2.1 (T_T 3).2.2.1 ∈ ws_A_scenarioItem := List.mem_cons_of_mem _ xw_134
  have w_21 : CallW rm_A_scenarioItem s args R_A R_S 21 y_S_blockingOf b_S_blockingOf 2 (some .int) ws_S_blockingOf rm_S_blockingOf 0 0 1 := cwV 1 hts (wB_callV (fun w h => List.mem_cons_of_mem _ h) xw_106 xw_147 xw_108 xw_109 xw_14) rfl rfl rfl (by decide +kernel) ⟨Nat.le_of_ble_eq_true rfl, Nat.le_of_ble_eq_true rfl⟩
  have w_98 : CallW rm_A_scenarioItem s args R_A R_S 98 y_S_longestBelow b_S_longestBelow 4 (some .int) ws_S_longestBelow rm_S_longestBelow 0 0 1 := cwV 1 hts (wB_callV (fun w h => List.mem_cons_of_mem _ h) xw_96 xw_187 xw_98 xw_99 xw_14) rfl rfl rfl (by decide +kernel) ⟨Nat.le_of_ble_eq_true rfl, Nat.le_of_ble_eq_true rfl⟩
  have w_101 : CallW rm_A_scenarioItem s args R_A R_A 101 y_A_highestBelowWith b_A_highestBelowWith 4 (some (.object "SegmentKernel$Task")) ws_A_highestBelowWith rm_A_highestBelowWith 0 0 2 := cwV 2 hts (wB_callV (fun w h => List.mem_cons_of_mem _ h) xw_188 xw_189 xw_190 xw_191 xw_127) rfl rfl rfl (by decide +kernel) ⟨Nat.le_of_ble_eq_true rfl, Nat.le_of_ble_eq_true rfl⟩
  have w_105 : CallW rm_A_scenarioItem s args R_A R_T 105 y_T_workAheadOf b_T_workAheadOf 4 (some .int) ws_T_workAheadOf rm_T_workAheadOf 0 0 1 := cwV 1 hts (wB_callV (fun w h => List.mem_cons_of_mem _ h) xw_192 xw_193 xw_194 xw_195 xw_21) rfl rfl rfl (by decide +kernel) ⟨Nat.le_of_ble_eq_true rfl, Nat.le_of_ble_eq_true rfl⟩
  have w_108 : CallW rm_A_scenarioItem s args R_A R_A 108 y_A_scenarioArrivalsBy b_A_scenarioArrivalsBy 5 (some .int) ws_A_scenarioArrivalsBy rm_A_scenarioArrivalsBy 0 0 2 := cwV 2 hts (wB_callV (fun w h => List.mem_cons_of_mem _ h) xw_183 xw_184 xw_185 xw_186 xw_127) rfl rfl rfl (by decide +kernel) ⟨Nat.le_of_ble_eq_true rfl, Nat.le_of_ble_eq_true rfl⟩
  have w_111 : CallW rm_A_scenarioItem s args R_A R_A 111 y_A_timeOfArrival b_A_timeOfArrival 8 (some .int) ws_A_timeOfArrival rm_A_timeOfArrival 0 0 3 := cwV 3 hts (wB_callV (fun w h => List.mem_cons_of_mem _ h) xw_196 xw_197 xw_198 xw_199 xw_127) rfl rfl rfl (by decide +kernel) ⟨Nat.le_of_ble_eq_true rfl, Nat.le_of_ble_eq_true rfl⟩
  have w_115 : CallW rm_A_scenarioItem s args R_A R_A 115 y_A_taskOfArrival b_A_taskOfArrival 7 (some .int) ws_A_taskOfArrival rm_A_taskOfArrival 0 0 3 := cwV 3 hts (wB_callV (fun w h => List.mem_cons_of_mem _ h) xw_200 xw_201 xw_202 xw_203 xw_127) rfl rfl rfl (by decide +kernel) ⟨Nat.le_of_ble_eq_true rfl, Nat.le_of_ble_eq_true rfl⟩
  unfold j_A_scenarioItem at hj
  refine lv_iload_n hx hb d_A_scenarioItem_0 rfl (lv_at hl 2 rfl) ?_
  refine lv_istore (lv' := [(4, .int a2), (0, .ref (ad 4)), (1, .ref (ad (6 + x1.val))), (2, .int a2), (3, .int a3)]) hx hb d_A_scenarioItem_1 hl (by decide) rfl (fun ls hl => ?_)
  refine lv_iconst (v := 0) hx hb d_A_scenarioItem_3 (by decide) ?_
  refine lv_istore (lv' := [(5, .int 0), (4, .int a2), (0, .ref (ad 4)), (1, .ref (ad (6 + x1.val))), (2, .int a2), (3, .int a3)]) hx hb d_A_scenarioItem_4 hl (by decide) rfl (fun ls hl => ?_)
  refine lv_aload_n hx hb d_A_scenarioItem_6 rfl (lv_at hl 2 rfl) ?_
  refine gw_get (v := .ref (ad 1)) S hw xa_A rfl (by decide) n_T_A f_9 rfl d_A_scenarioItem_7 ?_
  refine lv_aload_n hx hb d_A_scenarioItem_10 rfl (lv_at hl 3 rfl) ?_
  obtain ⟨r_2, e_1, hj⟩ := Option.bind_eq_some_iff.mp hj
  refine gw_calli (As := [.ref (ad (6 + x1.val))]) (rest := []) S hw (c_S_blockingOf e_1) w_21 xa_S rfl rfl hl.1 rfl (Nat.le_of_ble_eq_true rfl) d_A_scenarioItem_11 (fun H locs hw => ?_)
  refine lv_if_le (tgt := 70) hx hb d_A_scenarioItem_14 (by decide) (fun c_3 => ?_) (fun c_3 => ?_)
  · rw [if_pos c_3] at hj
    refine lv_aload_n hx hb d_A_scenarioItem_70 rfl (lv_at hl 3 rfl) ?_
    refine gw_get (v := .int (M.1 0 x1 10)) S hw (xa_T x1) rfl (by decide) n_T_T f_34 rfl d_A_scenarioItem_71 ?_
    refine lv_aload_n hx hb d_A_scenarioItem_74 rfl (lv_at hl 3 rfl) ?_
    refine gw_get (v := .int (M.1 0 x1 3)) S hw (xa_T x1) rfl (by decide) n_T_T f_72 rfl d_A_scenarioItem_75 ?_
    refine lv_imul hx hb d_A_scenarioItem_78 ?_
    refine lv_aload_n hx hb d_A_scenarioItem_79 rfl (lv_at hl 3 rfl) ?_
    refine gw_get (v := .int (M.1 0 x1 9)) S hw (xa_T x1) rfl (by decide) n_T_T f_15 rfl d_A_scenarioItem_80 ?_
    refine lv_iadd hx hb d_A_scenarioItem_83 ?_
    refine lv_istore (lv' := [(6, .int (((M.1 0 x1 10) * (M.1 0 x1 3)) + (M.1 0 x1 9))), (5, .int 0), (4, .int a2), (0, .ref (ad 4)), (1, .ref (ad (6 + x1.val))), (2, .int a2), (3, .int a3)]) hx hb d_A_scenarioItem_84 hl (by decide) rfl (fun ls hl => ?_)
    refine lv_iload hx hb d_A_scenarioItem_86 (lv_at hl 2 rfl) ?_
    refine lv_aload_n hx hb d_A_scenarioItem_88 rfl (lv_at hl 3 rfl) ?_
    refine lv_aload_n hx hb d_A_scenarioItem_89 rfl (lv_at hl 4 rfl) ?_
    refine lv_iload hx hb d_A_scenarioItem_90 (lv_at hl 0 rfl) ?_
    refine lv_iconst (v := 1) hx hb d_A_scenarioItem_92 (by decide) ?_
    refine lv_isub hx hb d_A_scenarioItem_93 ?_
    obtain ⟨r_5, e_4, hj⟩ := Option.bind_eq_some_iff.mp hj
    refine gw_calli (As := [.ref (ad (6 + x1.val)), .int ((((M.1 0 x1 10) * (M.1 0 x1 3)) + (M.1 0 x1 9)) - 1)]) (rest := [.int a2]) S hw (c_A_scenarioArrivalsBy e_4) w_108 xa_A rfl rfl hl.1 rfl (Nat.le_of_ble_eq_true rfl) d_A_scenarioItem_94 (fun H locs hw => ?_)
    refine lv_icmp_lt (tgt := 102) hx hb d_A_scenarioItem_97 (by decide) (fun c_6 => ?_) (fun c_6 => ?_)
    · rw [if_pos c_6] at hj
      refine lv_aload_n hx hb d_A_scenarioItem_102 rfl (lv_at hl 3 rfl) ?_
      refine lv_aload_n hx hb d_A_scenarioItem_103 rfl (lv_at hl 4 rfl) ?_
      refine lv_iload hx hb d_A_scenarioItem_104 (lv_at hl 2 rfl) ?_
      refine lv_iload hx hb d_A_scenarioItem_106 (lv_at hl 0 rfl) ?_
      obtain ⟨r_8, e_7, hj⟩ := Option.bind_eq_some_iff.mp hj
      refine gw_calli (As := [.ref (ad (6 + x1.val)), .int a2, .int (((M.1 0 x1 10) * (M.1 0 x1 3)) + (M.1 0 x1 9))]) (rest := []) S hw (c_A_timeOfArrival e_7) w_111 xa_A rfl rfl hl.1 rfl (Nat.le_of_ble_eq_true rfl) d_A_scenarioItem_108 (fun H locs hw => ?_)
      refine lv_istore (lv' := [(7, .int r_8), (6, .int (((M.1 0 x1 10) * (M.1 0 x1 3)) + (M.1 0 x1 9))), (5, .int 0), (4, .int a2), (0, .ref (ad 4)), (1, .ref (ad (6 + x1.val))), (2, .int a2), (3, .int a3)]) hx hb d_A_scenarioItem_111 hl (by decide) rfl (fun ls hl => ?_)
      refine lv_iload_n hx hb d_A_scenarioItem_113 rfl (lv_at hl 7 rfl) ?_
      refine lv_if_eq (tgt := 125) hx hb d_A_scenarioItem_114 (by decide) (fun c_9 => ?_) (fun c_9 => ?_)
      · rw [if_pos c_9] at hj
        refine lv_aload_n hx hb d_A_scenarioItem_125 rfl (lv_at hl 4 rfl) ?_
        refine lv_aload_n hx hb d_A_scenarioItem_126 rfl (lv_at hl 5 rfl) ?_
        refine lv_iload hx hb d_A_scenarioItem_127 (lv_at hl 3 rfl) ?_
        refine lv_iload hx hb d_A_scenarioItem_129 (lv_at hl 0 rfl) ?_
        obtain ⟨r_11, e_10, hj⟩ := Option.bind_eq_some_iff.mp hj
        refine gw_calli (As := [.ref (ad (6 + x1.val)), .int a2, .int r_8]) (rest := []) S hw (c_A_taskOfArrival e_10) w_115 xa_A rfl rfl hl.1 rfl (Nat.le_of_ble_eq_true rfl) d_A_scenarioItem_131 (fun H locs hw => ?_)
        exact hend H locs ls 134 _ _ (Option.some.inj hj) rfl hw d_A_scenarioItem_134
      · rw [if_neg c_9] at hj
        refine lv_iload hx hb d_A_scenarioItem_117 (lv_at hl 2 rfl) ?_
        refine lv_iload hx hb d_A_scenarioItem_119 (lv_at hl 0 rfl) ?_
        refine lv_iadd hx hb d_A_scenarioItem_121 ?_
        refine lv_goto (tgt := 134) hx hb d_A_scenarioItem_122 (by decide) ?_
        exact hend H locs ls 134 _ _ (Option.some.inj hj) rfl hw d_A_scenarioItem_134
    · rw [if_neg c_6] at hj
      refine lv_iconst (v := -1) hx hb d_A_scenarioItem_100 (by decide) ?_
      exact hend H locs ls 101 _ _ (Option.some.inj hj) rfl hw d_A_scenarioItem_101
  · rw [if_neg c_3] at hj
    refine lv_aload_n hx hb d_A_scenarioItem_17 rfl (lv_at hl 2 rfl) ?_
    refine gw_get (v := .ref (ad 1)) S hw xa_A rfl (by decide) n_T_A f_9 rfl d_A_scenarioItem_18 ?_
    refine lv_aload_n hx hb d_A_scenarioItem_21 rfl (lv_at hl 3 rfl) ?_
    obtain ⟨r_13, e_12, hj⟩ := Option.bind_eq_some_iff.mp hj
    refine gw_calli (As := [.ref (ad (6 + x1.val))]) (rest := []) S hw (c_S_longestBelow e_12) w_98 xa_S rfl rfl hl.1 rfl (Nat.le_of_ble_eq_true rfl) d_A_scenarioItem_22 (fun H locs hw => ?_)
    refine lv_istore (lv' := [(6, .int r_13), (5, .int 0), (4, .int a2), (0, .ref (ad 4)), (1, .ref (ad (6 + x1.val))), (2, .int a2), (3, .int a3)]) hx hb d_A_scenarioItem_25 hl (by decide) rfl (fun ls hl => ?_)
    refine lv_aload_n hx hb d_A_scenarioItem_27 rfl (lv_at hl 3 rfl) ?_
    refine lv_aload_n hx hb d_A_scenarioItem_28 rfl (lv_at hl 4 rfl) ?_
    refine lv_iload hx hb d_A_scenarioItem_29 (lv_at hl 0 rfl) ?_
    obtain ⟨r_15, e_14, hj⟩ := Option.bind_eq_some_iff.mp hj
    refine gw_callq (As := [.ref (ad (6 + x1.val)), .int r_13]) (rest := []) S hw (c_A_highestBelowWith e_14) w_101 xa_A rfl rfl hl.1 rfl (Nat.le_of_ble_eq_true rfl) d_A_scenarioItem_31 (fun H locs hw => ?_)
    refine lv_astore (lv' := [(7, .ref (ad (6 + r_15.val))), (6, .int r_13), (5, .int 0), (4, .int a2), (0, .ref (ad 4)), (1, .ref (ad (6 + x1.val))), (2, .int a2), (3, .int a3)]) hx hb d_A_scenarioItem_34 hl (by decide) rfl (fun ls hl => ?_)
    refine lv_iload_n hx hb d_A_scenarioItem_36 rfl (lv_at hl 6 rfl) ?_
    refine lv_if_ne (tgt := 54) hx hb d_A_scenarioItem_37 (by decide) (fun c_16 => ?_) (fun c_16 => ?_)
    · rw [if_neg c_16] at hj
      refine lv_iload_n hx hb d_A_scenarioItem_54 rfl (lv_at hl 6 rfl) ?_
      refine lv_iconst (v := 1) hx hb d_A_scenarioItem_55 (by decide) ?_
      refine lv_isub hx hb d_A_scenarioItem_56 ?_
      refine lv_istore (lv' := [(4, .int (a2 - 1)), (7, .ref (ad (6 + r_15.val))), (6, .int r_13), (5, .int 0), (0, .ref (ad 4)), (1, .ref (ad (6 + x1.val))), (2, .int a2), (3, .int a3)]) hx hb d_A_scenarioItem_57 hl (by decide) rfl (fun ls hl => ?_)
      refine lv_aload hx hb d_A_scenarioItem_59 (lv_at hl 1 rfl) ?_
      refine lv_iload hx hb d_A_scenarioItem_61 (lv_at hl 2 rfl) ?_
      obtain ⟨r_18, e_17, hj⟩ := Option.bind_eq_some_iff.mp hj
      refine gw_calli (As := [.int r_13]) (rest := []) S hw (c_T_workAheadOf e_17) w_105 (xa_T r_15) rfl rfl hl.1 rfl (Nat.le_of_ble_eq_true rfl) d_A_scenarioItem_63 (fun H locs hw => ?_)
      refine lv_iconst (v := 1) hx hb d_A_scenarioItem_66 (by decide) ?_
      refine lv_iadd hx hb d_A_scenarioItem_67 ?_
      refine lv_istore (lv' := [(5, .int (r_18 + 1)), (4, .int (a2 - 1)), (7, .ref (ad (6 + r_15.val))), (6, .int r_13), (0, .ref (ad 4)), (1, .ref (ad (6 + x1.val))), (2, .int a2), (3, .int a3)]) hx hb d_A_scenarioItem_68 hl (by decide) rfl (fun ls hl => ?_)
      refine lv_aload_n hx hb d_A_scenarioItem_70 rfl (lv_at hl 5 rfl) ?_
      refine gw_get (v := .int (M.1 0 x1 10)) S hw (xa_T x1) rfl (by decide) n_T_T f_34 rfl d_A_scenarioItem_71 ?_
      refine lv_aload_n hx hb d_A_scenarioItem_74 rfl (lv_at hl 5 rfl) ?_
      refine gw_get (v := .int (M.1 0 x1 3)) S hw (xa_T x1) rfl (by decide) n_T_T f_72 rfl d_A_scenarioItem_75 ?_
      refine lv_imul hx hb d_A_scenarioItem_78 ?_
      refine lv_aload_n hx hb d_A_scenarioItem_79 rfl (lv_at hl 5 rfl) ?_
      refine gw_get (v := .int (M.1 0 x1 9)) S hw (xa_T x1) rfl (by decide) n_T_T f_15 rfl d_A_scenarioItem_80 ?_
      refine lv_iadd hx hb d_A_scenarioItem_83 ?_
      refine lv_istore (lv' := [(6, .int (((M.1 0 x1 10) * (M.1 0 x1 3)) + (M.1 0 x1 9))), (5, .int (r_18 + 1)), (4, .int (a2 - 1)), (7, .ref (ad (6 + r_15.val))), (0, .ref (ad 4)), (1, .ref (ad (6 + x1.val))), (2, .int a2), (3, .int a3)]) hx hb d_A_scenarioItem_84 hl (by decide) rfl (fun ls hl => ?_)
      refine lv_iload hx hb d_A_scenarioItem_86 (lv_at hl 2 rfl) ?_
      refine lv_aload_n hx hb d_A_scenarioItem_88 rfl (lv_at hl 4 rfl) ?_
      refine lv_aload_n hx hb d_A_scenarioItem_89 rfl (lv_at hl 5 rfl) ?_
      refine lv_iload hx hb d_A_scenarioItem_90 (lv_at hl 0 rfl) ?_
      refine lv_iconst (v := 1) hx hb d_A_scenarioItem_92 (by decide) ?_
      refine lv_isub hx hb d_A_scenarioItem_93 ?_
      obtain ⟨r_20, e_19, hj⟩ := Option.bind_eq_some_iff.mp hj
      refine gw_calli (As := [.ref (ad (6 + x1.val)), .int ((((M.1 0 x1 10) * (M.1 0 x1 3)) + (M.1 0 x1 9)) - 1)]) (rest := [.int (a2 - 1)]) S hw (c_A_scenarioArrivalsBy e_19) w_108 xa_A rfl rfl hl.1 rfl (Nat.le_of_ble_eq_true rfl) d_A_scenarioItem_94 (fun H locs hw => ?_)
      refine lv_icmp_lt (tgt := 102) hx hb d_A_scenarioItem_97 (by decide) (fun c_21 => ?_) (fun c_21 => ?_)
      · rw [if_pos c_21] at hj
        refine lv_aload_n hx hb d_A_scenarioItem_102 rfl (lv_at hl 4 rfl) ?_
        refine lv_aload_n hx hb d_A_scenarioItem_103 rfl (lv_at hl 5 rfl) ?_
        refine lv_iload hx hb d_A_scenarioItem_104 (lv_at hl 2 rfl) ?_
        refine lv_iload hx hb d_A_scenarioItem_106 (lv_at hl 0 rfl) ?_
        obtain ⟨r_23, e_22, hj⟩ := Option.bind_eq_some_iff.mp hj
        refine gw_calli (As := [.ref (ad (6 + x1.val)), .int (a2 - 1), .int (((M.1 0 x1 10) * (M.1 0 x1 3)) + (M.1 0 x1 9))]) (rest := []) S hw (c_A_timeOfArrival e_22) w_111 xa_A rfl rfl hl.1 rfl (Nat.le_of_ble_eq_true rfl) d_A_scenarioItem_108 (fun H locs hw => ?_)
        refine lv_istore (lv' := [(7, .int r_23), (6, .int (((M.1 0 x1 10) * (M.1 0 x1 3)) + (M.1 0 x1 9))), (5, .int (r_18 + 1)), (4, .int (a2 - 1)), (0, .ref (ad 4)), (1, .ref (ad (6 + x1.val))), (2, .int a2), (3, .int a3)]) hx hb d_A_scenarioItem_111 hl (by decide) rfl (fun ls hl => ?_)
        refine lv_iload_n hx hb d_A_scenarioItem_113 rfl (lv_at hl 7 rfl) ?_
        refine lv_if_eq (tgt := 125) hx hb d_A_scenarioItem_114 (by decide) (fun c_24 => ?_) (fun c_24 => ?_)
        · rw [if_pos c_24] at hj
          refine lv_aload_n hx hb d_A_scenarioItem_125 rfl (lv_at hl 4 rfl) ?_
          refine lv_aload_n hx hb d_A_scenarioItem_126 rfl (lv_at hl 5 rfl) ?_
          refine lv_iload hx hb d_A_scenarioItem_127 (lv_at hl 3 rfl) ?_
          refine lv_iload hx hb d_A_scenarioItem_129 (lv_at hl 0 rfl) ?_
          obtain ⟨r_26, e_25, hj⟩ := Option.bind_eq_some_iff.mp hj
          refine gw_calli (As := [.ref (ad (6 + x1.val)), .int (a2 - 1), .int r_23]) (rest := []) S hw (c_A_taskOfArrival e_25) w_115 xa_A rfl rfl hl.1 rfl (Nat.le_of_ble_eq_true rfl) d_A_scenarioItem_131 (fun H locs hw => ?_)
          exact hend H locs ls 134 _ _ (Option.some.inj hj) rfl hw d_A_scenarioItem_134
        · rw [if_neg c_24] at hj
          refine lv_iload hx hb d_A_scenarioItem_117 (lv_at hl 2 rfl) ?_
          refine lv_iload hx hb d_A_scenarioItem_119 (lv_at hl 0 rfl) ?_
          refine lv_iadd hx hb d_A_scenarioItem_121 ?_
          refine lv_goto (tgt := 134) hx hb d_A_scenarioItem_122 (by decide) ?_
          exact hend H locs ls 134 _ _ (Option.some.inj hj) rfl hw d_A_scenarioItem_134
      · rw [if_neg c_21] at hj
        refine lv_iconst (v := -1) hx hb d_A_scenarioItem_100 (by decide) ?_
        exact hend H locs ls 101 _ _ (Option.some.inj hj) rfl hw d_A_scenarioItem_101
    · rw [if_pos c_16] at hj
      refine lv_iload_n hx hb d_A_scenarioItem_40 rfl (lv_at hl 7 rfl) ?_
      refine lv_if_eq (tgt := 48) hx hb d_A_scenarioItem_41 (by decide) (fun c_27 => ?_) (fun c_27 => ?_)
      · rw [if_pos c_27] at hj
        refine lv_aload hx hb d_A_scenarioItem_48 (lv_at hl 0 rfl) ?_
        refine gw_get (v := .int (M.1 0 r_15 0)) S hw (xa_T r_15) rfl (by decide) n_T_T f_58 rfl d_A_scenarioItem_50 ?_
        exact hend H locs ls 53 _ _ (Option.some.inj hj) rfl hw d_A_scenarioItem_53
      · rw [if_neg c_27] at hj
        refine lv_iconst (v := 0) hx hb d_A_scenarioItem_44 (by decide) ?_
        refine lv_goto (tgt := 53) hx hb d_A_scenarioItem_45 (by decide) ?_
        exact hend H locs ls 53 _ _ (Option.some.inj hj) rfl hw d_A_scenarioItem_53
abbrev rm_J_accept : Room := { frames := 0, cells := 0, slots := 0, locals := 0 }
def ws_J_accept : List Cond := Cond.code y_J_accept b_J_accept 3 (some .boolean) :: wB
set_option maxHeartbeats 4000000 in
set_option maxRecDepth 100000 in
theorem c_J_accept {l : Launch} {D : va_G} {cI cT : ClassId} {ad : Nat → Nat} {n : Nat} {M : MX} {x0 : Fin 8} {a1 : Int32} {a2 : Int32} {r0 : Int32} {M0 : MX} (hj : j_J_accept n M x0 a1 a2 = some (r0, M0)) : gw_Cz l y_J_accept ws_J_accept rm_J_accept D (tyX cI cT) (wX cI cT ad M) [.ref (ad (14 + x0.val)), .int a1, .int a2] r0 (wX cI cT ad M0) := by
  intro sz
  refine gw_metz (cc := b_J_accept) (maxL := 3) (by decide) rfl (Nat.le_of_ble_eq_true rfl) ?_
  intro p e s m args below meth c A Q S H locs hw hend ls hl
  have S : CallFix p m c b_J_accept 3 s args ws_J_accept R_J := S
  have hx := S.1
  have hb := S.2.1
  have hts := S.2.2.2.2
  have hl : lv_has ls 3 [(0, .ref (ad (14 + x0.val))), (1, .int a1), (2, .int a2)] := hl
  have n_T_J : ∀ w ∈ u_ws R_J T_J 8, w ∈ ws_J_accept := fun w h => List.mem_cons_of_mem _ (uT_J w h)
  have f_9 : Cond.fieldLink R_J 9 (T_J 0).1 (T_J 0).2.1 (T_J 0).2.2.1 ∈ ws_J_accept := List.mem_cons_of_mem _ xw_204
  have f_18 : Cond.fieldLink R_J 18 (T_J 2).1 (T_J 2).2.1 (T_J 2).2.2.1 ∈ ws_J_accept := List.mem_cons_of_mem _ xw_58
  have f_22 : Cond.fieldLink R_J 22 (T_J 3).1 (T_J 3).2.1 (T_J 3).2.2.1 ∈ ws_J_accept := List.mem_cons_of_mem _ xw_59
  unfold j_J_accept at hj
  refine lv_aload_n hx hb d_J_accept_0 rfl (lv_at hl 0 rfl) ?_
  refine gw_get (v := .int (M.1 1 x0 2)) S hw (xa_J x0) rfl (by decide) n_T_J f_18 rfl d_J_accept_1 ?_
  refine lv_aload_n hx hb d_J_accept_4 rfl (lv_at hl 0 rfl) ?_
  refine gw_get (v := .int (M.1 1 x0 3)) S hw (xa_J x0) rfl (by decide) n_T_J f_22 rfl d_J_accept_5 ?_
  refine lv_isub hx hb d_J_accept_8 ?_
  refine lv_bipush (v := 9) hx hb d_J_accept_9 (by decide) ?_
  refine lv_icmp_lt (tgt := 16) hx hb d_J_accept_11 (by decide) (fun c_1 => ?_) (fun c_1 => ?_)
  · rw [if_pos c_1] at hj
    refine lv_aload_n hx hb d_J_accept_16 rfl (lv_at hl 0 rfl) ?_
    refine gw_get (v := .int (M.1 1 x0 2)) S hw (xa_J x0) rfl (by decide) n_T_J f_18 rfl d_J_accept_17 ?_
    refine lv_if_le (tgt := 45) hx hb d_J_accept_20 (by decide) (fun c_2 => ?_) (fun c_2 => ?_)
    · rw [if_pos c_2] at hj
      refine lv_aload_n hx hb d_J_accept_45 rfl (lv_at hl 0 rfl) ?_
      refine gw_get (v := .ref (ad (30 + x0.val))) S hw (xa_J x0) rfl (by decide) n_T_J f_9 rfl d_J_accept_46 ?_
      refine lv_aload_n hx hb d_J_accept_49 rfl (lv_at hl 0 rfl) ?_
      refine gw_get (v := .int (M.1 1 x0 2)) S hw (xa_J x0) rfl (by decide) n_T_J f_18 rfl d_J_accept_50 ?_
      refine lv_bipush (v := 9) hx hb d_J_accept_53 (by decide) ?_
      refine lv_irem hx hb d_J_accept_55 (by decide) ?_
      refine lv_iload_n hx hb d_J_accept_56 rfl (lv_at hl 1 rfl) ?_
      obtain ⟨g_3, hj⟩ := gw_if hj
      refine gw_iast (t0 := 0) S hw ⟨xa_ar x0, rfl⟩ g_3 (xs_ar x0 ((M.1 1 x0 2) - (M.1 1 x0 2) / 9 * 9).toNatClampNeg a1) d_J_accept_57 (fun H locs hw => ?_)
      refine lv_aload_n hx hb d_J_accept_58 rfl (lv_at hl 0 rfl) ?_
      refine lv_dup hx hb d_J_accept_59 rfl ?_
      refine gw_get (v := .int ((sF M 3 x0 ((M.1 1 x0 2) - (M.1 1 x0 2) / 9 * 9).toNatClampNeg a1).1 1 x0 2)) S hw (xa_J x0) rfl (by decide) n_T_J f_18 rfl d_J_accept_60 ?_
      refine lv_iconst (v := 1) hx hb d_J_accept_63 (by decide) ?_
      refine lv_iadd hx hb d_J_accept_64 ?_
      refine gw_put (v := .int (((sF M 3 x0 ((M.1 1 x0 2) - (M.1 1 x0 2) / 9 * 9).toNatClampNeg a1).1 1 x0 2) + 1)) (ty := .int) S hw (xa_J x0) rfl (by decide) n_T_J f_18 tk_J nm_J rfl (by decide +kernel) rfl rfl (Nat.le_of_ble_eq_true rfl) (xs_J x0 2 (((sF M 3 x0 ((M.1 1 x0 2) - (M.1 1 x0 2) / 9 * 9).toNatClampNeg a1).1 1 x0 2) + 1) (by decide)) d_J_accept_65 (fun H locs hw => ?_)
      refine lv_iconst (v := 1) hx hb d_J_accept_68 (by decide) ?_
      exact hend H locs ls 69 _ _ (Prod.mk.inj (Option.some.inj hj)).1 (congrArg (wX cI cT ad) (Prod.mk.inj (Option.some.inj hj)).2) (Or.inr rfl) hw d_J_accept_69
    · rw [if_neg c_2] at hj
      refine lv_iload_n hx hb d_J_accept_23 rfl (lv_at hl 1 rfl) ?_
      refine lv_aload_n hx hb d_J_accept_24 rfl (lv_at hl 0 rfl) ?_
      refine gw_get (v := .ref (ad (30 + x0.val))) S hw (xa_J x0) rfl (by decide) n_T_J f_9 rfl d_J_accept_25 ?_
      refine lv_aload_n hx hb d_J_accept_28 rfl (lv_at hl 0 rfl) ?_
      refine gw_get (v := .int (M.1 1 x0 2)) S hw (xa_J x0) rfl (by decide) n_T_J f_18 rfl d_J_accept_29 ?_
      refine lv_iconst (v := 1) hx hb d_J_accept_32 (by decide) ?_
      refine lv_isub hx hb d_J_accept_33 ?_
      refine lv_bipush (v := 9) hx hb d_J_accept_34 (by decide) ?_
      refine lv_irem hx hb d_J_accept_36 (by decide) ?_
      obtain ⟨g_4, hj⟩ := gw_if hj
      refine gw_iald (t0 := 0) S hw ⟨xa_ar x0, rfl⟩ g_4 d_J_accept_37 ?_
      refine lv_isub hx hb d_J_accept_38 ?_
      refine lv_iload_n hx hb d_J_accept_39 rfl (lv_at hl 2 rfl) ?_
      refine lv_icmp_ge (tgt := 45) hx hb d_J_accept_40 (by decide) (fun c_5 => ?_) (fun c_5 => ?_)
      · rw [if_pos c_5] at hj
        refine lv_aload_n hx hb d_J_accept_45 rfl (lv_at hl 0 rfl) ?_
        refine gw_get (v := .ref (ad (30 + x0.val))) S hw (xa_J x0) rfl (by decide) n_T_J f_9 rfl d_J_accept_46 ?_
        refine lv_aload_n hx hb d_J_accept_49 rfl (lv_at hl 0 rfl) ?_
        refine gw_get (v := .int (M.1 1 x0 2)) S hw (xa_J x0) rfl (by decide) n_T_J f_18 rfl d_J_accept_50 ?_
        refine lv_bipush (v := 9) hx hb d_J_accept_53 (by decide) ?_
        refine lv_irem hx hb d_J_accept_55 (by decide) ?_
        refine lv_iload_n hx hb d_J_accept_56 rfl (lv_at hl 1 rfl) ?_
        obtain ⟨g_6, hj⟩ := gw_if hj
        refine gw_iast (t0 := 0) S hw ⟨xa_ar x0, rfl⟩ g_6 (xs_ar x0 ((M.1 1 x0 2) - (M.1 1 x0 2) / 9 * 9).toNatClampNeg a1) d_J_accept_57 (fun H locs hw => ?_)
        refine lv_aload_n hx hb d_J_accept_58 rfl (lv_at hl 0 rfl) ?_
        refine lv_dup hx hb d_J_accept_59 rfl ?_
        refine gw_get (v := .int ((sF M 3 x0 ((M.1 1 x0 2) - (M.1 1 x0 2) / 9 * 9).toNatClampNeg a1).1 1 x0 2)) S hw (xa_J x0) rfl (by decide) n_T_J f_18 rfl d_J_accept_60 ?_
        refine lv_iconst (v := 1) hx hb d_J_accept_63 (by decide) ?_
        refine lv_iadd hx hb d_J_accept_64 ?_
        refine gw_put (v := .int (((sF M 3 x0 ((M.1 1 x0 2) - (M.1 1 x0 2) / 9 * 9).toNatClampNeg a1).1 1 x0 2) + 1)) (ty := .int) S hw (xa_J x0) rfl (by decide) n_T_J f_18 tk_J nm_J rfl (by decide +kernel) rfl rfl (Nat.le_of_ble_eq_true rfl) (xs_J x0 2 (((sF M 3 x0 ((M.1 1 x0 2) - (M.1 1 x0 2) / 9 * 9).toNatClampNeg a1).1 1 x0 2) + 1) (by decide)) d_J_accept_65 (fun H locs hw => ?_)
        refine lv_iconst (v := 1) hx hb d_J_accept_68 (by decide) ?_
        exact hend H locs ls 69 _ _ (Prod.mk.inj (Option.some.inj hj)).1 (congrArg (wX cI cT ad) (Prod.mk.inj (Option.some.inj hj)).2) (Or.inr rfl) hw d_J_accept_69
      · rw [if_neg c_5] at hj
        refine lv_iconst (v := 0) hx hb d_J_accept_43 (by decide) ?_
        exact hend H locs ls 44 _ _ (Prod.mk.inj (Option.some.inj hj)).1 (congrArg (wX cI cT ad) (Prod.mk.inj (Option.some.inj hj)).2) (Or.inl rfl) hw d_J_accept_44
  · rw [if_neg c_1] at hj
    refine lv_iconst (v := 0) hx hb d_J_accept_14 (by decide) ?_
    exact hend H locs ls 15 _ _ (Prod.mk.inj (Option.some.inj hj)).1 (congrArg (wX cI cT ad) (Prod.mk.inj (Option.some.inj hj)).2) (Or.inl rfl) hw d_J_accept_15
abbrev rm_K_accept : Room := { frames := 1, cells := 0, slots := 0, locals := 22 }
def ws_K_accept : List Cond := Cond.code y_K_accept b_K_accept 2 (some .boolean) :: wB
set_option maxHeartbeats 4000000 in
set_option maxRecDepth 100000 in
theorem c_K_accept {l : Launch} {D : va_G} {cI cT : ClassId} {ad : Nat → Nat} {n : Nat} {M : MX} {x1 : Fin 8} {r0 : Int32} {M0 : MX} (hj : j_K_accept n M x1 = some (r0, M0)) : gw_Cz l y_K_accept ws_K_accept rm_K_accept D (tyX cI cT) (wX cI cT ad M) [.ref (ad 5), .ref (ad (6 + x1.val))] r0 (wX cI cT ad M0) := by
  intro sz
  refine gw_metz (cc := b_K_accept) (maxL := 2) (by decide) rfl (Nat.le_of_ble_eq_true rfl) ?_
  intro p e s m args below meth c A Q S H locs hw hend ls hl
  have S : CallFix p m c b_K_accept 2 s args ws_K_accept R_K := S
  have hx := S.1
  have hb := S.2.1
  have hts := S.2.2.2.2
  have hl : lv_has ls 2 [(0, .ref (ad 5)), (1, .ref (ad (6 + x1.val)))] := hl
  have n_T_K : ∀ w ∈ u_ws R_K T_K 6, w ∈ ws_K_accept := fun w h => List.mem_cons_of_mem _ (uT_K w h)
  have n_T_T : ∀ w ∈ u_ws R_T T_T 13, w ∈ ws_K_accept := fun w h => List.mem_cons_of_mem _ (uT_T w h)
  have f_23 : Cond.fieldLink R_K 23 (T_T 1).1 (T_T 1).2.1 (T_T 1).2.2.1 ∈ ws_K_accept := List.mem_cons_of_mem _ xw_67
  have f_34 : Cond.fieldLink R_K 34 (T_K 1).1 (T_K 1).2.1 (T_K 1).2.2.1 ∈ ws_K_accept := List.mem_cons_of_mem _ xw_68
  have f_38 : Cond.fieldLink R_K 38 (T_K 2).1 (T_K 2).2.1 (T_K 2).2.2.1 ∈ ws_K_accept := List.mem_cons_of_mem _ xw_69
  have f_51 : Cond.fieldLink R_K 51 (T_T 3).1 (T_T 3).2.1 (T_T 3).2.2.1 ∈ ws_K_accept := List.mem_cons_of_mem _ xw_205
  have w_54 : CallW rm_K_accept s args R_K R_J 54 y_J_accept b_J_accept 3 (some .boolean) ws_J_accept rm_J_accept 0 0 2 := cwV 2 hts (wB_callV (fun w h => List.mem_cons_of_mem _ h) xw_206 xw_207 xw_208 xw_209 xw_77) rfl rfl rfl (by decide +kernel) ⟨Nat.le_of_ble_eq_true rfl, Nat.le_of_ble_eq_true rfl⟩
  unfold j_K_accept at hj
  refine lv_aload_n hx hb d_K_accept_0 rfl (lv_at hl 1 rfl) ?_
  refine gw_get (v := .ref (ad (14 + x1.val))) S hw (xa_T x1) rfl (by decide) n_T_T f_23 rfl d_K_accept_1 ?_
  refine lv_aload_n hx hb d_K_accept_4 rfl (lv_at hl 0 rfl) ?_
  refine gw_get (v := .int (M.2.1 2 2)) S hw xa_K rfl (by decide) n_T_K f_38 rfl d_K_accept_5 ?_
  refine lv_aload_n hx hb d_K_accept_8 rfl (lv_at hl 1 rfl) ?_
  refine gw_get (v := .int (M.1 0 x1 3)) S hw (xa_T x1) rfl (by decide) n_T_T f_51 rfl d_K_accept_9 ?_
  obtain ⟨q_2, e_1, hj⟩ := Option.bind_eq_some_iff.mp hj
  refine gw_calli (As := [.int (M.2.1 2 2), .int (M.1 0 x1 3)]) (rest := []) S hw (c_J_accept e_1) w_54 (xa_J x1) rfl rfl hl.1 rfl (Nat.le_of_ble_eq_true rfl) d_K_accept_12 (fun H locs hw => ?_)
  refine lv_if_ne (tgt := 20) hx hb d_K_accept_15 (by decide) (fun c_3 => ?_) (fun c_3 => ?_)
  · rw [if_neg c_3] at hj
    refine lv_aload_n hx hb d_K_accept_20 rfl (lv_at hl 0 rfl) ?_
    refine lv_iconst (v := 1) hx hb d_K_accept_21 (by decide) ?_
    refine gw_put (v := .int 1) (ty := .boolean) S hw xa_K rfl (by decide) n_T_K f_34 tk_K nm_K rfl (by decide +kernel) rfl rfl (Nat.le_of_ble_eq_true rfl) (xs_K 1 1 (by decide)) d_K_accept_22 (fun H locs hw => ?_)
    refine lv_iconst (v := 1) hx hb d_K_accept_25 (by decide) ?_
    exact hend H locs ls 26 _ _ (Prod.mk.inj (Option.some.inj hj)).1 (congrArg (wX cI cT ad) (Prod.mk.inj (Option.some.inj hj)).2) (Or.inr rfl) hw d_K_accept_26
  · rw [if_pos c_3] at hj
    refine lv_iconst (v := 0) hx hb d_K_accept_18 (by decide) ?_
    exact hend H locs ls 19 _ _ (Prod.mk.inj (Option.some.inj hj)).1 (congrArg (wX cI cT ad) (Prod.mk.inj (Option.some.inj hj)).2) (Or.inl rfl) hw d_K_accept_19
abbrev rm_O_arrive : Room := { frames := 2, cells := 0, slots := 0, locals := 43 }
def ws_O_arrive : List Cond := Cond.code y_O_arrive b_O_arrive 3 (some .boolean) :: wB
set_option maxHeartbeats 4000000 in
set_option maxRecDepth 100000 in
theorem c_O_arrive {l : Launch} {D : va_G} {cI cT : ClassId} {ad : Nat → Nat} {n : Nat} {M : MX} {a1 : Int32} {r0 : Int32} {M0 : MX} (hj : j_O_arrive n M a1 = some (r0, M0)) : gw_Cz l y_O_arrive ws_O_arrive rm_O_arrive D (tyX cI cT) (wX cI cT ad M) [.ref (ad 0), .int a1] r0 (wX cI cT ad M0) := by
  intro sz
  refine gw_metz (cc := b_O_arrive) (maxL := 3) (by decide) rfl (Nat.le_of_ble_eq_true rfl) ?_
  intro p e s m args below meth c A Q S H locs hw hend ls hl
  have S : CallFix p m c b_O_arrive 3 s args ws_O_arrive R_O := S
  have hx := S.1
  have hb := S.2.1
  have hts := S.2.2.2.2
  have hl : lv_has ls 3 [(0, .ref (ad 0)), (1, .int a1)] := hl
  have n_T_O : ∀ w ∈ u_ws R_O T_O 3, w ∈ ws_O_arrive := fun w h => List.mem_cons_of_mem _ (uT_O w h)
  have f_10 : Cond.fieldLink R_O 10 (T_O 0).1 (T_O 0).2.1 (T_O 0).2.2.1 ∈ ws_O_arrive := List.mem_cons_of_mem _ xw_42
  have f_28 : Cond.fieldLink R_O 28 (T_O 2).1 (T_O 2).2.1 (T_O 2).2.2.1 ∈ ws_O_arrive := List.mem_cons_of_mem _ xw_43
  have w_50 : CallW rm_O_arrive s args R_O R_S 50 y_S_find b_S_find 3 (some (.object "SegmentKernel$Task")) ws_S_find rm_S_find 0 0 1 := cwV 1 hts (wB_callV (fun w h => List.mem_cons_of_mem _ h) xw_26 xw_105 xw_28 xw_29 xw_14) rfl rfl rfl (by decide +kernel) ⟨Nat.le_of_ble_eq_true rfl, Nat.le_of_ble_eq_true rfl⟩
  have w_80 : CallW rm_O_arrive s args R_O R_S 80 y_S_isReady b_S_isReady 2 (some .boolean) ws_S_isReady rm_S_isReady 0 0 0 := cwV 0 hts (wB_callV (fun w h => List.mem_cons_of_mem _ h) xw_210 xw_211 xw_212 xw_213 xw_14) rfl rfl rfl (by decide +kernel) ⟨Nat.le_of_ble_eq_true rfl, Nat.le_of_ble_eq_true rfl⟩
  have w_114 : CallW rm_O_arrive s args R_O R_K 114 y_K_accept b_K_accept 2 (some .boolean) ws_K_accept rm_K_accept 0 0 1 := cwV 1 hts (wB_callV (fun w h => List.mem_cons_of_mem _ h) xw_214 xw_215 xw_216 xw_217 xw_82) rfl rfl rfl (by decide +kernel) ⟨Nat.le_of_ble_eq_true rfl, Nat.le_of_ble_eq_true rfl⟩
  unfold j_O_arrive at hj
  refine lv_aload_n hx hb d_O_arrive_0 rfl (lv_at hl 0 rfl) ?_
  refine gw_get (v := .ref (ad 1)) S hw xa_O rfl (by decide) n_T_O f_10 rfl d_O_arrive_1 ?_
  refine lv_iload_n hx hb d_O_arrive_4 rfl (lv_at hl 1 rfl) ?_
  obtain ⟨r_2, e_1, hj⟩ := Option.bind_eq_some_iff.mp hj
  refine gw_callq (As := [.int a1]) (rest := []) S hw (c_S_find e_1) w_50 xa_S rfl rfl hl.1 rfl (Nat.le_of_ble_eq_true rfl) d_O_arrive_5 (fun H locs hw => ?_)
  refine gw_astore_n (lv' := [(2, va_rf (gw_oa ad r_2)), (0, .ref (ad 0)), (1, .int a1)]) hx hb d_O_arrive_8 rfl hl (by decide) rfl (fun ls hl => ?_)
  refine gw_aload_n hx hb d_O_arrive_9 rfl (lv_at hl 0 rfl) ?_
  rcases r_2 with _ | y_3
  · rw [gw_oc_none rfl] at hj
    refine lv_ifnullN (tgt := 38) hx hb d_O_arrive_10 (by decide) ?_
    refine lv_iconst (v := 0) hx hb d_O_arrive_38 (by decide) ?_
    exact hend H locs ls 39 _ _ (Prod.mk.inj (Option.some.inj hj)).1 (congrArg (wX cI cT ad) (Prod.mk.inj (Option.some.inj hj)).2) (Or.inl rfl) hw d_O_arrive_39
  · rw [gw_oc_some rfl] at hj
    refine lv_ifnull hx hb d_O_arrive_10 ?_
    refine lv_aload_n hx hb d_O_arrive_13 rfl (lv_at hl 1 rfl) ?_
    refine gw_get (v := .ref (ad 1)) S hw xa_O rfl (by decide) n_T_O f_10 rfl d_O_arrive_14 ?_
    obtain ⟨r_5, e_4, hj⟩ := Option.bind_eq_some_iff.mp hj
    refine gw_calli (As := []) (rest := []) S hw (c_S_isReady e_4) w_80 xa_S rfl rfl hl.1 rfl (Nat.le_of_ble_eq_true rfl) d_O_arrive_17 (fun H locs hw => ?_)
    refine lv_if_eq (tgt := 38) hx hb d_O_arrive_20 (by decide) (fun c_6 => ?_) (fun c_6 => ?_)
    · rw [if_pos c_6] at hj
      refine lv_iconst (v := 0) hx hb d_O_arrive_38 (by decide) ?_
      exact hend H locs ls 39 _ _ (Prod.mk.inj (Option.some.inj hj)).1 (congrArg (wX cI cT ad) (Prod.mk.inj (Option.some.inj hj)).2) (Or.inl rfl) hw d_O_arrive_39
    · rw [if_neg c_6] at hj
      refine lv_aload_n hx hb d_O_arrive_23 rfl (lv_at hl 1 rfl) ?_
      refine gw_get (v := .ref (ad 5)) S hw xa_O rfl (by decide) n_T_O f_28 rfl d_O_arrive_24 ?_
      refine lv_aload_n hx hb d_O_arrive_27 rfl (lv_at hl 0 rfl) ?_
      obtain ⟨q_8, e_7, hj⟩ := Option.bind_eq_some_iff.mp hj
      refine gw_calli (As := [.ref (ad (6 + y_3.val))]) (rest := []) S hw (c_K_accept e_7) w_114 xa_K rfl rfl hl.1 rfl (Nat.le_of_ble_eq_true rfl) d_O_arrive_28 (fun H locs hw => ?_)
      refine lv_if_eq (tgt := 38) hx hb d_O_arrive_31 (by decide) (fun c_9 => ?_) (fun c_9 => ?_)
      · rw [if_pos c_9] at hj
        refine lv_iconst (v := 0) hx hb d_O_arrive_38 (by decide) ?_
        exact hend H locs ls 39 _ _ (Prod.mk.inj (Option.some.inj hj)).1 (congrArg (wX cI cT ad) (Prod.mk.inj (Option.some.inj hj)).2) (Or.inl rfl) hw d_O_arrive_39
      · rw [if_neg c_9] at hj
        refine lv_iconst (v := 1) hx hb d_O_arrive_34 (by decide) ?_
        refine lv_goto (tgt := 39) hx hb d_O_arrive_35 (by decide) ?_
        exact hend H locs ls 39 _ _ (Prod.mk.inj (Option.some.inj hj)).1 (congrArg (wX cI cT ad) (Prod.mk.inj (Option.some.inj hj)).2) (Or.inr rfl) hw d_O_arrive_39
abbrev rm_J_hasOpen : Room := { frames := 0, cells := 0, slots := 0, locals := 0 }
def ws_J_hasOpen : List Cond := Cond.code y_J_hasOpen b_J_hasOpen 1 (some .boolean) :: wB
set_option maxHeartbeats 4000000 in
set_option maxRecDepth 100000 in
theorem c_J_hasOpen {l : Launch} {D : va_G} {cI cT : ClassId} {ad : Nat → Nat} {n : Nat} {M : MX} {x0 : Fin 8} {r0 : Int32} (hj : j_J_hasOpen n M x0 = some r0) : gw_Cz l y_J_hasOpen ws_J_hasOpen rm_J_hasOpen D (tyX cI cT) (wX cI cT ad M) [.ref (ad (14 + x0.val))] r0 (wX cI cT ad M) := by
  intro sz
  refine gw_metz (cc := b_J_hasOpen) (maxL := 1) (by decide) rfl (Nat.le_of_ble_eq_true rfl) ?_
  intro p e s m args below meth c A Q S H locs hw hend ls hl
  have S : CallFix p m c b_J_hasOpen 1 s args ws_J_hasOpen R_J := S
  have hx := S.1
  have hb := S.2.1
  have hts := S.2.2.2.2
  have hl : lv_has ls 1 [(0, .ref (ad (14 + x0.val)))] := hl
  have n_T_J : ∀ w ∈ u_ws R_J T_J 8, w ∈ ws_J_hasOpen := fun w h => List.mem_cons_of_mem _ (uT_J w h)
  have f_18 : Cond.fieldLink R_J 18 (T_J 2).1 (T_J 2).2.1 (T_J 2).2.2.1 ∈ ws_J_hasOpen := List.mem_cons_of_mem _ xw_58
  have f_22 : Cond.fieldLink R_J 22 (T_J 3).1 (T_J 3).2.1 (T_J 3).2.2.1 ∈ ws_J_hasOpen := List.mem_cons_of_mem _ xw_59
  unfold j_J_hasOpen at hj
  refine lv_aload_n hx hb d_J_hasOpen_0 rfl (lv_at hl 0 rfl) ?_
  refine gw_get (v := .int (M.1 1 x0 3)) S hw (xa_J x0) rfl (by decide) n_T_J f_22 rfl d_J_hasOpen_1 ?_
  refine lv_aload_n hx hb d_J_hasOpen_4 rfl (lv_at hl 0 rfl) ?_
  refine gw_get (v := .int (M.1 1 x0 2)) S hw (xa_J x0) rfl (by decide) n_T_J f_18 rfl d_J_hasOpen_5 ?_
  refine lv_icmp_ge (tgt := 15) hx hb d_J_hasOpen_8 (by decide) (fun c_1 => ?_) (fun c_1 => ?_)
  · rw [if_pos c_1] at hj
    refine lv_iconst (v := 0) hx hb d_J_hasOpen_15 (by decide) ?_
    exact hend H locs ls 16 _ _ (Option.some.inj hj) rfl (Or.inl rfl) hw d_J_hasOpen_16
  · rw [if_neg c_1] at hj
    refine lv_iconst (v := 1) hx hb d_J_hasOpen_11 (by decide) ?_
    refine lv_goto (tgt := 16) hx hb d_J_hasOpen_12 (by decide) ?_
    exact hend H locs ls 16 _ _ (Option.some.inj hj) rfl (Or.inr rfl) hw d_J_hasOpen_16
