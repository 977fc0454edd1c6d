abbrev rm_S_hasPriority : Room := { frames := 0, cells := 0, slots := 0, locals := 0 }
def ws_S_hasPriority : List Cond := Cond.code y_S_hasPriority b_S_hasPriority 3 (some .boolean) :: wB
set_option maxHeartbeats 4000000 in
set_option maxRecDepth 100000 in
theorem c_S_hasPriority {l : Launch} {D : va_G} {cI cT : ClassId} {ad : Nat → Nat} {n : Nat} {M : MX} {a1 : Int32} {r0 : Int32} (hj : j_S_hasPriority n M a1 = some r0) : gw_Cz l y_S_hasPriority ws_S_hasPriority rm_S_hasPriority D (tyX cI cT) (wX cI cT ad M) [.ref (ad 1), .int a1] r0 (wX cI cT ad M) := by
  intro sz
  refine gw_metz (cc := b_S_hasPriority) (maxL := 3) (by decide) rfl (Nat.le_of_ble_eq_true rfl) ?_
  intro p e s m args below meth c A Q S H locs hw hend ls hl
  have S : CallFix p m c b_S_hasPriority 3 s args ws_S_hasPriority R_S := S
  have hx := S.1
  have hb := S.2.1
  have hts := S.2.2.2.2
  have hl : lv_has ls 3 [(0, .ref (ad 1)), (1, .int a1)] := hl
  have n_T_S : ∀ w ∈ u_ws R_S T_S 3, w ∈ ws_S_hasPriority := fun w h => List.mem_cons_of_mem _ (uT_S w h)
  have n_T_T : ∀ w ∈ u_ws R_T T_T 13, w ∈ ws_S_hasPriority := fun w h => List.mem_cons_of_mem _ (uT_T w h)
  have f_17 : Cond.fieldLink R_S 17 (T_S 1).1 (T_S 1).2.1 (T_S 1).2.2.1 ∈ ws_S_hasPriority := List.mem_cons_of_mem _ xw_0
  have f_27 : Cond.fieldLink R_S 27 (T_S 2).1 (T_S 2).2.1 (T_S 2).2.2.1 ∈ ws_S_hasPriority := List.mem_cons_of_mem _ xw_1
  have f_70 : Cond.fieldLink R_S 70 (T_T 5).1 (T_T 5).2.1 (T_T 5).2.2.1 ∈ ws_S_hasPriority := List.mem_cons_of_mem _ xw_2
  have L2 : ∀ (f2 : Nat) (v2_2 : Int32), j_S_hasPriority_L2 n M a1 f2 v2_2 = some r0 → ∀ (H : Heap) (locs : List Loc), gw_W D (tyX cI cT) A (wX cI cT ad M) s H locs → ∀ ls : Array Slot, lv_has ls 3 [(0, .ref (ad 1)), (1, .int a1), (2, .int v2_2)] → W p l e rm_S_hasPriority s m args below meth c H locs 0 0 Q (F0 m 2 ls []) := by
    intro f2
    induction f2 with
    | zero =>
      intro v2_2 hj
      exact nomatch (show (none : Option Int32) = some r0 from hj)
    | succ f2 ih2 =>
      intro v2_2 hj H locs hw ls hl
      rw [j_S_hasPriority_L2] at hj
      refine lv_iload_n hx hb d_S_hasPriority_2 rfl (lv_at hl 2 rfl) ?_
      refine lv_aload_n hx hb d_S_hasPriority_3 rfl (lv_at hl 0 rfl) ?_
      refine gw_get (v := .int (M.2.1 0 2)) S hw xa_S rfl (by decide) n_T_S f_27 rfl d_S_hasPriority_4 ?_
      refine lv_icmp_ge (tgt := 31) hx hb d_S_hasPriority_7 (by decide) (fun c_1 => ?_) (fun c_1 => ?_)
      · rw [if_pos c_1] at hj
        refine lv_iconst (v := 0) hx hb d_S_hasPriority_31 (by decide) ?_
        exact hend H locs ls 32 _ _ (Option.some.inj hj) rfl (Or.inl rfl) hw d_S_hasPriority_32
      · rw [if_neg c_1] at hj
        refine lv_aload_n hx hb d_S_hasPriority_10 rfl (lv_at hl 0 rfl) ?_
        refine gw_get (v := .ref (ad 3)) S hw xa_S rfl (by decide) n_T_S f_17 rfl d_S_hasPriority_11 ?_
        refine lv_iload_n hx hb d_S_hasPriority_14 rfl (lv_at hl 2 rfl) ?_
        obtain ⟨g_2, hj⟩ := gw_if hj
        refine gw_aldq (t0 := 1) S hw ⟨xa_rk, rfl⟩ g_2 d_S_hasPriority_15 ?_
        refine gw_get (v := .int (M.1 0 (M.2.2.1 v2_2.toNatClampNeg) 5)) S hw (xa_T (M.2.2.1 v2_2.toNatClampNeg)) rfl (by decide) n_T_T f_70 rfl d_S_hasPriority_16 ?_
        refine lv_iload_n hx hb d_S_hasPriority_19 rfl (lv_at hl 1 rfl) ?_
        refine lv_icmp_ne (tgt := 25) hx hb d_S_hasPriority_20 (by decide) (fun c_3 => ?_) (fun c_3 => ?_)
        · rw [if_neg c_3] at hj
          refine lv_iinc (v := (v2_2 + 1)) (lv' := [(2, .int (v2_2 + 1)), (0, .ref (ad 1)), (1, .int a1)]) hx hb d_S_hasPriority_25 hl (k := 2) rfl rfl (by decide) rfl (fun ls hl => ?_)
          refine lv_goto (tgt := 2) hx hb d_S_hasPriority_28 (by decide) ?_
          exact ih2 (v2_2 + 1) hj H locs hw ls (lv_sub hl [1, 2, 0] rfl)
        · rw [if_pos c_3] at hj
          refine lv_iconst (v := 1) hx hb d_S_hasPriority_23 (by decide) ?_
          exact hend H locs ls 24 _ _ (Option.some.inj hj) rfl (Or.inr rfl) hw d_S_hasPriority_24
  unfold j_S_hasPriority at hj
  refine lv_iconst (v := 0) hx hb d_S_hasPriority_0 (by decide) ?_
  refine lv_istore_n (lv' := [(2, .int 0), (0, .ref (ad 1)), (1, .int a1)]) hx hb d_S_hasPriority_1 rfl hl (by decide) rfl (fun ls hl => ?_)
  exact L2 n 0 hj H locs hw ls (lv_sub hl [1, 2, 0] rfl)
abbrev rm_S_find : Room := { frames := 0, cells := 0, slots := 0, locals := 0 }
def ws_S_find : List Cond := Cond.code y_S_find b_S_find 3 (some (.object "SegmentKernel$Task")) :: wB
set_option maxHeartbeats 4000000 in
set_option maxRecDepth 100000 in
theorem c_S_find {l : Launch} {D : va_G} {cI cT : ClassId} {ad : Nat → Nat} {n : Nat} {M : MX} {a1 : Int32} {r0 : Option (Fin 8)} (hj : j_S_find n M a1 = some r0) : gw_Cq l y_S_find ws_S_find rm_S_find D (tyX cI cT) (wX cI cT ad M) [.ref (ad 1), .int a1] (gw_oa ad r0) (wX cI cT ad M) := by
  intro sz
  refine gw_metq (cc := b_S_find) (maxL := 3) (by decide) rfl (Nat.le_of_ble_eq_true rfl) ?_
  intro p e s m args below meth c A Q S H locs hw hend ls hl
  have S : CallFix p m c b_S_find 3 s args ws_S_find R_S := S
  have hx := S.1
  have hb := S.2.1
  have hts := S.2.2.2.2
  have hl : lv_has ls 3 [(0, .ref (ad 1)), (1, .int a1)] := hl
  have n_T_S : ∀ w ∈ u_ws R_S T_S 3, w ∈ ws_S_find := fun w h => List.mem_cons_of_mem _ (uT_S w h)
  have n_T_T : ∀ w ∈ u_ws R_T T_T 13, w ∈ ws_S_find := fun w h => List.mem_cons_of_mem _ (uT_T w h)
  have f_11 : Cond.fieldLink R_S 11 (T_S 0).1 (T_S 0).2.1 (T_S 0).2.2.1 ∈ ws_S_find := List.mem_cons_of_mem _ xw_3
  have f_23 : Cond.fieldLink R_S 23 (T_T 8).1 (T_T 8).2.1 (T_T 8).2.2.1 ∈ ws_S_find := List.mem_cons_of_mem _ xw_4
  have f_27 : Cond.fieldLink R_S 27 (T_S 2).1 (T_S 2).2.1 (T_S 2).2.2.1 ∈ ws_S_find := List.mem_cons_of_mem _ xw_1
  unfold j_S_find at hj
  refine lv_iload_n hx hb d_S_find_0 rfl (lv_at hl 1 rfl) ?_
  refine lv_iconst (v := 1) hx hb d_S_find_1 (by decide) ?_
  refine lv_icmp_lt (tgt := 11) hx hb d_S_find_2 (by decide) (fun c_1 => ?_) (fun c_1 => ?_)
  · rw [if_pos c_1] at hj
    refine lv_null hx hb d_S_find_11 ?_
    exact hend H locs ls 12 _ _ (congrArg (gw_oa ad) (Option.some.inj hj)) rfl hw d_S_find_12
  · rw [if_neg c_1] at hj
    refine lv_iload_n hx hb d_S_find_5 rfl (lv_at hl 1 rfl) ?_
    refine lv_bipush (v := 8) hx hb d_S_find_6 (by decide) ?_
    refine lv_icmp_le (tgt := 13) hx hb d_S_find_8 (by decide) (fun c_2 => ?_) (fun c_2 => ?_)
    · rw [if_pos c_2] at hj
      refine lv_aload_n hx hb d_S_find_13 rfl (lv_at hl 0 rfl) ?_
      refine gw_get (v := .ref (ad 2)) S hw xa_S rfl (by decide) n_T_S f_11 rfl d_S_find_14 ?_
      refine lv_iload_n hx hb d_S_find_17 rfl (lv_at hl 1 rfl) ?_
      refine lv_iconst (v := 1) hx hb d_S_find_18 (by decide) ?_
      refine lv_isub hx hb d_S_find_19 ?_
      obtain ⟨g_3, hj⟩ := gw_if hj
      refine gw_aldq (t0 := 1) S hw ⟨xa_by, rfl⟩ g_3 d_S_find_20 ?_
      refine lv_astore_n (lv' := [(2, .ref (ad (6 + (fin8 (a1 - 1).toNatClampNeg).val))), (0, .ref (ad 1)), (1, .int a1)]) hx hb d_S_find_21 rfl hl (by decide) rfl (fun ls hl => ?_)
      refine lv_aload_n hx hb d_S_find_22 rfl (lv_at hl 0 rfl) ?_
      refine gw_get (v := .int (M.1 0 (fin8 (a1 - 1).toNatClampNeg) 8)) S hw (xa_T (fin8 (a1 - 1).toNatClampNeg)) rfl (by decide) n_T_T f_23 rfl d_S_find_23 ?_
      refine lv_aload_n hx hb d_S_find_26 rfl (lv_at hl 1 rfl) ?_
      refine gw_get (v := .int (M.2.1 0 2)) S hw xa_S rfl (by decide) n_T_S f_27 rfl d_S_find_27 ?_
      refine lv_icmp_ge (tgt := 37) hx hb d_S_find_30 (by decide) (fun c_4 => ?_) (fun c_4 => ?_)
      · rw [if_pos c_4] at hj
        refine lv_null hx hb d_S_find_37 ?_
        exact hend H locs ls 38 _ _ (congrArg (gw_oa ad) (Option.some.inj hj)) rfl hw d_S_find_38
      · rw [if_neg c_4] at hj
        refine lv_aload_n hx hb d_S_find_33 rfl (lv_at hl 0 rfl) ?_
        refine lv_goto (tgt := 38) hx hb d_S_find_34 (by decide) ?_
        exact hend H locs ls 38 _ _ (congrArg (gw_oa ad) (Option.some.inj hj)) rfl hw d_S_find_38
    · rw [if_neg c_2] at hj
      refine lv_null hx hb d_S_find_11 ?_
      exact hend H locs ls 12 _ _ (congrArg (gw_oa ad) (Option.some.inj hj)) rfl hw d_S_find_12
abbrev rm_T_become : Room := { frames := 0, cells := 0, slots := 0, locals := 0 }
def ws_T_become : List Cond := Cond.code y_T_become b_T_become 4 none :: wB
set_option maxHeartbeats 4000000 in
set_option maxRecDepth 100000 in
theorem c_T_become {l : Launch} {D : va_G} {cI cT : ClassId} {ad : Nat → Nat} {n : Nat} {M : MX} {x0 : Fin 8} {a1 : Int32} {a2 : Int32} {a3 : Int32} {M0 : MX} (hj : j_T_become n M x0 a1 a2 a3 = some M0) : gw_Cv l y_T_become ws_T_become rm_T_become D (tyX cI cT) (wX cI cT ad M) [.ref (ad (6 + x0.val)), .int a1, .int a2, .int a3] (wX cI cT ad M0) := by
  intro sz
  refine gw_metv (cc := b_T_become) (maxL := 4) (by decide) rfl (Nat.le_of_ble_eq_true rfl) ?_
  intro p e s m args below meth c A Q S H locs hw hend ls hl
  have S : CallFix p m c b_T_become 4 s args ws_T_become R_T := S
  have hx := S.1
  have hb := S.2.1
  have hts := S.2.2.2.2
  have hl : lv_has ls 4 [(0, .ref (ad (6 + x0.val))), (1, .int a1), (2, .int a2), (3, .int a3)] := hl
  have n_T_T : ∀ w ∈ u_ws R_T T_T 13, w ∈ ws_T_become := fun w h => List.mem_cons_of_mem _ (uT_T w h)
  have f_35 : Cond.fieldLink R_T 35 (T_T 3).1 (T_T 3).2.1 (T_T 3).2.2.1 ∈ ws_T_become := List.mem_cons_of_mem _ xw_5
  have f_38 : Cond.fieldLink R_T 38 (T_T 4).1 (T_T 4).2.1 (T_T 4).2.2.1 ∈ ws_T_become := List.mem_cons_of_mem _ xw_6
  have f_41 : Cond.fieldLink R_T 41 (T_T 5).1 (T_T 5).2.1 (T_T 5).2.2.1 ∈ ws_T_become := List.mem_cons_of_mem _ xw_7
  have f_44 : Cond.fieldLink R_T 44 (T_T 6).1 (T_T 6).2.1 (T_T 6).2.2.1 ∈ ws_T_become := List.mem_cons_of_mem _ xw_8
  have f_47 : Cond.fieldLink R_T 47 (T_T 7).1 (T_T 7).2.1 (T_T 7).2.2.1 ∈ ws_T_become := List.mem_cons_of_mem _ xw_9
  unfold j_T_become at hj
  refine lv_aload_n hx hb d_T_become_0 rfl (lv_at hl 0 rfl) ?_
  refine lv_iload_n hx hb d_T_become_1 rfl (lv_at hl 1 rfl) ?_
  refine gw_put (v := .int a1) (ty := .int) S hw (xa_T x0) rfl (by decide) n_T_T f_35 tk_T nm_T rfl (by decide +kernel) rfl rfl (Nat.le_of_ble_eq_true rfl) (xs_T x0 3 a1 (by decide)) d_T_become_2 (fun H locs hw => ?_)
  refine lv_aload_n hx hb d_T_become_5 rfl (lv_at hl 0 rfl) ?_
  refine lv_iload_n hx hb d_T_become_6 rfl (lv_at hl 2 rfl) ?_
  refine gw_put (v := .int a2) (ty := .int) S hw (xa_T x0) rfl (by decide) n_T_T f_38 tk_T nm_T rfl (by decide +kernel) rfl rfl (Nat.le_of_ble_eq_true rfl) (xs_T x0 4 a2 (by decide)) d_T_become_7 (fun H locs hw => ?_)
  refine lv_aload_n hx hb d_T_become_10 rfl (lv_at hl 0 rfl) ?_
  refine lv_iload_n hx hb d_T_become_11 rfl (lv_at hl 3 rfl) ?_
  refine gw_put (v := .int a3) (ty := .int) S hw (xa_T x0) rfl (by decide) n_T_T f_41 tk_T nm_T rfl (by decide +kernel) rfl rfl (Nat.le_of_ble_eq_true rfl) (xs_T x0 5 a3 (by decide)) d_T_become_12 (fun H locs hw => ?_)
  refine lv_aload_n hx hb d_T_become_15 rfl (lv_at hl 0 rfl) ?_
  refine lv_iconst (v := 0) hx hb d_T_become_16 (by decide) ?_
  refine gw_put (v := .int 0) (ty := .int) S hw (xa_T x0) rfl (by decide) n_T_T f_44 tk_T nm_T rfl (by decide +kernel) rfl rfl (Nat.le_of_ble_eq_true rfl) (xs_T x0 6 0 (by decide)) d_T_become_17 (fun H locs hw => ?_)
  refine lv_aload_n hx hb d_T_become_20 rfl (lv_at hl 0 rfl) ?_
  refine lv_iconst (v := 0) hx hb d_T_become_21 (by decide) ?_
  refine gw_put (v := .int 0) (ty := .int) S hw (xa_T x0) rfl (by decide) n_T_T f_47 tk_T nm_T rfl (by decide +kernel) rfl rfl (Nat.le_of_ble_eq_true rfl) (xs_T x0 7 0 (by decide)) d_T_become_22 (fun H locs hw => ?_)
  exact hend H locs ls 25 _ (congrArg (wX cI cT ad) (Option.some.inj hj)) hw d_T_become_25
abbrev rm_S_swap : Room := { frames := 0, cells := 0, slots := 0, locals := 0 }
def ws_S_swap : List Cond := Cond.code y_S_swap b_S_swap 4 none :: wB
set_option maxHeartbeats 4000000 in
set_option maxRecDepth 100000 in
theorem c_S_swap {l : Launch} {D : va_G} {cI cT : ClassId} {ad : Nat → Nat} {n : Nat} {M : MX} {a1 : Int32} {a2 : Int32} {M0 : MX} (hj : j_S_swap n M a1 a2 = some M0) : gw_Cv l y_S_swap ws_S_swap rm_S_swap D (tyX cI cT) (wX cI cT ad M) [.ref (ad 1), .int a1, .int a2] (wX cI cT ad M0) := by
  intro sz
  refine gw_metv (cc := b_S_swap) (maxL := 4) (by decide) rfl (Nat.le_of_ble_eq_true rfl) ?_
  intro p e s m args below meth c A Q S H locs hw hend ls hl
  have S : CallFix p m c b_S_swap 4 s args ws_S_swap R_S := S
  have hx := S.1
  have hb := S.2.1
  have hts := S.2.2.2.2
  have hl : lv_has ls 4 [(0, .ref (ad 1)), (1, .int a1), (2, .int a2)] := hl
  have n_T_S : ∀ w ∈ u_ws R_S T_S 3, w ∈ ws_S_swap := fun w h => List.mem_cons_of_mem _ (uT_S w h)
  have n_T_T : ∀ w ∈ u_ws R_T T_T 13, w ∈ ws_S_swap := fun w h => List.mem_cons_of_mem _ (uT_T w h)
  have f_17 : Cond.fieldLink R_S 17 (T_S 1).1 (T_S 1).2.1 (T_S 1).2.2.1 ∈ ws_S_swap := List.mem_cons_of_mem _ xw_0
  have f_23 : Cond.fieldLink R_S 23 (T_T 8).1 (T_T 8).2.1 (T_T 8).2.2.1 ∈ ws_S_swap := List.mem_cons_of_mem _ xw_4
  unfold j_S_swap at hj
  refine lv_aload_n hx hb d_S_swap_0 rfl (lv_at hl 0 rfl) ?_
  refine gw_get (v := .ref (ad 3)) S hw xa_S rfl (by decide) n_T_S f_17 rfl d_S_swap_1 ?_
  refine lv_iload_n hx hb d_S_swap_4 rfl (lv_at hl 1 rfl) ?_
  obtain ⟨g_1, hj⟩ := gw_if hj
  refine gw_aldq (t0 := 1) S hw ⟨xa_rk, rfl⟩ g_1 d_S_swap_5 ?_
  refine lv_astore_n (lv' := [(3, .ref (ad (6 + (M.2.2.1 a1.toNatClampNeg).val))), (0, .ref (ad 1)), (1, .int a1), (2, .int a2)]) hx hb d_S_swap_6 rfl hl (by decide) rfl (fun ls hl => ?_)
  refine lv_aload_n hx hb d_S_swap_7 rfl (lv_at hl 1 rfl) ?_
  refine gw_get (v := .ref (ad 3)) S hw xa_S rfl (by decide) n_T_S f_17 rfl d_S_swap_8 ?_
  refine lv_iload_n hx hb d_S_swap_11 rfl (lv_at hl 2 rfl) ?_
  refine lv_aload_n hx hb d_S_swap_12 rfl (lv_at hl 1 rfl) ?_
  refine gw_get (v := .ref (ad 3)) S hw xa_S rfl (by decide) n_T_S f_17 rfl d_S_swap_13 ?_
  refine lv_iload_n hx hb d_S_swap_16 rfl (lv_at hl 3 rfl) ?_
  obtain ⟨g_2, hj⟩ := gw_if hj
  refine gw_aldq (t0 := 1) S hw ⟨xa_rk, rfl⟩ g_2 d_S_swap_17 ?_
  obtain ⟨g_3, hj⟩ := gw_if hj
  refine gw_astq (t0 := 1) S hw ⟨xa_rk, rfl⟩ (xa_T (M.2.2.1 a2.toNatClampNeg)) rfl g_3 (xs_rk a1.toNatClampNeg (M.2.2.1 a2.toNatClampNeg)) d_S_swap_18 (fun H locs hw => ?_)
  refine lv_aload_n hx hb d_S_swap_19 rfl (lv_at hl 1 rfl) ?_
  refine gw_get (v := .ref (ad 3)) S hw xa_S rfl (by decide) n_T_S f_17 rfl d_S_swap_20 ?_
  refine lv_iload_n hx hb d_S_swap_23 rfl (lv_at hl 3 rfl) ?_
  refine lv_aload_n hx hb d_S_swap_24 rfl (lv_at hl 0 rfl) ?_
  obtain ⟨g_4, hj⟩ := gw_if hj
  refine gw_astq (t0 := 1) S hw ⟨xa_rk, rfl⟩ (xa_T (M.2.2.1 a1.toNatClampNeg)) rfl g_4 (xs_rk a2.toNatClampNeg (M.2.2.1 a1.toNatClampNeg)) d_S_swap_25 (fun H locs hw => ?_)
  refine lv_aload_n hx hb d_S_swap_26 rfl (lv_at hl 1 rfl) ?_
  refine gw_get (v := .ref (ad 3)) S hw xa_S rfl (by decide) n_T_S f_17 rfl d_S_swap_27 ?_
  refine lv_iload_n hx hb d_S_swap_30 rfl (lv_at hl 2 rfl) ?_
  obtain ⟨g_5, hj⟩ := gw_if hj
  refine gw_aldq (t0 := 1) S hw ⟨xa_rk, rfl⟩ g_5 d_S_swap_31 ?_
  refine lv_iload_n hx hb d_S_swap_32 rfl (lv_at hl 2 rfl) ?_
  refine gw_put (v := .int a1) (ty := .int) S hw (xa_T ((sR (sR M a1.toNatClampNeg (M.2.2.1 a2.toNatClampNeg)) a2.toNatClampNeg (M.2.2.1 a1.toNatClampNeg)).2.2.1 a1.toNatClampNeg)) rfl (by decide) n_T_T f_23 tk_T nm_T rfl (by decide +kernel) rfl rfl (Nat.le_of_ble_eq_true rfl) (xs_T ((sR (sR M a1.toNatClampNeg (M.2.2.1 a2.toNatClampNeg)) a2.toNatClampNeg (M.2.2.1 a1.toNatClampNeg)).2.2.1 a1.toNatClampNeg) 8 a1 (by decide)) d_S_swap_33 (fun H locs hw => ?_)
  refine lv_aload_n hx hb d_S_swap_36 rfl (lv_at hl 1 rfl) ?_
  refine gw_get (v := .ref (ad 3)) S hw xa_S rfl (by decide) n_T_S f_17 rfl d_S_swap_37 ?_
  refine lv_iload_n hx hb d_S_swap_40 rfl (lv_at hl 3 rfl) ?_
  obtain ⟨g_6, hj⟩ := gw_if hj
  refine gw_aldq (t0 := 1) S hw ⟨xa_rk, rfl⟩ g_6 d_S_swap_41 ?_
  refine lv_iload_n hx hb d_S_swap_42 rfl (lv_at hl 3 rfl) ?_
  refine gw_put (v := .int a2) (ty := .int) S hw (xa_T ((sF (sR (sR M a1.toNatClampNeg (M.2.2.1 a2.toNatClampNeg)) a2.toNatClampNeg (M.2.2.1 a1.toNatClampNeg)) 0 ((sR (sR M a1.toNatClampNeg (M.2.2.1 a2.toNatClampNeg)) a2.toNatClampNeg (M.2.2.1 a1.toNatClampNeg)).2.2.1 a1.toNatClampNeg) 8 a1).2.2.1 a2.toNatClampNeg)) rfl (by decide) n_T_T f_23 tk_T nm_T rfl (by decide +kernel) rfl rfl (Nat.le_of_ble_eq_true rfl) (xs_T ((sF (sR (sR M a1.toNatClampNeg (M.2.2.1 a2.toNatClampNeg)) a2.toNatClampNeg (M.2.2.1 a1.toNatClampNeg)) 0 ((sR (sR M a1.toNatClampNeg (M.2.2.1 a2.toNatClampNeg)) a2.toNatClampNeg (M.2.2.1 a1.toNatClampNeg)).2.2.1 a1.toNatClampNeg) 8 a1).2.2.1 a2.toNatClampNeg) 8 a2 (by decide)) d_S_swap_43 (fun H locs hw => ?_)
  exact hend H locs ls 46 _ (congrArg (wX cI cT ad) (Option.some.inj hj)) hw d_S_swap_46
abbrev rm_S_place : Room := { frames := 1, cells := 0, slots := 0, locals := 23 }
def ws_S_place : List Cond := Cond.code y_S_place b_S_place 3 none :: wB
set_option maxHeartbeats 4000000 in
set_option maxRecDepth 100000 in
theorem c_S_place {l : Launch} {D : va_G} {cI cT : ClassId} {ad : Nat → Nat} {n : Nat} {M : MX} {x1 : Fin 8} {M0 : MX} (hj : j_S_place n M x1 = some M0) : gw_Cv l y_S_place ws_S_place rm_S_place D (tyX cI cT) (wX cI cT ad M) [.ref (ad 1), .ref (ad (6 + x1.val))] (wX cI cT ad M0) := by
  intro sz
  refine gw_metv (cc := b_S_place) (maxL := 3) (by decide) rfl (Nat.le_of_ble_eq_true rfl) ?_
  intro p e s m args below meth c A Q S H locs hw hend ls hl
  have S : CallFix p m c b_S_place 3 s args ws_S_place R_S := S
  have hx := S.1
  have hb := S.2.1
  have hts := S.2.2.2.2
  have hl : lv_has ls 3 [(0, .ref (ad 1)), (1, .ref (ad (6 + x1.val)))] := hl
  have n_T_S : ∀ w ∈ u_ws R_S T_S 3, w ∈ ws_S_place := fun w h => List.mem_cons_of_mem _ (uT_S w h)
  have n_T_T : ∀ w ∈ u_ws R_T T_T 13, w ∈ ws_S_place := fun w h => List.mem_cons_of_mem _ (uT_T w h)
  have f_17 : Cond.fieldLink R_S 17 (T_S 1).1 (T_S 1).2.1 (T_S 1).2.2.1 ∈ ws_S_place := List.mem_cons_of_mem _ xw_0
  have f_23 : Cond.fieldLink R_S 23 (T_T 8).1 (T_T 8).2.1 (T_T 8).2.2.1 ∈ ws_S_place := List.mem_cons_of_mem _ xw_4
  have f_27 : Cond.fieldLink R_S 27 (T_S 2).1 (T_S 2).2.1 (T_S 2).2.2.1 ∈ ws_S_place := List.mem_cons_of_mem _ xw_1
  have f_70 : Cond.fieldLink R_S 70 (T_T 5).1 (T_T 5).2.1 (T_T 5).2.2.1 ∈ ws_S_place := List.mem_cons_of_mem _ xw_2
  have w_73 : CallW rm_S_place s args R_S R_S 73 y_S_swap b_S_swap 4 none ws_S_swap rm_S_swap 0 0 2 := cwV 2 hts (wB_callV (fun w h => List.mem_cons_of_mem _ h) xw_10 xw_11 xw_12 xw_13 xw_14) rfl rfl rfl (by decide +kernel) ⟨Nat.le_of_ble_eq_true rfl, Nat.le_of_ble_eq_true rfl⟩
  have L17 : ∀ (f17 : Nat) (v2_17 : Int32) (M17 : MX), j_S_place_L17 n x1 f17 v2_17 M17 = some M0 → ∀ (H : Heap) (locs : List Loc), gw_W D (tyX cI cT) A (wX cI cT ad M17) s H locs → ∀ ls : Array Slot, lv_has ls 3 [(0, .ref (ad 1)), (1, .ref (ad (6 + x1.val))), (2, .int v2_17)] → W p l e rm_S_place s m args below meth c H locs 0 0 Q (F0 m 17 ls []) := by
    intro f17
    induction f17 with
    | zero =>
      intro v2_17 M17 hj
      exact nomatch (show (none : Option MX) = some M0 from hj)
    | succ f17 ih17 =>
      intro v2_17 M17 hj H locs hw ls hl
      rw [j_S_place_L17] at hj
      refine lv_iload_n hx hb d_S_place_17 rfl (lv_at hl 2 rfl) ?_
      refine lv_if_le (tgt := 58) hx hb d_S_place_18 (by decide) (fun c_3 => ?_) (fun c_3 => ?_)
      · rw [if_pos c_3] at hj
        refine lv_aload_n hx hb d_S_place_58 rfl (lv_at hl 0 rfl) ?_
        refine lv_dup hx hb d_S_place_59 rfl ?_
        refine gw_get (v := .int (M17.2.1 0 2)) S hw xa_S rfl (by decide) n_T_S f_27 rfl d_S_place_60 ?_
        refine lv_iconst (v := 1) hx hb d_S_place_63 (by decide) ?_
        refine lv_iadd hx hb d_S_place_64 ?_
        refine gw_put (v := .int ((M17.2.1 0 2) + 1)) (ty := .int) S hw xa_S rfl (by decide) n_T_S f_27 tk_S nm_S rfl (by decide +kernel) rfl rfl (Nat.le_of_ble_eq_true rfl) (xs_S 2 ((M17.2.1 0 2) + 1) (by decide)) d_S_place_65 (fun H locs hw => ?_)
        exact hend H locs ls 68 _ (congrArg (wX cI cT ad) (Option.some.inj hj)) hw d_S_place_68
      · rw [if_neg c_3] at hj
        refine lv_aload_n hx hb d_S_place_21 rfl (lv_at hl 0 rfl) ?_
        refine gw_get (v := .ref (ad 3)) S hw xa_S rfl (by decide) n_T_S f_17 rfl d_S_place_22 ?_
        refine lv_iload_n hx hb d_S_place_25 rfl (lv_at hl 2 rfl) ?_
        refine lv_iconst (v := 1) hx hb d_S_place_26 (by decide) ?_
        refine lv_isub hx hb d_S_place_27 ?_
        obtain ⟨g_4, hj⟩ := gw_if hj
        refine gw_aldq (t0 := 1) S hw ⟨xa_rk, rfl⟩ g_4 d_S_place_28 ?_
        refine gw_get (v := .int (M17.1 0 (M17.2.2.1 (v2_17 - 1).toNatClampNeg) 5)) S hw (xa_T (M17.2.2.1 (v2_17 - 1).toNatClampNeg)) rfl (by decide) n_T_T f_70 rfl d_S_place_29 ?_
        refine lv_aload_n hx hb d_S_place_32 rfl (lv_at hl 0 rfl) ?_
        refine gw_get (v := .ref (ad 3)) S hw xa_S rfl (by decide) n_T_S f_17 rfl d_S_place_33 ?_
        refine lv_iload_n hx hb d_S_place_36 rfl (lv_at hl 2 rfl) ?_
        obtain ⟨g_5, hj⟩ := gw_if hj
        refine gw_aldq (t0 := 1) S hw ⟨xa_rk, rfl⟩ g_5 d_S_place_37 ?_
        refine gw_get (v := .int (M17.1 0 (M17.2.2.1 v2_17.toNatClampNeg) 5)) S hw (xa_T (M17.2.2.1 v2_17.toNatClampNeg)) rfl (by decide) n_T_T f_70 rfl d_S_place_38 ?_
        refine lv_icmp_ge (tgt := 58) hx hb d_S_place_41 (by decide) (fun c_6 => ?_) (fun c_6 => ?_)
        · rw [if_pos c_6] at hj
          refine lv_aload_n hx hb d_S_place_58 rfl (lv_at hl 0 rfl) ?_
          refine lv_dup hx hb d_S_place_59 rfl ?_
          refine gw_get (v := .int (M17.2.1 0 2)) S hw xa_S rfl (by decide) n_T_S f_27 rfl d_S_place_60 ?_
          refine lv_iconst (v := 1) hx hb d_S_place_63 (by decide) ?_
          refine lv_iadd hx hb d_S_place_64 ?_
          refine gw_put (v := .int ((M17.2.1 0 2) + 1)) (ty := .int) S hw xa_S rfl (by decide) n_T_S f_27 tk_S nm_S rfl (by decide +kernel) rfl rfl (Nat.le_of_ble_eq_true rfl) (xs_S 2 ((M17.2.1 0 2) + 1) (by decide)) d_S_place_65 (fun H locs hw => ?_)
          exact hend H locs ls 68 _ (congrArg (wX cI cT ad) (Option.some.inj hj)) hw d_S_place_68
        · rw [if_neg c_6] at hj
          refine lv_aload_n hx hb d_S_place_44 rfl (lv_at hl 0 rfl) ?_
          refine lv_iload_n hx hb d_S_place_45 rfl (lv_at hl 2 rfl) ?_
          refine lv_iconst (v := 1) hx hb d_S_place_46 (by decide) ?_
          refine lv_isub hx hb d_S_place_47 ?_
          refine lv_iload_n hx hb d_S_place_48 rfl (lv_at hl 2 rfl) ?_
          obtain ⟨M_8, e_7, hj⟩ := Option.bind_eq_some_iff.mp hj
          refine gw_callv (As := [.int (v2_17 - 1), .int v2_17]) (rest := []) S hw (c_S_swap e_7) w_73 xa_S rfl rfl hl.1 rfl (Nat.le_of_ble_eq_true rfl) d_S_place_49 (fun H locs hw => ?_)
          refine lv_iinc (v := (v2_17 + (-1))) (lv' := [(2, .int (v2_17 + (-1))), (0, .ref (ad 1)), (1, .ref (ad (6 + x1.val)))]) hx hb d_S_place_52 hl (k := 2) rfl rfl (by decide) rfl (fun ls hl => ?_)
          refine lv_goto (tgt := 17) hx hb d_S_place_55 (by decide) ?_
          exact ih17 (v2_17 + (-1)) M_8 hj H locs hw ls (lv_sub hl [1, 2, 0] rfl)
  unfold j_S_place at hj
  refine lv_aload_n hx hb d_S_place_0 rfl (lv_at hl 0 rfl) ?_
  refine lv_aload_n hx hb d_S_place_1 rfl (lv_at hl 1 rfl) ?_
  refine gw_get (v := .int (M.1 0 x1 8)) S hw (xa_T x1) rfl (by decide) n_T_T f_23 rfl d_S_place_2 ?_
  refine lv_aload_n hx hb d_S_place_5 rfl (lv_at hl 0 rfl) ?_
  refine gw_get (v := .int (M.2.1 0 2)) S hw xa_S rfl (by decide) n_T_S f_27 rfl d_S_place_6 ?_
  obtain ⟨M_2, e_1, hj⟩ := Option.bind_eq_some_iff.mp hj
  refine gw_callv (As := [.int (M.1 0 x1 8), .int (M.2.1 0 2)]) (rest := []) S hw (c_S_swap e_1) w_73 xa_S rfl rfl hl.1 rfl (Nat.le_of_ble_eq_true rfl) d_S_place_9 (fun H locs hw => ?_)
  refine lv_aload_n hx hb d_S_place_12 rfl (lv_at hl 0 rfl) ?_
  refine gw_get (v := .int (M_2.2.1 0 2)) S hw xa_S rfl (by decide) n_T_S f_27 rfl d_S_place_13 ?_
  refine lv_istore_n (lv' := [(2, .int (M_2.2.1 0 2)), (0, .ref (ad 1)), (1, .ref (ad (6 + x1.val)))]) hx hb d_S_place_16 rfl hl (by decide) rfl (fun ls hl => ?_)
  exact L17 n (M_2.2.1 0 2) M_2 hj H locs hw ls (lv_sub hl [1, 2, 0] rfl)
abbrev rm_T_forgetFindings : Room := { frames := 0, cells := 0, slots := 0, locals := 0 }
def ws_T_forgetFindings : List Cond := Cond.code y_T_forgetFindings b_T_forgetFindings 1 none :: wB
set_option maxHeartbeats 4000000 in
set_option maxRecDepth 100000 in
theorem c_T_forgetFindings {l : Launch} {D : va_G} {cI cT : ClassId} {ad : Nat → Nat} {n : Nat} {M : MX} {x0 : Fin 8} {M0 : MX} (hj : j_T_forgetFindings n M x0 = some M0) : gw_Cv l y_T_forgetFindings ws_T_forgetFindings rm_T_forgetFindings D (tyX cI cT) (wX cI cT ad M) [.ref (ad (6 + x0.val))] (wX cI cT ad M0) := by
  intro sz
  refine gw_metv (cc := b_T_forgetFindings) (maxL := 1) (by decide) rfl (Nat.le_of_ble_eq_true rfl) ?_
  intro p e s m args below meth c A Q S H locs hw hend ls hl
  have S : CallFix p m c b_T_forgetFindings 1 s args ws_T_forgetFindings R_T := S
  have hx := S.1
  have hb := S.2.1
  have hts := S.2.2.2.2
  have hl : lv_has ls 1 [(0, .ref (ad (6 + x0.val)))] := hl
  have n_T_T : ∀ w ∈ u_ws R_T T_T 13, w ∈ ws_T_forgetFindings := fun w h => List.mem_cons_of_mem _ (uT_T w h)
  have f_22 : Cond.fieldLink R_T 22 (T_T 9).1 (T_T 9).2.1 (T_T 9).2.2.1 ∈ ws_T_forgetFindings := List.mem_cons_of_mem _ xw_15
  have f_26 : Cond.fieldLink R_T 26 (T_T 12).1 (T_T 12).2.1 (T_T 12).2.2.1 ∈ ws_T_forgetFindings := List.mem_cons_of_mem _ xw_16
  unfold j_T_forgetFindings at hj
  refine lv_aload_n hx hb d_T_forgetFindings_0 rfl (lv_at hl 0 rfl) ?_
  refine lv_bipush (v := -2) hx hb d_T_forgetFindings_1 (by decide) ?_
  refine gw_put (v := .int (-2)) (ty := .int) S hw (xa_T x0) rfl (by decide) n_T_T f_22 tk_T nm_T rfl (by decide +kernel) rfl rfl (Nat.le_of_ble_eq_true rfl) (xs_T x0 9 (-2) (by decide)) d_T_forgetFindings_3 (fun H locs hw => ?_)
  refine lv_aload_n hx hb d_T_forgetFindings_6 rfl (lv_at hl 0 rfl) ?_
  refine lv_bipush (v := -2) hx hb d_T_forgetFindings_7 (by decide) ?_
  refine gw_put (v := .int (-2)) (ty := .int) S hw (xa_T x0) rfl (by decide) n_T_T f_26 tk_T nm_T rfl (by decide +kernel) rfl rfl (Nat.le_of_ble_eq_true rfl) (xs_T x0 12 (-2) (by decide)) d_T_forgetFindings_9 (fun H locs hw => ?_)
  exact hend H locs ls 12 _ (congrArg (wX cI cT ad) (Option.some.inj hj)) hw d_T_forgetFindings_12
abbrev rm_S_forgetFindings : Room := { frames := 1, cells := 0, slots := 0, locals := 20 }
def ws_S_forgetFindings : List Cond := Cond.code y_S_forgetFindings b_S_forgetFindings 2 none :: wB
set_option maxHeartbeats 4000000 in
set_option maxRecDepth 100000 in
theorem c_S_forgetFindings {l : Launch} {D : va_G} {cI cT : ClassId} {ad : Nat → Nat} {n : Nat} {M : MX} {M0 : MX} (hj : j_S_forgetFindings n M = some M0) : gw_Cv l y_S_forgetFindings ws_S_forgetFindings rm_S_forgetFindings D (tyX cI cT) (wX cI cT ad M) [.ref (ad 1)] (wX cI cT ad M0) := by
  intro sz
  refine gw_metv (cc := b_S_forgetFindings) (maxL := 2) (by decide) rfl (Nat.le_of_ble_eq_true rfl) ?_
  intro p e s m args below meth c A Q S H locs hw hend ls hl
  have S : CallFix p m c b_S_forgetFindings 2 s args ws_S_forgetFindings R_S := S
  have hx := S.1
  have hb := S.2.1
  have hts := S.2.2.2.2
  have hl : lv_has ls 2 [(0, .ref (ad 1))] := hl
  have n_T_S : ∀ w ∈ u_ws R_S T_S 3, w ∈ ws_S_forgetFindings := fun w h => List.mem_cons_of_mem _ (uT_S w h)
  have f_17 : Cond.fieldLink R_S 17 (T_S 1).1 (T_S 1).2.1 (T_S 1).2.2.1 ∈ ws_S_forgetFindings := List.mem_cons_of_mem _ xw_0
  have f_27 : Cond.fieldLink R_S 27 (T_S 2).1 (T_S 2).2.1 (T_S 2).2.2.1 ∈ ws_S_forgetFindings := List.mem_cons_of_mem _ xw_1
  have w_52 : CallW rm_S_forgetFindings s args R_S R_T 52 y_T_forgetFindings b_T_forgetFindings 1 none ws_T_forgetFindings rm_T_forgetFindings 0 0 0 := cwV 0 hts (wB_callV (fun w h => List.mem_cons_of_mem _ h) xw_17 xw_18 xw_19 xw_20 xw_21) rfl rfl rfl (by decide +kernel) ⟨Nat.le_of_ble_eq_true rfl, Nat.le_of_ble_eq_true rfl⟩
  have L2 : ∀ (f2 : Nat) (v1_2 : Int32) (M2 : MX), j_S_forgetFindings_L2 n f2 v1_2 M2 = some M0 → ∀ (H : Heap) (locs : List Loc), gw_W D (tyX cI cT) A (wX cI cT ad M2) s H locs → ∀ ls : Array Slot, lv_has ls 2 [(0, .ref (ad 1)), (1, .int v1_2)] → W p l e rm_S_forgetFindings s m args below meth c H locs 0 0 Q (F0 m 2 ls []) := by
    intro f2
    induction f2 with
    | zero =>
      intro v1_2 M2 hj
      exact nomatch (show (none : Option MX) = some M0 from hj)
    | succ f2 ih2 =>
      intro v1_2 M2 hj H locs hw ls hl
      rw [j_S_forgetFindings_L2] at hj
      refine lv_iload_n hx hb d_S_forgetFindings_2 rfl (lv_at hl 1 rfl) ?_
      refine lv_aload_n hx hb d_S_forgetFindings_3 rfl (lv_at hl 0 rfl) ?_
      refine gw_get (v := .int (M2.2.1 0 2)) S hw xa_S rfl (by decide) n_T_S f_27 rfl d_S_forgetFindings_4 ?_
      refine lv_icmp_ge (tgt := 25) hx hb d_S_forgetFindings_7 (by decide) (fun c_1 => ?_) (fun c_1 => ?_)
      · rw [if_pos c_1] at hj
        exact hend H locs ls 25 _ (congrArg (wX cI cT ad) (Option.some.inj hj)) hw d_S_forgetFindings_25
      · rw [if_neg c_1] at hj
        refine lv_aload_n hx hb d_S_forgetFindings_10 rfl (lv_at hl 0 rfl) ?_
        refine gw_get (v := .ref (ad 3)) S hw xa_S rfl (by decide) n_T_S f_17 rfl d_S_forgetFindings_11 ?_
        refine lv_iload_n hx hb d_S_forgetFindings_14 rfl (lv_at hl 1 rfl) ?_
        obtain ⟨g_2, hj⟩ := gw_if hj
        refine gw_aldq (t0 := 1) S hw ⟨xa_rk, rfl⟩ g_2 d_S_forgetFindings_15 ?_
        obtain ⟨M_4, e_3, hj⟩ := Option.bind_eq_some_iff.mp hj
        refine gw_callv (As := []) (rest := []) S hw (c_T_forgetFindings e_3) w_52 (xa_T (M2.2.2.1 v1_2.toNatClampNeg)) rfl rfl hl.1 rfl (Nat.le_of_ble_eq_true rfl) d_S_forgetFindings_16 (fun H locs hw => ?_)
        refine lv_iinc (v := (v1_2 + 1)) (lv' := [(1, .int (v1_2 + 1)), (0, .ref (ad 1))]) hx hb d_S_forgetFindings_19 hl (k := 1) rfl rfl (by decide) rfl (fun ls hl => ?_)
        refine lv_goto (tgt := 2) hx hb d_S_forgetFindings_22 (by decide) ?_
        exact ih2 (v1_2 + 1) M_4 hj H locs hw ls (lv_sub hl [1, 0] rfl)
  unfold j_S_forgetFindings at hj
  refine lv_iconst (v := 0) hx hb d_S_forgetFindings_0 (by decide) ?_
  refine lv_istore_n (lv' := [(1, .int 0), (0, .ref (ad 1))]) hx hb d_S_forgetFindings_1 rfl hl (by decide) rfl (fun ls hl => ?_)
  exact L2 n 0 M hj H locs hw ls (lv_sub hl [1, 0] rfl)
abbrev rm_S_add : Room := { frames := 2, cells := 0, slots := 0, locals := 45 }
def ws_S_add : List Cond := Cond.code y_S_add b_S_add 5 (some .boolean) :: wB
set_option maxHeartbeats 4000000 in
set_option maxRecDepth 100000 in
theorem c_S_add {l : Launch} {D : va_G} {cI cT : ClassId} {ad : Nat → Nat} {n : Nat} {M : MX} {a1 : Int32} {a2 : Int32} {a3 : Int32} {a4 : Int32} {r0 : Int32} {M0 : MX} (hj : j_S_add n M a1 a2 a3 a4 = some (r0, M0)) : gw_Cz l y_S_add ws_S_add rm_S_add D (tyX cI cT) (wX cI cT ad M) [.ref (ad 1), .int a1, .int a2, .int a3, .int a4] r0 (wX cI cT ad M0) := by
  intro sz
  refine gw_metz (cc := b_S_add) (maxL := 5) (by decide) rfl (Nat.le_of_ble_eq_true rfl) ?_
  intro p e s m args below meth c A Q S H locs hw hend ls hl
  have S : CallFix p m c b_S_add 5 s args ws_S_add R_S := S
  have hx := S.1
  have hb := S.2.1
  have hts := S.2.2.2.2
  have hl : lv_has ls 5 [(0, .ref (ad 1)), (1, .int a1), (2, .int a2), (3, .int a3), (4, .int a4)] := hl
  have n_T_S : ∀ w ∈ u_ws R_S T_S 3, w ∈ ws_S_add := fun w h => List.mem_cons_of_mem _ (uT_S w h)
  have f_11 : Cond.fieldLink R_S 11 (T_S 0).1 (T_S 0).2.1 (T_S 0).2.2.1 ∈ ws_S_add := List.mem_cons_of_mem _ xw_3
  have w_30 : CallW rm_S_add s args R_S R_S 30 y_S_hasPriority b_S_hasPriority 3 (some .boolean) ws_S_hasPriority rm_S_hasPriority 0 0 1 := cwV 1 hts (wB_callV (fun w h => List.mem_cons_of_mem _ h) xw_22 xw_23 xw_24 xw_25 xw_14) rfl rfl rfl (by decide +kernel) ⟨Nat.le_of_ble_eq_true rfl, Nat.le_of_ble_eq_true rfl⟩
  have w_34 : CallW rm_S_add s args R_S R_S 34 y_S_find b_S_find 3 (some (.object "SegmentKernel$Task")) ws_S_find rm_S_find 0 0 1 := cwV 1 hts (wB_callV (fun w h => List.mem_cons_of_mem _ h) xw_26 xw_27 xw_28 xw_29 xw_14) rfl rfl rfl (by decide +kernel) ⟨Nat.le_of_ble_eq_true rfl, Nat.le_of_ble_eq_true rfl⟩
  have w_38 : CallW rm_S_add s args R_S R_T 38 y_T_become b_T_become 4 none ws_T_become rm_T_become 0 0 3 := cwV 3 hts (wB_callV (fun w h => List.mem_cons_of_mem _ h) xw_30 xw_31 xw_32 xw_33 xw_21) rfl rfl rfl (by decide +kernel) ⟨Nat.le_of_ble_eq_true rfl, Nat.le_of_ble_eq_true rfl⟩
  have w_42 : CallW rm_S_add s args R_S R_S 42 y_S_place b_S_place 3 none ws_S_place rm_S_place 0 0 1 := cwV 1 hts (wB_callV (fun w h => List.mem_cons_of_mem _ h) xw_34 xw_35 xw_36 xw_37 xw_14) rfl rfl rfl (by decide +kernel) ⟨Nat.le_of_ble_eq_true rfl, Nat.le_of_ble_eq_true rfl⟩
  have w_46 : CallW rm_S_add s args R_S R_S 46 y_S_forgetFindings b_S_forgetFindings 2 none ws_S_forgetFindings rm_S_forgetFindings 0 0 0 := cwV 0 hts (wB_callV (fun w h => List.mem_cons_of_mem _ h) xw_38 xw_39 xw_40 xw_41 xw_14) rfl rfl rfl (by decide +kernel) ⟨Nat.le_of_ble_eq_true rfl, Nat.le_of_ble_eq_true rfl⟩
  unfold j_S_add at hj
  refine lv_iload_n hx hb d_S_add_0 rfl (lv_at hl 1 rfl) ?_
  refine lv_iconst (v := 1) hx hb d_S_add_1 (by decide) ?_
  refine lv_icmp_lt (tgt := 23) hx hb d_S_add_2 (by decide) (fun c_1 => ?_) (fun c_1 => ?_)
  · rw [if_pos c_1] at hj
    refine lv_iconst (v := 0) hx hb d_S_add_23 (by decide) ?_
    exact hend H locs ls 24 _ _ (Prod.mk.inj (Option.some.inj hj)).1 (congrArg (wX cI cT ad) (Prod.mk.inj (Option.some.inj hj)).2) (Or.inl rfl) hw d_S_add_24
  · rw [if_neg c_1] at hj
    refine lv_iload_n hx hb d_S_add_5 rfl (lv_at hl 1 rfl) ?_
    refine lv_bipush (v := 8) hx hb d_S_add_6 (by decide) ?_
    refine lv_icmp_gt (tgt := 23) hx hb d_S_add_8 (by decide) (fun c_2 => ?_) (fun c_2 => ?_)
    · rw [if_pos c_2] at hj
      refine lv_iconst (v := 0) hx hb d_S_add_23 (by decide) ?_
      exact hend H locs ls 24 _ _ (Prod.mk.inj (Option.some.inj hj)).1 (congrArg (wX cI cT ad) (Prod.mk.inj (Option.some.inj hj)).2) (Or.inl rfl) hw d_S_add_24
    · rw [if_neg c_2] at hj
      refine lv_iload_n hx hb d_S_add_11 rfl (lv_at hl 2 rfl) ?_
      refine lv_iconst (v := 1) hx hb d_S_add_12 (by decide) ?_
      refine lv_icmp_lt (tgt := 23) hx hb d_S_add_13 (by decide) (fun c_3 => ?_) (fun c_3 => ?_)
      · rw [if_pos c_3] at hj
        refine lv_iconst (v := 0) hx hb d_S_add_23 (by decide) ?_
        exact hend H locs ls 24 _ _ (Prod.mk.inj (Option.some.inj hj)).1 (congrArg (wX cI cT ad) (Prod.mk.inj (Option.some.inj hj)).2) (Or.inl rfl) hw d_S_add_24
      · rw [if_neg c_3] at hj
        refine lv_iload_n hx hb d_S_add_16 rfl (lv_at hl 2 rfl) ?_
        refine lv_sipush (v := 1000) hx hb d_S_add_17 (by decide) ?_
        refine lv_icmp_le (tgt := 25) hx hb d_S_add_20 (by decide) (fun c_4 => ?_) (fun c_4 => ?_)
        · rw [if_pos c_4] at hj
          refine lv_iload_n hx hb d_S_add_25 rfl (lv_at hl 3 rfl) ?_
          refine lv_iconst (v := 1) hx hb d_S_add_26 (by decide) ?_
          refine lv_icmp_lt (tgt := 38) hx hb d_S_add_27 (by decide) (fun c_5 => ?_) (fun c_5 => ?_)
          · rw [if_pos c_5] at hj
            refine lv_iconst (v := 0) hx hb d_S_add_38 (by decide) ?_
            exact hend H locs ls 39 _ _ (Prod.mk.inj (Option.some.inj hj)).1 (congrArg (wX cI cT ad) (Prod.mk.inj (Option.some.inj hj)).2) (Or.inl rfl) hw d_S_add_39
          · rw [if_neg c_5] at hj
            refine lv_iload_n hx hb d_S_add_30 rfl (lv_at hl 3 rfl) ?_
            refine lv_bipush (v := 8) hx hb d_S_add_31 (by decide) ?_
            refine lv_iload_n hx hb d_S_add_33 rfl (lv_at hl 2 rfl) ?_
            refine lv_imul hx hb d_S_add_34 ?_
            refine lv_icmp_le (tgt := 40) hx hb d_S_add_35 (by decide) (fun c_6 => ?_) (fun c_6 => ?_)
            · rw [if_pos c_6] at hj
              refine lv_iload hx hb d_S_add_40 (lv_at hl 4 rfl) ?_
              refine lv_if_lt (tgt := 69) hx hb d_S_add_42 (by decide) (fun c_7 => ?_) (fun c_7 => ?_)
              · rw [if_pos c_7] at hj
                refine lv_iconst (v := 0) hx hb d_S_add_69 (by decide) ?_
                exact hend H locs ls 70 _ _ (Prod.mk.inj (Option.some.inj hj)).1 (congrArg (wX cI cT ad) (Prod.mk.inj (Option.some.inj hj)).2) (Or.inl rfl) hw d_S_add_70
              · rw [if_neg c_7] at hj
                refine lv_iload hx hb d_S_add_45 (lv_at hl 4 rfl) ?_
                refine lv_bipush (v := 99) hx hb d_S_add_47 (by decide) ?_
                refine lv_icmp_gt (tgt := 69) hx hb d_S_add_49 (by decide) (fun c_8 => ?_) (fun c_8 => ?_)
                · rw [if_pos c_8] at hj
                  refine lv_iconst (v := 0) hx hb d_S_add_69 (by decide) ?_
                  exact hend H locs ls 70 _ _ (Prod.mk.inj (Option.some.inj hj)).1 (congrArg (wX cI cT ad) (Prod.mk.inj (Option.some.inj hj)).2) (Or.inl rfl) hw d_S_add_70
                · rw [if_neg c_8] at hj
                  refine lv_aload_n hx hb d_S_add_52 rfl (lv_at hl 0 rfl) ?_
                  refine lv_iload hx hb d_S_add_53 (lv_at hl 4 rfl) ?_
                  obtain ⟨r_10, e_9, hj⟩ := Option.bind_eq_some_iff.mp hj
                  refine gw_calli (As := [.int a4]) (rest := []) S hw (c_S_hasPriority e_9) w_30 xa_S rfl rfl hl.1 rfl (Nat.le_of_ble_eq_true rfl) d_S_add_55 (fun H locs hw => ?_)
                  refine lv_if_ne (tgt := 69) hx hb d_S_add_58 (by decide) (fun c_11 => ?_) (fun c_11 => ?_)
                  · rw [if_neg c_11] at hj
                    refine lv_iconst (v := 0) hx hb d_S_add_69 (by decide) ?_
                    exact hend H locs ls 70 _ _ (Prod.mk.inj (Option.some.inj hj)).1 (congrArg (wX cI cT ad) (Prod.mk.inj (Option.some.inj hj)).2) (Or.inl rfl) hw d_S_add_70
                  · rw [if_pos c_11] at hj
                    refine lv_aload_n hx hb d_S_add_61 rfl (lv_at hl 0 rfl) ?_
                    refine lv_iload_n hx hb d_S_add_62 rfl (lv_at hl 1 rfl) ?_
                    obtain ⟨r_13, e_12, hj⟩ := Option.bind_eq_some_iff.mp hj
                    refine gw_callq (As := [.int a1]) (rest := []) S hw (c_S_find e_12) w_34 xa_S rfl rfl hl.1 rfl (Nat.le_of_ble_eq_true rfl) d_S_add_63 (fun H locs hw => ?_)
                    rcases r_13 with _ | y_14
                    · rw [gw_oc_none rfl] at hj
                      refine lv_ifnullN (tgt := 71) hx hb d_S_add_66 (by decide) ?_
                      refine lv_aload_n hx hb d_S_add_71 rfl (lv_at hl 0 rfl) ?_
                      refine gw_get (v := .ref (ad 2)) S hw xa_S rfl (by decide) n_T_S f_11 rfl d_S_add_72 ?_
                      refine lv_iload_n hx hb d_S_add_75 rfl (lv_at hl 1 rfl) ?_
                      refine lv_iconst (v := 1) hx hb d_S_add_76 (by decide) ?_
                      refine lv_isub hx hb d_S_add_77 ?_
                      obtain ⟨g_15, hj⟩ := gw_if hj
                      refine gw_aldq (t0 := 1) S hw ⟨xa_by, rfl⟩ g_15 d_S_add_78 ?_
                      refine lv_iload_n hx hb d_S_add_79 rfl (lv_at hl 2 rfl) ?_
                      refine lv_iload_n hx hb d_S_add_80 rfl (lv_at hl 3 rfl) ?_
                      refine lv_iload hx hb d_S_add_81 (lv_at hl 4 rfl) ?_
                      obtain ⟨M_17, e_16, hj⟩ := Option.bind_eq_some_iff.mp hj
                      refine gw_callv (As := [.int a2, .int a3, .int a4]) (rest := []) S hw (c_T_become e_16) w_38 (xa_T (fin8 (a1 - 1).toNatClampNeg)) rfl rfl hl.1 rfl (Nat.le_of_ble_eq_true rfl) d_S_add_83 (fun H locs hw => ?_)
                      refine lv_aload_n hx hb d_S_add_86 rfl (lv_at hl 0 rfl) ?_
                      refine lv_aload_n hx hb d_S_add_87 rfl (lv_at hl 0 rfl) ?_
                      refine gw_get (v := .ref (ad 2)) S hw xa_S rfl (by decide) n_T_S f_11 rfl d_S_add_88 ?_
                      refine lv_iload_n hx hb d_S_add_91 rfl (lv_at hl 1 rfl) ?_
                      refine lv_iconst (v := 1) hx hb d_S_add_92 (by decide) ?_
                      refine lv_isub hx hb d_S_add_93 ?_
                      obtain ⟨g_18, hj⟩ := gw_if hj
                      refine gw_aldq (t0 := 1) S hw ⟨xa_by, rfl⟩ g_18 d_S_add_94 ?_
                      obtain ⟨M_20, e_19, hj⟩ := Option.bind_eq_some_iff.mp hj
                      refine gw_callv (As := [.ref (ad (6 + (fin8 (a1 - 1).toNatClampNeg).val))]) (rest := []) S hw (c_S_place e_19) w_42 xa_S rfl rfl hl.1 rfl (Nat.le_of_ble_eq_true rfl) d_S_add_95 (fun H locs hw => ?_)
                      refine lv_aload_n hx hb d_S_add_98 rfl (lv_at hl 0 rfl) ?_
                      obtain ⟨M_22, e_21, hj⟩ := Option.bind_eq_some_iff.mp hj
                      refine gw_callv (As := []) (rest := []) S hw (c_S_forgetFindings e_21) w_46 xa_S rfl rfl hl.1 rfl (Nat.le_of_ble_eq_true rfl) d_S_add_99 (fun H locs hw => ?_)
                      refine lv_iconst (v := 1) hx hb d_S_add_102 (by decide) ?_
                      exact hend H locs ls 103 _ _ (Prod.mk.inj (Option.some.inj hj)).1 (congrArg (wX cI cT ad) (Prod.mk.inj (Option.some.inj hj)).2) (Or.inr rfl) hw d_S_add_103
                    · rw [gw_oc_some rfl] at hj
                      refine lv_ifnull hx hb d_S_add_66 ?_
                      refine lv_iconst (v := 0) hx hb d_S_add_69 (by decide) ?_
                      exact hend H locs ls 70 _ _ (Prod.mk.inj (Option.some.inj hj)).1 (congrArg (wX cI cT ad) (Prod.mk.inj (Option.some.inj hj)).2) (Or.inl rfl) hw d_S_add_70
            · rw [if_neg c_6] at hj
              refine lv_iconst (v := 0) hx hb d_S_add_38 (by decide) ?_
              exact hend H locs ls 39 _ _ (Prod.mk.inj (Option.some.inj hj)).1 (congrArg (wX cI cT ad) (Prod.mk.inj (Option.some.inj hj)).2) (Or.inl rfl) hw d_S_add_39
        · rw [if_neg c_4] at hj
          refine lv_iconst (v := 0) hx hb d_S_add_23 (by decide) ?_
          exact hend H locs ls 24 _ _ (Prod.mk.inj (Option.some.inj hj)).1 (congrArg (wX cI cT ad) (Prod.mk.inj (Option.some.inj hj)).2) (Or.inl rfl) hw d_S_add_24
abbrev rm_O_task : Room := { frames := 3, cells := 0, slots := 0, locals := 69 }
def ws_O_task : List Cond := Cond.code y_O_task b_O_task 5 (some .boolean) :: wB
set_option maxHeartbeats 4000000 in
set_option maxRecDepth 100000 in
theorem c_O_task {l : Launch} {D : va_G} {cI cT : ClassId} {ad : Nat → Nat} {n : Nat} {M : MX} {a1 : Int32} {a2 : Int32} {a3 : Int32} {a4 : Int32} {r0 : Int32} {M0 : MX} (hj : j_O_task n M a1 a2 a3 a4 = some (r0, M0)) : gw_Cz l y_O_task ws_O_task rm_O_task D (tyX cI cT) (wX cI cT ad M) [.ref (ad 0), .int a1, .int a2, .int a3, .int a4] r0 (wX cI cT ad M0) := by
  intro sz
  refine gw_metz (cc := b_O_task) (maxL := 5) (by decide) rfl (Nat.le_of_ble_eq_true rfl) ?_
  intro p e s m args below meth c A Q S H locs hw hend ls hl
  have S : CallFix p m c b_O_task 5 s args ws_O_task R_O := S
  have hx := S.1
  have hb := S.2.1
  have hts := S.2.2.2.2
  have hl : lv_has ls 5 [(0, .ref (ad 0)), (1, .int a1), (2, .int a2), (3, .int a3), (4, .int a4)] := hl
  have n_T_K : ∀ w ∈ u_ws R_K T_K 6, w ∈ ws_O_task := fun w h => List.mem_cons_of_mem _ (uT_K w h)
  have n_T_O : ∀ w ∈ u_ws R_O T_O 3, w ∈ ws_O_task := fun w h => List.mem_cons_of_mem _ (uT_O w h)
  have f_10 : Cond.fieldLink R_O 10 (T_O 0).1 (T_O 0).2.1 (T_O 0).2.2.1 ∈ ws_O_task := List.mem_cons_of_mem _ xw_42
  have f_28 : Cond.fieldLink R_O 28 (T_O 2).1 (T_O 2).2.1 (T_O 2).2.2.1 ∈ ws_O_task := List.mem_cons_of_mem _ xw_43
  have f_32 : Cond.fieldLink R_O 32 (T_K 1).1 (T_K 1).2.1 (T_K 1).2.2.1 ∈ ws_O_task := List.mem_cons_of_mem _ xw_44
  have w_36 : CallW rm_O_task s args R_O R_S 36 y_S_add b_S_add 5 (some .boolean) ws_S_add rm_S_add 0 0 4 := cwV 4 hts (wB_callV (fun w h => List.mem_cons_of_mem _ h) xw_45 xw_46 xw_47 xw_48 xw_14) rfl rfl rfl (by decide +kernel) ⟨Nat.le_of_ble_eq_true rfl, Nat.le_of_ble_eq_true rfl⟩
  unfold j_O_task at hj
  refine lv_aload_n hx hb d_O_task_0 rfl (lv_at hl 0 rfl) ?_
  refine gw_get (v := .ref (ad 5)) S hw xa_O rfl (by decide) n_T_O f_28 rfl d_O_task_1 ?_
  refine gw_get (v := .int (M.2.1 2 1)) S hw xa_K rfl (by decide) n_T_K f_32 rfl d_O_task_4 ?_
  refine lv_if_ne (tgt := 29) hx hb d_O_task_7 (by decide) (fun c_1 => ?_) (fun c_1 => ?_)
  · rw [if_neg c_1] at hj
    refine lv_iconst (v := 0) hx hb d_O_task_29 (by decide) ?_
    exact hend H locs ls 30 _ _ (Prod.mk.inj (Option.some.inj hj)).1 (congrArg (wX cI cT ad) (Prod.mk.inj (Option.some.inj hj)).2) (Or.inl rfl) hw d_O_task_30
  · rw [if_pos c_1] at hj
    refine lv_aload_n hx hb d_O_task_10 rfl (lv_at hl 0 rfl) ?_
    refine gw_get (v := .ref (ad 1)) S hw xa_O rfl (by decide) n_T_O f_10 rfl d_O_task_11 ?_
    refine lv_iload_n hx hb d_O_task_14 rfl (lv_at hl 1 rfl) ?_
    refine lv_iload_n hx hb d_O_task_15 rfl (lv_at hl 2 rfl) ?_
    refine lv_iload_n hx hb d_O_task_16 rfl (lv_at hl 3 rfl) ?_
    refine lv_iload hx hb d_O_task_17 (lv_at hl 4 rfl) ?_
    obtain ⟨q_3, e_2, hj⟩ := Option.bind_eq_some_iff.mp hj
    refine gw_calli (As := [.int a1, .int a2, .int a3, .int a4]) (rest := []) S hw (c_S_add e_2) w_36 xa_S rfl rfl hl.1 rfl (Nat.le_of_ble_eq_true rfl) d_O_task_19 (fun H locs hw => ?_)
    refine lv_if_eq (tgt := 29) hx hb d_O_task_22 (by decide) (fun c_4 => ?_) (fun c_4 => ?_)
    · rw [if_pos c_4] at hj
      refine lv_iconst (v := 0) hx hb d_O_task_29 (by decide) ?_
      exact hend H locs ls 30 _ _ (Prod.mk.inj (Option.some.inj hj)).1 (congrArg (wX cI cT ad) (Prod.mk.inj (Option.some.inj hj)).2) (Or.inl rfl) hw d_O_task_30
    · rw [if_neg c_4] at hj
      refine lv_iconst (v := 1) hx hb d_O_task_25 (by decide) ?_
      refine lv_goto (tgt := 30) hx hb d_O_task_26 (by decide) ?_
      exact hend H locs ls 30 _ _ (Prod.mk.inj (Option.some.inj hj)).1 (congrArg (wX cI cT ad) (Prod.mk.inj (Option.some.inj hj)).2) (Or.inr rfl) hw d_O_task_30
abbrev rm_T_append : Room := { frames := 0, cells := 0, slots := 0, locals := 0 }
def ws_T_append : List Cond := Cond.code y_T_append b_T_append 2 (some .boolean) :: wB
set_option maxHeartbeats 4000000 in
set_option maxRecDepth 100000 in
theorem c_T_append {l : Launch} {D : va_G} {cI cT : ClassId} {ad : Nat → Nat} {n : Nat} {M : MX} {x0 : Fin 8} {a1 : Int32} {r0 : Int32} {M0 : MX} (hj : j_T_append n M x0 a1 = some (r0, M0)) : gw_Cz l y_T_append ws_T_append rm_T_append D (tyX cI cT) (wX cI cT ad M) [.ref (ad (6 + x0.val)), .int a1] r0 (wX cI cT ad M0) := by
  intro sz
  refine gw_metz (cc := b_T_append) (maxL := 2) (by decide) rfl (Nat.le_of_ble_eq_true rfl) ?_
  intro p e s m args below meth c A Q S H locs hw hend ls hl
  have S : CallFix p m c b_T_append 2 s args ws_T_append R_T := S
  have hx := S.1
  have hb := S.2.1
  have hts := S.2.2.2.2
  have hl : lv_has ls 2 [(0, .ref (ad (6 + x0.val))), (1, .int a1)] := hl
  have n_T_T : ∀ w ∈ u_ws R_T T_T 13, w ∈ ws_T_append := fun w h => List.mem_cons_of_mem _ (uT_T w h)
  have f_18 : Cond.fieldLink R_T 18 (T_T 2).1 (T_T 2).2.1 (T_T 2).2.2.1 ∈ ws_T_append := List.mem_cons_of_mem _ xw_49
  have f_44 : Cond.fieldLink R_T 44 (T_T 6).1 (T_T 6).2.1 (T_T 6).2.2.1 ∈ ws_T_append := List.mem_cons_of_mem _ xw_8
  have f_47 : Cond.fieldLink R_T 47 (T_T 7).1 (T_T 7).2.1 (T_T 7).2.2.1 ∈ ws_T_append := List.mem_cons_of_mem _ xw_9
  unfold j_T_append at hj
  refine lv_aload_n hx hb d_T_append_0 rfl (lv_at hl 0 rfl) ?_
  refine gw_get (v := .int (M.1 0 x0 6)) S hw (xa_T x0) rfl (by decide) n_T_T f_44 rfl d_T_append_1 ?_
  refine lv_bipush (v := 8) hx hb d_T_append_4 (by decide) ?_
  refine lv_icmp_ge (tgt := 20) hx hb d_T_append_6 (by decide) (fun c_1 => ?_) (fun c_1 => ?_)
  · rw [if_pos c_1] at hj
    refine lv_iconst (v := 0) hx hb d_T_append_20 (by decide) ?_
    exact hend H locs ls 21 _ _ (Prod.mk.inj (Option.some.inj hj)).1 (congrArg (wX cI cT ad) (Prod.mk.inj (Option.some.inj hj)).2) (Or.inl rfl) hw d_T_append_21
  · rw [if_neg c_1] at hj
    refine lv_iload_n hx hb d_T_append_9 rfl (lv_at hl 1 rfl) ?_
    refine lv_iconst (v := 1) hx hb d_T_append_10 (by decide) ?_
    refine lv_icmp_lt (tgt := 20) hx hb d_T_append_11 (by decide) (fun c_2 => ?_) (fun c_2 => ?_)
    · rw [if_pos c_2] at hj
      refine lv_iconst (v := 0) hx hb d_T_append_20 (by decide) ?_
      exact hend H locs ls 21 _ _ (Prod.mk.inj (Option.some.inj hj)).1 (congrArg (wX cI cT ad) (Prod.mk.inj (Option.some.inj hj)).2) (Or.inl rfl) hw d_T_append_21
    · rw [if_neg c_2] at hj
      refine lv_iload_n hx hb d_T_append_14 rfl (lv_at hl 1 rfl) ?_
      refine lv_bipush (v := 100) hx hb d_T_append_15 (by decide) ?_
      refine lv_icmp_le (tgt := 22) hx hb d_T_append_17 (by decide) (fun c_3 => ?_) (fun c_3 => ?_)
      · rw [if_pos c_3] at hj
        refine lv_aload_n hx hb d_T_append_22 rfl (lv_at hl 0 rfl) ?_
        refine gw_get (v := .ref (ad (22 + x0.val))) S hw (xa_T x0) rfl (by decide) n_T_T f_18 rfl d_T_append_23 ?_
        refine lv_aload_n hx hb d_T_append_26 rfl (lv_at hl 0 rfl) ?_
        refine gw_get (v := .int (M.1 0 x0 6)) S hw (xa_T x0) rfl (by decide) n_T_T f_44 rfl d_T_append_27 ?_
        refine lv_iload_n hx hb d_T_append_30 rfl (lv_at hl 1 rfl) ?_
        obtain ⟨g_4, hj⟩ := gw_if hj
        refine gw_iast (t0 := 0) S hw ⟨xa_sg x0, rfl⟩ g_4 (xs_sg x0 (M.1 0 x0 6).toNatClampNeg a1) d_T_append_31 (fun H locs hw => ?_)
        refine lv_aload_n hx hb d_T_append_32 rfl (lv_at hl 0 rfl) ?_
        refine lv_dup hx hb d_T_append_33 rfl ?_
        refine gw_get (v := .int ((sF M 2 x0 (M.1 0 x0 6).toNatClampNeg a1).1 0 x0 6)) S hw (xa_T x0) rfl (by decide) n_T_T f_44 rfl d_T_append_34 ?_
        refine lv_iconst (v := 1) hx hb d_T_append_37 (by decide) ?_
        refine lv_iadd hx hb d_T_append_38 ?_
        refine gw_put (v := .int (((sF M 2 x0 (M.1 0 x0 6).toNatClampNeg a1).1 0 x0 6) + 1)) (ty := .int) S hw (xa_T x0) rfl (by decide) n_T_T f_44 tk_T nm_T rfl (by decide +kernel) rfl rfl (Nat.le_of_ble_eq_true rfl) (xs_T x0 6 (((sF M 2 x0 (M.1 0 x0 6).toNatClampNeg a1).1 0 x0 6) + 1) (by decide)) d_T_append_39 (fun H locs hw => ?_)
        refine lv_aload_n hx hb d_T_append_42 rfl (lv_at hl 0 rfl) ?_
        refine lv_dup hx hb d_T_append_43 rfl ?_
        refine gw_get (v := .int ((sF (sF M 2 x0 (M.1 0 x0 6).toNatClampNeg a1) 0 x0 6 (((sF M 2 x0 (M.1 0 x0 6).toNatClampNeg a1).1 0 x0 6) + 1)).1 0 x0 7)) S hw (xa_T x0) rfl (by decide) n_T_T f_47 rfl d_T_append_44 ?_
        refine lv_iload_n hx hb d_T_append_47 rfl (lv_at hl 1 rfl) ?_
        refine lv_iadd hx hb d_T_append_48 ?_
        refine gw_put (v := .int (((sF (sF M 2 x0 (M.1 0 x0 6).toNatClampNeg a1) 0 x0 6 (((sF M 2 x0 (M.1 0 x0 6).toNatClampNeg a1).1 0 x0 6) + 1)).1 0 x0 7) + a1)) (ty := .int) S hw (xa_T x0) rfl (by decide) n_T_T f_47 tk_T nm_T rfl (by decide +kernel) rfl rfl (Nat.le_of_ble_eq_true rfl) (xs_T x0 7 (((sF (sF M 2 x0 (M.1 0 x0 6).toNatClampNeg a1) 0 x0 6 (((sF M 2 x0 (M.1 0 x0 6).toNatClampNeg a1).1 0 x0 6) + 1)).1 0 x0 7) + a1) (by decide)) d_T_append_49 (fun H locs hw => ?_)
        refine lv_iconst (v := 1) hx hb d_T_append_52 (by decide) ?_
        exact hend H locs ls 53 _ _ (Prod.mk.inj (Option.some.inj hj)).1 (congrArg (wX cI cT ad) (Prod.mk.inj (Option.some.inj hj)).2) (Or.inr rfl) hw d_T_append_53
      · rw [if_neg c_3] at hj
        refine lv_iconst (v := 0) hx hb d_T_append_20 (by decide) ?_
        exact hend H locs ls 21 _ _ (Prod.mk.inj (Option.some.inj hj)).1 (congrArg (wX cI cT ad) (Prod.mk.inj (Option.some.inj hj)).2) (Or.inl rfl) hw d_T_append_21
abbrev rm_S_addSegment : Room := { frames := 2, cells := 0, slots := 0, locals := 41 }
def ws_S_addSegment : List Cond := Cond.code y_S_addSegment b_S_addSegment 4 (some .boolean) :: wB
set_option maxHeartbeats 4000000 in
set_option maxRecDepth 100000 in
theorem c_S_addSegment {l : Launch} {D : va_G} {cI cT : ClassId} {ad : Nat → Nat} {n : Nat} {M : MX} {a1 : Int32} {a2 : Int32} {r0 : Int32} {M0 : MX} (hj : j_S_addSegment n M a1 a2 = some (r0, M0)) : gw_Cz l y_S_addSegment ws_S_addSegment rm_S_addSegment D (tyX cI cT) (wX cI cT ad M) [.ref (ad 1), .int a1, .int a2] r0 (wX cI cT ad M0) := by
  intro sz
  refine gw_metz (cc := b_S_addSegment) (maxL := 4) (by decide) rfl (Nat.le_of_ble_eq_true rfl) ?_
  intro p e s m args below meth c A Q S H locs hw hend ls hl
  have S : CallFix p m c b_S_addSegment 4 s args ws_S_addSegment R_S := S
  have hx := S.1
  have hb := S.2.1
  have hts := S.2.2.2.2
  have hl : lv_has ls 4 [(0, .ref (ad 1)), (1, .int a1), (2, .int a2)] := hl
  have w_34 : CallW rm_S_addSegment s args R_S R_S 34 y_S_find b_S_find 3 (some (.object "SegmentKernel$Task")) ws_S_find rm_S_find 0 0 1 := cwV 1 hts (wB_callV (fun w h => List.mem_cons_of_mem _ h) xw_26 xw_27 xw_28 xw_29 xw_14) rfl rfl rfl (by decide +kernel) ⟨Nat.le_of_ble_eq_true rfl, Nat.le_of_ble_eq_true rfl⟩
  have w_46 : CallW rm_S_addSegment s args R_S R_S 46 y_S_forgetFindings b_S_forgetFindings 2 none ws_S_forgetFindings rm_S_forgetFindings 0 0 0 := cwV 0 hts (wB_callV (fun w h => List.mem_cons_of_mem _ h) xw_38 xw_39 xw_40 xw_41 xw_14) rfl rfl rfl (by decide +kernel) ⟨Nat.le_of_ble_eq_true rfl, Nat.le_of_ble_eq_true rfl⟩
  have w_49 : CallW rm_S_addSegment s args R_S R_T 49 y_T_append b_T_append 2 (some .boolean) ws_T_append rm_T_append 0 0 1 := cwV 1 hts (wB_callV (fun w h => List.mem_cons_of_mem _ h) xw_50 xw_51 xw_52 xw_53 xw_21) rfl rfl rfl (by decide +kernel) ⟨Nat.le_of_ble_eq_true rfl, Nat.le_of_ble_eq_true rfl⟩
  unfold j_S_addSegment at hj
  refine lv_aload_n hx hb d_S_addSegment_0 rfl (lv_at hl 0 rfl) ?_
  refine lv_iload_n hx hb d_S_addSegment_1 rfl (lv_at hl 1 rfl) ?_
  obtain ⟨r_2, e_1, hj⟩ := Option.bind_eq_some_iff.mp hj
  refine gw_callq (As := [.int a1]) (rest := []) S hw (c_S_find e_1) w_34 xa_S rfl rfl hl.1 rfl (Nat.le_of_ble_eq_true rfl) d_S_addSegment_2 (fun H locs hw => ?_)
  refine gw_astore_n (lv' := [(3, va_rf (gw_oa ad r_2)), (0, .ref (ad 1)), (1, .int a1), (2, .int a2)]) hx hb d_S_addSegment_5 rfl hl (by decide) rfl (fun ls hl => ?_)
  refine gw_aload_n hx hb d_S_addSegment_6 rfl (lv_at hl 0 rfl) ?_
  rcases r_2 with _ | y_3
  · rw [gw_oc_none rfl] at hj
    refine lv_ifnullN (tgt := 18) hx hb d_S_addSegment_7 (by decide) ?_
    refine lv_iconst (v := 0) hx hb d_S_addSegment_18 (by decide) ?_
    exact hend H locs ls 19 _ _ (Prod.mk.inj (Option.some.inj hj)).1 (congrArg (wX cI cT ad) (Prod.mk.inj (Option.some.inj hj)).2) (Or.inl rfl) hw d_S_addSegment_19
  · rw [gw_oc_some rfl] at hj
    refine lv_ifnull hx hb d_S_addSegment_7 ?_
    refine lv_aload_n hx hb d_S_addSegment_10 rfl (lv_at hl 0 rfl) ?_
    refine lv_iload_n hx hb d_S_addSegment_11 rfl (lv_at hl 3 rfl) ?_
    obtain ⟨q_5, e_4, hj⟩ := Option.bind_eq_some_iff.mp hj
    refine gw_calli (As := [.int a2]) (rest := []) S hw (c_T_append e_4) w_49 (xa_T y_3) rfl rfl hl.1 rfl (Nat.le_of_ble_eq_true rfl) d_S_addSegment_12 (fun H locs hw => ?_)
    refine lv_if_ne (tgt := 20) hx hb d_S_addSegment_15 (by decide) (fun c_6 => ?_) (fun c_6 => ?_)
    · rw [if_neg c_6] at hj
      refine lv_aload_n hx hb d_S_addSegment_20 rfl (lv_at hl 1 rfl) ?_
      obtain ⟨M_8, e_7, hj⟩ := Option.bind_eq_some_iff.mp hj
      refine gw_callv (As := []) (rest := []) S hw (c_S_forgetFindings e_7) w_46 xa_S rfl rfl hl.1 rfl (Nat.le_of_ble_eq_true rfl) d_S_addSegment_21 (fun H locs hw => ?_)
      refine lv_iconst (v := 1) hx hb d_S_addSegment_24 (by decide) ?_
      exact hend H locs ls 25 _ _ (Prod.mk.inj (Option.some.inj hj)).1 (congrArg (wX cI cT ad) (Prod.mk.inj (Option.some.inj hj)).2) (Or.inr rfl) hw d_S_addSegment_25
    · rw [if_pos c_6] at hj
      refine lv_iconst (v := 0) hx hb d_S_addSegment_18 (by decide) ?_
      exact hend H locs ls 19 _ _ (Prod.mk.inj (Option.some.inj hj)).1 (congrArg (wX cI cT ad) (Prod.mk.inj (Option.some.inj hj)).2) (Or.inl rfl) hw d_S_addSegment_19
abbrev rm_O_segment : Room := { frames := 3, cells := 0, slots := 0, locals := 64 }
def ws_O_segment : List Cond := Cond.code y_O_segment b_O_segment 3 (some .boolean) :: wB
set_option maxHeartbeats 4000000 in
set_option maxRecDepth 100000 in
theorem c_O_segment {l : Launch} {D : va_G} {cI cT : ClassId} {ad : Nat → Nat} {n : Nat} {M : MX} {a1 : Int32} {a2 : Int32} {r0 : Int32} {M0 : MX} (hj : j_O_segment n M a1 a2 = some (r0, M0)) : gw_Cz l y_O_segment ws_O_segment rm_O_segment D (tyX cI cT) (wX cI cT ad M) [.ref (ad 0), .int a1, .int a2] r0 (wX cI cT ad M0) := by
  intro sz
  refine gw_metz (cc := b_O_segment) (maxL := 3) (by decide) rfl (Nat.le_of_ble_eq_true rfl) ?_
  intro p e s m args below meth c A Q S H locs hw hend ls hl
  have S : CallFix p m c b_O_segment 3 s args ws_O_segment R_O := S
  have hx := S.1
  have hb := S.2.1
  have hts := S.2.2.2.2
  have hl : lv_has ls 3 [(0, .ref (ad 0)), (1, .int a1), (2, .int a2)] := hl
  have n_T_K : ∀ w ∈ u_ws R_K T_K 6, w ∈ ws_O_segment := fun w h => List.mem_cons_of_mem _ (uT_K w h)
  have n_T_O : ∀ w ∈ u_ws R_O T_O 3, w ∈ ws_O_segment := fun w h => List.mem_cons_of_mem _ (uT_O w h)
  have f_10 : Cond.fieldLink R_O 10 (T_O 0).1 (T_O 0).2.1 (T_O 0).2.2.1 ∈ ws_O_segment := List.mem_cons_of_mem _ xw_42
  have f_28 : Cond.fieldLink R_O 28 (T_O 2).1 (T_O 2).2.1 (T_O 2).2.2.1 ∈ ws_O_segment := List.mem_cons_of_mem _ xw_43
  have f_32 : Cond.fieldLink R_O 32 (T_K 1).1 (T_K 1).2.1 (T_K 1).2.2.1 ∈ ws_O_segment := List.mem_cons_of_mem _ xw_44
  have w_40 : CallW rm_O_segment s args R_O R_S 40 y_S_addSegment b_S_addSegment 4 (some .boolean) ws_S_addSegment rm_S_addSegment 0 0 2 := cwV 2 hts (wB_callV (fun w h => List.mem_cons_of_mem _ h) xw_54 xw_55 xw_56 xw_57 xw_14) rfl rfl rfl (by decide +kernel) ⟨Nat.le_of_ble_eq_true rfl, Nat.le_of_ble_eq_true rfl⟩
  unfold j_O_segment at hj
  refine lv_aload_n hx hb d_O_segment_0 rfl (lv_at hl 0 rfl) ?_
  refine gw_get (v := .ref (ad 5)) S hw xa_O rfl (by decide) n_T_O f_28 rfl d_O_segment_1 ?_
  refine gw_get (v := .int (M.2.1 2 1)) S hw xa_K rfl (by decide) n_T_K f_32 rfl d_O_segment_4 ?_
  refine lv_if_ne (tgt := 26) hx hb d_O_segment_7 (by decide) (fun c_1 => ?_) (fun c_1 => ?_)
  · rw [if_neg c_1] at hj
    refine lv_iconst (v := 0) hx hb d_O_segment_26 (by decide) ?_
    exact hend H locs ls 27 _ _ (Prod.mk.inj (Option.some.inj hj)).1 (congrArg (wX cI cT ad) (Prod.mk.inj (Option.some.inj hj)).2) (Or.inl rfl) hw d_O_segment_27
  · rw [if_pos c_1] at hj
    refine lv_aload_n hx hb d_O_segment_10 rfl (lv_at hl 0 rfl) ?_
    refine gw_get (v := .ref (ad 1)) S hw xa_O rfl (by decide) n_T_O f_10 rfl d_O_segment_11 ?_
    refine lv_iload_n hx hb d_O_segment_14 rfl (lv_at hl 1 rfl) ?_
    refine lv_iload_n hx hb d_O_segment_15 rfl (lv_at hl 2 rfl) ?_
    obtain ⟨q_3, e_2, hj⟩ := Option.bind_eq_some_iff.mp hj
    refine gw_calli (As := [.int a1, .int a2]) (rest := []) S hw (c_S_addSegment e_2) w_40 xa_S rfl rfl hl.1 rfl (Nat.le_of_ble_eq_true rfl) d_O_segment_16 (fun H locs hw => ?_)
    refine lv_if_eq (tgt := 26) hx hb d_O_segment_19 (by decide) (fun c_4 => ?_) (fun c_4 => ?_)
    · rw [if_pos c_4] at hj
      refine lv_iconst (v := 0) hx hb d_O_segment_26 (by decide) ?_
      exact hend H locs ls 27 _ _ (Prod.mk.inj (Option.some.inj hj)).1 (congrArg (wX cI cT ad) (Prod.mk.inj (Option.some.inj hj)).2) (Or.inl rfl) hw d_O_segment_27
    · rw [if_neg c_4] at hj
      refine lv_iconst (v := 1) hx hb d_O_segment_22 (by decide) ?_
      refine lv_goto (tgt := 27) hx hb d_O_segment_23 (by decide) ?_
      exact hend H locs ls 27 _ _ (Prod.mk.inj (Option.some.inj hj)).1 (congrArg (wX cI cT ad) (Prod.mk.inj (Option.some.inj hj)).2) (Or.inr rfl) hw d_O_segment_27
