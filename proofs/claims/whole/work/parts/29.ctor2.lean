/-! TaskSet(): eight tasks; SegmentKernel(): all -/
/-- the cells of the tasks, five a task: Task, Jobs, arrivals, noted, segments; a: their addresses -/
def CG (cI : ClassId) (a : Nat → Nat) (j : Nat) : va_E :=
  if j % 5 = 0 then .inr (3, [.int (nI (j / 5) + 1), .ref (a (5 * (j / 5) + 1)), .ref (a (5 * (j / 5) + 4)), .int 0, .int 0, .int 0, .int 0, .int 0, .int (nI (j / 5) + 1 - 1), .int (-2), .int 0, .int 0, .int (-2)])
  else if j % 5 = 1 then .inr (1, [.ref (a (5 * (j / 5) + 2)), .ref (a (5 * (j / 5) + 3)), .int 0, .int 0, .int 0, .int 0, .int 0, .int 0])
  else if j % 5 = 2 then .inl (cI, 9, .inl (fun _ => 0))
  else if j % 5 = 3 then .inl (cI, 200, .inl (fun _ => 0))
  else .inl (cI, 8, .inl (fun _ => 0))
theorem CG_0 {cI : ClassId} {a : Nat → Nat} (i : Nat) : CG cI a (5 * i) = .inr (3, [.int (nI i + 1), .ref (a (5 * i + 1)), .ref (a (5 * i + 4)), .int 0, .int 0, .int 0, .int 0, .int 0, .int (nI i + 1 - 1), .int (-2), .int 0, .int 0, .int (-2)]) := by
  unfold CG; rw [if_pos (by omega), show 5 * i / 5 = i by omega]
theorem CG_1 {cI : ClassId} {a : Nat → Nat} (i : Nat) : CG cI a (5 * i + 1) = .inr (1, [.ref (a (5 * i + 2)), .ref (a (5 * i + 3)), .int 0, .int 0, .int 0, .int 0, .int 0, .int 0]) := by
  unfold CG; rw [if_neg (by omega), if_pos (by omega), show (5 * i + 1) / 5 = i by omega]
theorem CG_2 {cI : ClassId} {a : Nat → Nat} (i : Nat) : CG cI a (5 * i + 2) = .inl (cI, 9, .inl (fun _ => 0)) := by
  unfold CG; rw [if_neg (by omega), if_neg (by omega), if_pos (by omega)]
theorem CG_3 {cI : ClassId} {a : Nat → Nat} (i : Nat) : CG cI a (5 * i + 3) = .inl (cI, 200, .inl (fun _ => 0)) := by
  unfold CG; rw [if_neg (by omega), if_neg (by omega), if_neg (by omega), if_pos (by omega)]
theorem CG_4 {cI : ClassId} {a : Nat → Nat} (i : Nat) : CG cI a (5 * i + 4) = .inl (cI, 8, .inl (fun _ => 0)) := by
  unfold CG; rw [if_neg (by omega), if_neg (by omega), if_neg (by omega), if_neg (by omega)]
theorem CG_congr {cI : ClassId} {a b : Nat → Nat} {k j : Nat} (h : ∀ i, i < 5 * k → a i = b i) (hj : j < 5 * k) : CG cI a j = CG cI b j := by
  have h1 : j / 5 < k := by omega
  unfold CG
  rw [h (5 * (j / 5) + 1) (by omega), h (5 * (j / 5) + 2) (by omega), h (5 * (j / 5) + 3) (by omega), h (5 * (j / 5) + 4) (by omega)]
/-- the addresses with five more -/
def a5 (a : Nat → Nat) (n q0 q1 q2 q3 q4 : Nat) : Nat → Nat := fun j => if j < n then a j else if j = n then q0 else if j = n + 1 then q1 else if j = n + 2 then q2 else if j = n + 3 then q3 else q4
theorem sw_grow {cI : ClassId} {a : Nat → Nat} {k q0 q1 q2 q3 q4 : Nat} :
    wl a (5 * k) (CG cI a) ++ [(q0, .inr (3, [.int (nI k + 1), .ref q1, .ref q4, .int 0, .int 0, .int 0, .int 0, .int 0, .int (nI k + 1 - 1), .int (-2), .int 0, .int 0, .int (-2)])), (q1, .inr (1, [.ref q2, .ref q3, .int 0, .int 0, .int 0, .int 0, .int 0, .int 0])), (q2, .inl (cI, 9, .inl (fun _ => 0))), (q3, .inl (cI, 200, .inl (fun _ => 0))), (q4, .inl (cI, 8, .inl (fun _ => 0)))]
      = wl (a5 a (5 * k) q0 q1 q2 q3 q4) (5 * (k + 1)) (CG cI (a5 a (5 * k) q0 q1 q2 q3 q4)) := by
  have e0 : a5 a (5 * k) q0 q1 q2 q3 q4 (5 * k) = q0 := by unfold a5; rw [if_neg (by omega), if_pos rfl]
  have e1 : a5 a (5 * k) q0 q1 q2 q3 q4 (5 * k + 1) = q1 := by unfold a5; rw [if_neg (by omega), if_neg (by omega), if_pos rfl]
  have e2 : a5 a (5 * k) q0 q1 q2 q3 q4 (5 * k + 2) = q2 := by unfold a5; rw [if_neg (by omega), if_neg (by omega), if_neg (by omega), if_pos rfl]
  have e3 : a5 a (5 * k) q0 q1 q2 q3 q4 (5 * k + 3) = q3 := by unfold a5; rw [if_neg (by omega), if_neg (by omega), if_neg (by omega), if_neg (by omega), if_pos rfl]
  have e4 : a5 a (5 * k) q0 q1 q2 q3 q4 (5 * k + 4) = q4 := by unfold a5; rw [if_neg (by omega), if_neg (by omega), if_neg (by omega), if_neg (by omega), if_neg (by omega)]
  have eo : ∀ i, i < 5 * k → a i = a5 a (5 * k) q0 q1 q2 q3 q4 i := fun i h => by unfold a5; rw [if_pos h]
  have hr : List.range (5 * (k + 1)) = List.range (5 * k) ++ [5 * k, 5 * k + 1, 5 * k + 2, 5 * k + 3, 5 * k + 4] := by
    rw [show 5 * (k + 1) = 5 * k + 5 by omega, List.range_succ, List.range_succ, List.range_succ, List.range_succ, List.range_succ]
    simp
  unfold wl
  rw [hr, List.map_append]
  refine congr (congrArg _ ?_) ?_
  · refine List.map_congr_left (fun j hj => ?_)
    have hj' := List.mem_range.mp hj
    rw [eo j hj', CG_congr eo hj']
  · simp only [List.map_cons, List.map_nil, e0, e1, e2, e3, e4, CG_0, CG_1, CG_2, CG_3, CG_4]
def fK8 (a : Nat → Nat) (k : Nat) : Nat → Option Nat := fun j => if j < k then some (a (5 * j)) else none
abbrev sw_S (cI cT : ClassId) (h0 qb qr : Nat) (a : Nat → Nat) (f g : Nat → Option Nat) (k : Nat) : va_W :=
  [(h0, .inr (4, [.ref qb, .ref qr, .int 0])), (qb, .inl (cT, 8, .inr (.inr (.inr (.inr f))))), (qr, .inl (cT, 8, .inr (.inr (.inr (.inr g)))))] ++ wl a (5 * k) (CG cI a)
theorem fK8_up {a : Nat → Nat} {k q0 q1 q2 q3 q4 : Nat} : va_up (fK8 a k) k (some q0) = fK8 (a5 a (5 * k) q0 q1 q2 q3 q4) (k + 1) := by
  funext j
  unfold va_up fK8
  by_cases h : j = k
  · subst h
    rw [if_pos rfl, if_pos (Nat.lt_succ_self j)]
    unfold a5; rw [if_neg (by omega), if_pos rfl]
  · rw [if_neg h]
    by_cases h2 : j < k
    · rw [if_pos h2, if_pos (by omega)]
      unfold a5; rw [if_pos (by omega)]
    · rw [if_neg h2, if_neg (by omega)]
theorem sw_at {wr : va_W} {cI cT : ClassId} {h0 qb qr : Nat} {a : Nat → Nat} {f g : Nat → Option Nat} {k j : Nat} (hj : j < 5 * k) : (wr ++ sw_S cI cT h0 qb qr a f g k)[wr.length + (3 + j)]? = some (a j, CG cI a j) := by
  rw [ap_at]
  show ([_, _, _] ++ wl a (5 * k) (CG cI a))[3 + j]? = _
  rw [List.getElem?_append_right (by simp), show 3 + j - ([(h0, Sum.inr (4, [Value.ref qb, Value.ref qr, Value.int 0])), (qb, Sum.inl (cT, 8, Sum.inr (Sum.inr (Sum.inr (Sum.inr f))))), (qr, Sum.inl (cT, 8, Sum.inr (Sum.inr (Sum.inr (Sum.inr g)))))] : va_W).length = j by simp, wl_at hj]
abbrev rm_S_init : Room := { frames := 3, cells := 42, slots := 1920, locals := 62 }
def ws_S_init : List Cond := Cond.code y_S_init b_S_init 2 none :: wB
set_option maxHeartbeats 4000000 in
set_option maxRecDepth 100000 in
theorem c_S_init (l : Launch) (D : va_G) {cI cT : ClassId} (wr : va_W) (h0 : Nat) : gn_C l y_S_init ws_S_init rm_S_init D (tyX cI cT) (wr ++ [(h0, .inr (4, [.null, .null, .int 0]))]) [.ref h0] (fun u => ∃ (qb qr : Nat) (a : Nat → Nat), u = wr ++ sw_S cI cT h0 qb qr a (fK8 a 8) (fK8 a 8) 8) 42 1920 := by
  intro sz
  refine gn_met (cc := b_S_init) (maxL := 2) (by decide) rfl rfl (Nat.le_of_ble_eq_true rfl) ?_
  intro p e s m args below meth c A Q S hin hN H locs hw hend ls hl
  have S : CallFix p m c b_S_init 2 s args ws_S_init R_S := S
  have hx := S.1
  have hb := S.2.1
  have hts := S.2.2.2.2
  have hl : lv_has ls 2 [(0, .ref h0)] := hl
  have nS : ∀ w ∈ u_ws R_S T_S 3, w ∈ ws_S_init := fun w h => List.mem_cons_of_mem _ (uT_S w h)
  have f11 : Cond.fieldLink R_S 11 (T_S 0).1 (T_S 0).2.1 (T_S 0).2.2.1 ∈ ws_S_init := List.mem_cons_of_mem _ xw_3
  have f17 : Cond.fieldLink R_S 17 (T_S 1).1 (T_S 1).2.1 (T_S 1).2.2.1 ∈ ws_S_init := List.mem_cons_of_mem _ xw_0
  have L24 : ∀ (d k qb qr : Nat) (a : Nat → Nat), k + d = 8 → ∀ (H : Heap) (locs : List Loc), gw_W D (tyX cI cT) A (wr ++ sw_S cI cT h0 qb qr a (fK8 a k) (fK8 a k) k) s H locs → ∀ ls : Array Slot, lv_has ls 2 [(0, .ref h0), (1, .int (nI k))] → W p l e rm_S_init s m args below meth c H locs (2 + 5 * k) (16 + 238 * k) Q (F0 m 24 ls []) := by
    intro d
    induction d with
    | zero =>
      intro k qb qr a hk H locs hw ls hl
      have hk8 : k = 8 := by omega
      subst hk8
      refine lv_iload_n hx hb d_S_init_24 rfl (lv_at hl 1 rfl) ?_
      refine lv_bipush (v := 8) hx hb d_S_init_25 (by decide) ?_
      refine lv_icmp_ge (tgt := 64) hx hb d_S_init_27 (by decide) (fun _ => ?_) (fun h => absurd (by decide) h)
      exact hend H locs ls 64 _ ⟨qb, qr, a, rfl⟩ hw d_S_init_64
    | succ d ih =>
      intro k qb qr a hk H locs hw ls hl
      have hkin : ¬ (nI k < 0 ∨ 8 ≤ (nI k).toNatClampNeg) := nI_in (show k < 8 by omega) (by decide)
      have hkc : (nI k).toNatClampNeg = k := nI_clamp (by omega)
      refine lv_iload_n hx hb d_S_init_24 rfl (lv_at hl 1 rfl) ?_
      refine lv_bipush (v := 8) hx hb d_S_init_25 (by decide) ?_
      refine lv_icmp_ge (tgt := 64) hx hb d_S_init_27 (by decide) (fun h => absurd h (nI_ge (a := k) (b := 8) (by omega) (by decide))) (fun _ => ?_)
      refine lv_aload_n hx hb d_S_init_30 rfl (lv_at hl 0 rfl) ?_
      refine gn_get (k0 := 0) (v := .ref qb) S hw rfl rfl (by decide) nS f11 rfl d_S_init_31 ?_
      refine lv_iload_n hx hb d_S_init_34 rfl (lv_at hl 1 rfl) ?_
      refine gn_new (ci := 3) (fs := [.int 0, .null, .null, .int 0, .int 0, .int 0, .int 0, .int 0, .int 0, .int 0, .int 0, .int 0, .int 0]) S (fun w h => List.mem_cons_of_mem _ (uT_T w h)) tk_T (List.mem_cons_of_mem _ xw_445) (List.mem_cons_of_mem _ xw_446) (List.mem_cons_of_mem _ xw_21) hw rfl (fun j hj => by rcases (show j = 0 ∨ j = 1 ∨ j = 2 ∨ j = 3 ∨ j = 4 ∨ j = 5 ∨ j = 6 ∨ j = 7 ∨ j = 8 ∨ j = 9 ∨ j = 10 ∨ j = 11 ∨ j = 12 by omega) with rfl | rfl | rfl | rfl | rfl | rfl | rfl | rfl | rfl | rfl | rfl | rfl | rfl <;> rfl) (by show 2 + 5 * k + 1 ≤ 42; omega) (by show 16 + 238 * k + 13 ≤ 1920; omega) d_S_init_35 (fun q0 H hw => ?_)
      refine lv_dup hx hb d_S_init_38 rfl ?_
      refine lv_iload_n hx hb d_S_init_39 rfl (lv_at hl 1 rfl) ?_
      refine lv_iconst (v := 1) hx hb d_S_init_40 (by decide) ?_
      refine lv_iadd hx hb d_S_init_41 ?_
      rw [← List.append_assoc] at hw
      refine gn_callI (As := [.int (nI k + 1)]) (rest := [.ref q0, .int (nI k), .ref qb]) S hN hw (c_T_init l D _ q0 (nI k + 1)) (cwI 1 hts (wB_call (fun w h => List.mem_cons_of_mem _ h) xw_447) rfl rfl rfl (hts _ (List.mem_cons_of_mem _ xw_21)) (hts _ (List.mem_cons_of_mem _ xw_448)) (hts _ (List.mem_cons_of_mem _ xw_449)) rfl (by decide +kernel) ⟨Nat.le_of_ble_eq_true rfl, Nat.le_of_ble_eq_true rfl⟩) rfl hl.1 rfl (Nat.le_of_ble_eq_true rfl) d_S_init_42 ⟨by show 2 + 5 * k + 1 + 4 ≤ 42; omega, by show 16 + 238 * k + 13 + 225 ≤ 1920; omega⟩ (fun u H locs hu hw => ?_)
      obtain ⟨q1, q2, q3, q4, rfl⟩ := hu
      refine W.cs (cells' := 2 + 5 * (k + 1)) (slots' := 16 + 238 * (k + 1)) (by omega) (by omega) ?_
      rw [List.append_assoc, List.append_assoc, sw_grow] at hw
      generalize ha : a5 a (5 * k) q0 q1 q2 q3 q4 = a' at hw
      have hup : va_up (fK8 a k) k (some q0) = fK8 a' (k + 1) := by rw [← ha]; exact fK8_up
      have haq : a' (5 * k) = q0 := by rw [← ha]; unfold a5; rw [if_neg (by omega), if_pos rfl]
      have hT := sw_at (wr := wr) (cI := cI) (cT := cT) (h0 := h0) (qb := qb) (qr := qr) (a := a') (f := fK8 a k) (g := fK8 a k) (k := k + 1) (j := 5 * k) (by omega)
      rw [CG_0, haq] at hT
      refine gw_astq (t0 := 1) (q0 := wr.length + 1) (ws0 := wr ++ sw_S cI cT h0 qb qr a' (fK8 a' (k + 1)) (fK8 a k) (k + 1)) S hw ⟨ap_at 1, rfl⟩ hT rfl hkin (by rw [hkc, hup]; exact ap_set 1 _) d_S_init_45 (fun H locs hw => ?_)
      refine lv_aload_n hx hb d_S_init_46 rfl (lv_at hl 0 rfl) ?_
      refine gn_get (k0 := 0) (v := .ref qr) S hw rfl rfl (by decide) nS f17 rfl d_S_init_47 ?_
      refine lv_iload_n hx hb d_S_init_50 rfl (lv_at hl 1 rfl) ?_
      refine lv_aload_n hx hb d_S_init_51 rfl (lv_at hl 0 rfl) ?_
      refine gn_get (k0 := 0) (v := .ref qb) S hw rfl rfl (by decide) nS f11 rfl d_S_init_52 ?_
      refine lv_iload_n hx hb d_S_init_55 rfl (lv_at hl 1 rfl) ?_
      refine gw_aldq (t0 := 1) (q0 := wr.length + 1) S hw ⟨ap_at 1, rfl⟩ hkin d_S_init_56 ?_
      have hq : fK8 a' (k + 1) (nI k).toNatClampNeg = some q0 := by rw [hkc, ← haq]; unfold fK8; rw [if_pos (Nat.lt_succ_self k)]
      rw [hq]
      have hT2 := sw_at (wr := wr) (cI := cI) (cT := cT) (h0 := h0) (qb := qb) (qr := qr) (a := a') (f := fK8 a' (k + 1)) (g := fK8 a k) (k := k + 1) (j := 5 * k) (by omega)
      rw [CG_0, haq] at hT2
      refine gw_astq (t0 := 1) (q0 := wr.length + 2) (ws0 := wr ++ sw_S cI cT h0 qb qr a' (fK8 a' (k + 1)) (fK8 a' (k + 1)) (k + 1)) S hw ⟨ap_at 2, rfl⟩ hT2 rfl hkin (by rw [hkc, hup]; exact ap_set 2 _) d_S_init_57 (fun H locs hw => ?_)
      refine lv_iinc (v := nI k + 1) (lv' := [(1, .int (nI k + 1)), (0, .ref h0)]) hx hb d_S_init_58 hl (k := 1) rfl rfl (by decide) rfl (fun ls hl => ?_)
      refine lv_goto (tgt := 24) hx hb d_S_init_61 (by decide) ?_
      refine ih (k + 1) qb qr a' (by omega) H locs hw ls ?_
      rw [nI_succ]
      exact lv_sub hl [1, 0] rfl
  refine lv_aload_n hx hb d_S_init_0 rfl (lv_at hl 0 rfl) ?_
  refine gn_obj S (List.mem_cons_of_mem _ xw_450) (List.mem_cons_of_mem _ xw_430) (List.mem_cons_of_mem _ xw_431) hl.1 d_S_init_1 (by decide) (Nat.le_of_ble_eq_true rfl) ?_
  refine lv_aload_n hx hb d_S_init_4 rfl (lv_at hl 0 rfl) ?_
  refine lv_bipush (v := 8) hx hb d_S_init_5 (by decide) ?_
  refine gn_newQ (t0 := 1) (N' := 8) (C := "SegmentKernel$Task") S (List.mem_cons_of_mem _ xw_445) hN.2 hw rfl (by decide) (by decide) (by decide) (by decide) (by decide) d_S_init_7 (fun qb H hw => ?_)
  refine gn_putF (k0 := 0) (k := 0) (ty := (.array (.object "SegmentKernel$Task"))) (v := .ref qb) S hin hw rfl rfl (by decide) nS f11 tk_S nm_S rfl rfl (by decide +kernel) rfl rfl (Nat.le_of_ble_eq_true rfl) d_S_init_10 (fun H locs hw => ?_)
  refine lv_aload_n hx hb d_S_init_13 rfl (lv_at hl 0 rfl) ?_
  refine lv_bipush (v := 8) hx hb d_S_init_14 (by decide) ?_
  refine gn_newQ (t0 := 1) (N' := 8) (C := "SegmentKernel$Task") S (List.mem_cons_of_mem _ xw_445) hN.2 hw rfl (by decide) (by decide) (by decide) (by decide) (by decide) d_S_init_16 (fun qr H hw => ?_)
  refine gn_putF (k0 := 0) (k := 1) (ty := (.array (.object "SegmentKernel$Task"))) (v := .ref qr) S hin hw rfl rfl (by decide) nS f17 tk_S nm_S rfl rfl (by decide +kernel) rfl rfl (Nat.le_of_ble_eq_true rfl) d_S_init_19 (fun H locs hw => ?_)
  refine lv_iconst (v := 0) hx hb d_S_init_22 (by decide) ?_
  refine lv_istore_n (lv' := [(1, .int 0), (0, .ref h0)]) hx hb d_S_init_23 rfl hl (by decide) rfl (fun ls hl => ?_)
  have hw : gw_W D (tyX cI cT) A (wr ++ sw_S cI cT h0 qb qr (fun _ => 0) (fK8 (fun _ => 0) 0) (fK8 (fun _ => 0) 0) 0) s H locs := hw
  exact L24 8 0 qb qr (fun _ => 0) rfl H locs hw ls (lv_sub hl [1, 0] rfl)
abbrev rm_O_init : Room := { frames := 4, cells := 45, slots := 1932, locals := 83 }
def ws_O_init : List Cond := Cond.code y_O_init b_O_init 1 none :: wB
set_option maxHeartbeats 4000000 in
set_option maxRecDepth 100000 in
theorem c_O_init (l : Launch) (D : va_G) {cI cT : ClassId} (wr : va_W) (h0 : Nat) : gn_C l y_O_init ws_O_init rm_O_init D (tyX cI cT) (wr ++ [(h0, .inr (5, [.null, .null, .null]))]) [.ref h0] (fun u => ∃ (qs qa qk qb qr : Nat) (a : Nat → Nat), u = wr ++ ((h0, .inr (5, [.ref qs, .ref qa, .ref qk])) :: (sw_S cI cT qs qb qr a (fK8 a 8) (fK8 a 8) 8 ++ [(qa, .inr (0, [.ref qs, .int 0, .int 0])), (qk, .inr (2, [.ref qs, .int 0, .int 0, .int 0, .null, .null]))]))) 45 1932 := by
  intro sz
  refine gn_met (cc := b_O_init) (maxL := 1) (by decide) rfl rfl (Nat.le_of_ble_eq_true rfl) ?_
  intro p e s m args below meth c A Q S hin hN H locs hw hend ls hl
  have S : CallFix p m c b_O_init 1 s args ws_O_init R_O := S
  have hx := S.1
  have hb := S.2.1
  have hts := S.2.2.2.2
  have hl : lv_has ls 1 [(0, .ref h0)] := hl
  have nO : ∀ w ∈ u_ws R_O T_O 3, w ∈ ws_O_init := fun w h => List.mem_cons_of_mem _ (uT_O w h)
  refine lv_aload_n hx hb d_O_init_0 rfl (lv_at hl 0 rfl) ?_
  refine gn_obj S (List.mem_cons_of_mem _ xw_451) (List.mem_cons_of_mem _ xw_430) (List.mem_cons_of_mem _ xw_431) hl.1 d_O_init_1 (by decide) (Nat.le_of_ble_eq_true rfl) ?_
  refine lv_aload_n hx hb d_O_init_4 rfl (lv_at hl 0 rfl) ?_
  refine gn_new (ci := 4) (fs := [.null, .null, .int 0]) S (fun w h => List.mem_cons_of_mem _ (uT_S w h)) tk_S (List.mem_cons_of_mem _ xw_452) (List.mem_cons_of_mem _ xw_453) (List.mem_cons_of_mem _ xw_14) hw rfl (fun j hj => by rcases (show j = 0 ∨ j = 1 ∨ j = 2 by omega) with rfl | rfl | rfl <;> rfl) (by decide) (by decide) d_O_init_5 (fun qs H hw => ?_)
  refine lv_dup hx hb d_O_init_8 rfl ?_
  rw [← List.append_assoc] at hw
  refine gn_callI (As := []) (rest := [.ref qs, .ref h0]) S hN hw (c_S_init l D _ qs) (cwI 0 hts (wB_call (fun w h => List.mem_cons_of_mem _ h) xw_454) rfl rfl rfl (hts _ (List.mem_cons_of_mem _ xw_14)) (hts _ (List.mem_cons_of_mem _ xw_455)) (hts _ (List.mem_cons_of_mem _ xw_456)) rfl (by decide +kernel) ⟨Nat.le_of_ble_eq_true rfl, Nat.le_of_ble_eq_true rfl⟩) rfl hl.1 rfl (Nat.le_of_ble_eq_true rfl) d_O_init_9 ⟨by decide, by decide⟩ (fun u H locs hu hw => ?_)
  obtain ⟨qb, qr, a, rfl⟩ := hu
  rw [List.append_assoc] at hw
  refine gn_putF (k0 := 0) (k := 0) (ty := (.object "SegmentKernel$TaskSet")) (v := .ref qs) S hin hw rfl rfl (by decide) nO (List.mem_cons_of_mem _ xw_42) tk_O nm_O rfl rfl (by decide +kernel) rfl rfl (Nat.le_of_ble_eq_true rfl) d_O_init_12 (fun H locs hw => ?_)
  have hw : gw_W D (tyX cI cT) A (wr ++ ((h0, .inr (5, [.ref qs, .null, .null])) :: sw_S cI cT qs qb qr a (fK8 a 8) (fK8 a 8) 8)) s H locs := hw
  refine lv_aload_n hx hb d_O_init_15 rfl (lv_at hl 0 rfl) ?_
  refine gn_new (ci := 0) (fs := [.null, .int 0, .int 0]) S (fun w h => List.mem_cons_of_mem _ (uT_A w h)) tk_A (List.mem_cons_of_mem _ xw_457) (List.mem_cons_of_mem _ xw_458) (List.mem_cons_of_mem _ xw_127) hw rfl (fun j hj => by rcases (show j = 0 ∨ j = 1 ∨ j = 2 by omega) with rfl | rfl | rfl <;> rfl) (by decide) (by decide) d_O_init_16 (fun qa H hw => ?_)
  refine lv_dup hx hb d_O_init_19 rfl ?_
  refine lv_aload_n hx hb d_O_init_20 rfl (lv_at hl 0 rfl) ?_
  refine gn_get (k0 := 0) (v := .ref qs) S hw rfl rfl (by decide) nO (List.mem_cons_of_mem _ xw_42) rfl d_O_init_21 ?_
  rw [← List.append_assoc] at hw
  refine gn_callI (As := [.ref qs]) (rest := [.ref qa, .ref h0]) S hN hw (c_A_init l D _ qa qs) (cwI 1 hts (wB_call (fun w h => List.mem_cons_of_mem _ h) xw_459) rfl rfl rfl (hts _ (List.mem_cons_of_mem _ xw_127)) (hts _ (List.mem_cons_of_mem _ xw_460)) (hts _ (List.mem_cons_of_mem _ xw_461)) rfl (by decide +kernel) ⟨Nat.le_of_ble_eq_true rfl, Nat.le_of_ble_eq_true rfl⟩) rfl hl.1 rfl (Nat.le_of_ble_eq_true rfl) d_O_init_24 ⟨by decide, by decide⟩ (fun u H locs hu hw => ?_)
  subst hu
  rw [List.append_assoc] at hw
  refine gn_putF (k0 := 0) (k := 1) (ty := (.object "SegmentKernel$Analysis")) (v := .ref qa) S hin hw rfl rfl (by decide) nO (List.mem_cons_of_mem _ xw_384) tk_O nm_O rfl rfl (by decide +kernel) rfl rfl (Nat.le_of_ble_eq_true rfl) d_O_init_27 (fun H locs hw => ?_)
  have hw : gw_W D (tyX cI cT) A (wr ++ ((h0, .inr (5, [.ref qs, .ref qa, .null])) :: (sw_S cI cT qs qb qr a (fK8 a 8) (fK8 a 8) 8 ++ [(qa, .inr (0, [.ref qs, .int 0, .int 0]))]))) s H locs := hw
  refine lv_aload_n hx hb d_O_init_30 rfl (lv_at hl 0 rfl) ?_
  refine gn_new (ci := 2) (fs := [.null, .int 0, .int 0, .int 0, .null, .null]) S (fun w h => List.mem_cons_of_mem _ (uT_K w h)) tk_K (List.mem_cons_of_mem _ xw_462) (List.mem_cons_of_mem _ xw_463) (List.mem_cons_of_mem _ xw_82) hw rfl (fun j hj => by rcases (show j = 0 ∨ j = 1 ∨ j = 2 ∨ j = 3 ∨ j = 4 ∨ j = 5 by omega) with rfl | rfl | rfl | rfl | rfl | rfl <;> rfl) (by decide) (by decide) d_O_init_31 (fun qk H hw => ?_)
  refine lv_dup hx hb d_O_init_34 rfl ?_
  refine lv_aload_n hx hb d_O_init_35 rfl (lv_at hl 0 rfl) ?_
  refine gn_get (k0 := 0) (v := .ref qs) S hw rfl rfl (by decide) nO (List.mem_cons_of_mem _ xw_42) rfl d_O_init_36 ?_
  rw [← List.append_assoc] at hw
  refine gn_callI (As := [.ref qs]) (rest := [.ref qk, .ref h0]) S hN hw (c_K_init l D _ qk qs) (cwI 1 hts (wB_call (fun w h => List.mem_cons_of_mem _ h) xw_464) rfl rfl rfl (hts _ (List.mem_cons_of_mem _ xw_82)) (hts _ (List.mem_cons_of_mem _ xw_465)) (hts _ (List.mem_cons_of_mem _ xw_466)) rfl (by decide +kernel) ⟨Nat.le_of_ble_eq_true rfl, Nat.le_of_ble_eq_true rfl⟩) rfl hl.1 rfl (Nat.le_of_ble_eq_true rfl) d_O_init_39 ⟨by decide, by decide⟩ (fun u H locs hu hw => ?_)
  subst hu
  rw [List.append_assoc] at hw
  refine gn_putF (k0 := 0) (k := 2) (ty := (.object "SegmentKernel$Kernel")) (v := .ref qk) S hin hw rfl rfl (by decide) nO (List.mem_cons_of_mem _ xw_43) tk_O nm_O rfl rfl (by decide +kernel) rfl rfl (Nat.le_of_ble_eq_true rfl) d_O_init_42 (fun H locs hw => ?_)
  refine hend H locs ls 45 _ ⟨qs, qa, qk, qb, qr, a, rfl⟩ ?_ d_O_init_45
  exact hw
