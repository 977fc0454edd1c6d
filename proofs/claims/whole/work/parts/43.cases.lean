/-! the cases of the law -/
set_option maxHeartbeats 4000000 in
set_option maxRecDepth 100000 in
theorem lc_0 {p : Program} {l : Launch} {e : Env} {s : State} {m : MethodId} {below : List Frame} {meth : Method} {c : Code} {b L : Nat} {xs : Nat → Int32} {A : Nat → Prop} {D : va_G} {cI cT cZ cL : ClassId} {ad bd : Nat → Nat} {oa : Nat} {M M0 : MX} {U U0 : MY} {f : Nat → Int64} {H : Heap} {locs : List Loc} {cells slots : Nat} {Q : State → Prop} {i : Int32} {ls : Array Slot}
    (C : lc_ctx p l s m c b L xs A) (hw : gw_W D (tyL cI cT cZ cL) A (wL cI cT cZ cL ad bd oa M U f) s H locs) (hc : cells + 1 ≤ 601024) (hs : slots + 6 ≤ 7293034) (hin : ∀ j : Int32, (j = 1 ∨ j = 2 ∨ j = 3 ∨ j = 4) → vp_in (i + j) L) (hl : lv_has ls 7 (lvL b oa ad bd i))
    {n n' : Nat} {r : Int32} (h1 : j_O_task n M (xs (i + 1).toNatClampNeg) (xs (i + 2).toNatClampNeg) (xs (i + 3).toNatClampNeg) (xs (i + 4).toNatClampNeg) = some (r, M0)) (h2 : j_Y_task n' U (xs (i + 1).toNatClampNeg) (xs (i + 2).toNatClampNeg) (xs (i + 3).toNatClampNeg) (xs (i + 4).toNatClampNeg) = some (r, U0))
    (kk : ∀ (H : Heap) (locs : List Loc) (f : Nat → Int64) (ls : Array Slot), gw_W D (tyL cI cT cZ cL) A (wL cI cT cZ cL ad bd oa M0 U0 f) s H locs → lv_has ls 7 (lvL b oa ad bd i) → W p l e room_1 s m #[Value.ref b] below meth c H locs (cells + 1) (slots + 6) Q (F0 m 789 ls [])) :
    W p l e room_1 s m #[Value.ref b] below meth c H locs cells slots Q (F0 m 116 ls []) := by
  obtain ⟨S, hlt, hX, hbl, hbA, hZ, hN⟩ := C
  have hx := S.1
  have hb := S.2.1
  have hts := S.2.2.2.2
  have w_46 : CallW room_1 s #[Value.ref b] R_L R_O 46 y_O_task b_O_task 5 (some .boolean) ws_O_task rm_O_task 0 0 4 := cwV 4 hts (wB_callV (fun w h => wB_sub w h) xw_495 xw_496 xw_497 xw_498 xw_393) rfl rfl rfl (by decide +kernel) ⟨Nat.le_of_ble_eq_true rfl, Nat.le_of_ble_eq_true rfl⟩
  have w_50 : CallW room_1 s #[Value.ref b] R_L R_Y 50 y_Y_task b_Y_task 6 (some .boolean) ws_Y_task rm_Y_task 0 0 4 := cwV 4 hts (wB_callV (fun w h => wB_sub w h) xw_499 xw_500 xw_501 xw_502 xw_278) rfl rfl rfl (by decide +kernel) ⟨Nat.le_of_ble_eq_true rfl, Nat.le_of_ble_eq_true rfl⟩
  refine lv_aload_n hx hb d_L_law_116 rfl (lv_at hl 1 rfl) ?_
  refine gl_arg (j := 1) hx hb hX hbl hbA hw.2.2.2.1 (lv_at hl 0 rfl) (lv_at hl 4 rfl) (hin 1 (by decide)) d_L_law_117 d_L_law_118 d_L_law_120 rfl d_L_law_121 d_L_law_122 ?_
  refine gl_arg (j := 2) hx hb hX hbl hbA hw.2.2.2.1 (lv_at hl 0 rfl) (lv_at hl 4 rfl) (hin 2 (by decide)) d_L_law_123 d_L_law_124 d_L_law_126 rfl d_L_law_127 d_L_law_128 ?_
  refine gl_arg (j := 3) hx hb hX hbl hbA hw.2.2.2.1 (lv_at hl 0 rfl) (lv_at hl 4 rfl) (hin 3 (by decide)) d_L_law_129 d_L_law_130 d_L_law_132 rfl d_L_law_133 d_L_law_134 ?_
  refine gl_arg (j := 4) hx hb hX hbl hbA hw.2.2.2.1 (lv_at hl 0 rfl) (lv_at hl 4 rfl) (hin 4 (by decide)) d_L_law_135 d_L_law_136 d_L_law_138 rfl d_L_law_139 d_L_law_140 ?_
  refine fr_calli (wa := wY cI cZ bd U) (w1 := wX cI cT ad M) (wb := [oC oa cL f]) (w2 := wX cI cT ad M0) (As := [.int (xs (i + 1).toNatClampNeg), .int (xs (i + 2).toNatClampNeg), .int (xs (i + 3).toNatClampNeg), .int (xs (i + 4).toNatClampNeg)]) (rest := []) S hw [0, 1] rfl (c_O_task h1) w_46 xa_O rfl rfl hl.1 rfl (Nat.le_of_ble_eq_true rfl) d_L_law_141 ⟨by show cells ≤ 601024; omega, by show slots ≤ 7293034; omega⟩ (fun H locs hw => ?_)
  refine lv_aload_n hx hb d_L_law_144 rfl (lv_at hl 2 rfl) ?_
  refine gl_arg (j := 1) hx hb hX hbl hbA hw.2.2.2.1 (lv_at hl 0 rfl) (lv_at hl 4 rfl) (hin 1 (by decide)) d_L_law_145 d_L_law_146 d_L_law_148 rfl d_L_law_149 d_L_law_150 ?_
  refine gl_arg (j := 2) hx hb hX hbl hbA hw.2.2.2.1 (lv_at hl 0 rfl) (lv_at hl 4 rfl) (hin 2 (by decide)) d_L_law_151 d_L_law_152 d_L_law_154 rfl d_L_law_155 d_L_law_156 ?_
  refine gl_arg (j := 3) hx hb hX hbl hbA hw.2.2.2.1 (lv_at hl 0 rfl) (lv_at hl 4 rfl) (hin 3 (by decide)) d_L_law_157 d_L_law_158 d_L_law_160 rfl d_L_law_161 d_L_law_162 ?_
  refine gl_arg (j := 4) hx hb hX hbl hbA hw.2.2.2.1 (lv_at hl 0 rfl) (lv_at hl 4 rfl) (hin 4 (by decide)) d_L_law_163 d_L_law_164 d_L_law_166 rfl d_L_law_167 d_L_law_168 ?_
  refine fr_calli (wa := []) (w1 := wY cI cZ bd U) (wb := wX cI cT ad M0 ++ [oC oa cL f]) (w2 := wY cI cZ bd U0) (As := [.int (xs (i + 1).toNatClampNeg), .int (xs (i + 2).toNatClampNeg), .int (xs (i + 3).toNatClampNeg), .int (xs (i + 4).toNatClampNeg)]) (rest := [.int r]) S hw [0, 2] rfl (c_Y_task h2) w_50 ya_R rfl rfl hl.1 rfl (Nat.le_of_ble_eq_true rfl) d_L_law_169 ⟨by show cells ≤ 601024; omega, by show slots ≤ 7293034; omega⟩ (fun H locs hw => ?_)
  refine lv_icmp_eq (tgt := 789) hx hb d_L_law_172 (by decide) (fun _ => ?_) (fun h => absurd rfl h)
  exact W.widen (Nat.le_add_right _ _) (Nat.le_add_right _ _) (kk H locs f ls hw hl)
set_option maxHeartbeats 4000000 in
set_option maxRecDepth 100000 in
theorem lc_1 {p : Program} {l : Launch} {e : Env} {s : State} {m : MethodId} {below : List Frame} {meth : Method} {c : Code} {b L : Nat} {xs : Nat → Int32} {A : Nat → Prop} {D : va_G} {cI cT cZ cL : ClassId} {ad bd : Nat → Nat} {oa : Nat} {M M0 : MX} {U U0 : MY} {f : Nat → Int64} {H : Heap} {locs : List Loc} {cells slots : Nat} {Q : State → Prop} {i : Int32} {ls : Array Slot}
    (C : lc_ctx p l s m c b L xs A) (hw : gw_W D (tyL cI cT cZ cL) A (wL cI cT cZ cL ad bd oa M U f) s H locs) (hc : cells + 1 ≤ 601024) (hs : slots + 6 ≤ 7293034) (hin : ∀ j : Int32, (j = 1 ∨ j = 2 ∨ j = 3 ∨ j = 4) → vp_in (i + j) L) (hl : lv_has ls 7 (lvL b oa ad bd i))
    {n n' : Nat} {r : Int32} (h1 : j_O_segment n M (xs (i + 1).toNatClampNeg) (xs (i + 2).toNatClampNeg) = some (r, M0)) (h2 : j_Y_segment n' U (xs (i + 1).toNatClampNeg) (xs (i + 2).toNatClampNeg) = some (r, U0))
    (kk : ∀ (H : Heap) (locs : List Loc) (f : Nat → Int64) (ls : Array Slot), gw_W D (tyL cI cT cZ cL) A (wL cI cT cZ cL ad bd oa M0 U0 f) s H locs → lv_has ls 7 (lvL b oa ad bd i) → W p l e room_1 s m #[Value.ref b] below meth c H locs (cells + 1) (slots + 6) Q (F0 m 789 ls [])) :
    W p l e room_1 s m #[Value.ref b] below meth c H locs cells slots Q (F0 m 177 ls []) := by
  obtain ⟨S, hlt, hX, hbl, hbA, hZ, hN⟩ := C
  have hx := S.1
  have hb := S.2.1
  have hts := S.2.2.2.2
  have w_51 : CallW room_1 s #[Value.ref b] R_L R_O 51 y_O_segment b_O_segment 3 (some .boolean) ws_O_segment rm_O_segment 0 0 2 := cwV 2 hts (wB_callV (fun w h => wB_sub w h) xw_503 xw_504 xw_505 xw_506 xw_393) rfl rfl rfl (by decide +kernel) ⟨Nat.le_of_ble_eq_true rfl, Nat.le_of_ble_eq_true rfl⟩
  have w_55 : CallW room_1 s #[Value.ref b] R_L R_Y 55 y_Y_segment b_Y_segment 3 (some .boolean) ws_Y_segment rm_Y_segment 0 0 2 := cwV 2 hts (wB_callV (fun w h => wB_sub w h) xw_507 xw_508 xw_509 xw_510 xw_278) rfl rfl rfl (by decide +kernel) ⟨Nat.le_of_ble_eq_true rfl, Nat.le_of_ble_eq_true rfl⟩
  refine lv_aload_n hx hb d_L_law_177 rfl (lv_at hl 1 rfl) ?_
  refine gl_arg (j := 1) hx hb hX hbl hbA hw.2.2.2.1 (lv_at hl 0 rfl) (lv_at hl 4 rfl) (hin 1 (by decide)) d_L_law_178 d_L_law_179 d_L_law_181 rfl d_L_law_182 d_L_law_183 ?_
  refine gl_arg (j := 2) hx hb hX hbl hbA hw.2.2.2.1 (lv_at hl 0 rfl) (lv_at hl 4 rfl) (hin 2 (by decide)) d_L_law_184 d_L_law_185 d_L_law_187 rfl d_L_law_188 d_L_law_189 ?_
  refine fr_calli (wa := wY cI cZ bd U) (w1 := wX cI cT ad M) (wb := [oC oa cL f]) (w2 := wX cI cT ad M0) (As := [.int (xs (i + 1).toNatClampNeg), .int (xs (i + 2).toNatClampNeg)]) (rest := []) S hw [0, 1] rfl (c_O_segment h1) w_51 xa_O rfl rfl hl.1 rfl (Nat.le_of_ble_eq_true rfl) d_L_law_190 ⟨by show cells ≤ 601024; omega, by show slots ≤ 7293034; omega⟩ (fun H locs hw => ?_)
  refine lv_aload_n hx hb d_L_law_193 rfl (lv_at hl 2 rfl) ?_
  refine gl_arg (j := 1) hx hb hX hbl hbA hw.2.2.2.1 (lv_at hl 0 rfl) (lv_at hl 4 rfl) (hin 1 (by decide)) d_L_law_194 d_L_law_195 d_L_law_197 rfl d_L_law_198 d_L_law_199 ?_
  refine gl_arg (j := 2) hx hb hX hbl hbA hw.2.2.2.1 (lv_at hl 0 rfl) (lv_at hl 4 rfl) (hin 2 (by decide)) d_L_law_200 d_L_law_201 d_L_law_203 rfl d_L_law_204 d_L_law_205 ?_
  refine fr_calli (wa := []) (w1 := wY cI cZ bd U) (wb := wX cI cT ad M0 ++ [oC oa cL f]) (w2 := wY cI cZ bd U0) (As := [.int (xs (i + 1).toNatClampNeg), .int (xs (i + 2).toNatClampNeg)]) (rest := [.int r]) S hw [0, 2] rfl (c_Y_segment h2) w_55 ya_R rfl rfl hl.1 rfl (Nat.le_of_ble_eq_true rfl) d_L_law_206 ⟨by show cells ≤ 601024; omega, by show slots ≤ 7293034; omega⟩ (fun H locs hw => ?_)
  refine lv_icmp_eq (tgt := 789) hx hb d_L_law_209 (by decide) (fun _ => ?_) (fun h => absurd rfl h)
  exact W.widen (Nat.le_add_right _ _) (Nat.le_add_right _ _) (kk H locs f ls hw hl)
set_option maxHeartbeats 4000000 in
set_option maxRecDepth 100000 in
theorem lc_2 {p : Program} {l : Launch} {e : Env} {s : State} {m : MethodId} {below : List Frame} {meth : Method} {c : Code} {b L : Nat} {xs : Nat → Int32} {A : Nat → Prop} {D : va_G} {cI cT cZ cL : ClassId} {ad bd : Nat → Nat} {oa : Nat} {M M0 : MX} {U U0 : MY} {f : Nat → Int64} {H : Heap} {locs : List Loc} {cells slots : Nat} {Q : State → Prop} {i : Int32} {ls : Array Slot}
    (C : lc_ctx p l s m c b L xs A) (hw : gw_W D (tyL cI cT cZ cL) A (wL cI cT cZ cL ad bd oa M U f) s H locs) (hc : cells + 1 ≤ 601024) (hs : slots + 6 ≤ 7293034) (hin : ∀ j : Int32, (j = 1 ∨ j = 2 ∨ j = 3 ∨ j = 4) → vp_in (i + j) L) (hl : lv_has ls 7 (lvL b oa ad bd i))
    {n n' : Nat} (h1 : j_O_clear n M = some M0) (h2 : j_Y_clear n' U = some U0)
    (kk : ∀ (H : Heap) (locs : List Loc) (f : Nat → Int64) (ls : Array Slot), gw_W D (tyL cI cT cZ cL) A (wL cI cT cZ cL ad bd oa M0 U0 f) s H locs → lv_has ls 7 (lvL b oa ad bd i) → W p l e room_1 s m #[Value.ref b] below meth c H locs (cells + 1) (slots + 6) Q (F0 m 789 ls [])) :
    W p l e room_1 s m #[Value.ref b] below meth c H locs cells slots Q (F0 m 214 ls []) := by
  obtain ⟨S, hlt, hX, hbl, hbA, hZ, hN⟩ := C
  have hx := S.1
  have hb := S.2.1
  have hts := S.2.2.2.2
  have w_56 : CallW room_1 s #[Value.ref b] R_L R_O 56 y_O_clear b_O_clear 1 none ws_O_clear rm_O_clear 0 0 0 := cwV 0 hts (wB_callV (fun w h => wB_sub w h) xw_511 xw_512 xw_513 xw_514 xw_393) rfl rfl rfl (by decide +kernel) ⟨Nat.le_of_ble_eq_true rfl, Nat.le_of_ble_eq_true rfl⟩
  have w_59 : CallW room_1 s #[Value.ref b] R_L R_Y 59 y_Y_clear b_Y_clear 2 none ws_Y_clear rm_Y_clear 0 0 0 := cwV 0 hts (wB_callV (fun w h => wB_sub w h) xw_515 xw_516 xw_517 xw_518 xw_278) rfl rfl rfl (by decide +kernel) ⟨Nat.le_of_ble_eq_true rfl, Nat.le_of_ble_eq_true rfl⟩
  refine lv_aload_n hx hb d_L_law_214 rfl (lv_at hl 1 rfl) ?_
  refine fr_callv (wa := wY cI cZ bd U) (w1 := wX cI cT ad M) (wb := [oC oa cL f]) (w2 := wX cI cT ad M0) (As := []) (rest := []) S hw [0, 1] rfl (c_O_clear h1) w_56 xa_O rfl rfl hl.1 rfl (Nat.le_of_ble_eq_true rfl) d_L_law_215 ⟨by show cells ≤ 601024; omega, by show slots ≤ 7293034; omega⟩ (fun H locs hw => ?_)
  refine lv_aload_n hx hb d_L_law_218 rfl (lv_at hl 2 rfl) ?_
  refine fr_callv (wa := []) (w1 := wY cI cZ bd U) (wb := wX cI cT ad M0 ++ [oC oa cL f]) (w2 := wY cI cZ bd U0) (As := []) (rest := []) S hw [0, 2] rfl (c_Y_clear h2) w_59 ya_R rfl rfl hl.1 rfl (Nat.le_of_ble_eq_true rfl) d_L_law_219 ⟨by show cells ≤ 601024; omega, by show slots ≤ 7293034; omega⟩ (fun H locs hw => ?_)
  refine lv_goto (tgt := 789) hx hb d_L_law_222 (by decide) ?_
  exact W.widen (Nat.le_add_right _ _) (Nat.le_add_right _ _) (kk H locs f ls hw hl)
set_option maxHeartbeats 4000000 in
set_option maxRecDepth 100000 in
theorem lc_3 {p : Program} {l : Launch} {e : Env} {s : State} {m : MethodId} {below : List Frame} {meth : Method} {c : Code} {b L : Nat} {xs : Nat → Int32} {A : Nat → Prop} {D : va_G} {cI cT cZ cL : ClassId} {ad bd : Nat → Nat} {oa : Nat} {M M0 : MX} {U U0 : MY} {f : Nat → Int64} {H : Heap} {locs : List Loc} {cells slots : Nat} {Q : State → Prop} {i : Int32} {ls : Array Slot}
    (C : lc_ctx p l s m c b L xs A) (hw : gw_W D (tyL cI cT cZ cL) A (wL cI cT cZ cL ad bd oa M U f) s H locs) (hc : cells + 1 ≤ 601024) (hs : slots + 6 ≤ 7293034) (hin : ∀ j : Int32, (j = 1 ∨ j = 2 ∨ j = 3 ∨ j = 4) → vp_in (i + j) L) (hl : lv_has ls 7 (lvL b oa ad bd i))
    {n n' : Nat} (h1 : j_O_reset n M = some M0) (h2 : j_Y_reset n' U = some U0)
    (kk : ∀ (H : Heap) (locs : List Loc) (f : Nat → Int64) (ls : Array Slot), gw_W D (tyL cI cT cZ cL) A (wL cI cT cZ cL ad bd oa M0 U0 f) s H locs → lv_has ls 7 (lvL b oa ad bd i) → W p l e room_1 s m #[Value.ref b] below meth c H locs (cells + 1) (slots + 6) Q (F0 m 789 ls [])) :
    W p l e room_1 s m #[Value.ref b] below meth c H locs cells slots Q (F0 m 225 ls []) := by
  obtain ⟨S, hlt, hX, hbl, hbA, hZ, hN⟩ := C
  have hx := S.1
  have hb := S.2.1
  have hts := S.2.2.2.2
  have w_60 : CallW room_1 s #[Value.ref b] R_L R_O 60 y_O_reset b_O_reset 1 none ws_O_reset rm_O_reset 0 0 0 := cwV 0 hts (wB_callV (fun w h => wB_sub w h) xw_519 xw_520 xw_521 xw_522 xw_393) rfl rfl rfl (by decide +kernel) ⟨Nat.le_of_ble_eq_true rfl, Nat.le_of_ble_eq_true rfl⟩
  have w_63 : CallW room_1 s #[Value.ref b] R_L R_Y 63 y_Y_reset b_Y_reset 1 none ws_Y_reset rm_Y_reset 0 0 0 := cwV 0 hts (wB_callV (fun w h => wB_sub w h) xw_523 xw_524 xw_525 xw_526 xw_278) rfl rfl rfl (by decide +kernel) ⟨Nat.le_of_ble_eq_true rfl, Nat.le_of_ble_eq_true rfl⟩
  refine lv_aload_n hx hb d_L_law_225 rfl (lv_at hl 1 rfl) ?_
  refine fr_callv (wa := wY cI cZ bd U) (w1 := wX cI cT ad M) (wb := [oC oa cL f]) (w2 := wX cI cT ad M0) (As := []) (rest := []) S hw [0, 1] rfl (c_O_reset h1) w_60 xa_O rfl rfl hl.1 rfl (Nat.le_of_ble_eq_true rfl) d_L_law_226 ⟨by show cells ≤ 601024; omega, by show slots ≤ 7293034; omega⟩ (fun H locs hw => ?_)
  refine lv_aload_n hx hb d_L_law_229 rfl (lv_at hl 2 rfl) ?_
  refine fr_callv (wa := []) (w1 := wY cI cZ bd U) (wb := wX cI cT ad M0 ++ [oC oa cL f]) (w2 := wY cI cZ bd U0) (As := []) (rest := []) S hw [0, 2] rfl (c_Y_reset h2) w_63 ya_R rfl rfl hl.1 rfl (Nat.le_of_ble_eq_true rfl) d_L_law_230 ⟨by show cells ≤ 601024; omega, by show slots ≤ 7293034; omega⟩ (fun H locs hw => ?_)
  refine lv_goto (tgt := 789) hx hb d_L_law_233 (by decide) ?_
  exact W.widen (Nat.le_add_right _ _) (Nat.le_add_right _ _) (kk H locs f ls hw hl)
set_option maxHeartbeats 4000000 in
set_option maxRecDepth 100000 in
theorem lc_4 {p : Program} {l : Launch} {e : Env} {s : State} {m : MethodId} {below : List Frame} {meth : Method} {c : Code} {b L : Nat} {xs : Nat → Int32} {A : Nat → Prop} {D : va_G} {cI cT cZ cL : ClassId} {ad bd : Nat → Nat} {oa : Nat} {M M0 : MX} {U U0 : MY} {f : Nat → Int64} {H : Heap} {locs : List Loc} {cells slots : Nat} {Q : State → Prop} {i : Int32} {ls : Array Slot}
    (C : lc_ctx p l s m c b L xs A) (hw : gw_W D (tyL cI cT cZ cL) A (wL cI cT cZ cL ad bd oa M U f) s H locs) (hc : cells + 1 ≤ 601024) (hs : slots + 6 ≤ 7293034) (hin : ∀ j : Int32, (j = 1 ∨ j = 2 ∨ j = 3 ∨ j = 4) → vp_in (i + j) L) (hl : lv_has ls 7 (lvL b oa ad bd i))
    {n n' : Nat} {r : Int32} (h1 : j_O_about n M (xs (i + 1).toNatClampNeg) (xs (i + 2).toNatClampNeg) = some r) (hMM : M = M0) (h2 : j_Y_about n' U (xs (i + 1).toNatClampNeg) (xs (i + 2).toNatClampNeg) = some (r, U0))
    (kk : ∀ (H : Heap) (locs : List Loc) (f : Nat → Int64) (ls : Array Slot), gw_W D (tyL cI cT cZ cL) A (wL cI cT cZ cL ad bd oa M0 U0 f) s H locs → lv_has ls 7 (lvL b oa ad bd i) → W p l e room_1 s m #[Value.ref b] below meth c H locs (cells + 1) (slots + 6) Q (F0 m 789 ls [])) :
    W p l e room_1 s m #[Value.ref b] below meth c H locs cells slots Q (F0 m 236 ls []) := by
  subst hMM
  obtain ⟨S, hlt, hX, hbl, hbA, hZ, hN⟩ := C
  have hx := S.1
  have hb := S.2.1
  have hts := S.2.2.2.2
  have w_64 : CallW room_1 s #[Value.ref b] R_L R_O 64 y_O_about b_O_about 4 (some .int) ws_O_about rm_O_about 0 0 2 := cwV 2 hts (wB_callV (fun w h => wB_sub w h) xw_527 xw_528 xw_529 xw_530 xw_393) rfl rfl rfl (by decide +kernel) ⟨Nat.le_of_ble_eq_true rfl, Nat.le_of_ble_eq_true rfl⟩
  have w_67 : CallW room_1 s #[Value.ref b] R_L R_Y 67 y_Y_about b_Y_about 3 (some .int) ws_Y_about rm_Y_about 0 0 2 := cwV 2 hts (wB_callV (fun w h => wB_sub w h) xw_531 xw_532 xw_533 xw_534 xw_278) rfl rfl rfl (by decide +kernel) ⟨Nat.le_of_ble_eq_true rfl, Nat.le_of_ble_eq_true rfl⟩
  refine lv_aload_n hx hb d_L_law_236 rfl (lv_at hl 1 rfl) ?_
  refine gl_arg (j := 1) hx hb hX hbl hbA hw.2.2.2.1 (lv_at hl 0 rfl) (lv_at hl 4 rfl) (hin 1 (by decide)) d_L_law_237 d_L_law_238 d_L_law_240 rfl d_L_law_241 d_L_law_242 ?_
  refine gl_arg (j := 2) hx hb hX hbl hbA hw.2.2.2.1 (lv_at hl 0 rfl) (lv_at hl 4 rfl) (hin 2 (by decide)) d_L_law_243 d_L_law_244 d_L_law_246 rfl d_L_law_247 d_L_law_248 ?_
  refine fr_calli (wa := wY cI cZ bd U) (w1 := wX cI cT ad M) (wb := [oC oa cL f]) (w2 := wX cI cT ad M) (As := [.int (xs (i + 1).toNatClampNeg), .int (xs (i + 2).toNatClampNeg)]) (rest := []) S hw [0, 1] rfl (c_O_about h1) w_64 xa_O rfl rfl hl.1 rfl (Nat.le_of_ble_eq_true rfl) d_L_law_249 ⟨by show cells ≤ 601024; omega, by show slots ≤ 7293034; omega⟩ (fun H locs hw => ?_)
  refine lv_aload_n hx hb d_L_law_252 rfl (lv_at hl 2 rfl) ?_
  refine gl_arg (j := 1) hx hb hX hbl hbA hw.2.2.2.1 (lv_at hl 0 rfl) (lv_at hl 4 rfl) (hin 1 (by decide)) d_L_law_253 d_L_law_254 d_L_law_256 rfl d_L_law_257 d_L_law_258 ?_
  refine gl_arg (j := 2) hx hb hX hbl hbA hw.2.2.2.1 (lv_at hl 0 rfl) (lv_at hl 4 rfl) (hin 2 (by decide)) d_L_law_259 d_L_law_260 d_L_law_262 rfl d_L_law_263 d_L_law_264 ?_
  refine fr_calli (wa := []) (w1 := wY cI cZ bd U) (wb := wX cI cT ad M ++ [oC oa cL f]) (w2 := wY cI cZ bd U0) (As := [.int (xs (i + 1).toNatClampNeg), .int (xs (i + 2).toNatClampNeg)]) (rest := [.int r]) S hw [0, 2] rfl (c_Y_about h2) w_67 ya_R rfl rfl hl.1 rfl (Nat.le_of_ble_eq_true rfl) d_L_law_265 ⟨by show cells ≤ 601024; omega, by show slots ≤ 7293034; omega⟩ (fun H locs hw => ?_)
  refine lv_icmp_eq (tgt := 789) hx hb d_L_law_268 (by decide) (fun _ => ?_) (fun h => absurd rfl h)
  exact W.widen (Nat.le_add_right _ _) (Nat.le_add_right _ _) (kk H locs f ls hw hl)
set_option maxHeartbeats 4000000 in
set_option maxRecDepth 100000 in
theorem lc_5 {p : Program} {l : Launch} {e : Env} {s : State} {m : MethodId} {below : List Frame} {meth : Method} {c : Code} {b L : Nat} {xs : Nat → Int32} {A : Nat → Prop} {D : va_G} {cI cT cZ cL : ClassId} {ad bd : Nat → Nat} {oa : Nat} {M M0 : MX} {U U0 : MY} {f : Nat → Int64} {H : Heap} {locs : List Loc} {cells slots : Nat} {Q : State → Prop} {i : Int32} {ls : Array Slot}
    (C : lc_ctx p l s m c b L xs A) (hw : gw_W D (tyL cI cT cZ cL) A (wL cI cT cZ cL ad bd oa M U f) s H locs) (hc : cells + 1 ≤ 601024) (hs : slots + 6 ≤ 7293034) (hin : ∀ j : Int32, (j = 1 ∨ j = 2 ∨ j = 3 ∨ j = 4) → vp_in (i + j) L) (hl : lv_has ls 7 (lvL b oa ad bd i))
    {n' : Nat} {r : Int32} (h2 : j_Y_admit n' U = some (r, U0)) (h1 : (∃ n, j_O_admit n M = some (Sum.inr (r, M0)) ∧ U0.2 0 = 0) ∨ (∃ n E0 k0, j_O_admit n M = some (Sum.inl (E0, M0)) ∧ (E0 = "java/lang/IllegalStateException" ∧ k0 = 1) ∧ U0.2 0 = k0))
    (kk : ∀ (H : Heap) (locs : List Loc) (f : Nat → Int64) (ls : Array Slot), gw_W D (tyL cI cT cZ cL) A (wL cI cT cZ cL ad bd oa M0 U0 f) s H locs → lv_has ls 7 (lvL b oa ad bd i) → W p l e room_1 s m #[Value.ref b] below meth c H locs (cells + 1) (slots + 6) Q (F0 m 789 ls [])) :
    W p l e room_1 s m #[Value.ref b] below meth c H locs cells slots Q (F0 m 273 ls []) := by
  obtain ⟨S, hlt, hX, hbl, hbA, hZ, hN⟩ := C
  have hx := S.1
  have hb := S.2.1
  have hts := S.2.2.2.2
  have w_73 : CallW room_1 s #[Value.ref b] R_L R_Y 73 y_Y_admit b_Y_admit 1 (some .int) ws_Y_admit rm_Y_admit 0 0 0 := cwV 0 hts (wB_callV (fun w h => wB_sub w h) xw_535 xw_536 xw_537 xw_538 xw_278) rfl rfl rfl (by decide +kernel) ⟨Nat.le_of_ble_eq_true rfl, Nat.le_of_ble_eq_true rfl⟩
  have w_74 : CallW room_1 s #[Value.ref b] R_L R_Y 74 y_Y_thrown b_Y_thrown 1 (some .int) ws_Y_thrown rm_Y_thrown 0 0 0 := cwV 0 hts (wB_callV (fun w h => wB_sub w h) xw_539 xw_540 xw_541 xw_542 xw_278) rfl rfl rfl (by decide +kernel) ⟨Nat.le_of_ble_eq_true rfl, Nat.le_of_ble_eq_true rfl⟩
  rcases h1 with ⟨n, h1, hth⟩ | ⟨n, E0, k0, h1, hE, hth⟩
  · refine lv_aload_n hx hb d_L_law_273 rfl (lv_at hl 1 rfl) ?_
    refine lv_aload_n hx hb d_L_law_274 rfl (lv_at hl 3 rfl) ?_
    refine gl_call (wa := wY cI cZ bd U) (w1 := wX cI cT ad M ++ [oC oa cL f]) (w2 := wX cI cT ad M0 ++ [oC oa cL (vp_updL f 0 r.toInt64)]) (As := [.ref (ad 0), .ref oa]) (n := 2) (rest := []) S hw hZ hN [0, 1, 3] rfl (h_L_admit h1) rfl rfl (Nat.le_of_ble_eq_true rfl) (Nat.le_of_ble_eq_true rfl) (gl_warm hts xv_8) List.mem_cons_self (wB_sub _ xw_543) (wB_sub _ xw_544) (wB_sub _ xw_545) (by decide) (by decide +kernel) rfl hl.1 rfl (Nat.le_of_ble_eq_true rfl) d_L_law_275 hc hs (fun H locs hw => ?_)
    refine lv_istore (lv' := [(5, .int 0), (0, .ref b), (1, .ref (ad 0)), (2, .ref (bd 0)), (3, .ref oa), (4, .int i)]) hx hb d_L_law_278 hl (by decide) rfl (fun ls hl => ?_)
    refine lv_aload_n hx hb d_L_law_280 rfl (lv_at hl 3 rfl) ?_
    refine fr_calli (wa := []) (w1 := wY cI cZ bd U) (wb := wX cI cT ad M0 ++ [oC oa cL (vp_updL f 0 r.toInt64)]) (w2 := wY cI cZ bd U0) (As := []) (rest := []) S hw [0, 2] rfl (c_Y_admit h2) w_73 ya_R rfl rfl hl.1 rfl (Nat.le_of_ble_eq_true rfl) d_L_law_281 ⟨by show cells + 1 ≤ 601024; omega, by show slots + 6 ≤ 7293034; omega⟩ (fun H locs hw => ?_)
    refine lv_istore (lv' := [(6, .int r), (5, .int 0), (0, .ref b), (1, .ref (ad 0)), (2, .ref (bd 0)), (3, .ref oa), (4, .int i)]) hx hb d_L_law_284 hl (by decide) rfl (fun ls hl => ?_)
    refine lv_aload_n hx hb d_L_law_286 rfl (lv_at hl 4 rfl) ?_
    refine fr_calli (wa := []) (w1 := wY cI cZ bd U0) (wb := wX cI cT ad M0 ++ [oC oa cL (vp_updL f 0 r.toInt64)]) (w2 := wY cI cZ bd U0) (As := []) (rest := []) S hw [0, 2] rfl (c_Y_thrown (n := 0) (r0 := U0.2 0) rfl) w_74 ya_R rfl rfl hl.1 rfl (Nat.le_of_ble_eq_true rfl) d_L_law_287 ⟨by show cells + 1 ≤ 601024; omega, by show slots + 6 ≤ 7293034; omega⟩ (fun H locs hw => ?_)
    refine lv_iload hx hb d_L_law_290 (lv_at hl 1 rfl) ?_
    refine lv_icmp_eq (tgt := 297) hx hb d_L_law_292 (by decide) (fun _ => ?_) (fun h => absurd hth h)
    refine lv_iload hx hb d_L_law_297 (lv_at hl 1 rfl) ?_
    refine lv_if_ne (tgt := 314) hx hb d_L_law_299 (by decide) (fun h => absurd rfl h) (fun _ => ?_)
    refine lv_aload_n hx hb d_L_law_302 rfl (lv_at hl 5 rfl) ?_
    refine lv_iconst (v := 0) hx hb d_L_law_303 (by decide) ?_
    refine gl_lald (q0 := (wY cI cZ bd U0).length + ((wX cI cT ad M0).length + 0)) (t0 := 3) (ws := wL cI cT cZ cL ad bd oa M0 U0 (vp_updL f 0 r.toInt64)) S hw ((ap_at _).trans (ap_at 0)) rfl (by decide) d_L_law_304 ?_
    refine lv_iload hx hb d_L_law_305 (lv_at hl 0 rfl) ?_
    refine lv_i2l hx hb d_L_law_307 rfl ?_
    refine W.lcmp hx hb d_L_law_308 ?_
    rw [show vp_updL f 0 r.toInt64 (0 : Int32).toNatClampNeg = r.toInt64 from if_pos rfl, lg_cmp_self]
    refine lv_if_eq (tgt := 314) hx hb d_L_law_309 (by decide) (fun _ => ?_) (fun h => absurd rfl h)
    refine lv_goto (tgt := 789) hx hb d_L_law_314 (by decide) ?_
    exact kk H locs _ ls hw (lv_sub hl [2, 3, 4, 5, 6] rfl)
  · have hk0 : ¬ k0 = 0 := by
      rcases hE with ⟨-, rfl⟩ <;> decide
    refine lv_aload_n hx hb d_L_law_273 rfl (lv_at hl 1 rfl) ?_
    refine lv_aload_n hx hb d_L_law_274 rfl (lv_at hl 3 rfl) ?_
    refine gl_call (wa := wY cI cZ bd U) (w1 := wX cI cT ad M ++ [oC oa cL f]) (w2 := wX cI cT ad M0 ++ [oC oa cL f]) (As := [.ref (ad 0), .ref oa]) (n := 2) (rest := []) S hw hZ hN [0, 1, 3] rfl (ht_L_admit hlt h1 hE) rfl rfl (Nat.le_of_ble_eq_true rfl) (Nat.le_of_ble_eq_true rfl) (gl_warm hts xv_8) List.mem_cons_self (wB_sub _ xw_543) (wB_sub _ xw_544) (wB_sub _ xw_545) (by decide) (by decide +kernel) rfl hl.1 rfl (Nat.le_of_ble_eq_true rfl) d_L_law_275 hc hs (fun H locs hw => ?_)
    refine lv_istore (lv' := [(5, .int k0), (0, .ref b), (1, .ref (ad 0)), (2, .ref (bd 0)), (3, .ref oa), (4, .int i)]) hx hb d_L_law_278 hl (by decide) rfl (fun ls hl => ?_)
    refine lv_aload_n hx hb d_L_law_280 rfl (lv_at hl 3 rfl) ?_
    refine fr_calli (wa := []) (w1 := wY cI cZ bd U) (wb := wX cI cT ad M0 ++ [oC oa cL f]) (w2 := wY cI cZ bd U0) (As := []) (rest := []) S hw [0, 2] rfl (c_Y_admit h2) w_73 ya_R rfl rfl hl.1 rfl (Nat.le_of_ble_eq_true rfl) d_L_law_281 ⟨by show cells + 1 ≤ 601024; omega, by show slots + 6 ≤ 7293034; omega⟩ (fun H locs hw => ?_)
    refine lv_istore (lv' := [(6, .int r), (5, .int k0), (0, .ref b), (1, .ref (ad 0)), (2, .ref (bd 0)), (3, .ref oa), (4, .int i)]) hx hb d_L_law_284 hl (by decide) rfl (fun ls hl => ?_)
    refine lv_aload_n hx hb d_L_law_286 rfl (lv_at hl 4 rfl) ?_
    refine fr_calli (wa := []) (w1 := wY cI cZ bd U0) (wb := wX cI cT ad M0 ++ [oC oa cL f]) (w2 := wY cI cZ bd U0) (As := []) (rest := []) S hw [0, 2] rfl (c_Y_thrown (n := 0) (r0 := U0.2 0) rfl) w_74 ya_R rfl rfl hl.1 rfl (Nat.le_of_ble_eq_true rfl) d_L_law_287 ⟨by show cells + 1 ≤ 601024; omega, by show slots + 6 ≤ 7293034; omega⟩ (fun H locs hw => ?_)
    refine lv_iload hx hb d_L_law_290 (lv_at hl 1 rfl) ?_
    refine lv_icmp_eq (tgt := 297) hx hb d_L_law_292 (by decide) (fun _ => ?_) (fun h => absurd hth h)
    refine lv_iload hx hb d_L_law_297 (lv_at hl 1 rfl) ?_
    refine lv_if_ne (tgt := 314) hx hb d_L_law_299 (by decide) (fun _ => ?_) (fun h => absurd h hk0)
    refine lv_goto (tgt := 789) hx hb d_L_law_314 (by decide) ?_
    exact kk H locs _ ls hw (lv_sub hl [2, 3, 4, 5, 6] rfl)
set_option maxHeartbeats 4000000 in
set_option maxRecDepth 100000 in
theorem lc_6 {p : Program} {l : Launch} {e : Env} {s : State} {m : MethodId} {below : List Frame} {meth : Method} {c : Code} {b L : Nat} {xs : Nat → Int32} {A : Nat → Prop} {D : va_G} {cI cT cZ cL : ClassId} {ad bd : Nat → Nat} {oa : Nat} {M M0 : MX} {U U0 : MY} {f : Nat → Int64} {H : Heap} {locs : List Loc} {cells slots : Nat} {Q : State → Prop} {i : Int32} {ls : Array Slot}
    (C : lc_ctx p l s m c b L xs A) (hw : gw_W D (tyL cI cT cZ cL) A (wL cI cT cZ cL ad bd oa M U f) s H locs) (hc : cells + 1 ≤ 601024) (hs : slots + 6 ≤ 7293034) (hin : ∀ j : Int32, (j = 1 ∨ j = 2 ∨ j = 3 ∨ j = 4) → vp_in (i + j) L) (hl : lv_has ls 7 (lvL b oa ad bd i))
    {n' : Nat} {r : Int32} (h2 : j_Y_response n' U (xs (i + 1).toNatClampNeg) = some (r, U0)) (h1 : (∃ n, j_O_response n M (xs (i + 1).toNatClampNeg) = some (Sum.inr (r, M0)) ∧ U0.2 0 = 0) ∨ (∃ n E0 k0, j_O_response n M (xs (i + 1).toNatClampNeg) = some (Sum.inl (E0, M0)) ∧ ((E0 = "java/lang/IndexOutOfBoundsException" ∧ k0 = 1) ∨ (E0 = "java/lang/IllegalStateException" ∧ k0 = 2) ∨ (E0 = "java/lang/ArithmeticException" ∧ k0 = 3)) ∧ U0.2 0 = k0))
    (kk : ∀ (H : Heap) (locs : List Loc) (f : Nat → Int64) (ls : Array Slot), gw_W D (tyL cI cT cZ cL) A (wL cI cT cZ cL ad bd oa M0 U0 f) s H locs → lv_has ls 7 (lvL b oa ad bd i) → W p l e room_1 s m #[Value.ref b] below meth c H locs (cells + 1) (slots + 6) Q (F0 m 789 ls [])) :
    W p l e room_1 s m #[Value.ref b] below meth c H locs cells slots Q (F0 m 317 ls []) := by
  obtain ⟨S, hlt, hX, hbl, hbA, hZ, hN⟩ := C
  have hx := S.1
  have hb := S.2.1
  have hts := S.2.2.2.2
  have w_80 : CallW room_1 s #[Value.ref b] R_L R_Y 80 y_Y_response b_Y_response 2 (some .int) ws_Y_response rm_Y_response 0 0 1 := cwV 1 hts (wB_callV (fun w h => wB_sub w h) xw_546 xw_547 xw_548 xw_549 xw_278) rfl rfl rfl (by decide +kernel) ⟨Nat.le_of_ble_eq_true rfl, Nat.le_of_ble_eq_true rfl⟩
  have w_74 : CallW room_1 s #[Value.ref b] R_L R_Y 74 y_Y_thrown b_Y_thrown 1 (some .int) ws_Y_thrown rm_Y_thrown 0 0 0 := cwV 0 hts (wB_callV (fun w h => wB_sub w h) xw_539 xw_540 xw_541 xw_542 xw_278) rfl rfl rfl (by decide +kernel) ⟨Nat.le_of_ble_eq_true rfl, Nat.le_of_ble_eq_true rfl⟩
  rcases h1 with ⟨n, h1, hth⟩ | ⟨n, E0, k0, h1, hE, hth⟩
  · refine lv_aload_n hx hb d_L_law_317 rfl (lv_at hl 1 rfl) ?_
    refine gl_arg (j := 1) hx hb hX hbl hbA hw.2.2.2.1 (lv_at hl 0 rfl) (lv_at hl 4 rfl) (hin 1 (by decide)) d_L_law_318 d_L_law_319 d_L_law_321 rfl d_L_law_322 d_L_law_323 ?_
    refine lv_aload_n hx hb d_L_law_324 rfl (lv_at hl 3 rfl) ?_
    refine gl_call (wa := wY cI cZ bd U) (w1 := wX cI cT ad M ++ [oC oa cL f]) (w2 := wX cI cT ad M0 ++ [oC oa cL (vp_updL f 0 r.toInt64)]) (As := [.ref (ad 0), .int (xs (i + 1).toNatClampNeg), .ref oa]) (n := 3) (rest := []) S hw hZ hN [0, 1, 3] rfl (h_L_response h1) rfl rfl (Nat.le_of_ble_eq_true rfl) (Nat.le_of_ble_eq_true rfl) (gl_warm hts xv_9) List.mem_cons_self (wB_sub _ xw_543) (wB_sub _ xw_550) (wB_sub _ xw_551) (by decide) (by decide +kernel) rfl hl.1 rfl (Nat.le_of_ble_eq_true rfl) d_L_law_325 hc hs (fun H locs hw => ?_)
    refine lv_istore (lv' := [(5, .int 0), (0, .ref b), (1, .ref (ad 0)), (2, .ref (bd 0)), (3, .ref oa), (4, .int i)]) hx hb d_L_law_328 hl (by decide) rfl (fun ls hl => ?_)
    refine lv_aload_n hx hb d_L_law_330 rfl (lv_at hl 3 rfl) ?_
    refine gl_arg (j := 1) hx hb hX hbl hbA hw.2.2.2.1 (lv_at hl 1 rfl) (lv_at hl 5 rfl) (hin 1 (by decide)) d_L_law_331 d_L_law_332 d_L_law_334 rfl d_L_law_335 d_L_law_336 ?_
    refine fr_calli (wa := []) (w1 := wY cI cZ bd U) (wb := wX cI cT ad M0 ++ [oC oa cL (vp_updL f 0 r.toInt64)]) (w2 := wY cI cZ bd U0) (As := [.int (xs (i + 1).toNatClampNeg)]) (rest := []) S hw [0, 2] rfl (c_Y_response h2) w_80 ya_R rfl rfl hl.1 rfl (Nat.le_of_ble_eq_true rfl) d_L_law_337 ⟨by show cells + 1 ≤ 601024; omega, by show slots + 6 ≤ 7293034; omega⟩ (fun H locs hw => ?_)
    refine lv_istore (lv' := [(6, .int r), (5, .int 0), (0, .ref b), (1, .ref (ad 0)), (2, .ref (bd 0)), (3, .ref oa), (4, .int i)]) hx hb d_L_law_340 hl (by decide) rfl (fun ls hl => ?_)
    refine lv_aload_n hx hb d_L_law_342 rfl (lv_at hl 4 rfl) ?_
    refine fr_calli (wa := []) (w1 := wY cI cZ bd U0) (wb := wX cI cT ad M0 ++ [oC oa cL (vp_updL f 0 r.toInt64)]) (w2 := wY cI cZ bd U0) (As := []) (rest := []) S hw [0, 2] rfl (c_Y_thrown (n := 0) (r0 := U0.2 0) rfl) w_74 ya_R rfl rfl hl.1 rfl (Nat.le_of_ble_eq_true rfl) d_L_law_343 ⟨by show cells + 1 ≤ 601024; omega, by show slots + 6 ≤ 7293034; omega⟩ (fun H locs hw => ?_)
    refine lv_iload hx hb d_L_law_346 (lv_at hl 1 rfl) ?_
    refine lv_icmp_eq (tgt := 353) hx hb d_L_law_348 (by decide) (fun _ => ?_) (fun h => absurd hth h)
    refine lv_iload hx hb d_L_law_353 (lv_at hl 1 rfl) ?_
    refine lv_if_ne (tgt := 370) hx hb d_L_law_355 (by decide) (fun h => absurd rfl h) (fun _ => ?_)
    refine lv_aload_n hx hb d_L_law_358 rfl (lv_at hl 5 rfl) ?_
    refine lv_iconst (v := 0) hx hb d_L_law_359 (by decide) ?_
    refine gl_lald (q0 := (wY cI cZ bd U0).length + ((wX cI cT ad M0).length + 0)) (t0 := 3) (ws := wL cI cT cZ cL ad bd oa M0 U0 (vp_updL f 0 r.toInt64)) S hw ((ap_at _).trans (ap_at 0)) rfl (by decide) d_L_law_360 ?_
    refine lv_iload hx hb d_L_law_361 (lv_at hl 0 rfl) ?_
    refine lv_i2l hx hb d_L_law_363 rfl ?_
    refine W.lcmp hx hb d_L_law_364 ?_
    rw [show vp_updL f 0 r.toInt64 (0 : Int32).toNatClampNeg = r.toInt64 from if_pos rfl, lg_cmp_self]
    refine lv_if_eq (tgt := 370) hx hb d_L_law_365 (by decide) (fun _ => ?_) (fun h => absurd rfl h)
    refine lv_goto (tgt := 789) hx hb d_L_law_370 (by decide) ?_
    exact kk H locs _ ls hw (lv_sub hl [2, 3, 4, 5, 6] rfl)
  · have hk0 : ¬ k0 = 0 := by
      rcases hE with ⟨-, rfl⟩ | ⟨-, rfl⟩ | ⟨-, rfl⟩ <;> decide
    refine lv_aload_n hx hb d_L_law_317 rfl (lv_at hl 1 rfl) ?_
    refine gl_arg (j := 1) hx hb hX hbl hbA hw.2.2.2.1 (lv_at hl 0 rfl) (lv_at hl 4 rfl) (hin 1 (by decide)) d_L_law_318 d_L_law_319 d_L_law_321 rfl d_L_law_322 d_L_law_323 ?_
    refine lv_aload_n hx hb d_L_law_324 rfl (lv_at hl 3 rfl) ?_
    refine gl_call (wa := wY cI cZ bd U) (w1 := wX cI cT ad M ++ [oC oa cL f]) (w2 := wX cI cT ad M0 ++ [oC oa cL f]) (As := [.ref (ad 0), .int (xs (i + 1).toNatClampNeg), .ref oa]) (n := 3) (rest := []) S hw hZ hN [0, 1, 3] rfl (ht_L_response hlt h1 hE) rfl rfl (Nat.le_of_ble_eq_true rfl) (Nat.le_of_ble_eq_true rfl) (gl_warm hts xv_9) List.mem_cons_self (wB_sub _ xw_543) (wB_sub _ xw_550) (wB_sub _ xw_551) (by decide) (by decide +kernel) rfl hl.1 rfl (Nat.le_of_ble_eq_true rfl) d_L_law_325 hc hs (fun H locs hw => ?_)
    refine lv_istore (lv' := [(5, .int k0), (0, .ref b), (1, .ref (ad 0)), (2, .ref (bd 0)), (3, .ref oa), (4, .int i)]) hx hb d_L_law_328 hl (by decide) rfl (fun ls hl => ?_)
    refine lv_aload_n hx hb d_L_law_330 rfl (lv_at hl 3 rfl) ?_
    refine gl_arg (j := 1) hx hb hX hbl hbA hw.2.2.2.1 (lv_at hl 1 rfl) (lv_at hl 5 rfl) (hin 1 (by decide)) d_L_law_331 d_L_law_332 d_L_law_334 rfl d_L_law_335 d_L_law_336 ?_
    refine fr_calli (wa := []) (w1 := wY cI cZ bd U) (wb := wX cI cT ad M0 ++ [oC oa cL f]) (w2 := wY cI cZ bd U0) (As := [.int (xs (i + 1).toNatClampNeg)]) (rest := []) S hw [0, 2] rfl (c_Y_response h2) w_80 ya_R rfl rfl hl.1 rfl (Nat.le_of_ble_eq_true rfl) d_L_law_337 ⟨by show cells + 1 ≤ 601024; omega, by show slots + 6 ≤ 7293034; omega⟩ (fun H locs hw => ?_)
    refine lv_istore (lv' := [(6, .int r), (5, .int k0), (0, .ref b), (1, .ref (ad 0)), (2, .ref (bd 0)), (3, .ref oa), (4, .int i)]) hx hb d_L_law_340 hl (by decide) rfl (fun ls hl => ?_)
    refine lv_aload_n hx hb d_L_law_342 rfl (lv_at hl 4 rfl) ?_
    refine fr_calli (wa := []) (w1 := wY cI cZ bd U0) (wb := wX cI cT ad M0 ++ [oC oa cL f]) (w2 := wY cI cZ bd U0) (As := []) (rest := []) S hw [0, 2] rfl (c_Y_thrown (n := 0) (r0 := U0.2 0) rfl) w_74 ya_R rfl rfl hl.1 rfl (Nat.le_of_ble_eq_true rfl) d_L_law_343 ⟨by show cells + 1 ≤ 601024; omega, by show slots + 6 ≤ 7293034; omega⟩ (fun H locs hw => ?_)
    refine lv_iload hx hb d_L_law_346 (lv_at hl 1 rfl) ?_
    refine lv_icmp_eq (tgt := 353) hx hb d_L_law_348 (by decide) (fun _ => ?_) (fun h => absurd hth h)
    refine lv_iload hx hb d_L_law_353 (lv_at hl 1 rfl) ?_
    refine lv_if_ne (tgt := 370) hx hb d_L_law_355 (by decide) (fun _ => ?_) (fun h => absurd h hk0)
    refine lv_goto (tgt := 789) hx hb d_L_law_370 (by decide) ?_
    exact kk H locs _ ls hw (lv_sub hl [2, 3, 4, 5, 6] rfl)
set_option maxHeartbeats 4000000 in
set_option maxRecDepth 100000 in
theorem lc_7 {p : Program} {l : Launch} {e : Env} {s : State} {m : MethodId} {below : List Frame} {meth : Method} {c : Code} {b L : Nat} {xs : Nat → Int32} {A : Nat → Prop} {D : va_G} {cI cT cZ cL : ClassId} {ad bd : Nat → Nat} {oa : Nat} {M M0 : MX} {U U0 : MY} {f : Nat → Int64} {H : Heap} {locs : List Loc} {cells slots : Nat} {Q : State → Prop} {i : Int32} {ls : Array Slot}
    (C : lc_ctx p l s m c b L xs A) (hw : gw_W D (tyL cI cT cZ cL) A (wL cI cT cZ cL ad bd oa M U f) s H locs) (hc : cells + 1 ≤ 601024) (hs : slots + 6 ≤ 7293034) (hin : ∀ j : Int32, (j = 1 ∨ j = 2 ∨ j = 3 ∨ j = 4) → vp_in (i + j) L) (hl : lv_has ls 7 (lvL b oa ad bd i))
    {n' : Nat} {r : Int32} (h2 : j_Y_job n' U (xs (i + 1).toNatClampNeg) (xs (i + 2).toNatClampNeg) = some (r, U0)) (h1 : (∃ n, j_O_job n M (xs (i + 1).toNatClampNeg) (xs (i + 2).toNatClampNeg) = some (Sum.inr (r, M0)) ∧ U0.2 0 = 0) ∨ (∃ n E0 k0, j_O_job n M (xs (i + 1).toNatClampNeg) (xs (i + 2).toNatClampNeg) = some (Sum.inl (E0, M0)) ∧ ((E0 = "java/lang/IndexOutOfBoundsException" ∧ k0 = 1) ∨ (E0 = "java/lang/IllegalStateException" ∧ k0 = 2) ∨ (E0 = "java/lang/ArithmeticException" ∧ k0 = 3)) ∧ U0.2 0 = k0))
    (kk : ∀ (H : Heap) (locs : List Loc) (f : Nat → Int64) (ls : Array Slot), gw_W D (tyL cI cT cZ cL) A (wL cI cT cZ cL ad bd oa M0 U0 f) s H locs → lv_has ls 7 (lvL b oa ad bd i) → W p l e room_1 s m #[Value.ref b] below meth c H locs (cells + 1) (slots + 6) Q (F0 m 789 ls [])) :
    W p l e room_1 s m #[Value.ref b] below meth c H locs cells slots Q (F0 m 373 ls []) := by
  obtain ⟨S, hlt, hX, hbl, hbA, hZ, hN⟩ := C
  have hx := S.1
  have hb := S.2.1
  have hts := S.2.2.2.2
  have w_84 : CallW room_1 s #[Value.ref b] R_L R_Y 84 y_Y_job b_Y_job 4 (some .int) ws_Y_job rm_Y_job 0 0 2 := cwV 2 hts (wB_callV (fun w h => wB_sub w h) xw_552 xw_553 xw_554 xw_555 xw_278) rfl rfl rfl (by decide +kernel) ⟨Nat.le_of_ble_eq_true rfl, Nat.le_of_ble_eq_true rfl⟩
  have w_74 : CallW room_1 s #[Value.ref b] R_L R_Y 74 y_Y_thrown b_Y_thrown 1 (some .int) ws_Y_thrown rm_Y_thrown 0 0 0 := cwV 0 hts (wB_callV (fun w h => wB_sub w h) xw_539 xw_540 xw_541 xw_542 xw_278) rfl rfl rfl (by decide +kernel) ⟨Nat.le_of_ble_eq_true rfl, Nat.le_of_ble_eq_true rfl⟩
  rcases h1 with ⟨n, h1, hth⟩ | ⟨n, E0, k0, h1, hE, hth⟩
  · refine lv_aload_n hx hb d_L_law_373 rfl (lv_at hl 1 rfl) ?_
    refine gl_arg (j := 1) hx hb hX hbl hbA hw.2.2.2.1 (lv_at hl 0 rfl) (lv_at hl 4 rfl) (hin 1 (by decide)) d_L_law_374 d_L_law_375 d_L_law_377 rfl d_L_law_378 d_L_law_379 ?_
    refine gl_arg (j := 2) hx hb hX hbl hbA hw.2.2.2.1 (lv_at hl 0 rfl) (lv_at hl 4 rfl) (hin 2 (by decide)) d_L_law_380 d_L_law_381 d_L_law_383 rfl d_L_law_384 d_L_law_385 ?_
    refine lv_aload_n hx hb d_L_law_386 rfl (lv_at hl 3 rfl) ?_
    refine gl_call (wa := wY cI cZ bd U) (w1 := wX cI cT ad M ++ [oC oa cL f]) (w2 := wX cI cT ad M0 ++ [oC oa cL (vp_updL f 0 r.toInt64)]) (As := [.ref (ad 0), .int (xs (i + 1).toNatClampNeg), .int (xs (i + 2).toNatClampNeg), .ref oa]) (n := 4) (rest := []) S hw hZ hN [0, 1, 3] rfl (h_L_job h1) rfl rfl (Nat.le_of_ble_eq_true rfl) (Nat.le_of_ble_eq_true rfl) (gl_warm hts xv_10) List.mem_cons_self (wB_sub _ xw_543) (wB_sub _ xw_556) (wB_sub _ xw_557) (by decide) (by decide +kernel) rfl hl.1 rfl (Nat.le_of_ble_eq_true rfl) d_L_law_387 hc hs (fun H locs hw => ?_)
    refine lv_istore (lv' := [(5, .int 0), (0, .ref b), (1, .ref (ad 0)), (2, .ref (bd 0)), (3, .ref oa), (4, .int i)]) hx hb d_L_law_390 hl (by decide) rfl (fun ls hl => ?_)
    refine lv_aload_n hx hb d_L_law_392 rfl (lv_at hl 3 rfl) ?_
    refine gl_arg (j := 1) hx hb hX hbl hbA hw.2.2.2.1 (lv_at hl 1 rfl) (lv_at hl 5 rfl) (hin 1 (by decide)) d_L_law_393 d_L_law_394 d_L_law_396 rfl d_L_law_397 d_L_law_398 ?_
    refine gl_arg (j := 2) hx hb hX hbl hbA hw.2.2.2.1 (lv_at hl 1 rfl) (lv_at hl 5 rfl) (hin 2 (by decide)) d_L_law_399 d_L_law_400 d_L_law_402 rfl d_L_law_403 d_L_law_404 ?_
    refine fr_calli (wa := []) (w1 := wY cI cZ bd U) (wb := wX cI cT ad M0 ++ [oC oa cL (vp_updL f 0 r.toInt64)]) (w2 := wY cI cZ bd U0) (As := [.int (xs (i + 1).toNatClampNeg), .int (xs (i + 2).toNatClampNeg)]) (rest := []) S hw [0, 2] rfl (c_Y_job h2) w_84 ya_R rfl rfl hl.1 rfl (Nat.le_of_ble_eq_true rfl) d_L_law_405 ⟨by show cells + 1 ≤ 601024; omega, by show slots + 6 ≤ 7293034; omega⟩ (fun H locs hw => ?_)
    refine lv_istore (lv' := [(6, .int r), (5, .int 0), (0, .ref b), (1, .ref (ad 0)), (2, .ref (bd 0)), (3, .ref oa), (4, .int i)]) hx hb d_L_law_408 hl (by decide) rfl (fun ls hl => ?_)
    refine lv_aload_n hx hb d_L_law_410 rfl (lv_at hl 4 rfl) ?_
    refine fr_calli (wa := []) (w1 := wY cI cZ bd U0) (wb := wX cI cT ad M0 ++ [oC oa cL (vp_updL f 0 r.toInt64)]) (w2 := wY cI cZ bd U0) (As := []) (rest := []) S hw [0, 2] rfl (c_Y_thrown (n := 0) (r0 := U0.2 0) rfl) w_74 ya_R rfl rfl hl.1 rfl (Nat.le_of_ble_eq_true rfl) d_L_law_411 ⟨by show cells + 1 ≤ 601024; omega, by show slots + 6 ≤ 7293034; omega⟩ (fun H locs hw => ?_)
    refine lv_iload hx hb d_L_law_414 (lv_at hl 1 rfl) ?_
    refine lv_icmp_eq (tgt := 421) hx hb d_L_law_416 (by decide) (fun _ => ?_) (fun h => absurd hth h)
    refine lv_iload hx hb d_L_law_421 (lv_at hl 1 rfl) ?_
    refine lv_if_ne (tgt := 438) hx hb d_L_law_423 (by decide) (fun h => absurd rfl h) (fun _ => ?_)
    refine lv_aload_n hx hb d_L_law_426 rfl (lv_at hl 5 rfl) ?_
    refine lv_iconst (v := 0) hx hb d_L_law_427 (by decide) ?_
    refine gl_lald (q0 := (wY cI cZ bd U0).length + ((wX cI cT ad M0).length + 0)) (t0 := 3) (ws := wL cI cT cZ cL ad bd oa M0 U0 (vp_updL f 0 r.toInt64)) S hw ((ap_at _).trans (ap_at 0)) rfl (by decide) d_L_law_428 ?_
    refine lv_iload hx hb d_L_law_429 (lv_at hl 0 rfl) ?_
    refine lv_i2l hx hb d_L_law_431 rfl ?_
    refine W.lcmp hx hb d_L_law_432 ?_
    rw [show vp_updL f 0 r.toInt64 (0 : Int32).toNatClampNeg = r.toInt64 from if_pos rfl, lg_cmp_self]
    refine lv_if_eq (tgt := 438) hx hb d_L_law_433 (by decide) (fun _ => ?_) (fun h => absurd rfl h)
    refine lv_goto (tgt := 789) hx hb d_L_law_438 (by decide) ?_
    exact kk H locs _ ls hw (lv_sub hl [2, 3, 4, 5, 6] rfl)
  · have hk0 : ¬ k0 = 0 := by
      rcases hE with ⟨-, rfl⟩ | ⟨-, rfl⟩ | ⟨-, rfl⟩ <;> decide
    refine lv_aload_n hx hb d_L_law_373 rfl (lv_at hl 1 rfl) ?_
    refine gl_arg (j := 1) hx hb hX hbl hbA hw.2.2.2.1 (lv_at hl 0 rfl) (lv_at hl 4 rfl) (hin 1 (by decide)) d_L_law_374 d_L_law_375 d_L_law_377 rfl d_L_law_378 d_L_law_379 ?_
    refine gl_arg (j := 2) hx hb hX hbl hbA hw.2.2.2.1 (lv_at hl 0 rfl) (lv_at hl 4 rfl) (hin 2 (by decide)) d_L_law_380 d_L_law_381 d_L_law_383 rfl d_L_law_384 d_L_law_385 ?_
    refine lv_aload_n hx hb d_L_law_386 rfl (lv_at hl 3 rfl) ?_
    refine gl_call (wa := wY cI cZ bd U) (w1 := wX cI cT ad M ++ [oC oa cL f]) (w2 := wX cI cT ad M0 ++ [oC oa cL f]) (As := [.ref (ad 0), .int (xs (i + 1).toNatClampNeg), .int (xs (i + 2).toNatClampNeg), .ref oa]) (n := 4) (rest := []) S hw hZ hN [0, 1, 3] rfl (ht_L_job hlt h1 hE) rfl rfl (Nat.le_of_ble_eq_true rfl) (Nat.le_of_ble_eq_true rfl) (gl_warm hts xv_10) List.mem_cons_self (wB_sub _ xw_543) (wB_sub _ xw_556) (wB_sub _ xw_557) (by decide) (by decide +kernel) rfl hl.1 rfl (Nat.le_of_ble_eq_true rfl) d_L_law_387 hc hs (fun H locs hw => ?_)
    refine lv_istore (lv' := [(5, .int k0), (0, .ref b), (1, .ref (ad 0)), (2, .ref (bd 0)), (3, .ref oa), (4, .int i)]) hx hb d_L_law_390 hl (by decide) rfl (fun ls hl => ?_)
    refine lv_aload_n hx hb d_L_law_392 rfl (lv_at hl 3 rfl) ?_
    refine gl_arg (j := 1) hx hb hX hbl hbA hw.2.2.2.1 (lv_at hl 1 rfl) (lv_at hl 5 rfl) (hin 1 (by decide)) d_L_law_393 d_L_law_394 d_L_law_396 rfl d_L_law_397 d_L_law_398 ?_
    refine gl_arg (j := 2) hx hb hX hbl hbA hw.2.2.2.1 (lv_at hl 1 rfl) (lv_at hl 5 rfl) (hin 2 (by decide)) d_L_law_399 d_L_law_400 d_L_law_402 rfl d_L_law_403 d_L_law_404 ?_
    refine fr_calli (wa := []) (w1 := wY cI cZ bd U) (wb := wX cI cT ad M0 ++ [oC oa cL f]) (w2 := wY cI cZ bd U0) (As := [.int (xs (i + 1).toNatClampNeg), .int (xs (i + 2).toNatClampNeg)]) (rest := []) S hw [0, 2] rfl (c_Y_job h2) w_84 ya_R rfl rfl hl.1 rfl (Nat.le_of_ble_eq_true rfl) d_L_law_405 ⟨by show cells + 1 ≤ 601024; omega, by show slots + 6 ≤ 7293034; omega⟩ (fun H locs hw => ?_)
    refine lv_istore (lv' := [(6, .int r), (5, .int k0), (0, .ref b), (1, .ref (ad 0)), (2, .ref (bd 0)), (3, .ref oa), (4, .int i)]) hx hb d_L_law_408 hl (by decide) rfl (fun ls hl => ?_)
    refine lv_aload_n hx hb d_L_law_410 rfl (lv_at hl 4 rfl) ?_
    refine fr_calli (wa := []) (w1 := wY cI cZ bd U0) (wb := wX cI cT ad M0 ++ [oC oa cL f]) (w2 := wY cI cZ bd U0) (As := []) (rest := []) S hw [0, 2] rfl (c_Y_thrown (n := 0) (r0 := U0.2 0) rfl) w_74 ya_R rfl rfl hl.1 rfl (Nat.le_of_ble_eq_true rfl) d_L_law_411 ⟨by show cells + 1 ≤ 601024; omega, by show slots + 6 ≤ 7293034; omega⟩ (fun H locs hw => ?_)
    refine lv_iload hx hb d_L_law_414 (lv_at hl 1 rfl) ?_
    refine lv_icmp_eq (tgt := 421) hx hb d_L_law_416 (by decide) (fun _ => ?_) (fun h => absurd hth h)
    refine lv_iload hx hb d_L_law_421 (lv_at hl 1 rfl) ?_
    refine lv_if_ne (tgt := 438) hx hb d_L_law_423 (by decide) (fun _ => ?_) (fun h => absurd h hk0)
    refine lv_goto (tgt := 789) hx hb d_L_law_438 (by decide) ?_
    exact kk H locs _ ls hw (lv_sub hl [2, 3, 4, 5, 6] rfl)
set_option maxHeartbeats 4000000 in
set_option maxRecDepth 100000 in
theorem lc_8 {p : Program} {l : Launch} {e : Env} {s : State} {m : MethodId} {below : List Frame} {meth : Method} {c : Code} {b L : Nat} {xs : Nat → Int32} {A : Nat → Prop} {D : va_G} {cI cT cZ cL : ClassId} {ad bd : Nat → Nat} {oa : Nat} {M M0 : MX} {U U0 : MY} {f : Nat → Int64} {H : Heap} {locs : List Loc} {cells slots : Nat} {Q : State → Prop} {i : Int32} {ls : Array Slot}
    (C : lc_ctx p l s m c b L xs A) (hw : gw_W D (tyL cI cT cZ cL) A (wL cI cT cZ cL ad bd oa M U f) s H locs) (hc : cells + 1 ≤ 601024) (hs : slots + 6 ≤ 7293034) (hin : ∀ j : Int32, (j = 1 ∨ j = 2 ∨ j = 3 ∨ j = 4) → vp_in (i + j) L) (hl : lv_has ls 7 (lvL b oa ad bd i))
    {n' : Nat} {r : Int32} (h2 : j_Y_tolerance n' U (xs (i + 1).toNatClampNeg) = some (r, U0)) (h1 : (∃ n, j_O_tolerance n M (xs (i + 1).toNatClampNeg) = some (Sum.inr (r, M0)) ∧ U0.2 0 = 0) ∨ (∃ n E0 k0, j_O_tolerance n M (xs (i + 1).toNatClampNeg) = some (Sum.inl (E0, M0)) ∧ ((E0 = "java/lang/IndexOutOfBoundsException" ∧ k0 = 1) ∨ (E0 = "java/lang/IllegalStateException" ∧ k0 = 2)) ∧ U0.2 0 = k0))
    (kk : ∀ (H : Heap) (locs : List Loc) (f : Nat → Int64) (ls : Array Slot), gw_W D (tyL cI cT cZ cL) A (wL cI cT cZ cL ad bd oa M0 U0 f) s H locs → lv_has ls 7 (lvL b oa ad bd i) → W p l e room_1 s m #[Value.ref b] below meth c H locs (cells + 1) (slots + 6) Q (F0 m 789 ls [])) :
    W p l e room_1 s m #[Value.ref b] below meth c H locs cells slots Q (F0 m 441 ls []) := by
  obtain ⟨S, hlt, hX, hbl, hbA, hZ, hN⟩ := C
  have hx := S.1
  have hb := S.2.1
  have hts := S.2.2.2.2
  have w_87 : CallW room_1 s #[Value.ref b] R_L R_Y 87 y_Y_tolerance b_Y_tolerance 2 (some .int) ws_Y_tolerance rm_Y_tolerance 0 0 1 := cwV 1 hts (wB_callV (fun w h => wB_sub w h) xw_558 xw_559 xw_560 xw_561 xw_278) rfl rfl rfl (by decide +kernel) ⟨Nat.le_of_ble_eq_true rfl, Nat.le_of_ble_eq_true rfl⟩
  have w_74 : CallW room_1 s #[Value.ref b] R_L R_Y 74 y_Y_thrown b_Y_thrown 1 (some .int) ws_Y_thrown rm_Y_thrown 0 0 0 := cwV 0 hts (wB_callV (fun w h => wB_sub w h) xw_539 xw_540 xw_541 xw_542 xw_278) rfl rfl rfl (by decide +kernel) ⟨Nat.le_of_ble_eq_true rfl, Nat.le_of_ble_eq_true rfl⟩
  rcases h1 with ⟨n, h1, hth⟩ | ⟨n, E0, k0, h1, hE, hth⟩
  · refine lv_aload_n hx hb d_L_law_441 rfl (lv_at hl 1 rfl) ?_
    refine gl_arg (j := 1) hx hb hX hbl hbA hw.2.2.2.1 (lv_at hl 0 rfl) (lv_at hl 4 rfl) (hin 1 (by decide)) d_L_law_442 d_L_law_443 d_L_law_445 rfl d_L_law_446 d_L_law_447 ?_
    refine lv_aload_n hx hb d_L_law_448 rfl (lv_at hl 3 rfl) ?_
    refine gl_call (wa := wY cI cZ bd U) (w1 := wX cI cT ad M ++ [oC oa cL f]) (w2 := wX cI cT ad M0 ++ [oC oa cL (vp_updL f 0 r.toInt64)]) (As := [.ref (ad 0), .int (xs (i + 1).toNatClampNeg), .ref oa]) (n := 3) (rest := []) S hw hZ hN [0, 1, 3] rfl (h_L_tolerance h1) rfl rfl (Nat.le_of_ble_eq_true rfl) (Nat.le_of_ble_eq_true rfl) (gl_warm hts xv_11) List.mem_cons_self (wB_sub _ xw_543) (wB_sub _ xw_562) (wB_sub _ xw_563) (by decide) (by decide +kernel) rfl hl.1 rfl (Nat.le_of_ble_eq_true rfl) d_L_law_449 hc hs (fun H locs hw => ?_)
    refine lv_istore (lv' := [(5, .int 0), (0, .ref b), (1, .ref (ad 0)), (2, .ref (bd 0)), (3, .ref oa), (4, .int i)]) hx hb d_L_law_452 hl (by decide) rfl (fun ls hl => ?_)
    refine lv_aload_n hx hb d_L_law_454 rfl (lv_at hl 3 rfl) ?_
    refine gl_arg (j := 1) hx hb hX hbl hbA hw.2.2.2.1 (lv_at hl 1 rfl) (lv_at hl 5 rfl) (hin 1 (by decide)) d_L_law_455 d_L_law_456 d_L_law_458 rfl d_L_law_459 d_L_law_460 ?_
    refine fr_calli (wa := []) (w1 := wY cI cZ bd U) (wb := wX cI cT ad M0 ++ [oC oa cL (vp_updL f 0 r.toInt64)]) (w2 := wY cI cZ bd U0) (As := [.int (xs (i + 1).toNatClampNeg)]) (rest := []) S hw [0, 2] rfl (c_Y_tolerance h2) w_87 ya_R rfl rfl hl.1 rfl (Nat.le_of_ble_eq_true rfl) d_L_law_461 ⟨by show cells + 1 ≤ 601024; omega, by show slots + 6 ≤ 7293034; omega⟩ (fun H locs hw => ?_)
    refine lv_istore (lv' := [(6, .int r), (5, .int 0), (0, .ref b), (1, .ref (ad 0)), (2, .ref (bd 0)), (3, .ref oa), (4, .int i)]) hx hb d_L_law_464 hl (by decide) rfl (fun ls hl => ?_)
    refine lv_aload_n hx hb d_L_law_466 rfl (lv_at hl 4 rfl) ?_
    refine fr_calli (wa := []) (w1 := wY cI cZ bd U0) (wb := wX cI cT ad M0 ++ [oC oa cL (vp_updL f 0 r.toInt64)]) (w2 := wY cI cZ bd U0) (As := []) (rest := []) S hw [0, 2] rfl (c_Y_thrown (n := 0) (r0 := U0.2 0) rfl) w_74 ya_R rfl rfl hl.1 rfl (Nat.le_of_ble_eq_true rfl) d_L_law_467 ⟨by show cells + 1 ≤ 601024; omega, by show slots + 6 ≤ 7293034; omega⟩ (fun H locs hw => ?_)
    refine lv_iload hx hb d_L_law_470 (lv_at hl 1 rfl) ?_
    refine lv_icmp_eq (tgt := 477) hx hb d_L_law_472 (by decide) (fun _ => ?_) (fun h => absurd hth h)
    refine lv_iload hx hb d_L_law_477 (lv_at hl 1 rfl) ?_
    refine lv_if_ne (tgt := 494) hx hb d_L_law_479 (by decide) (fun h => absurd rfl h) (fun _ => ?_)
    refine lv_aload_n hx hb d_L_law_482 rfl (lv_at hl 5 rfl) ?_
    refine lv_iconst (v := 0) hx hb d_L_law_483 (by decide) ?_
    refine gl_lald (q0 := (wY cI cZ bd U0).length + ((wX cI cT ad M0).length + 0)) (t0 := 3) (ws := wL cI cT cZ cL ad bd oa M0 U0 (vp_updL f 0 r.toInt64)) S hw ((ap_at _).trans (ap_at 0)) rfl (by decide) d_L_law_484 ?_
    refine lv_iload hx hb d_L_law_485 (lv_at hl 0 rfl) ?_
    refine lv_i2l hx hb d_L_law_487 rfl ?_
    refine W.lcmp hx hb d_L_law_488 ?_
    rw [show vp_updL f 0 r.toInt64 (0 : Int32).toNatClampNeg = r.toInt64 from if_pos rfl, lg_cmp_self]
    refine lv_if_eq (tgt := 494) hx hb d_L_law_489 (by decide) (fun _ => ?_) (fun h => absurd rfl h)
    refine lv_goto (tgt := 789) hx hb d_L_law_494 (by decide) ?_
    exact kk H locs _ ls hw (lv_sub hl [2, 3, 4, 5, 6] rfl)
  · have hk0 : ¬ k0 = 0 := by
      rcases hE with ⟨-, rfl⟩ | ⟨-, rfl⟩ <;> decide
    refine lv_aload_n hx hb d_L_law_441 rfl (lv_at hl 1 rfl) ?_
    refine gl_arg (j := 1) hx hb hX hbl hbA hw.2.2.2.1 (lv_at hl 0 rfl) (lv_at hl 4 rfl) (hin 1 (by decide)) d_L_law_442 d_L_law_443 d_L_law_445 rfl d_L_law_446 d_L_law_447 ?_
    refine lv_aload_n hx hb d_L_law_448 rfl (lv_at hl 3 rfl) ?_
    refine gl_call (wa := wY cI cZ bd U) (w1 := wX cI cT ad M ++ [oC oa cL f]) (w2 := wX cI cT ad M0 ++ [oC oa cL f]) (As := [.ref (ad 0), .int (xs (i + 1).toNatClampNeg), .ref oa]) (n := 3) (rest := []) S hw hZ hN [0, 1, 3] rfl (ht_L_tolerance hlt h1 hE) rfl rfl (Nat.le_of_ble_eq_true rfl) (Nat.le_of_ble_eq_true rfl) (gl_warm hts xv_11) List.mem_cons_self (wB_sub _ xw_543) (wB_sub _ xw_562) (wB_sub _ xw_563) (by decide) (by decide +kernel) rfl hl.1 rfl (Nat.le_of_ble_eq_true rfl) d_L_law_449 hc hs (fun H locs hw => ?_)
    refine lv_istore (lv' := [(5, .int k0), (0, .ref b), (1, .ref (ad 0)), (2, .ref (bd 0)), (3, .ref oa), (4, .int i)]) hx hb d_L_law_452 hl (by decide) rfl (fun ls hl => ?_)
    refine lv_aload_n hx hb d_L_law_454 rfl (lv_at hl 3 rfl) ?_
    refine gl_arg (j := 1) hx hb hX hbl hbA hw.2.2.2.1 (lv_at hl 1 rfl) (lv_at hl 5 rfl) (hin 1 (by decide)) d_L_law_455 d_L_law_456 d_L_law_458 rfl d_L_law_459 d_L_law_460 ?_
    refine fr_calli (wa := []) (w1 := wY cI cZ bd U) (wb := wX cI cT ad M0 ++ [oC oa cL f]) (w2 := wY cI cZ bd U0) (As := [.int (xs (i + 1).toNatClampNeg)]) (rest := []) S hw [0, 2] rfl (c_Y_tolerance h2) w_87 ya_R rfl rfl hl.1 rfl (Nat.le_of_ble_eq_true rfl) d_L_law_461 ⟨by show cells + 1 ≤ 601024; omega, by show slots + 6 ≤ 7293034; omega⟩ (fun H locs hw => ?_)
    refine lv_istore (lv' := [(6, .int r), (5, .int k0), (0, .ref b), (1, .ref (ad 0)), (2, .ref (bd 0)), (3, .ref oa), (4, .int i)]) hx hb d_L_law_464 hl (by decide) rfl (fun ls hl => ?_)
    refine lv_aload_n hx hb d_L_law_466 rfl (lv_at hl 4 rfl) ?_
    refine fr_calli (wa := []) (w1 := wY cI cZ bd U0) (wb := wX cI cT ad M0 ++ [oC oa cL f]) (w2 := wY cI cZ bd U0) (As := []) (rest := []) S hw [0, 2] rfl (c_Y_thrown (n := 0) (r0 := U0.2 0) rfl) w_74 ya_R rfl rfl hl.1 rfl (Nat.le_of_ble_eq_true rfl) d_L_law_467 ⟨by show cells + 1 ≤ 601024; omega, by show slots + 6 ≤ 7293034; omega⟩ (fun H locs hw => ?_)
    refine lv_iload hx hb d_L_law_470 (lv_at hl 1 rfl) ?_
    refine lv_icmp_eq (tgt := 477) hx hb d_L_law_472 (by decide) (fun _ => ?_) (fun h => absurd hth h)
    refine lv_iload hx hb d_L_law_477 (lv_at hl 1 rfl) ?_
    refine lv_if_ne (tgt := 494) hx hb d_L_law_479 (by decide) (fun _ => ?_) (fun h => absurd h hk0)
    refine lv_goto (tgt := 789) hx hb d_L_law_494 (by decide) ?_
    exact kk H locs _ ls hw (lv_sub hl [2, 3, 4, 5, 6] rfl)
set_option maxHeartbeats 4000000 in
set_option maxRecDepth 100000 in
theorem lc_9 {p : Program} {l : Launch} {e : Env} {s : State} {m : MethodId} {below : List Frame} {meth : Method} {c : Code} {b L : Nat} {xs : Nat → Int32} {A : Nat → Prop} {D : va_G} {cI cT cZ cL : ClassId} {ad bd : Nat → Nat} {oa : Nat} {M M0 : MX} {U U0 : MY} {f : Nat → Int64} {H : Heap} {locs : List Loc} {cells slots : Nat} {Q : State → Prop} {i : Int32} {ls : Array Slot}
    (C : lc_ctx p l s m c b L xs A) (hw : gw_W D (tyL cI cT cZ cL) A (wL cI cT cZ cL ad bd oa M U f) s H locs) (hc : cells + 1 ≤ 601024) (hs : slots + 6 ≤ 7293034) (hin : ∀ j : Int32, (j = 1 ∨ j = 2 ∨ j = 3 ∨ j = 4) → vp_in (i + j) L) (hl : lv_has ls 7 (lvL b oa ad bd i))
    {n' : Nat} {r : Int32} (h2 : j_Y_stretch n' U = some (r, U0)) (h1 : (∃ n, j_O_stretch n M = some (Sum.inr (r, M0)) ∧ U0.2 0 = 0) ∨ (∃ n E0 k0, j_O_stretch n M = some (Sum.inl (E0, M0)) ∧ (E0 = "java/lang/IllegalStateException" ∧ k0 = 1) ∧ U0.2 0 = k0))
    (kk : ∀ (H : Heap) (locs : List Loc) (f : Nat → Int64) (ls : Array Slot), gw_W D (tyL cI cT cZ cL) A (wL cI cT cZ cL ad bd oa M0 U0 f) s H locs → lv_has ls 7 (lvL b oa ad bd i) → W p l e room_1 s m #[Value.ref b] below meth c H locs (cells + 1) (slots + 6) Q (F0 m 789 ls [])) :
    W p l e room_1 s m #[Value.ref b] below meth c H locs cells slots Q (F0 m 497 ls []) := by
  obtain ⟨S, hlt, hX, hbl, hbA, hZ, hN⟩ := C
  have hx := S.1
  have hb := S.2.1
  have hts := S.2.2.2.2
  have w_90 : CallW room_1 s #[Value.ref b] R_L R_Y 90 y_Y_stretch b_Y_stretch 7 (some .int) ws_Y_stretch rm_Y_stretch 0 0 0 := cwV 0 hts (wB_callV (fun w h => wB_sub w h) xw_564 xw_565 xw_566 xw_567 xw_278) rfl rfl rfl (by decide +kernel) ⟨Nat.le_of_ble_eq_true rfl, Nat.le_of_ble_eq_true rfl⟩
  have w_74 : CallW room_1 s #[Value.ref b] R_L R_Y 74 y_Y_thrown b_Y_thrown 1 (some .int) ws_Y_thrown rm_Y_thrown 0 0 0 := cwV 0 hts (wB_callV (fun w h => wB_sub w h) xw_539 xw_540 xw_541 xw_542 xw_278) rfl rfl rfl (by decide +kernel) ⟨Nat.le_of_ble_eq_true rfl, Nat.le_of_ble_eq_true rfl⟩
  rcases h1 with ⟨n, h1, hth⟩ | ⟨n, E0, k0, h1, hE, hth⟩
  · refine lv_aload_n hx hb d_L_law_497 rfl (lv_at hl 1 rfl) ?_
    refine lv_aload_n hx hb d_L_law_498 rfl (lv_at hl 3 rfl) ?_
    refine gl_call (wa := wY cI cZ bd U) (w1 := wX cI cT ad M ++ [oC oa cL f]) (w2 := wX cI cT ad M0 ++ [oC oa cL (vp_updL f 0 r.toInt64)]) (As := [.ref (ad 0), .ref oa]) (n := 2) (rest := []) S hw hZ hN [0, 1, 3] rfl (h_L_stretch h1) rfl rfl (Nat.le_of_ble_eq_true rfl) (Nat.le_of_ble_eq_true rfl) (gl_warm hts xv_12) List.mem_cons_self (wB_sub _ xw_543) (wB_sub _ xw_568) (wB_sub _ xw_569) (by decide) (by decide +kernel) rfl hl.1 rfl (Nat.le_of_ble_eq_true rfl) d_L_law_499 hc hs (fun H locs hw => ?_)
    refine lv_istore (lv' := [(5, .int 0), (0, .ref b), (1, .ref (ad 0)), (2, .ref (bd 0)), (3, .ref oa), (4, .int i)]) hx hb d_L_law_502 hl (by decide) rfl (fun ls hl => ?_)
    refine lv_aload_n hx hb d_L_law_504 rfl (lv_at hl 3 rfl) ?_
    refine fr_calli (wa := []) (w1 := wY cI cZ bd U) (wb := wX cI cT ad M0 ++ [oC oa cL (vp_updL f 0 r.toInt64)]) (w2 := wY cI cZ bd U0) (As := []) (rest := []) S hw [0, 2] rfl (c_Y_stretch h2) w_90 ya_R rfl rfl hl.1 rfl (Nat.le_of_ble_eq_true rfl) d_L_law_505 ⟨by show cells + 1 ≤ 601024; omega, by show slots + 6 ≤ 7293034; omega⟩ (fun H locs hw => ?_)
    refine lv_istore (lv' := [(6, .int r), (5, .int 0), (0, .ref b), (1, .ref (ad 0)), (2, .ref (bd 0)), (3, .ref oa), (4, .int i)]) hx hb d_L_law_508 hl (by decide) rfl (fun ls hl => ?_)
    refine lv_aload_n hx hb d_L_law_510 rfl (lv_at hl 4 rfl) ?_
    refine fr_calli (wa := []) (w1 := wY cI cZ bd U0) (wb := wX cI cT ad M0 ++ [oC oa cL (vp_updL f 0 r.toInt64)]) (w2 := wY cI cZ bd U0) (As := []) (rest := []) S hw [0, 2] rfl (c_Y_thrown (n := 0) (r0 := U0.2 0) rfl) w_74 ya_R rfl rfl hl.1 rfl (Nat.le_of_ble_eq_true rfl) d_L_law_511 ⟨by show cells + 1 ≤ 601024; omega, by show slots + 6 ≤ 7293034; omega⟩ (fun H locs hw => ?_)
    refine lv_iload hx hb d_L_law_514 (lv_at hl 1 rfl) ?_
    refine lv_icmp_eq (tgt := 521) hx hb d_L_law_516 (by decide) (fun _ => ?_) (fun h => absurd hth h)
    refine lv_iload hx hb d_L_law_521 (lv_at hl 1 rfl) ?_
    refine lv_if_ne (tgt := 538) hx hb d_L_law_523 (by decide) (fun h => absurd rfl h) (fun _ => ?_)
    refine lv_aload_n hx hb d_L_law_526 rfl (lv_at hl 5 rfl) ?_
    refine lv_iconst (v := 0) hx hb d_L_law_527 (by decide) ?_
    refine gl_lald (q0 := (wY cI cZ bd U0).length + ((wX cI cT ad M0).length + 0)) (t0 := 3) (ws := wL cI cT cZ cL ad bd oa M0 U0 (vp_updL f 0 r.toInt64)) S hw ((ap_at _).trans (ap_at 0)) rfl (by decide) d_L_law_528 ?_
    refine lv_iload hx hb d_L_law_529 (lv_at hl 0 rfl) ?_
    refine lv_i2l hx hb d_L_law_531 rfl ?_
    refine W.lcmp hx hb d_L_law_532 ?_
    rw [show vp_updL f 0 r.toInt64 (0 : Int32).toNatClampNeg = r.toInt64 from if_pos rfl, lg_cmp_self]
    refine lv_if_eq (tgt := 538) hx hb d_L_law_533 (by decide) (fun _ => ?_) (fun h => absurd rfl h)
    refine lv_goto (tgt := 789) hx hb d_L_law_538 (by decide) ?_
    exact kk H locs _ ls hw (lv_sub hl [2, 3, 4, 5, 6] rfl)
  · have hk0 : ¬ k0 = 0 := by
      rcases hE with ⟨-, rfl⟩ <;> decide
    refine lv_aload_n hx hb d_L_law_497 rfl (lv_at hl 1 rfl) ?_
    refine lv_aload_n hx hb d_L_law_498 rfl (lv_at hl 3 rfl) ?_
    refine gl_call (wa := wY cI cZ bd U) (w1 := wX cI cT ad M ++ [oC oa cL f]) (w2 := wX cI cT ad M0 ++ [oC oa cL f]) (As := [.ref (ad 0), .ref oa]) (n := 2) (rest := []) S hw hZ hN [0, 1, 3] rfl (ht_L_stretch hlt h1 hE) rfl rfl (Nat.le_of_ble_eq_true rfl) (Nat.le_of_ble_eq_true rfl) (gl_warm hts xv_12) List.mem_cons_self (wB_sub _ xw_543) (wB_sub _ xw_568) (wB_sub _ xw_569) (by decide) (by decide +kernel) rfl hl.1 rfl (Nat.le_of_ble_eq_true rfl) d_L_law_499 hc hs (fun H locs hw => ?_)
    refine lv_istore (lv' := [(5, .int k0), (0, .ref b), (1, .ref (ad 0)), (2, .ref (bd 0)), (3, .ref oa), (4, .int i)]) hx hb d_L_law_502 hl (by decide) rfl (fun ls hl => ?_)
    refine lv_aload_n hx hb d_L_law_504 rfl (lv_at hl 3 rfl) ?_
    refine fr_calli (wa := []) (w1 := wY cI cZ bd U) (wb := wX cI cT ad M0 ++ [oC oa cL f]) (w2 := wY cI cZ bd U0) (As := []) (rest := []) S hw [0, 2] rfl (c_Y_stretch h2) w_90 ya_R rfl rfl hl.1 rfl (Nat.le_of_ble_eq_true rfl) d_L_law_505 ⟨by show cells + 1 ≤ 601024; omega, by show slots + 6 ≤ 7293034; omega⟩ (fun H locs hw => ?_)
    refine lv_istore (lv' := [(6, .int r), (5, .int k0), (0, .ref b), (1, .ref (ad 0)), (2, .ref (bd 0)), (3, .ref oa), (4, .int i)]) hx hb d_L_law_508 hl (by decide) rfl (fun ls hl => ?_)
    refine lv_aload_n hx hb d_L_law_510 rfl (lv_at hl 4 rfl) ?_
    refine fr_calli (wa := []) (w1 := wY cI cZ bd U0) (wb := wX cI cT ad M0 ++ [oC oa cL f]) (w2 := wY cI cZ bd U0) (As := []) (rest := []) S hw [0, 2] rfl (c_Y_thrown (n := 0) (r0 := U0.2 0) rfl) w_74 ya_R rfl rfl hl.1 rfl (Nat.le_of_ble_eq_true rfl) d_L_law_511 ⟨by show cells + 1 ≤ 601024; omega, by show slots + 6 ≤ 7293034; omega⟩ (fun H locs hw => ?_)
    refine lv_iload hx hb d_L_law_514 (lv_at hl 1 rfl) ?_
    refine lv_icmp_eq (tgt := 521) hx hb d_L_law_516 (by decide) (fun _ => ?_) (fun h => absurd hth h)
    refine lv_iload hx hb d_L_law_521 (lv_at hl 1 rfl) ?_
    refine lv_if_ne (tgt := 538) hx hb d_L_law_523 (by decide) (fun _ => ?_) (fun h => absurd h hk0)
    refine lv_goto (tgt := 789) hx hb d_L_law_538 (by decide) ?_
    exact kk H locs _ ls hw (lv_sub hl [2, 3, 4, 5, 6] rfl)
set_option maxHeartbeats 4000000 in
set_option maxRecDepth 100000 in
theorem lc_10 {p : Program} {l : Launch} {e : Env} {s : State} {m : MethodId} {below : List Frame} {meth : Method} {c : Code} {b L : Nat} {xs : Nat → Int32} {A : Nat → Prop} {D : va_G} {cI cT cZ cL : ClassId} {ad bd : Nat → Nat} {oa : Nat} {M M0 : MX} {U U0 : MY} {f : Nat → Int64} {H : Heap} {locs : List Loc} {cells slots : Nat} {Q : State → Prop} {i : Int32} {ls : Array Slot}
    (C : lc_ctx p l s m c b L xs A) (hw : gw_W D (tyL cI cT cZ cL) A (wL cI cT cZ cL ad bd oa M U f) s H locs) (hc : cells + 1 ≤ 601024) (hs : slots + 6 ≤ 7293034) (hin : ∀ j : Int32, (j = 1 ∨ j = 2 ∨ j = 3 ∨ j = 4) → vp_in (i + j) L) (hl : lv_has ls 7 (lvL b oa ad bd i))
    {n' : Nat} {r : Int32} (h2 : j_Y_scenario n' U (xs (i + 1).toNatClampNeg) (xs (i + 2).toNatClampNeg) (xs (i + 3).toNatClampNeg) = some (r, U0)) (h1 : (∃ n, j_O_scenario n M (xs (i + 1).toNatClampNeg) (xs (i + 2).toNatClampNeg) (xs (i + 3).toNatClampNeg) = some (Sum.inr (r, M0)) ∧ U0.2 0 = 0) ∨ (∃ n E0 k0, j_O_scenario n M (xs (i + 1).toNatClampNeg) (xs (i + 2).toNatClampNeg) (xs (i + 3).toNatClampNeg) = some (Sum.inl (E0, M0)) ∧ ((E0 = "java/lang/IndexOutOfBoundsException" ∧ k0 = 1) ∨ (E0 = "java/lang/IllegalStateException" ∧ k0 = 2) ∨ (E0 = "java/lang/ArithmeticException" ∧ k0 = 3)) ∧ U0.2 0 = k0))
    (kk : ∀ (H : Heap) (locs : List Loc) (f : Nat → Int64) (ls : Array Slot), gw_W D (tyL cI cT cZ cL) A (wL cI cT cZ cL ad bd oa M0 U0 f) s H locs → lv_has ls 7 (lvL b oa ad bd i) → W p l e room_1 s m #[Value.ref b] below meth c H locs (cells + 1) (slots + 6) Q (F0 m 789 ls [])) :
    W p l e room_1 s m #[Value.ref b] below meth c H locs cells slots Q (F0 m 541 ls []) := by
  obtain ⟨S, hlt, hX, hbl, hbA, hZ, hN⟩ := C
  have hx := S.1
  have hb := S.2.1
  have hts := S.2.2.2.2
  have w_94 : CallW room_1 s #[Value.ref b] R_L R_Y 94 y_Y_scenario b_Y_scenario 11 (some .int) ws_Y_scenario rm_Y_scenario 0 0 3 := cwV 3 hts (wB_callV (fun w h => wB_sub w h) xw_570 xw_571 xw_572 xw_573 xw_278) rfl rfl rfl (by decide +kernel) ⟨Nat.le_of_ble_eq_true rfl, Nat.le_of_ble_eq_true rfl⟩
  have w_74 : CallW room_1 s #[Value.ref b] R_L R_Y 74 y_Y_thrown b_Y_thrown 1 (some .int) ws_Y_thrown rm_Y_thrown 0 0 0 := cwV 0 hts (wB_callV (fun w h => wB_sub w h) xw_539 xw_540 xw_541 xw_542 xw_278) rfl rfl rfl (by decide +kernel) ⟨Nat.le_of_ble_eq_true rfl, Nat.le_of_ble_eq_true rfl⟩
  rcases h1 with ⟨n, h1, hth⟩ | ⟨n, E0, k0, h1, hE, hth⟩
  · refine lv_aload_n hx hb d_L_law_541 rfl (lv_at hl 1 rfl) ?_
    refine gl_arg (j := 1) hx hb hX hbl hbA hw.2.2.2.1 (lv_at hl 0 rfl) (lv_at hl 4 rfl) (hin 1 (by decide)) d_L_law_542 d_L_law_543 d_L_law_545 rfl d_L_law_546 d_L_law_547 ?_
    refine gl_arg (j := 2) hx hb hX hbl hbA hw.2.2.2.1 (lv_at hl 0 rfl) (lv_at hl 4 rfl) (hin 2 (by decide)) d_L_law_548 d_L_law_549 d_L_law_551 rfl d_L_law_552 d_L_law_553 ?_
    refine gl_arg (j := 3) hx hb hX hbl hbA hw.2.2.2.1 (lv_at hl 0 rfl) (lv_at hl 4 rfl) (hin 3 (by decide)) d_L_law_554 d_L_law_555 d_L_law_557 rfl d_L_law_558 d_L_law_559 ?_
    refine lv_aload_n hx hb d_L_law_560 rfl (lv_at hl 3 rfl) ?_
    refine gl_call (wa := wY cI cZ bd U) (w1 := wX cI cT ad M ++ [oC oa cL f]) (w2 := wX cI cT ad M0 ++ [oC oa cL (vp_updL f 0 r.toInt64)]) (As := [.ref (ad 0), .int (xs (i + 1).toNatClampNeg), .int (xs (i + 2).toNatClampNeg), .int (xs (i + 3).toNatClampNeg), .ref oa]) (n := 5) (rest := []) S hw hZ hN [0, 1, 3] rfl (h_L_scenario h1) rfl rfl (Nat.le_of_ble_eq_true rfl) (Nat.le_of_ble_eq_true rfl) (gl_warm hts xv_13) List.mem_cons_self (wB_sub _ xw_543) (wB_sub _ xw_574) (wB_sub _ xw_575) (by decide) (by decide +kernel) rfl hl.1 rfl (Nat.le_of_ble_eq_true rfl) d_L_law_561 hc hs (fun H locs hw => ?_)
    refine lv_istore (lv' := [(5, .int 0), (0, .ref b), (1, .ref (ad 0)), (2, .ref (bd 0)), (3, .ref oa), (4, .int i)]) hx hb d_L_law_564 hl (by decide) rfl (fun ls hl => ?_)
    refine lv_aload_n hx hb d_L_law_566 rfl (lv_at hl 3 rfl) ?_
    refine gl_arg (j := 1) hx hb hX hbl hbA hw.2.2.2.1 (lv_at hl 1 rfl) (lv_at hl 5 rfl) (hin 1 (by decide)) d_L_law_567 d_L_law_568 d_L_law_570 rfl d_L_law_571 d_L_law_572 ?_
    refine gl_arg (j := 2) hx hb hX hbl hbA hw.2.2.2.1 (lv_at hl 1 rfl) (lv_at hl 5 rfl) (hin 2 (by decide)) d_L_law_573 d_L_law_574 d_L_law_576 rfl d_L_law_577 d_L_law_578 ?_
    refine gl_arg (j := 3) hx hb hX hbl hbA hw.2.2.2.1 (lv_at hl 1 rfl) (lv_at hl 5 rfl) (hin 3 (by decide)) d_L_law_579 d_L_law_580 d_L_law_582 rfl d_L_law_583 d_L_law_584 ?_
    refine fr_calli (wa := []) (w1 := wY cI cZ bd U) (wb := wX cI cT ad M0 ++ [oC oa cL (vp_updL f 0 r.toInt64)]) (w2 := wY cI cZ bd U0) (As := [.int (xs (i + 1).toNatClampNeg), .int (xs (i + 2).toNatClampNeg), .int (xs (i + 3).toNatClampNeg)]) (rest := []) S hw [0, 2] rfl (c_Y_scenario h2) w_94 ya_R rfl rfl hl.1 rfl (Nat.le_of_ble_eq_true rfl) d_L_law_585 ⟨by show cells + 1 ≤ 601024; omega, by show slots + 6 ≤ 7293034; omega⟩ (fun H locs hw => ?_)
    refine lv_istore (lv' := [(6, .int r), (5, .int 0), (0, .ref b), (1, .ref (ad 0)), (2, .ref (bd 0)), (3, .ref oa), (4, .int i)]) hx hb d_L_law_588 hl (by decide) rfl (fun ls hl => ?_)
    refine lv_aload_n hx hb d_L_law_590 rfl (lv_at hl 4 rfl) ?_
    refine fr_calli (wa := []) (w1 := wY cI cZ bd U0) (wb := wX cI cT ad M0 ++ [oC oa cL (vp_updL f 0 r.toInt64)]) (w2 := wY cI cZ bd U0) (As := []) (rest := []) S hw [0, 2] rfl (c_Y_thrown (n := 0) (r0 := U0.2 0) rfl) w_74 ya_R rfl rfl hl.1 rfl (Nat.le_of_ble_eq_true rfl) d_L_law_591 ⟨by show cells + 1 ≤ 601024; omega, by show slots + 6 ≤ 7293034; omega⟩ (fun H locs hw => ?_)
    refine lv_iload hx hb d_L_law_594 (lv_at hl 1 rfl) ?_
    refine lv_icmp_eq (tgt := 601) hx hb d_L_law_596 (by decide) (fun _ => ?_) (fun h => absurd hth h)
    refine lv_iload hx hb d_L_law_601 (lv_at hl 1 rfl) ?_
    refine lv_if_ne (tgt := 618) hx hb d_L_law_603 (by decide) (fun h => absurd rfl h) (fun _ => ?_)
    refine lv_aload_n hx hb d_L_law_606 rfl (lv_at hl 5 rfl) ?_
    refine lv_iconst (v := 0) hx hb d_L_law_607 (by decide) ?_
    refine gl_lald (q0 := (wY cI cZ bd U0).length + ((wX cI cT ad M0).length + 0)) (t0 := 3) (ws := wL cI cT cZ cL ad bd oa M0 U0 (vp_updL f 0 r.toInt64)) S hw ((ap_at _).trans (ap_at 0)) rfl (by decide) d_L_law_608 ?_
    refine lv_iload hx hb d_L_law_609 (lv_at hl 0 rfl) ?_
    refine lv_i2l hx hb d_L_law_611 rfl ?_
    refine W.lcmp hx hb d_L_law_612 ?_
    rw [show vp_updL f 0 r.toInt64 (0 : Int32).toNatClampNeg = r.toInt64 from if_pos rfl, lg_cmp_self]
    refine lv_if_eq (tgt := 618) hx hb d_L_law_613 (by decide) (fun _ => ?_) (fun h => absurd rfl h)
    refine lv_goto (tgt := 789) hx hb d_L_law_618 (by decide) ?_
    exact kk H locs _ ls hw (lv_sub hl [2, 3, 4, 5, 6] rfl)
  · have hk0 : ¬ k0 = 0 := by
      rcases hE with ⟨-, rfl⟩ | ⟨-, rfl⟩ | ⟨-, rfl⟩ <;> decide
    refine lv_aload_n hx hb d_L_law_541 rfl (lv_at hl 1 rfl) ?_
    refine gl_arg (j := 1) hx hb hX hbl hbA hw.2.2.2.1 (lv_at hl 0 rfl) (lv_at hl 4 rfl) (hin 1 (by decide)) d_L_law_542 d_L_law_543 d_L_law_545 rfl d_L_law_546 d_L_law_547 ?_
    refine gl_arg (j := 2) hx hb hX hbl hbA hw.2.2.2.1 (lv_at hl 0 rfl) (lv_at hl 4 rfl) (hin 2 (by decide)) d_L_law_548 d_L_law_549 d_L_law_551 rfl d_L_law_552 d_L_law_553 ?_
    refine gl_arg (j := 3) hx hb hX hbl hbA hw.2.2.2.1 (lv_at hl 0 rfl) (lv_at hl 4 rfl) (hin 3 (by decide)) d_L_law_554 d_L_law_555 d_L_law_557 rfl d_L_law_558 d_L_law_559 ?_
    refine lv_aload_n hx hb d_L_law_560 rfl (lv_at hl 3 rfl) ?_
    refine gl_call (wa := wY cI cZ bd U) (w1 := wX cI cT ad M ++ [oC oa cL f]) (w2 := wX cI cT ad M0 ++ [oC oa cL f]) (As := [.ref (ad 0), .int (xs (i + 1).toNatClampNeg), .int (xs (i + 2).toNatClampNeg), .int (xs (i + 3).toNatClampNeg), .ref oa]) (n := 5) (rest := []) S hw hZ hN [0, 1, 3] rfl (ht_L_scenario hlt h1 hE) rfl rfl (Nat.le_of_ble_eq_true rfl) (Nat.le_of_ble_eq_true rfl) (gl_warm hts xv_13) List.mem_cons_self (wB_sub _ xw_543) (wB_sub _ xw_574) (wB_sub _ xw_575) (by decide) (by decide +kernel) rfl hl.1 rfl (Nat.le_of_ble_eq_true rfl) d_L_law_561 hc hs (fun H locs hw => ?_)
    refine lv_istore (lv' := [(5, .int k0), (0, .ref b), (1, .ref (ad 0)), (2, .ref (bd 0)), (3, .ref oa), (4, .int i)]) hx hb d_L_law_564 hl (by decide) rfl (fun ls hl => ?_)
    refine lv_aload_n hx hb d_L_law_566 rfl (lv_at hl 3 rfl) ?_
    refine gl_arg (j := 1) hx hb hX hbl hbA hw.2.2.2.1 (lv_at hl 1 rfl) (lv_at hl 5 rfl) (hin 1 (by decide)) d_L_law_567 d_L_law_568 d_L_law_570 rfl d_L_law_571 d_L_law_572 ?_
    refine gl_arg (j := 2) hx hb hX hbl hbA hw.2.2.2.1 (lv_at hl 1 rfl) (lv_at hl 5 rfl) (hin 2 (by decide)) d_L_law_573 d_L_law_574 d_L_law_576 rfl d_L_law_577 d_L_law_578 ?_
    refine gl_arg (j := 3) hx hb hX hbl hbA hw.2.2.2.1 (lv_at hl 1 rfl) (lv_at hl 5 rfl) (hin 3 (by decide)) d_L_law_579 d_L_law_580 d_L_law_582 rfl d_L_law_583 d_L_law_584 ?_
    refine fr_calli (wa := []) (w1 := wY cI cZ bd U) (wb := wX cI cT ad M0 ++ [oC oa cL f]) (w2 := wY cI cZ bd U0) (As := [.int (xs (i + 1).toNatClampNeg), .int (xs (i + 2).toNatClampNeg), .int (xs (i + 3).toNatClampNeg)]) (rest := []) S hw [0, 2] rfl (c_Y_scenario h2) w_94 ya_R rfl rfl hl.1 rfl (Nat.le_of_ble_eq_true rfl) d_L_law_585 ⟨by show cells + 1 ≤ 601024; omega, by show slots + 6 ≤ 7293034; omega⟩ (fun H locs hw => ?_)
    refine lv_istore (lv' := [(6, .int r), (5, .int k0), (0, .ref b), (1, .ref (ad 0)), (2, .ref (bd 0)), (3, .ref oa), (4, .int i)]) hx hb d_L_law_588 hl (by decide) rfl (fun ls hl => ?_)
    refine lv_aload_n hx hb d_L_law_590 rfl (lv_at hl 4 rfl) ?_
    refine fr_calli (wa := []) (w1 := wY cI cZ bd U0) (wb := wX cI cT ad M0 ++ [oC oa cL f]) (w2 := wY cI cZ bd U0) (As := []) (rest := []) S hw [0, 2] rfl (c_Y_thrown (n := 0) (r0 := U0.2 0) rfl) w_74 ya_R rfl rfl hl.1 rfl (Nat.le_of_ble_eq_true rfl) d_L_law_591 ⟨by show cells + 1 ≤ 601024; omega, by show slots + 6 ≤ 7293034; omega⟩ (fun H locs hw => ?_)
    refine lv_iload hx hb d_L_law_594 (lv_at hl 1 rfl) ?_
    refine lv_icmp_eq (tgt := 601) hx hb d_L_law_596 (by decide) (fun _ => ?_) (fun h => absurd hth h)
    refine lv_iload hx hb d_L_law_601 (lv_at hl 1 rfl) ?_
    refine lv_if_ne (tgt := 618) hx hb d_L_law_603 (by decide) (fun _ => ?_) (fun h => absurd h hk0)
    refine lv_goto (tgt := 789) hx hb d_L_law_618 (by decide) ?_
    exact kk H locs _ ls hw (lv_sub hl [2, 3, 4, 5, 6] rfl)
set_option maxHeartbeats 4000000 in
set_option maxRecDepth 100000 in
theorem lc_11 {p : Program} {l : Launch} {e : Env} {s : State} {m : MethodId} {below : List Frame} {meth : Method} {c : Code} {b L : Nat} {xs : Nat → Int32} {A : Nat → Prop} {D : va_G} {cI cT cZ cL : ClassId} {ad bd : Nat → Nat} {oa : Nat} {M M0 : MX} {U U0 : MY} {f : Nat → Int64} {H : Heap} {locs : List Loc} {cells slots : Nat} {Q : State → Prop} {i : Int32} {ls : Array Slot}
    (C : lc_ctx p l s m c b L xs A) (hw : gw_W D (tyL cI cT cZ cL) A (wL cI cT cZ cL ad bd oa M U f) s H locs) (hc : cells + 1 ≤ 601024) (hs : slots + 6 ≤ 7293034) (hin : ∀ j : Int32, (j = 1 ∨ j = 2 ∨ j = 3 ∨ j = 4) → vp_in (i + j) L) (hl : lv_has ls 7 (lvL b oa ad bd i))
    {n n' : Nat} {r : Int32} (h1 : j_O_arrive n M (xs (i + 1).toNatClampNeg) = some (r, M0)) (h2 : j_Y_arrive n' U (xs (i + 1).toNatClampNeg) = some (r, U0))
    (kk : ∀ (H : Heap) (locs : List Loc) (f : Nat → Int64) (ls : Array Slot), gw_W D (tyL cI cT cZ cL) A (wL cI cT cZ cL ad bd oa M0 U0 f) s H locs → lv_has ls 7 (lvL b oa ad bd i) → W p l e room_1 s m #[Value.ref b] below meth c H locs (cells + 1) (slots + 6) Q (F0 m 789 ls [])) :
    W p l e room_1 s m #[Value.ref b] below meth c H locs cells slots Q (F0 m 621 ls []) := by
  obtain ⟨S, hlt, hX, hbl, hbA, hZ, hN⟩ := C
  have hx := S.1
  have hb := S.2.1
  have hts := S.2.2.2.2
  have w_95 : CallW room_1 s #[Value.ref b] R_L R_O 95 y_O_arrive b_O_arrive 3 (some .boolean) ws_O_arrive rm_O_arrive 0 0 1 := cwV 1 hts (wB_callV (fun w h => wB_sub w h) xw_576 xw_577 xw_578 xw_579 xw_393) rfl rfl rfl (by decide +kernel) ⟨Nat.le_of_ble_eq_true rfl, Nat.le_of_ble_eq_true rfl⟩
  have w_99 : CallW room_1 s #[Value.ref b] R_L R_Y 99 y_Y_arrive b_Y_arrive 2 (some .boolean) ws_Y_arrive rm_Y_arrive 0 0 1 := cwV 1 hts (wB_callV (fun w h => wB_sub w h) xw_580 xw_581 xw_582 xw_583 xw_278) rfl rfl rfl (by decide +kernel) ⟨Nat.le_of_ble_eq_true rfl, Nat.le_of_ble_eq_true rfl⟩
  refine lv_aload_n hx hb d_L_law_621 rfl (lv_at hl 1 rfl) ?_
  refine gl_arg (j := 1) hx hb hX hbl hbA hw.2.2.2.1 (lv_at hl 0 rfl) (lv_at hl 4 rfl) (hin 1 (by decide)) d_L_law_622 d_L_law_623 d_L_law_625 rfl d_L_law_626 d_L_law_627 ?_
  refine fr_calli (wa := wY cI cZ bd U) (w1 := wX cI cT ad M) (wb := [oC oa cL f]) (w2 := wX cI cT ad M0) (As := [.int (xs (i + 1).toNatClampNeg)]) (rest := []) S hw [0, 1] rfl (c_O_arrive h1) w_95 xa_O rfl rfl hl.1 rfl (Nat.le_of_ble_eq_true rfl) d_L_law_628 ⟨by show cells ≤ 601024; omega, by show slots ≤ 7293034; omega⟩ (fun H locs hw => ?_)
  refine lv_aload_n hx hb d_L_law_631 rfl (lv_at hl 2 rfl) ?_
  refine gl_arg (j := 1) hx hb hX hbl hbA hw.2.2.2.1 (lv_at hl 0 rfl) (lv_at hl 4 rfl) (hin 1 (by decide)) d_L_law_632 d_L_law_633 d_L_law_635 rfl d_L_law_636 d_L_law_637 ?_
  refine fr_calli (wa := []) (w1 := wY cI cZ bd U) (wb := wX cI cT ad M0 ++ [oC oa cL f]) (w2 := wY cI cZ bd U0) (As := [.int (xs (i + 1).toNatClampNeg)]) (rest := [.int r]) S hw [0, 2] rfl (c_Y_arrive h2) w_99 ya_R rfl rfl hl.1 rfl (Nat.le_of_ble_eq_true rfl) d_L_law_638 ⟨by show cells ≤ 601024; omega, by show slots ≤ 7293034; omega⟩ (fun H locs hw => ?_)
  refine lv_icmp_eq (tgt := 789) hx hb d_L_law_641 (by decide) (fun _ => ?_) (fun h => absurd rfl h)
  exact W.widen (Nat.le_add_right _ _) (Nat.le_add_right _ _) (kk H locs f ls hw hl)
set_option maxHeartbeats 4000000 in
set_option maxRecDepth 100000 in
theorem lc_12 {p : Program} {l : Launch} {e : Env} {s : State} {m : MethodId} {below : List Frame} {meth : Method} {c : Code} {b L : Nat} {xs : Nat → Int32} {A : Nat → Prop} {D : va_G} {cI cT cZ cL : ClassId} {ad bd : Nat → Nat} {oa : Nat} {M M0 : MX} {U U0 : MY} {f : Nat → Int64} {H : Heap} {locs : List Loc} {cells slots : Nat} {Q : State → Prop} {i : Int32} {ls : Array Slot}
    (C : lc_ctx p l s m c b L xs A) (hw : gw_W D (tyL cI cT cZ cL) A (wL cI cT cZ cL ad bd oa M U f) s H locs) (hc : cells + 1 ≤ 601024) (hs : slots + 6 ≤ 7293034) (hin : ∀ j : Int32, (j = 1 ∨ j = 2 ∨ j = 3 ∨ j = 4) → vp_in (i + j) L) (hl : lv_has ls 7 (lvL b oa ad bd i))
    {n' : Nat} {r : Int32} (h2 : j_Y_tick n' U (xs (i + 1).toNatClampNeg) = some (r, U0)) (h1 : (∃ n, j_O_tick n M (xs (i + 1).toNatClampNeg) = some (Sum.inr (r, M0)) ∧ U0.2 0 = 0) ∨ (∃ n E0 k0, j_O_tick n M (xs (i + 1).toNatClampNeg) = some (Sum.inl (E0, M0)) ∧ (E0 = "java/lang/IllegalArgumentException" ∧ k0 = 1) ∧ U0.2 0 = k0))
    (kk : ∀ (H : Heap) (locs : List Loc) (f : Nat → Int64) (ls : Array Slot), gw_W D (tyL cI cT cZ cL) A (wL cI cT cZ cL ad bd oa M0 U0 f) s H locs → lv_has ls 7 (lvL b oa ad bd i) → W p l e room_1 s m #[Value.ref b] below meth c H locs (cells + 1) (slots + 6) Q (F0 m 789 ls [])) :
    W p l e room_1 s m #[Value.ref b] below meth c H locs cells slots Q (F0 m 646 ls []) := by
  obtain ⟨S, hlt, hX, hbl, hbA, hZ, hN⟩ := C
  have hx := S.1
  have hb := S.2.1
  have hts := S.2.2.2.2
  have w_102 : CallW room_1 s #[Value.ref b] R_L R_Y 102 y_Y_tick b_Y_tick 4 (some .int) ws_Y_tick rm_Y_tick 0 0 1 := cwV 1 hts (wB_callV (fun w h => wB_sub w h) xw_584 xw_585 xw_586 xw_587 xw_278) rfl rfl rfl (by decide +kernel) ⟨Nat.le_of_ble_eq_true rfl, Nat.le_of_ble_eq_true rfl⟩
  have w_74 : CallW room_1 s #[Value.ref b] R_L R_Y 74 y_Y_thrown b_Y_thrown 1 (some .int) ws_Y_thrown rm_Y_thrown 0 0 0 := cwV 0 hts (wB_callV (fun w h => wB_sub w h) xw_539 xw_540 xw_541 xw_542 xw_278) rfl rfl rfl (by decide +kernel) ⟨Nat.le_of_ble_eq_true rfl, Nat.le_of_ble_eq_true rfl⟩
  rcases h1 with ⟨n, h1, hth⟩ | ⟨n, E0, k0, h1, hE, hth⟩
  · refine lv_aload_n hx hb d_L_law_646 rfl (lv_at hl 1 rfl) ?_
    refine gl_arg (j := 1) hx hb hX hbl hbA hw.2.2.2.1 (lv_at hl 0 rfl) (lv_at hl 4 rfl) (hin 1 (by decide)) d_L_law_647 d_L_law_648 d_L_law_650 rfl d_L_law_651 d_L_law_652 ?_
    refine lv_aload_n hx hb d_L_law_653 rfl (lv_at hl 3 rfl) ?_
    refine gl_call (wa := wY cI cZ bd U) (w1 := wX cI cT ad M ++ [oC oa cL f]) (w2 := wX cI cT ad M0 ++ [oC oa cL (vp_updL f 0 r.toInt64)]) (As := [.ref (ad 0), .int (xs (i + 1).toNatClampNeg), .ref oa]) (n := 3) (rest := []) S hw hZ hN [0, 1, 3] rfl (h_L_tick h1) rfl rfl (Nat.le_of_ble_eq_true rfl) (Nat.le_of_ble_eq_true rfl) (gl_warm hts xv_14) List.mem_cons_self (wB_sub _ xw_543) (wB_sub _ xw_588) (wB_sub _ xw_589) (by decide) (by decide +kernel) rfl hl.1 rfl (Nat.le_of_ble_eq_true rfl) d_L_law_654 hc hs (fun H locs hw => ?_)
    refine lv_istore (lv' := [(5, .int 0), (0, .ref b), (1, .ref (ad 0)), (2, .ref (bd 0)), (3, .ref oa), (4, .int i)]) hx hb d_L_law_657 hl (by decide) rfl (fun ls hl => ?_)
    refine lv_aload_n hx hb d_L_law_659 rfl (lv_at hl 3 rfl) ?_
    refine gl_arg (j := 1) hx hb hX hbl hbA hw.2.2.2.1 (lv_at hl 1 rfl) (lv_at hl 5 rfl) (hin 1 (by decide)) d_L_law_660 d_L_law_661 d_L_law_663 rfl d_L_law_664 d_L_law_665 ?_
    refine fr_calli (wa := []) (w1 := wY cI cZ bd U) (wb := wX cI cT ad M0 ++ [oC oa cL (vp_updL f 0 r.toInt64)]) (w2 := wY cI cZ bd U0) (As := [.int (xs (i + 1).toNatClampNeg)]) (rest := []) S hw [0, 2] rfl (c_Y_tick h2) w_102 ya_R rfl rfl hl.1 rfl (Nat.le_of_ble_eq_true rfl) d_L_law_666 ⟨by show cells + 1 ≤ 601024; omega, by show slots + 6 ≤ 7293034; omega⟩ (fun H locs hw => ?_)
    refine lv_istore (lv' := [(6, .int r), (5, .int 0), (0, .ref b), (1, .ref (ad 0)), (2, .ref (bd 0)), (3, .ref oa), (4, .int i)]) hx hb d_L_law_669 hl (by decide) rfl (fun ls hl => ?_)
    refine lv_aload_n hx hb d_L_law_671 rfl (lv_at hl 4 rfl) ?_
    refine fr_calli (wa := []) (w1 := wY cI cZ bd U0) (wb := wX cI cT ad M0 ++ [oC oa cL (vp_updL f 0 r.toInt64)]) (w2 := wY cI cZ bd U0) (As := []) (rest := []) S hw [0, 2] rfl (c_Y_thrown (n := 0) (r0 := U0.2 0) rfl) w_74 ya_R rfl rfl hl.1 rfl (Nat.le_of_ble_eq_true rfl) d_L_law_672 ⟨by show cells + 1 ≤ 601024; omega, by show slots + 6 ≤ 7293034; omega⟩ (fun H locs hw => ?_)
    refine lv_iload hx hb d_L_law_675 (lv_at hl 1 rfl) ?_
    refine lv_icmp_eq (tgt := 682) hx hb d_L_law_677 (by decide) (fun _ => ?_) (fun h => absurd hth h)
    refine lv_iload hx hb d_L_law_682 (lv_at hl 1 rfl) ?_
    refine lv_if_ne (tgt := 699) hx hb d_L_law_684 (by decide) (fun h => absurd rfl h) (fun _ => ?_)
    refine lv_aload_n hx hb d_L_law_687 rfl (lv_at hl 5 rfl) ?_
    refine lv_iconst (v := 0) hx hb d_L_law_688 (by decide) ?_
    refine gl_lald (q0 := (wY cI cZ bd U0).length + ((wX cI cT ad M0).length + 0)) (t0 := 3) (ws := wL cI cT cZ cL ad bd oa M0 U0 (vp_updL f 0 r.toInt64)) S hw ((ap_at _).trans (ap_at 0)) rfl (by decide) d_L_law_689 ?_
    refine lv_iload hx hb d_L_law_690 (lv_at hl 0 rfl) ?_
    refine lv_i2l hx hb d_L_law_692 rfl ?_
    refine W.lcmp hx hb d_L_law_693 ?_
    rw [show vp_updL f 0 r.toInt64 (0 : Int32).toNatClampNeg = r.toInt64 from if_pos rfl, lg_cmp_self]
    refine lv_if_eq (tgt := 699) hx hb d_L_law_694 (by decide) (fun _ => ?_) (fun h => absurd rfl h)
    refine lv_goto (tgt := 789) hx hb d_L_law_699 (by decide) ?_
    exact kk H locs _ ls hw (lv_sub hl [2, 3, 4, 5, 6] rfl)
  · have hk0 : ¬ k0 = 0 := by
      rcases hE with ⟨-, rfl⟩ <;> decide
    refine lv_aload_n hx hb d_L_law_646 rfl (lv_at hl 1 rfl) ?_
    refine gl_arg (j := 1) hx hb hX hbl hbA hw.2.2.2.1 (lv_at hl 0 rfl) (lv_at hl 4 rfl) (hin 1 (by decide)) d_L_law_647 d_L_law_648 d_L_law_650 rfl d_L_law_651 d_L_law_652 ?_
    refine lv_aload_n hx hb d_L_law_653 rfl (lv_at hl 3 rfl) ?_
    refine gl_call (wa := wY cI cZ bd U) (w1 := wX cI cT ad M ++ [oC oa cL f]) (w2 := wX cI cT ad M0 ++ [oC oa cL f]) (As := [.ref (ad 0), .int (xs (i + 1).toNatClampNeg), .ref oa]) (n := 3) (rest := []) S hw hZ hN [0, 1, 3] rfl (ht_L_tick hlt h1 hE) rfl rfl (Nat.le_of_ble_eq_true rfl) (Nat.le_of_ble_eq_true rfl) (gl_warm hts xv_14) List.mem_cons_self (wB_sub _ xw_543) (wB_sub _ xw_588) (wB_sub _ xw_589) (by decide) (by decide +kernel) rfl hl.1 rfl (Nat.le_of_ble_eq_true rfl) d_L_law_654 hc hs (fun H locs hw => ?_)
    refine lv_istore (lv' := [(5, .int k0), (0, .ref b), (1, .ref (ad 0)), (2, .ref (bd 0)), (3, .ref oa), (4, .int i)]) hx hb d_L_law_657 hl (by decide) rfl (fun ls hl => ?_)
    refine lv_aload_n hx hb d_L_law_659 rfl (lv_at hl 3 rfl) ?_
    refine gl_arg (j := 1) hx hb hX hbl hbA hw.2.2.2.1 (lv_at hl 1 rfl) (lv_at hl 5 rfl) (hin 1 (by decide)) d_L_law_660 d_L_law_661 d_L_law_663 rfl d_L_law_664 d_L_law_665 ?_
    refine fr_calli (wa := []) (w1 := wY cI cZ bd U) (wb := wX cI cT ad M0 ++ [oC oa cL f]) (w2 := wY cI cZ bd U0) (As := [.int (xs (i + 1).toNatClampNeg)]) (rest := []) S hw [0, 2] rfl (c_Y_tick h2) w_102 ya_R rfl rfl hl.1 rfl (Nat.le_of_ble_eq_true rfl) d_L_law_666 ⟨by show cells + 1 ≤ 601024; omega, by show slots + 6 ≤ 7293034; omega⟩ (fun H locs hw => ?_)
    refine lv_istore (lv' := [(6, .int r), (5, .int k0), (0, .ref b), (1, .ref (ad 0)), (2, .ref (bd 0)), (3, .ref oa), (4, .int i)]) hx hb d_L_law_669 hl (by decide) rfl (fun ls hl => ?_)
    refine lv_aload_n hx hb d_L_law_671 rfl (lv_at hl 4 rfl) ?_
    refine fr_calli (wa := []) (w1 := wY cI cZ bd U0) (wb := wX cI cT ad M0 ++ [oC oa cL f]) (w2 := wY cI cZ bd U0) (As := []) (rest := []) S hw [0, 2] rfl (c_Y_thrown (n := 0) (r0 := U0.2 0) rfl) w_74 ya_R rfl rfl hl.1 rfl (Nat.le_of_ble_eq_true rfl) d_L_law_672 ⟨by show cells + 1 ≤ 601024; omega, by show slots + 6 ≤ 7293034; omega⟩ (fun H locs hw => ?_)
    refine lv_iload hx hb d_L_law_675 (lv_at hl 1 rfl) ?_
    refine lv_icmp_eq (tgt := 682) hx hb d_L_law_677 (by decide) (fun _ => ?_) (fun h => absurd hth h)
    refine lv_iload hx hb d_L_law_682 (lv_at hl 1 rfl) ?_
    refine lv_if_ne (tgt := 699) hx hb d_L_law_684 (by decide) (fun _ => ?_) (fun h => absurd h hk0)
    refine lv_goto (tgt := 789) hx hb d_L_law_699 (by decide) ?_
    exact kk H locs _ ls hw (lv_sub hl [2, 3, 4, 5, 6] rfl)
set_option maxHeartbeats 4000000 in
set_option maxRecDepth 100000 in
theorem lc_13 {p : Program} {l : Launch} {e : Env} {s : State} {m : MethodId} {below : List Frame} {meth : Method} {c : Code} {b L : Nat} {xs : Nat → Int32} {A : Nat → Prop} {D : va_G} {cI cT cZ cL : ClassId} {ad bd : Nat → Nat} {oa : Nat} {M M0 : MX} {U U0 : MY} {f : Nat → Int64} {H : Heap} {locs : List Loc} {cells slots : Nat} {Q : State → Prop} {i : Int32} {ls : Array Slot}
    (C : lc_ctx p l s m c b L xs A) (hw : gw_W D (tyL cI cT cZ cL) A (wL cI cT cZ cL ad bd oa M U f) s H locs) (hc : cells + 1 ≤ 601024) (hs : slots + 6 ≤ 7293034) (hin : ∀ j : Int32, (j = 1 ∨ j = 2 ∨ j = 3 ∨ j = 4) → vp_in (i + j) L) (hl : lv_has ls 7 (lvL b oa ad bd i))
    {n n' : Nat} {r : Int32} (h1 : j_O_now n M = some r) (hMM : M = M0) (h2 : j_Y_now n' U = some (r, U0))
    (kk : ∀ (H : Heap) (locs : List Loc) (f : Nat → Int64) (ls : Array Slot), gw_W D (tyL cI cT cZ cL) A (wL cI cT cZ cL ad bd oa M0 U0 f) s H locs → lv_has ls 7 (lvL b oa ad bd i) → W p l e room_1 s m #[Value.ref b] below meth c H locs (cells + 1) (slots + 6) Q (F0 m 789 ls [])) :
    W p l e room_1 s m #[Value.ref b] below meth c H locs cells slots Q (F0 m 702 ls []) := by
  subst hMM
  obtain ⟨S, hlt, hX, hbl, hbA, hZ, hN⟩ := C
  have hx := S.1
  have hb := S.2.1
  have hts := S.2.2.2.2
  have w_103 : CallW room_1 s #[Value.ref b] R_L R_O 103 y_O_now b_O_now 1 (some .int) ws_O_now rm_O_now 0 0 0 := cwV 0 hts (wB_callV (fun w h => wB_sub w h) xw_590 xw_591 xw_592 xw_593 xw_393) rfl rfl rfl (by decide +kernel) ⟨Nat.le_of_ble_eq_true rfl, Nat.le_of_ble_eq_true rfl⟩
  have w_106 : CallW room_1 s #[Value.ref b] R_L R_Y 106 y_Y_now b_Y_now 1 (some .int) ws_Y_now rm_Y_now 0 0 0 := cwV 0 hts (wB_callV (fun w h => wB_sub w h) xw_594 xw_595 xw_596 xw_597 xw_278) rfl rfl rfl (by decide +kernel) ⟨Nat.le_of_ble_eq_true rfl, Nat.le_of_ble_eq_true rfl⟩
  refine lv_aload_n hx hb d_L_law_702 rfl (lv_at hl 1 rfl) ?_
  refine fr_calli (wa := wY cI cZ bd U) (w1 := wX cI cT ad M) (wb := [oC oa cL f]) (w2 := wX cI cT ad M) (As := []) (rest := []) S hw [0, 1] rfl (c_O_now h1) w_103 xa_O rfl rfl hl.1 rfl (Nat.le_of_ble_eq_true rfl) d_L_law_703 ⟨by show cells ≤ 601024; omega, by show slots ≤ 7293034; omega⟩ (fun H locs hw => ?_)
  refine lv_aload_n hx hb d_L_law_706 rfl (lv_at hl 2 rfl) ?_
  refine fr_calli (wa := []) (w1 := wY cI cZ bd U) (wb := wX cI cT ad M ++ [oC oa cL f]) (w2 := wY cI cZ bd U0) (As := []) (rest := [.int r]) S hw [0, 2] rfl (c_Y_now h2) w_106 ya_R rfl rfl hl.1 rfl (Nat.le_of_ble_eq_true rfl) d_L_law_707 ⟨by show cells ≤ 601024; omega, by show slots ≤ 7293034; omega⟩ (fun H locs hw => ?_)
  refine lv_icmp_eq (tgt := 789) hx hb d_L_law_710 (by decide) (fun _ => ?_) (fun h => absurd rfl h)
  exact W.widen (Nat.le_add_right _ _) (Nat.le_add_right _ _) (kk H locs f ls hw hl)
set_option maxHeartbeats 4000000 in
set_option maxRecDepth 100000 in
theorem lc_14 {p : Program} {l : Launch} {e : Env} {s : State} {m : MethodId} {below : List Frame} {meth : Method} {c : Code} {b L : Nat} {xs : Nat → Int32} {A : Nat → Prop} {D : va_G} {cI cT cZ cL : ClassId} {ad bd : Nat → Nat} {oa : Nat} {M M0 : MX} {U U0 : MY} {f : Nat → Int64} {H : Heap} {locs : List Loc} {cells slots : Nat} {Q : State → Prop} {i : Int32} {ls : Array Slot}
    (C : lc_ctx p l s m c b L xs A) (hw : gw_W D (tyL cI cT cZ cL) A (wL cI cT cZ cL ad bd oa M U f) s H locs) (hc : cells + 1 ≤ 601024) (hs : slots + 6 ≤ 7293034) (hin : ∀ j : Int32, (j = 1 ∨ j = 2 ∨ j = 3 ∨ j = 4) → vp_in (i + j) L) (hl : lv_has ls 7 (lvL b oa ad bd i))
    {n n' : Nat} {r : Int32} (h1 : j_O_ended n M (xs (i + 1).toNatClampNeg) (xs (i + 2).toNatClampNeg) = some r) (hMM : M = M0) (h2 : j_Y_ended n' U (xs (i + 1).toNatClampNeg) (xs (i + 2).toNatClampNeg) = some (r, U0))
    (kk : ∀ (H : Heap) (locs : List Loc) (f : Nat → Int64) (ls : Array Slot), gw_W D (tyL cI cT cZ cL) A (wL cI cT cZ cL ad bd oa M0 U0 f) s H locs → lv_has ls 7 (lvL b oa ad bd i) → W p l e room_1 s m #[Value.ref b] below meth c H locs (cells + 1) (slots + 6) Q (F0 m 789 ls [])) :
    W p l e room_1 s m #[Value.ref b] below meth c H locs cells slots Q (F0 m 715 ls []) := by
  subst hMM
  obtain ⟨S, hlt, hX, hbl, hbA, hZ, hN⟩ := C
  have hx := S.1
  have hb := S.2.1
  have hts := S.2.2.2.2
  have w_107 : CallW room_1 s #[Value.ref b] R_L R_O 107 y_O_ended b_O_ended 4 (some .int) ws_O_ended rm_O_ended 0 0 2 := cwV 2 hts (wB_callV (fun w h => wB_sub w h) xw_598 xw_599 xw_600 xw_601 xw_393) rfl rfl rfl (by decide +kernel) ⟨Nat.le_of_ble_eq_true rfl, Nat.le_of_ble_eq_true rfl⟩
  have w_110 : CallW room_1 s #[Value.ref b] R_L R_Y 110 y_Y_ended b_Y_ended 3 (some .int) ws_Y_ended rm_Y_ended 0 0 2 := cwV 2 hts (wB_callV (fun w h => wB_sub w h) xw_602 xw_603 xw_604 xw_605 xw_278) rfl rfl rfl (by decide +kernel) ⟨Nat.le_of_ble_eq_true rfl, Nat.le_of_ble_eq_true rfl⟩
  refine lv_aload_n hx hb d_L_law_715 rfl (lv_at hl 1 rfl) ?_
  refine gl_arg (j := 1) hx hb hX hbl hbA hw.2.2.2.1 (lv_at hl 0 rfl) (lv_at hl 4 rfl) (hin 1 (by decide)) d_L_law_716 d_L_law_717 d_L_law_719 rfl d_L_law_720 d_L_law_721 ?_
  refine gl_arg (j := 2) hx hb hX hbl hbA hw.2.2.2.1 (lv_at hl 0 rfl) (lv_at hl 4 rfl) (hin 2 (by decide)) d_L_law_722 d_L_law_723 d_L_law_725 rfl d_L_law_726 d_L_law_727 ?_
  refine fr_calli (wa := wY cI cZ bd U) (w1 := wX cI cT ad M) (wb := [oC oa cL f]) (w2 := wX cI cT ad M) (As := [.int (xs (i + 1).toNatClampNeg), .int (xs (i + 2).toNatClampNeg)]) (rest := []) S hw [0, 1] rfl (c_O_ended h1) w_107 xa_O rfl rfl hl.1 rfl (Nat.le_of_ble_eq_true rfl) d_L_law_728 ⟨by show cells ≤ 601024; omega, by show slots ≤ 7293034; omega⟩ (fun H locs hw => ?_)
  refine lv_aload_n hx hb d_L_law_731 rfl (lv_at hl 2 rfl) ?_
  refine gl_arg (j := 1) hx hb hX hbl hbA hw.2.2.2.1 (lv_at hl 0 rfl) (lv_at hl 4 rfl) (hin 1 (by decide)) d_L_law_732 d_L_law_733 d_L_law_735 rfl d_L_law_736 d_L_law_737 ?_
  refine gl_arg (j := 2) hx hb hX hbl hbA hw.2.2.2.1 (lv_at hl 0 rfl) (lv_at hl 4 rfl) (hin 2 (by decide)) d_L_law_738 d_L_law_739 d_L_law_741 rfl d_L_law_742 d_L_law_743 ?_
  refine fr_calli (wa := []) (w1 := wY cI cZ bd U) (wb := wX cI cT ad M ++ [oC oa cL f]) (w2 := wY cI cZ bd U0) (As := [.int (xs (i + 1).toNatClampNeg), .int (xs (i + 2).toNatClampNeg)]) (rest := [.int r]) S hw [0, 2] rfl (c_Y_ended h2) w_110 ya_R rfl rfl hl.1 rfl (Nat.le_of_ble_eq_true rfl) d_L_law_744 ⟨by show cells ≤ 601024; omega, by show slots ≤ 7293034; omega⟩ (fun H locs hw => ?_)
  refine lv_icmp_eq (tgt := 789) hx hb d_L_law_747 (by decide) (fun _ => ?_) (fun h => absurd rfl h)
  exact W.widen (Nat.le_add_right _ _) (Nat.le_add_right _ _) (kk H locs f ls hw hl)
set_option maxHeartbeats 4000000 in
set_option maxRecDepth 100000 in
theorem lc_15 {p : Program} {l : Launch} {e : Env} {s : State} {m : MethodId} {below : List Frame} {meth : Method} {c : Code} {b L : Nat} {xs : Nat → Int32} {A : Nat → Prop} {D : va_G} {cI cT cZ cL : ClassId} {ad bd : Nat → Nat} {oa : Nat} {M M0 : MX} {U U0 : MY} {f : Nat → Int64} {H : Heap} {locs : List Loc} {cells slots : Nat} {Q : State → Prop} {i : Int32} {ls : Array Slot}
    (C : lc_ctx p l s m c b L xs A) (hw : gw_W D (tyL cI cT cZ cL) A (wL cI cT cZ cL ad bd oa M U f) s H locs) (hc : cells + 1 ≤ 601024) (hs : slots + 6 ≤ 7293034) (hin : ∀ j : Int32, (j = 1 ∨ j = 2 ∨ j = 3 ∨ j = 4) → vp_in (i + j) L) (hl : lv_has ls 7 (lvL b oa ad bd i))
    {n n' : Nat} {r : Int32} (h1 : j_O_seen n M (xs (i + 1).toNatClampNeg) (xs (i + 2).toNatClampNeg) = some r) (hMM : M = M0) (h2 : j_Y_seen n' U (xs (i + 1).toNatClampNeg) (xs (i + 2).toNatClampNeg) = some (r, U0))
    (kk : ∀ (H : Heap) (locs : List Loc) (f : Nat → Int64) (ls : Array Slot), gw_W D (tyL cI cT cZ cL) A (wL cI cT cZ cL ad bd oa M0 U0 f) s H locs → lv_has ls 7 (lvL b oa ad bd i) → W p l e room_1 s m #[Value.ref b] below meth c H locs (cells + 1) (slots + 6) Q (F0 m 789 ls [])) :
    W p l e room_1 s m #[Value.ref b] below meth c H locs cells slots Q (F0 m 752 ls []) := by
  subst hMM
  obtain ⟨S, hlt, hX, hbl, hbA, hZ, hN⟩ := C
  have hx := S.1
  have hb := S.2.1
  have hts := S.2.2.2.2
  have w_111 : CallW room_1 s #[Value.ref b] R_L R_O 111 y_O_seen b_O_seen 4 (some .int) ws_O_seen rm_O_seen 0 0 2 := cwV 2 hts (wB_callV (fun w h => wB_sub w h) xw_606 xw_607 xw_608 xw_609 xw_393) rfl rfl rfl (by decide +kernel) ⟨Nat.le_of_ble_eq_true rfl, Nat.le_of_ble_eq_true rfl⟩
  have w_114 : CallW room_1 s #[Value.ref b] R_L R_Y 114 y_Y_seen b_Y_seen 3 (some .int) ws_Y_seen rm_Y_seen 0 0 2 := cwV 2 hts (wB_callV (fun w h => wB_sub w h) xw_610 xw_611 xw_612 xw_613 xw_278) rfl rfl rfl (by decide +kernel) ⟨Nat.le_of_ble_eq_true rfl, Nat.le_of_ble_eq_true rfl⟩
  refine lv_aload_n hx hb d_L_law_752 rfl (lv_at hl 1 rfl) ?_
  refine gl_arg (j := 1) hx hb hX hbl hbA hw.2.2.2.1 (lv_at hl 0 rfl) (lv_at hl 4 rfl) (hin 1 (by decide)) d_L_law_753 d_L_law_754 d_L_law_756 rfl d_L_law_757 d_L_law_758 ?_
  refine gl_arg (j := 2) hx hb hX hbl hbA hw.2.2.2.1 (lv_at hl 0 rfl) (lv_at hl 4 rfl) (hin 2 (by decide)) d_L_law_759 d_L_law_760 d_L_law_762 rfl d_L_law_763 d_L_law_764 ?_
  refine fr_calli (wa := wY cI cZ bd U) (w1 := wX cI cT ad M) (wb := [oC oa cL f]) (w2 := wX cI cT ad M) (As := [.int (xs (i + 1).toNatClampNeg), .int (xs (i + 2).toNatClampNeg)]) (rest := []) S hw [0, 1] rfl (c_O_seen h1) w_111 xa_O rfl rfl hl.1 rfl (Nat.le_of_ble_eq_true rfl) d_L_law_765 ⟨by show cells ≤ 601024; omega, by show slots ≤ 7293034; omega⟩ (fun H locs hw => ?_)
  refine lv_aload_n hx hb d_L_law_768 rfl (lv_at hl 2 rfl) ?_
  refine gl_arg (j := 1) hx hb hX hbl hbA hw.2.2.2.1 (lv_at hl 0 rfl) (lv_at hl 4 rfl) (hin 1 (by decide)) d_L_law_769 d_L_law_770 d_L_law_772 rfl d_L_law_773 d_L_law_774 ?_
  refine gl_arg (j := 2) hx hb hX hbl hbA hw.2.2.2.1 (lv_at hl 0 rfl) (lv_at hl 4 rfl) (hin 2 (by decide)) d_L_law_775 d_L_law_776 d_L_law_778 rfl d_L_law_779 d_L_law_780 ?_
  refine fr_calli (wa := []) (w1 := wY cI cZ bd U) (wb := wX cI cT ad M ++ [oC oa cL f]) (w2 := wY cI cZ bd U0) (As := [.int (xs (i + 1).toNatClampNeg), .int (xs (i + 2).toNatClampNeg)]) (rest := [.int r]) S hw [0, 2] rfl (c_Y_seen h2) w_114 ya_R rfl rfl hl.1 rfl (Nat.le_of_ble_eq_true rfl) d_L_law_781 ⟨by show cells ≤ 601024; omega, by show slots ≤ 7293034; omega⟩ (fun H locs hw => ?_)
  refine lv_icmp_eq (tgt := 789) hx hb d_L_law_784 (by decide) (fun _ => ?_) (fun h => absurd rfl h)
  exact W.widen (Nat.le_add_right _ _) (Nat.le_add_right _ _) (kk H locs f ls hw hl)
