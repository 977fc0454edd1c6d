/-! PURE: scenario, stretch, about, now, ended, seen -/
set_option maxHeartbeats 1000000 in
theorem k_scenario : pu_scenario kSim := by
  intro t M U v v2 v3 _ ⟨Z, Q, rk, rn, c, C, F, P, hj, L, ru, pa, hZ, hX, hY, hC, hK⟩
  obtain ⟨M', U', h1, h2, h3, h4, ⟨i, hi, ev, hu, hR, hb, eX, eY, y0, x9, x10, -, y11, y12, -⟩ | ⟨E, k, eX, eY, hE, y0⟩⟩ := asks_both hZ hX hY hC v (Nat.le_refl 60000)
  · have hnj := z_nj hZ hi hu (B := zbl Z Q i)
    have hpos : 0 < znj Z i (zbl Z Q i) := by
      have := hnj.2.1
      omega
    have hak := z_ak hZ hR hi hu
    have hcr : (zw Z Q i (zbl Z Q i)).2 < znj Z i (zbl Z Q i) := sp_w_lt _ hpos
    have hcrD := (sp_nj_lt hak hcr).2.1
    have hbz : sp_bz (Z 1) (Z 5) (zhi Z i) i (zbl Z Q i) ≤ 20000 := hb
    have hw2 : (zw Z Q i (zbl Z Q i)).1 ≤ 28799 := z_wb hZ hR hi hu (Nat.le_refl _)
    have hw1 : 1 ≤ (zw Z Q i (zbl Z Q i)).1 := by
      by_cases e : (zw Z Q i (zbl Z Q i)).1 ≤ 0
      · have g := (sp_w_le (r := zrs Z Q i (zbl Z Q i)) (znj Z i (zbl Z Q i))).mp e 0 hpos
        rw [zrs_eq] at g
        have g4 := hR.2 i hi hu
        have g1 := ((hZ i hi).2 hu).2.2.2.2.2.2.1 (Z 4 i - 1) (by omega)
        omega
      · omega
    have both : ∀ (i2 : Nat) (a3 b3 : Int32), i2 < 2 ^ 31 → ((a3 = 0 ∧ b3 = 1) ∨ (a3 = 1 ∧ b3 = 0)) → ∃ r, j_A_scenarioItem 60000 M' (fin8 i) (nI i2) b3 = some r ∧ ysc 60000 U' (nI (i + 1)) (nI i2) a3 (nI (zbl Z Q i)) = some (r, U') := fun i2 a3 b3 hi2 h =>
      sc_both (hX.sk h1) h3 hZ hi hu (Nat.le_refl 60000) x9 x10 y11 y12 (by omega) hw1 (by omega) hi2 h
    have hsim := kSim.ask hZ hX hK h1 h2 h3 h4
    subst ev
    have neg : j_Y_scenario 60000 U (nI (i + 1)) v2 v3 = some (-1, U') → j_O_scenario 60000 M (nI (i + 1)) v2 v3 = some (Sum.inr (-1, M')) → ∃ (M0 : MX) (U0 : MY) (n' : Nat) (r : Int32), j_Y_scenario n' U (nI (i + 1)) v2 v3 = some (r, U0) ∧ kSim (t + 1) M0 U0 ∧ ((∃ n, j_O_scenario n M (nI (i + 1)) v2 v3 = some (Sum.inr (r, M0)) ∧ U0.2 0 = 0) ∨ (∃ n E0 k0, j_O_scenario n M (nI (i + 1)) v2 v3 = some (Sum.inl (E0, M0)) ∧ ((E0 = "java/lang/IndexOutOfBoundsException" ∧ k0 = 1) ∨ (E0 = "java/lang/IllegalStateException" ∧ k0 = 2) ∨ (E0 = "java/lang/ArithmeticException" ∧ k0 = 3)) ∧ U0.2 0 = k0)) := fun q1 q2 => ⟨M', U', 60000, -1, q1, hsim, Or.inl ⟨60000, q2, y0⟩⟩
    by_cases a0 : v2 < 0
    · refine neg ?_ ?_
      · unfold j_Y_scenario; rw [eY, Option.bind_some, if_neg d10, if_pos a0]
      · unfold j_O_scenario; rw [eX, Option.bind_some, Sum.elim_inr, if_pos a0]
    · by_cases b0 : v3 < 0
      · refine neg ?_ ?_
        · unfold j_Y_scenario; rw [eY, Option.bind_some, if_neg d10, if_neg a0, if_pos b0]
        · unfold j_O_scenario; rw [eX, Option.bind_some, Sum.elim_inr, if_neg a0, if_pos b0]
      · by_cases b1 : v3 ≤ 1
        · obtain ⟨i2, hi2, rfl⟩ := nI_nn a0
          have hb3 : v3 = 0 ∨ v3 = 1 := by
            obtain ⟨j, hj1, rfl⟩ := nI_btw (k := 1) (by omega) b0 (le_not32 b1)
            have : j = 0 ∨ j = 1 := by omega
            rcases this with rfl | rfl
            · exact Or.inl rfl
            · exact Or.inr rfl
          have hbl := y_bl h3 hZ hi hu (show 9 ≤ 60000 by omega)
          have yside : ∀ r, ysc 60000 U' (nI (i + 1)) (nI i2) v3 (nI (zbl Z Q i)) = some (r, U') → j_Y_scenario 60000 U (nI (i + 1)) (nI i2) v3 = some (r, U') := fun r e => by
            unfold j_Y_scenario
            rw [eY, Option.bind_some, if_neg d10, if_neg a0, if_neg b0, if_pos b1, hbl, Option.bind_some]
            unfold ysc at e
            by_cases z0 : nI (zbl Z Q i) ≤ 0
            · rw [if_pos z0] at e
              rw [if_pos z0, if_pos z0, if_pos z0, if_pos (y_in hi)]
              exact e
            · rw [if_neg z0] at e
              rw [if_neg z0, if_pos (y_in hi)]
              exact e
          rcases hb3 with rfl | rfl
          · obtain ⟨r, e1, e2⟩ := both i2 0 1 hi2 (Or.inl ⟨rfl, rfl⟩)
            refine ⟨M', U', 60000, r, yside r e2, hsim, Or.inl ⟨60000, ?_, y0⟩⟩
            unfold j_O_scenario
            rw [eX, Option.bind_some, Sum.elim_inr, if_neg a0, if_neg b0, if_pos b1, if_pos rfl, e1, Option.bind_some]
          · obtain ⟨r, e1, e2⟩ := both i2 1 0 hi2 (Or.inr ⟨rfl, rfl⟩)
            refine ⟨M', U', 60000, r, yside r e2, hsim, Or.inl ⟨60000, ?_, y0⟩⟩
            unfold j_O_scenario
            rw [eX, Option.bind_some, Sum.elim_inr, if_neg a0, if_neg b0, if_pos b1, if_neg d10, e1, Option.bind_some]
        · refine neg ?_ ?_
          · unfold j_Y_scenario; rw [eY, Option.bind_some, if_neg d10, if_neg a0, if_neg b0, if_neg b1]
          · unfold j_O_scenario; rw [eX, Option.bind_some, Sum.elim_inr, if_neg a0, if_neg b0, if_neg b1]
  · refine ⟨M', U', 60000, 0, ?_, kSim.ask hZ hX hK h1 h2 h3 h4, Or.inr ⟨60000, E, k, ?_, hE, y0⟩⟩
    · unfold j_Y_scenario
      rw [eY, Option.bind_some, if_pos rfl]
    · unfold j_O_scenario
      rw [eX, Option.bind_some, Sum.elim_inl]
theorem k_stretch : pu_stretch kSim := by
  intro t M U _ ⟨Z, Q, rk, rn, c, C, F, P, hj, L, ru, pa, hZ, hX, hY, hC, hK⟩
  obtain ⟨ghj, ghj2⟩ := hK.2.1.1
  have out : j_O_stretch 20003 M = some (Sum.inl ("java/lang/IllegalStateException", M)) → j_Y_stretch 20003 U = some (0, sV U 0 1) → ∃ (M0 : MX) (U0 : MY) (n' : Nat) (r : Int32), j_Y_stretch n' U = some (r, U0) ∧ kSim (t + 1) M0 U0 ∧ ((∃ n, j_O_stretch n M = some (Sum.inr (r, M0)) ∧ U0.2 0 = 0) ∨ (∃ n E0 k0, j_O_stretch n M = some (Sum.inl (E0, M0)) ∧ (E0 = "java/lang/IllegalStateException" ∧ k0 = 1) ∧ U0.2 0 = k0)) := fun e1 e2 =>
    ⟨M, sV U 0 1, 20003, 0, e2, kSim.ask hZ hX hK xsk.rf hC hY (yu.rf.sV 1 (Or.inl rfl)), Or.inr ⟨20003, _, 1, e1, ⟨rfl, rfl⟩, sV_at⟩⟩
  by_cases hR : zrdy Z
  · have rx := (x_rdy hX hZ (show 9 ≤ 20003 by omega)).1 hR
    have ry := (y_rdy hY hZ (show 9 ≤ 20003 by omega)).1 hR
    by_cases h0 : hj = 0
    · subst h0
      have ghj' : M.2.1 2 1 = 0 := ghj
      have ghj2' : U.2 25 = 0 := ghj2
      obtain ⟨M', e1, h1, h2⟩ := x_verd hX hZ hR hC (show 20002 ≤ 20003 by omega)
      obtain ⟨U', e2, h3⟩ := y_adm hY hZ hR hX.rk (Nat.le_refl 20003)
      by_cases hv : zver Z Q rn c 0 = 1
      · have hX' := hX.sk h1
        have hY1 : yset U' Z Q := hY.sm h3
        have hY' : yset (sV U' 0 0) Z Q := hY1
        have h8 : ∀ q, q < 0 + c → rn q < 8 := fun q hq => (x_rn hX (by omega)).1
        obtain ⟨M1, U1, Z1, Q1, d, s1, s2, s3, s4, s5, s6, s7, s8, s9⟩ := str_loop (Nat.le_refl 20003) c 0 20003 20003 0 0 1000000000 (-1) M' (sV U' 0 0) Z Q (by omega) (by have := hX.1; omega) (by have := hX.1; omega) hZ hR hX' hY'
          (fun r' _ hr' => ⟨zver_bears c 0 h8 hv r' (Nat.zero_le _) (by omega), by have := z_lo hZ (x_rn hX hr').1 (x_rn hX hr').2.1; omega⟩) (Or.inl ⟨rfl, rfl⟩)
        obtain ⟨M2, f1, f2, f3⟩ := x_ff s5 (show 9 ≤ 20003 by omega)
        refine ⟨M2, U1, 20003, nI d, ?_, ⟨Z1, Q1, rk, rn, c, C, F, P, 0, L, ru, pa, s3, s5.sk f2, s6, f3, hK.new ((h1.st.u.trans s7.u).trans f2.st.u) ((h3.u.sV 0 (Or.inl rfl)).trans s8.u) (fun i _ q => by rw [s9]; exact q)⟩, Or.inl ⟨20003, ?_, ?_⟩⟩
        · unfold j_Y_stretch
          rw [ry, Option.bind_some, if_neg d10, if_pos ghj2', e2, Option.bind_some, if_pos hv, y_hst0 hY' hZ hX.rk (by omega), Option.bind_some]
          exact s2
        · unfold j_O_stretch j_A_stretchTasks
          rw [rx, Option.bind_some, if_neg d10, if_pos ghj', e1, Option.bind_some, if_pos hv]
          rw [f1, Option.bind_some] at s1
          rw [show (0 : Int32) = nI 0 from rfl, show (1000000000 : Int32) = nI 1000000000 from rfl, s1, Option.bind_some]
        · exact (s8.2 0 (Or.inl rfl)).trans sV_at
      · have hY1 : yset U' Z Q := hY.sm h3
        refine ⟨M', sV U' 0 1, 20003, 0, ?_, kSim.ask hZ hX hK h1 h2 hY1 (h3.u.sV 1 (Or.inl rfl)), Or.inr ⟨20003, _, 1, ?_, ⟨rfl, rfl⟩, sV_at⟩⟩
        · unfold j_Y_stretch
          rw [ry, Option.bind_some, if_neg d10, if_pos ghj2', e2, Option.bind_some, if_neg hv]; rfl
        · unfold j_O_stretch
          rw [rx, Option.bind_some, if_neg d10, if_pos ghj', e1, Option.bind_some, if_neg hv]
    · have h1 : hj = 1 := by have := hK.2.2.1; omega
      subst h1
      refine out ?_ ?_
      · unfold j_O_stretch
        rw [rx, Option.bind_some, if_neg d10, if_neg (show ¬ M.2.1 2 1 = 0 by rw [ghj]; exact d10)]
      · unfold j_Y_stretch
        rw [ry, Option.bind_some, if_neg d10, if_neg (show ¬ U.2 25 = 0 by rw [ghj2]; exact d10)]; rfl
  · refine out ?_ ?_
    · unfold j_O_stretch
      rw [(x_rdy hX hZ (by omega)).2 hR, Option.bind_some, if_pos rfl]
    · unfold j_Y_stretch
      rw [(y_rdy hY hZ (by omega)).2 hR, Option.bind_some, if_pos rfl]; rfl
theorem nI_g10 {a : Int32} (h : ¬ a < 10) : ∃ k, k + 10 < 2 ^ 31 ∧ a = nI (k + 10) := by
  have h0 : ¬ a.toInt < 10 := fun q => h (Int32.lt_iff_toInt_lt.mpr q)
  obtain ⟨k, hk, rfl⟩ := nI_nn (a := a) (fun q => by have : a.toInt < 0 := Int32.lt_iff_toInt_lt.mp q; omega)
  rw [nI_toInt hk] at h0
  exact ⟨k - 10, by omega, by rw [show k - 10 + 10 = k by omega]⟩
theorem k_about : pu_about kSim := by
  intro t M U v v2 _ ⟨Z, Q, rk, rn, c, C, F, P, hj, L, ru, pa, hZ, hX, hY, hC, hK⟩
  have hsim : kSim (t + 1) M (sV U 0 0) := kSim.ask hZ hX hK xsk.rf hC hY (yu.rf.sV 0 (Or.inl rfl))
  have hY0 : yset (sV U 0 0) Z Q := hY
  have out : v < 1 ∨ 8 < v → ∃ (U0 : MY) (n n' : Nat) (r : Int32), j_O_about n M v v2 = some r ∧ j_Y_about n' U v v2 = some (r, U0) ∧ kSim (t + 1) M U0 := fun h =>
    ⟨sV U 0 0, 9, 9, -1, by unfold j_O_about; rw [x_find0 9 h, Option.bind_some]; rfl, by unfold j_Y_about; rw [y_isTask0 9 h, Option.bind_some, if_pos rfl], hsim⟩
  rcases nI_id v with h | h | ⟨i, hi, rfl⟩
  · exact out (Or.inl h)
  · exact out (Or.inr h)
  · by_cases hu : Z 0 i = 1
    · have fx := (hX.2.2.2.2 _ hi).2.2.2.2.2 hu
      have fy := (hY _ hi).2 hu
      have hz := (hZ _ hi).2 hu
      have fin : ∀ r, ((if v2 = 0 then some (M.1 0 (fin8 i) 3) else if v2 = 1 then some (M.1 0 (fin8 i) 4) else if v2 = 2 then some (M.1 0 (fin8 i) 5) else if v2 = 3 then some (M.1 0 (fin8 i) 6) else if v2 = 4 then some (M.1 0 (fin8 i) 7) else if v2 = 5 then (j_S_blockingOf 9 M (fin8 i)).bind fun r_10 => some r_10 else if 10 ≤ v2 then (j_T_segmentAt 9 M (fin8 i) (v2 - 10)).bind fun r_14 => some r_14 else some (-1)) = some r) → j_Y_about 9 U (nI (i + 1)) v2 = some (r, sV U 0 0) → ∃ (U0 : MY) (n n' : Nat) (r : Int32), j_O_about n M (nI (i + 1)) v2 = some r ∧ j_Y_about n' U (nI (i + 1)) v2 = some (r, U0) ∧ kSim (t + 1) M U0 := fun r e1 e2 =>
        ⟨sV U 0 0, 9, 9, r, by unfold j_O_about; rw [x_find hX 9 hi, Option.bind_some, if_pos hu]; exact e1, e2, hsim⟩
      have ys : ∀ (r : Option (Int32 × MY)), j_Y_about 9 U (nI (i + 1)) v2 = r ↔ (if v2 = 0 then some (U.1 2 (i + 1), sV U 0 0) else if v2 = 1 then some (U.1 3 (i + 1), sV U 0 0) else if v2 = 2 then some (U.1 4 (i + 1), sV U 0 0) else if v2 = 3 then some (U.1 5 (i + 1), sV U 0 0) else if v2 = 4 then some (nI (Z 5 i), sV U 0 0) else if v2 = 5 then some (nI (zbl Z Q i), sV U 0 0) else if v2 < 10 then some (-1, sV U 0 0) else if v2 < 10 + U.1 5 (i + 1) then (if ¬ (8 * nI (i + 1) + v2 - 10 < 0 ∨ 72 ≤ (8 * nI (i + 1) + v2 - 10).toNatClampNeg) then some (U.1 6 (8 * nI (i + 1) + v2 - 10).toNatClampNeg, sV U 0 0) else none) else some (-1, sV U 0 0)) = r := fun r => by
        unfold j_Y_about
        rw [y_isTask hY0 hZ 9 hi, Option.bind_some, if_pos hu, if_neg d10]
        simp only [if_pos (y_in hi)]
        rw [nI_clamp (show i + 1 < 2 ^ 31 by omega), y_work hY0 hZ hi hu (by omega), y_bl hY0 hZ hi hu (by omega), Option.bind_some, Option.bind_some]
        exact Iff.rfl
      by_cases e0 : v2 = 0
      · exact fin (nI (Z 1 i)) (by rw [if_pos e0, fx.1]) ((ys _).mpr (by rw [if_pos e0, fy.1]))
      · by_cases e1 : v2 = 1
        · exact fin (nI (Z 2 i)) (by rw [if_neg e0, if_pos e1, fx.2.1]) ((ys _).mpr (by rw [if_neg e0, if_pos e1, fy.2.1]))
        · by_cases e2 : v2 = 2
          · exact fin (nI (Z 3 i)) (by rw [if_neg e0, if_neg e1, if_pos e2, fx.2.2.1]) ((ys _).mpr (by rw [if_neg e0, if_neg e1, if_pos e2, fy.2.2.1]))
          · by_cases e3 : v2 = 3
            · exact fin (nI (Z 4 i)) (by rw [if_neg e0, if_neg e1, if_neg e2, if_pos e3, fx.2.2.2.1]) ((ys _).mpr (by rw [if_neg e0, if_neg e1, if_neg e2, if_pos e3, fy.2.2.2.1]))
            · by_cases e4 : v2 = 4
              · exact fin (nI (Z 5 i)) (by rw [if_neg e0, if_neg e1, if_neg e2, if_neg e3, if_pos e4, fx.2.2.2.2.1]) ((ys _).mpr (by rw [if_neg e0, if_neg e1, if_neg e2, if_neg e3, if_pos e4]))
              · by_cases e5 : v2 = 5
                · exact fin (nI (zbl Z Q i)) (by rw [if_neg e0, if_neg e1, if_neg e2, if_neg e3, if_neg e4, if_pos e5, x_bl hX hZ hi hu (by omega), Option.bind_some]) ((ys _).mpr (by rw [if_neg e0, if_neg e1, if_neg e2, if_neg e3, if_neg e4, if_pos e5]))
                · by_cases e6 : v2 < 10
                  · exact fin (-1) (by rw [if_neg e0, if_neg e1, if_neg e2, if_neg e3, if_neg e4, if_neg e5, if_neg (lt_not32 e6)]) ((ys _).mpr (by rw [if_neg e0, if_neg e1, if_neg e2, if_neg e3, if_neg e4, if_neg e5, if_pos e6]))
                  · have e7 := not_lt32 e6
                    obtain ⟨k, hk, rfl⟩ := nI_g10 e6
                    have es : nI (k + 10) - 10 = nI k := by rw [show (10 : Int32) = nI 10 from rfl, nI_sub (by omega), show k + 10 - 10 = k by omega]
                    have ea : (10 : Int32) + nI (Z 4 i) = nI (10 + Z 4 i) := by rw [show (10 : Int32) = nI 10 from rfl, nI_add]
                    have hp8 : Z 4 i ≤ 8 := hz.2.2.2.2.2.1
                    by_cases e8 : k < Z 4 i
                    · have ei : 8 * nI (i + 1) + nI (k + 10) - 10 = nI (8 * (i + 1) + k) := by
                        rw [show (8 : Int32) = nI 8 from rfl, show (10 : Int32) = nI 10 from rfl, nI_mul, nI_add, nI_sub (by omega), show 8 * (i + 1) + (k + 10) - 10 = 8 * (i + 1) + k by omega]
                      refine fin (nI (Q i k)) ?_ ((ys _).mpr ?_)
                      · rw [if_neg e0, if_neg e1, if_neg e2, if_neg e3, if_neg e4, if_neg e5, if_pos e7, es]
                        unfold j_T_segmentAt
                        rw [if_neg (show ¬ nI k < 0 from nI_pos (by omega)), fx.2.2.2.1, if_pos (nI_lt e8 (by omega)), if_pos (nI_in (by omega) (by omega)), nI_clamp (by omega), fx.2.2.2.2.2 k e8, Option.bind_some]
                      · rw [if_neg e0, if_neg e1, if_neg e2, if_neg e3, if_neg e4, if_neg e5, if_neg e6, fy.2.2.2.1, ea, if_pos (nI_lt (by omega) (by omega)), ei, if_pos (nI_in (by omega) (by omega)), nI_clamp (by omega), fy.2.2.2.2 k e8]
                    · refine fin (-1) ?_ ((ys _).mpr ?_)
                      · rw [if_neg e0, if_neg e1, if_neg e2, if_neg e3, if_neg e4, if_neg e5, if_pos e7, es]
                        unfold j_T_segmentAt
                        rw [if_neg (show ¬ nI k < 0 from nI_pos (by omega)), fx.2.2.2.1, if_neg (nI_nlt (by omega) (by omega)), Option.bind_some]
                      · rw [if_neg e0, if_neg e1, if_neg e2, if_neg e3, if_neg e4, if_neg e5, if_neg e6, fy.2.2.2.1, ea, if_neg (nI_nlt (by omega) (by omega))]
    · exact ⟨sV U 0 0, 9, 9, -1, by unfold j_O_about; rw [x_find hX 9 hi, Option.bind_some, if_neg hu]; rfl, by unfold j_Y_about; rw [y_isTask hY0 hZ 9 hi, Option.bind_some, if_neg hu, if_pos rfl], hsim⟩
theorem k_now : pu_now kSim := by
  intro t M U _ ⟨Z, Q, rk, rn, c, C, F, P, hj, L, ru, pa, hZ, hX, hY, hC, hK⟩
  have hsim : kSim (t + 1) M (sV U 0 0) := kSim.ask hZ hX hK xsk.rf hC hY (yu.rf.sV 0 (Or.inl rfl))
  refine ⟨sV U 0 0, 0, 0, M.2.1 2 2, rfl, ?_, hsim⟩
  unfold j_Y_now
  rw [show (sV U 0 0).2 15 = M.2.1 2 2 from hK.2.1.2.1]
theorem zo_eq {i r : Nat} (hi : i < 8) (hr : r ≤ 8) : some (fin8 i) = zo r ↔ r = i + 1 := by
  match r, hr with
  | 0, _ => exact ⟨fun q => (Option.some_ne_none _ q).elim, fun q => absurd q (by omega)⟩
  | r + 1, hr => exact ⟨fun q => by rw [fin8_inj hi (by omega) (Option.some.inj q)], fun q => by rw [show r = i by omega]; rfl⟩
theorem k_ended : pu_ended kSim := by
  intro t M U v v2 _ ⟨Z, Q, rk, rn, c, C, F, P, hj, L, ru, pa, hZ, hX, hY, hC, hK⟩
  have hsim : kSim (t + 1) M (sV U 0 0) := kSim.ask hZ hX hK xsk.rf hC hY (yu.rf.sV 0 (Or.inl rfl))
  have hY0 : yset (sV U 0 0) Z Q := hY
  have out : v < 1 ∨ 8 < v → ∃ (U0 : MY) (n n' : Nat) (r : Int32), j_O_ended n M v v2 = some r ∧ j_Y_ended n' U v v2 = some (r, U0) ∧ kSim (t + 1) M U0 := fun h =>
    ⟨sV U 0 0, 9, 9, -1, by unfold j_O_ended; rw [x_find0 9 h, Option.bind_some]; rfl, by unfold j_Y_ended; rw [y_isTask0 9 h, Option.bind_some, if_pos rfl], hsim⟩
  rcases nI_id v with h | h | ⟨i, hi, rfl⟩
  · exact out (Or.inl h)
  · exact out (Or.inr h)
  · by_cases hu : Z 0 i = 1
    · obtain ⟨⟨⟨-, a3, -⟩, ⟨-, b3, -⟩, -, -, d2, -⟩, -, -⟩ := hK.1 i hi
      have fin : ∀ r, j_J_notedResponse 9 M (fin8 i) v2 = some r → j_Y_ended 9 U (nI (i + 1)) v2 = some (r, sV U 0 0) → ∃ (U0 : MY) (n n' : Nat) (r : Int32), j_O_ended n M (nI (i + 1)) v2 = some r ∧ j_Y_ended n' U (nI (i + 1)) v2 = some (r, U0) ∧ kSim (t + 1) M U0 := fun r e1 e2 =>
        ⟨sV U 0 0, 9, 9, r, by
          unfold j_O_ended; rw [x_find hX 9 hi, Option.bind_some, if_pos hu]
          show ((j_J_notedResponse 9 M (fin8 i) v2).bind fun r_5 => some r_5) = some r
          rw [e1, Option.bind_some], e2, hsim⟩
      have yb : ∀ (r : Option (Int32 × MY)), (if v2 < 0 then some (-1, sV U 0 0) else if U.1 10 (i + 1) ≤ v2 then some (-1, sV U 0 0) else if v2 < 200 then (if ¬ (200 * nI (i + 1) + v2 < 0 ∨ 1800 ≤ (200 * nI (i + 1) + v2).toNatClampNeg) then some (U.1 17 (200 * nI (i + 1) + v2).toNatClampNeg, sV U 0 0) else none) else some (-1, sV U 0 0)) = r → j_Y_ended 9 U (nI (i + 1)) v2 = r := fun r e => by
        unfold j_Y_ended
        rw [y_isTask hY0 hZ 9 hi, Option.bind_some, if_pos hu, if_neg d10]
        simp only [if_pos (y_in hi)]
        rw [nI_clamp (show i + 1 < 2 ^ 31 by omega)]
        exact e
      by_cases e0 : v2 < 0
      · exact fin (-1) (by unfold j_J_notedResponse; rw [if_pos e0]) (yb _ (by rw [if_pos e0]))
      · by_cases e1 : nI (F i) ≤ v2
        · exact fin (-1) (by unfold j_J_notedResponse; rw [if_neg e0, a3, if_pos e1]) (yb _ (by rw [if_neg e0, b3, if_pos e1]))
        · by_cases e2 : v2 < 200
          · have hq : ¬ nI 200 < v2 := fun q => by
              have g1 : v2.toInt < (200 : Int32).toInt := Int32.lt_iff_toInt_lt.mp e2
              have g2 : (nI 200).toInt < v2.toInt := Int32.lt_iff_toInt_lt.mp q
              have g3 : (nI 200).toInt = (200 : Int32).toInt := rfl
              omega
            obtain ⟨k, hk, rfl⟩ := nI_btw (k := 200) (by omega) e0 hq
            have hk2 : k < 200 := by
              by_cases q : k = 200
              · subst q; exact absurd e2 (by decide +kernel)
              · omega
            have ei : 200 * nI (i + 1) + nI k = nI (200 * (i + 1) + k) := by rw [show (200 : Int32) = nI 200 from rfl, nI_mul, nI_add]
            refine fin (M.1 4 (fin8 i) k) ?_ (yb _ ?_)
            · unfold j_J_notedResponse
              rw [if_neg e0, a3, if_neg e1, if_pos e2, if_pos (nI_in (by omega) (by omega)), nI_clamp (by omega)]
            · rw [if_neg e0, b3, if_neg e1, if_pos e2, ei, if_pos (nI_in (by omega) (by omega)), nI_clamp (by omega), d2 k hk2]
          · exact fin (-1) (by unfold j_J_notedResponse; rw [if_neg e0, a3, if_neg e1, if_neg e2]) (yb _ (by rw [if_neg e0, b3, if_neg e1, if_neg e2]))
    · exact ⟨sV U 0 0, 9, 9, -1, by unfold j_O_ended; rw [x_find hX 9 hi, Option.bind_some, if_neg hu]; rfl, by unfold j_Y_ended; rw [y_isTask hY0 hZ 9 hi, Option.bind_some, if_neg hu, if_pos rfl], hsim⟩
theorem k_seen : pu_seen kSim := by
  intro t M U v v2 _ ⟨Z, Q, rk, rn, c, C, F, P, hj, L, ru, pa, hZ, hX, hY, hC, hK⟩
  have hsim : kSim (t + 1) M (sV U 0 0) := kSim.ask hZ hX hK xsk.rf hC hY (yu.rf.sV 0 (Or.inl rfl))
  have hY0 : yset (sV U 0 0) Z Q := hY
  have out : v < 1 ∨ 8 < v → ∃ (U0 : MY) (n n' : Nat) (r : Int32), j_O_seen n M v v2 = some r ∧ j_Y_seen n' U v v2 = some (r, U0) ∧ kSim (t + 1) M U0 := fun h =>
    ⟨sV U 0 0, 9, 9, -1, by unfold j_O_seen; rw [x_find0 9 h, Option.bind_some]; rfl, by unfold j_Y_seen; rw [y_isTask0 9 h, Option.bind_some, if_pos rfl], hsim⟩
  rcases nI_id v with h | h | ⟨i, hi, rfl⟩
  · exact out (Or.inl h)
  · exact out (Or.inr h)
  · by_cases hu : Z 0 i = 1
    · obtain ⟨⟨⟨a2, a3, -⟩, ⟨b2, b3, -⟩, ⟨c4, c5, c6⟩, -, -, -⟩, -, -⟩ := hK.1 i hi
      obtain ⟨-, -, ⟨g1, g2⟩, ⟨g3, g4⟩, -⟩ := hK.2.1
      obtain ⟨-, -, -, hru, -, -⟩ := hK.2.2
      refine ⟨sV U 0 0, 9, 9, if v2 = 0 then nI (C i) else if v2 = 1 then nI (F i) else if v2 = 2 then M.1 1 (fin8 i) 4 else if v2 = 3 then M.1 1 (fin8 i) 5 else if v2 = 4 then M.1 1 (fin8 i) 6 else if v2 = 5 then (if ru = i + 1 then nI L else 0) else -1, ?_, ?_, hsim⟩
      · unfold j_O_seen
        rw [x_find hX 9 hi, Option.bind_some, if_pos hu]
        show (if v2 = 0 then some (M.1 1 (fin8 i) 2) else if v2 = 1 then some (M.1 1 (fin8 i) 3) else if v2 = 2 then some (M.1 1 (fin8 i) 4) else if v2 = 3 then some (M.1 1 (fin8 i) 5) else if v2 = 4 then some (M.1 1 (fin8 i) 6) else if v2 = 5 then (j_K_leftOf 9 M (fin8 i)).bind fun r_10 => some r_10 else some (-1)) = _
        have el : j_K_leftOf 9 M (fin8 i) = some (if ru = i + 1 then nI L else 0) := by
          unfold j_K_leftOf
          rw [g3, g1]
          by_cases q : ru = i + 1
          · rw [if_pos ((zo_eq hi hru).mpr q), if_pos q]
          · rw [if_neg (fun w => q ((zo_eq hi hru).mp w)), if_neg q]
        rw [a2, a3, el, Option.bind_some]
        by_cases e0 : v2 = 0
        · rw [if_pos e0, if_pos e0]
        · rw [if_neg e0, if_neg e0]
          by_cases e1 : v2 = 1
          · rw [if_pos e1, if_pos e1]
          · rw [if_neg e1, if_neg e1]
            by_cases e2 : v2 = 2
            · rw [if_pos e2, if_pos e2]
            · rw [if_neg e2, if_neg e2]
              by_cases e3 : v2 = 3
              · rw [if_pos e3, if_pos e3]
              · rw [if_neg e3, if_neg e3]
                by_cases e4 : v2 = 4
                · rw [if_pos e4, if_pos e4]
                · rw [if_neg e4, if_neg e4]
                  by_cases e5 : v2 = 5
                  · rw [if_pos e5, if_pos e5]
                  · rw [if_neg e5, if_neg e5]
      · unfold j_Y_seen
        rw [y_isTask hY0 hZ 9 hi, Option.bind_some, if_pos hu, if_neg d10]
        simp only [if_pos (y_in hi)]
        rw [nI_clamp (show i + 1 < 2 ^ 31 by omega)]
        show (if v2 = 0 then some (U.1 9 (i + 1), sV U 0 0) else if v2 = 1 then some (U.1 10 (i + 1), sV U 0 0) else if v2 = 2 then some (U.1 14 (i + 1), sV U 0 0) else if v2 = 3 then some (U.1 15 (i + 1), sV U 0 0) else if v2 = 4 then some (U.1 16 (i + 1), sV U 0 0) else if v2 = 5 then (if U.2 26 = nI (i + 1) then some (U.2 27, sV U 0 0) else some (0, sV U 0 0)) else some (-1, sV U 0 0)) = _
        have eq : (nI ru = nI (i + 1)) ↔ ru = i + 1 := nI_eq (by omega) (by omega)
        rw [b2, b3, c4, c5, c6, g4, g2]
        by_cases e0 : v2 = 0
        · rw [if_pos e0, if_pos e0]
        · rw [if_neg e0, if_neg e0]
          by_cases e1 : v2 = 1
          · rw [if_pos e1, if_pos e1]
          · rw [if_neg e1, if_neg e1]
            by_cases e2 : v2 = 2
            · rw [if_pos e2, if_pos e2]
            · rw [if_neg e2, if_neg e2]
              by_cases e3 : v2 = 3
              · rw [if_pos e3, if_pos e3]
              · rw [if_neg e3, if_neg e3]
                by_cases e4 : v2 = 4
                · rw [if_pos e4, if_pos e4]
                · rw [if_neg e4, if_neg e4]
                  by_cases e5 : v2 = 5
                  · rw [if_pos e5, if_pos e5]
                    by_cases e6 : ru = i + 1
                    · rw [if_pos (by rw [e6]), if_pos e6]
                    · rw [if_neg (fun q => e6 (eq.mp q)), if_neg e6]
                  · rw [if_neg e5, if_neg e5]
    · exact ⟨sV U 0 0, 9, 9, -1, by unfold j_O_seen; rw [x_find hX 9 hi, Option.bind_some, if_neg hu]; rfl, by unfold j_Y_seen; rw [y_isTask hY0 hZ 9 hi, Option.bind_some, if_neg hu, if_pos rfl], hsim⟩
