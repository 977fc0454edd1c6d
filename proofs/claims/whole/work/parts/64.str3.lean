/-! PURE: stretch, both loops at once -/
theorem zto_gt {Z Q : Nat → Nat → Nat} (hZ : zset Z Q) (hR : zrdy Z) {x b : Nat} (hx : x < 8) (hu : Z 0 x = 1) (h : zbears Z Q x b = true) : b < zto Z Q x := by
  obtain ⟨a1, a2, a3, a4⟩ := ks_first_spec (p := zbears Z Q x) (Z 2 x + 1) 0
  unfold zto
  by_cases e : b < ks_first (zbears Z Q x) (Z 2 x + 1) 0
  · exact e
  · have hb := zb_mono hZ hR hx hu (show ks_first (zbears Z Q x) (Z 2 x + 1) 0 ≤ b by omega) h
    by_cases e3 : ks_first (zbears Z Q x) (Z 2 x + 1) 0 < 0 + (Z 2 x + 1)
    · rw [a3 e3] at hb; cases hb
    · have := zb_work hZ hR hx hu h; omega
theorem zto_le {Z Q : Nat → Nat → Nat} {x : Nat} : zto Z Q x ≤ Z 2 x + 1 := by
  have := (ks_first_spec (p := zbears Z Q x) (Z 2 x + 1) 0).2.2.2
  unfold zto
  omega
theorem zlo_last {Z Q : Nat → Nat → Nat} {x q : Nat} (h : q < Z 4 x) : Q x q ≤ zlo Z Q x := (ks_max_le (m := zlo Z Q x) (Z 4 x)).mp (Nat.le_refl _) q h
theorem zlb_lo {Z Q : Nat → Nat → Nat} {x y : Nat} (hy : y < 8) (hu : Z 0 y = 1) (hlt : Z 3 y < Z 3 x) : zlo Z Q y ≤ zlb Z Q x := by
  have := (ks_max_le (f := fun i => if Z 0 i = 1 ∧ Z 3 i < Z 3 x then zlo Z Q i else 0) (m := zlb Z Q x) 8).mp (Nat.le_refl _) y hy
  rw [if_pos ⟨hu, hlt⟩] at this
  exact this
set_option maxHeartbeats 2000000 in
theorem str_loop {rk rn : Nat → Nat} {c n : Nat} (hn : 20003 ≤ n) : ∀ (k r fX fY fw af lim : Nat) (v3 : Int32) (M : MX) (U : MY) (Z Q : Nat → Nat → Nat), r + k = c → k < fX → k < fY → zset Z Q → zrdy Z → xset M Z Q rk rn c → yset U Z Q →
    (∀ r', r ≤ r' → r' < c → zbears Z Q (rn r') (zbl Z Q (rn r')) = true ∧ zlo Z Q (rn r') ≤ lim) → ((v3 = -1 ∧ lim = 1000000000) ∨ (v3 = nI lim ∧ 1 ≤ lim ∧ lim ≤ 8001)) →
    ∃ (M1 : MX) (U1 : MY) (Z1 Q1 : Nat → Nat → Nat) (d : Nat), j_A_stretchTasks_L7 n fX (nI fw) (nI lim) (nI r) M = (j_S_forgetFindings n M1).bind (fun M_3 => some (nI d, M_3)) ∧ j_Y_stretch_L47 n fY (nI (af + fw)) (nI af) v3 (nI (if r < c then rn r + 1 else 0)) U = some (nI d, U1) ∧ zset Z1 Q1 ∧ zrdy Z1 ∧ xset M1 Z1 Q1 rk rn c ∧ yset U1 Z1 Q1 ∧ xst M M1 ∧ yst U U1 ∧ Z1 0 = Z 0 := by
  intro k
  induction k with
  | zero =>
    intro r fX fY fw af lim v3 M U Z Q hr hfX hfY hZ hR hX hY hinv hv
    have hc8 := hX.1
    obtain ⟨fX, rfl⟩ : ∃ g, fX = g + 1 := ⟨fX - 1, by omega⟩
    obtain ⟨fY, rfl⟩ : ∃ g, fY = g + 1 := ⟨fY - 1, by omega⟩
    refine ⟨M, U, Z, Q, fw, ?_, ?_, hZ, hR, hX, hY, xst.rf, yst.rf, rfl⟩
    · rw [j_A_stretchTasks_L7, hX.2.1, if_pos (nI_le (by omega) (by omega))]
    · rw [j_Y_stretch_L47, if_neg (show ¬ r < c by omega), if_pos (show nI 0 = 0 from rfl), nI_sub (by omega), show af + fw - af = fw by omega]
  | succ k ih =>
    intro r fX fY fw af lim v3 M U Z Q hr hfX hfY hZ hR hX hY hinv hv
    have hc8 := hX.1
    have hK := hX.rk
    obtain ⟨fX, rfl⟩ : ∃ g, fX = g + 1 := ⟨fX - 1, by omega⟩
    obtain ⟨fY, rfl⟩ : ∃ g, fY = g + 1 := ⟨fY - 1, by omega⟩
    have hrc : r < c := by omega
    obtain ⟨h1, h2, h3, h4⟩ := x_rn hX hrc
    obtain ⟨hb, hlo⟩ := hinv r (Nat.le_refl r) hrc
    have hz := (hZ _ h1).2 h2
    have hwk := zb_work hZ hR h1 h2 hb
    have h4n := hR.2 _ h1 h2
    have hlim1 : 1 ≤ lim := by rcases hv with ⟨-, h⟩ | ⟨-, h, -⟩ <;> omega
    have hlimb : lim ≤ 1000000000 := by rcases hv with ⟨-, h⟩ | ⟨-, -, h⟩ <;> omega
    have hW1 : 1 ≤ Z 5 (rn r) := by
      have := ks_sum_ge (Z 4 (rn r)) hz.2.2.2.2.2.2.1
      omega
    have hlast : Q (rn r) (Z 4 (rn r) - 1) ≤ zlo Z Q (rn r) := zlo_last (by omega)
    have hlW : Q (rn r) (Z 4 (rn r) - 1) ≤ Z 5 (rn r) := by rw [hz.2.2.2.2.2.2.2.1]; exact ks_sum_one (by omega)
    obtain ⟨l, hl⟩ : ∃ l, l = min lim (Z 5 (rn r)) := ⟨_, rfl⟩
    have hl1 : 1 ≤ l := by omega
    have hl2 : l ≤ Z 5 (rn r) := by omega
    have hl3 : Q (rn r) (Z 4 (rn r) - 1) ≤ l := by omega
    have hls := (sp_last (z_ak hZ hR h1 h2)).2
    obtain ⟨n1, n2, n3, n4, n5, -⟩ := zn_spec (s := Q (rn r)) (np := Z 4 (rn r)) (a := Z 5 (rn r) - l) (l := l) (by omega) (by omega) hz.2.2.2.2.2.2.1 hl1
    obtain ⟨M1, eM, gM⟩ := x_grow hX hZ hR h1 h2 (show 9 ≤ n by omega) hl1 hl2 hl3
    obtain ⟨U1, eU, gU⟩ := y_grow hY hZ hR h1 h2 (show 10 ≤ n by omega) hl1 hl2 hl3
    generalize znN (Q (rn r)) (Z 4 (rn r)) (Z 5 (rn r) - l) = N' at n1 n2 n3 n4 n5 eM gM eU gU
    generalize znQ (Q (rn r)) (Z 4 (rn r)) (Z 5 (rn r) - l) l = s' at n3 n4 n5 gM gU
    have n4' : ks_sum s' N' = Z 5 (rn r) := by omega
    have hZ' := zset_g hZ h1 h2 (by omega) n3 n4' (by omega)
    have hR' := zrdy_g (x := rn r) hR n1
    have hX' := xset_g hX h1 gM
    have hY' := yset_g hY hZ h1 gU
    have hu' : zgZ Z (rn r) N' 0 (rn r) = 1 := by rw [zg_f (by decide)]; exact h2
    have hbB : ∀ {B}, zbears Z Q (rn r) B = true → zbears (zgZ Z (rn r) N') (zgQ Q (rn r) s') (rn r) B = true := fun h => zg_more hZ hR h1 h2 hl3 n1 n4' n5 h
    have ht1 := zto_gt hZ' hR' h1 hu' (hbB hb)
    have ht2 : zto (zgZ Z (rn r) N') (zgQ Q (rn r) s') (rn r) ≤ 8001 := by
      have := zto_le (Z := zgZ Z (rn r) N') (Q := zgQ Q (rn r) s') (x := rn r)
      rw [zg_f (a := 2) (by decide)] at this
      omega
    obtain ⟨M2, eM2, sM2⟩ := x_tol hX' hZ' hR' h1 hu' (show 20002 ≤ n by omega)
    obtain ⟨U2, eU2, sU2⟩ := y_tol hY' hZ' hR' h1 hu' hn
    have hX2 := hX'.sm sM2
    have hY2 := hY'.sm sU2
    have hK' := hX2.rk
    have hhi := y_hst1 hY2 hZ' hK' (show 9 ≤ n by omega) hrc
    rw [zg_f (a := 3) (by decide)] at hhi
    have hU4 : U2.1 4 (rn r + 1) = nI (Z 3 (rn r)) := by
      have := ((hY2 _ h1).2 hu').2.2.1
      rw [zg_f (a := 3) (by decide)] at this
      exact this
    generalize zto (zgZ Z (rn r) N') (zgQ Q (rn r) s') (rn r) = t' at ht1 ht2 eM2 eU2
    have ht' : nI t' - 1 + 1 = nI t' := Int32.sub_add_cancel _ _
    have hinv' : ∀ r', r + 1 ≤ r' → r' < c → zbears (zgZ Z (rn r) N') (zgQ Q (rn r) s') (rn r') (zbl (zgZ Z (rn r) N') (zgQ Q (rn r) s') (rn r')) = true ∧ zlo (zgZ Z (rn r) N') (zgQ Q (rn r) s') (rn r') ≤ min t' lim := by
      intro r' g1 g2
      obtain ⟨b1, b2, b3, -⟩ := x_rn hX g2
      have hp := hX.2.2.2.1 r r' (by omega) g2
      have hne : rn r' ≠ rn r := fun q => by rw [q] at hp; omega
      obtain ⟨i1, i2⟩ := hinv r' (by omega) g2
      rw [zg_bears hne, zg_bl (by omega), zg_lo hne]
      refine ⟨i1, ?_⟩
      have := zlb_lo (Q := Q) b1 b2 hp
      unfold zbl at ht1
      omega
    obtain ⟨Mf, Uf, Zf, Qf, d, eX, eY, q1, q2, q3, q4, q5, q6, q7⟩ := ih (r + 1) fX fY (fw + (Z 4 (rn r) - N')) (af + N') (min t' lim) (nI (min t' lim)) M2 U2 _ _ (by omega) (by omega) (by omega) hZ' hR' hX2 hY2 hinv' (Or.inr ⟨rfl, by omega, by omega⟩)
    have es : af + N' + (fw + (Z 4 (rn r) - N')) = af + fw + Z 4 (rn r) := by omega
    rw [es] at eY
    refine ⟨Mf, Uf, Zf, Qf, d, ?_, ?_, q1, q2, q3, q4, (gM.st.trans sM2.st).trans q5, (gU.st.trans sU2.st).trans q6, by rw [q7, zg_f (by decide)]⟩
    · rw [j_A_stretchTasks_L7, hX.2.1, if_neg (nI_ge hrc (by omega)), if_pos (nI_in (by omega) (by omega)), nI_clamp (by omega), h4, ((hX.2.2.2.2 _ h1).2.2.2.2.2 h2).2.2.2.2.1, nI_min (by omega) (by omega), ← hl, eM, Option.bind_some, eM2, Option.bind_some, nI_sub n2, nI_add, ht', nI_min (by omega) (by omega), nI_1]
      exact eX
    · rw [if_pos hrc, j_Y_stretch_L47, if_neg (nI_ne0 (by omega) (by omega)), y_work hY hZ h1 h2 (by omega), Option.bind_some]
      simp only [if_pos (y_in h1)]
      rw [nI_clamp (show rn r + 1 < 2 ^ 31 by omega), ((hY _ h1).2 h2).2.2.2.1]
      rcases hv with ⟨hv1, hv2⟩ | ⟨hv1, hv2, hv3⟩
      · have el : l = Z 5 (rn r) := by omega
        rw [hv1, if_pos rfl, ← el, eU, Option.bind_some, eU2, Option.bind_some, if_pos rfl]
        show (j_Y_highest n U2 (U2.1 4 (rn r + 1))).bind _ = _
        rw [hU4, hhi, Option.bind_some, gU.2.1, nI_add, nI_add, ht']
        rw [show min t' lim = t' by omega] at eY
        exact eY
      · have hne : ¬ nI lim = -1 := fun q => by
          have h5 := congrArg Int32.toInt q
          rw [nI_toInt (by omega), nI_neg1] at h5
          omega
        rw [hv1, if_neg hne]
        have hcont : ∀ l', l' = l → ((j_Y_stretchOne n U (nI (rn r + 1)) (nI l')).bind fun M_37 => (j_Y_tolerates n M_37 (nI (rn r + 1))).bind fun q_40 => if nI lim = -1 then (j_Y_highest n q_40.2 (q_40.2.1 4 (rn r + 1))).bind fun r_44 => j_Y_stretch_L47 n fY (nI (af + fw) + nI (Z 4 (rn r))) (nI af + M_37.1 5 (rn r + 1)) (q_40.1 + 1) r_44 q_40.2 else if nI lim ≤ q_40.1 + 1 then (j_Y_highest n q_40.2 (q_40.2.1 4 (rn r + 1))).bind fun r_48 => j_Y_stretch_L47 n fY (nI (af + fw) + nI (Z 4 (rn r))) (nI af + M_37.1 5 (rn r + 1)) (nI lim) r_48 q_40.2 else (j_Y_highest n q_40.2 (q_40.2.1 4 (rn r + 1))).bind fun r_51 => j_Y_stretch_L47 n fY (nI (af + fw) + nI (Z 4 (rn r))) (nI af + M_37.1 5 (rn r + 1)) (q_40.1 + 1) r_51 q_40.2) = some (nI d, Uf) := by
          intro l' hl'
          rw [hl', eU, Option.bind_some, eU2, Option.bind_some, if_neg hne]
          show (if nI lim ≤ nI t' - 1 + 1 then (j_Y_highest n U2 (U2.1 4 (rn r + 1))).bind _ else (j_Y_highest n U2 (U2.1 4 (rn r + 1))).bind _) = _
          rw [hU4, hhi, Option.bind_some, Option.bind_some, gU.2.1, nI_add, nI_add, ht']
          by_cases e : lim ≤ t'
          · rw [if_pos (nI_le e (by omega))]
            rw [show min t' lim = lim by omega] at eY
            exact eY
          · rw [if_neg (nI_ge (by omega) (by omega))]
            rw [show min t' lim = t' by omega] at eY
            exact eY
        by_cases e : lim ≤ Z 5 (rn r)
        · rw [if_pos (nI_le e (by omega))]
          exact hcont lim (by omega)
        · rw [if_neg (nI_ge (by omega) (by omega))]
          exact hcont (Z 5 (rn r)) (by omega)
