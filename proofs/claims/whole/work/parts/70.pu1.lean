/-! PURE: the verdict, response, job, tolerance -/
theorem nI_nn {a : Int32} (h0 : ¬ a < 0) : ∃ k, k < 2 ^ 31 ∧ a = nI k := by
  have g0 : ¬ a.toInt < 0 := fun q => h0 (Int32.lt_iff_toInt_lt.mpr q)
  have g1 : a.toInt < 2 ^ 31 := Int32.toInt_lt a
  refine ⟨a.toInt.toNat, by omega, Int32.toInt_inj.mp ?_⟩
  rw [nI_toInt (by omega)]
  omega
theorem k_admit : pu_admit kSim := by
  intro t M U _ ⟨Z, Q, rk, rn, c, C, F, P, hj, L, ru, pa, hZ, hX, hY, hC, hK⟩
  by_cases hR : zrdy Z
  · obtain ⟨M', e1, h1, h2⟩ := x_verd hX hZ hR hC (Nat.le_refl 20002)
    have hY0 : yset (sV U 0 0) Z Q := hY
    obtain ⟨U', e2, h3⟩ := y_adm hY0 hZ hR hX.rk (Nat.le_refl 20003)
    refine ⟨M', U', 20003, zver Z Q rn c 0, ?_, kSim.ask hZ hX hK h1 h2 (hY0.sm h3) ((yu.rf.sV 0 (Or.inl rfl)).trans h3.u), Or.inl ⟨20002, ?_, ?_⟩⟩
    · unfold j_Y_admit
      rw [(y_rdy hY hZ (by omega)).1 hR, Option.bind_some, if_neg d10, e2, Option.bind_some]
    · unfold j_O_admit
      rw [(x_rdy hX hZ (by omega)).1 hR, Option.bind_some, if_neg d10, e1, Option.bind_some]
    · exact h3.2 0 (by decide) (by decide) (by decide) (by decide) (by decide)
  · refine ⟨M, sV U 0 1, 9, 0, ?_, kSim.ask hZ hX hK xsk.rf hC hY (yu.rf.sV 1 (Or.inl rfl)), Or.inr ⟨9, _, 1, ?_, ⟨rfl, rfl⟩, sV_at⟩⟩
    · unfold j_Y_admit
      rw [(y_rdy hY hZ (by omega)).2 hR, Option.bind_some, if_pos rfl]; rfl
    · unfold j_O_admit
      rw [(x_rdy hX hZ (by omega)).2 hR, Option.bind_some, if_pos rfl]
theorem k_response : pu_response kSim := by
  intro t M U v _ ⟨Z, Q, rk, rn, c, C, F, P, hj, L, ru, pa, hZ, hX, hY, hC, hK⟩
  obtain ⟨M', U', h1, h2, h3, h4, ⟨i, hi, -, hu, hR, hb, eX, eY, y0, x9, -, -, y11, -, -⟩ | ⟨E, k, eX, eY, hE, y0⟩⟩ := asks_both hZ hX hY hC v (Nat.le_refl 60000)
  · refine ⟨M', U', 60000, nI (zw Z Q i (zbl Z Q i)).1, ?_, kSim.ask hZ hX hK h1 h2 h3 h4, Or.inl ⟨60000, ?_, y0⟩⟩
    · unfold j_Y_response
      rw [eY, Option.bind_some, if_neg d10, y11]
    · unfold j_O_response
      rw [eX, Option.bind_some, Sum.elim_inr, x9]
  · refine ⟨M', U', 60000, 0, ?_, kSim.ask hZ hX hK h1 h2 h3 h4, Or.inr ⟨60000, E, k, ?_, hE, y0⟩⟩
    · unfold j_Y_response
      rw [eY, Option.bind_some, if_pos rfl]
    · unfold j_O_response
      rw [eX, Option.bind_some, Sum.elim_inl]
theorem x_roj {M : MX} {Z Q : Nat → Nat → Nat} {rk rn : Nat → Nat} {c : Nat} (hZ : zset Z Q) (hX : xset M Z Q rk rn c) (hR : zrdy Z) {i : Nat} (hi : i < 8) (hu : Z 0 i = 1) (h11 : M.1 0 (fin8 i) 11 = nI (znj Z i (zbl Z Q i))) (a : Int32) :
    j_A_responseOfJob 60000 M (fin8 i) a = some (zan (zrs Z Q i (zbl Z Q i)) a (znj Z i (zbl Z Q i))) := by
  have hnj := (z_nj hZ hi hu (B := zbl Z Q i)).1
  unfold j_A_responseOfJob
  by_cases h0 : a < 0
  · rw [if_pos h0, zan_out _ (fun k hk e => by rw [e] at h0; exact absurd h0 (nI_pos (by omega)))]
  · rw [if_neg h0, h11]
    obtain ⟨k, hk, rfl⟩ := nI_nn h0
    by_cases h : k < znj Z i (zbl Z Q i)
    · have hl := x_lg hX hZ hR hi hu (z_bl hZ) (show 20002 ≤ 60000 by omega) h (Nat.zero_le (zlt Z Q i (zbl Z Q i) k))
      rw [if_pos (nI_lt h (by omega)), x_bl hX hZ hi hu (by omega), Option.bind_some, show (0 : Int32) = nI 0 from rfl, hl, Option.bind_some, x_last hX hZ hR _ hi hu, Option.bind_some, ((hX.2.2.2.2 _ hi).2.2.2.2.2 hu).1, nI_add, nI_mul, nI_sub (z_rs (z_ak hZ hR hi hu) h), zan_in hk _ (by omega) h, zrs_eq]
    · rw [if_neg (nI_nlt (by omega) (by omega)), zan_out _ (fun k' hk' => nI_ne (by omega) (by omega) (by omega))]
theorem k_job : pu_job kSim := by
  intro t M U v v2 _ ⟨Z, Q, rk, rn, c, C, F, P, hj, L, ru, pa, hZ, hX, hY, hC, hK⟩
  have hY0 : yset (sV U 13 v2) Z Q := hY
  obtain ⟨M', U', h1, h2, h3, h4, ⟨i, hi, -, hu, hR, hb, eX, eY, y0, -, -, x11, -, -, y14⟩ | ⟨E, k, eX, eY, hE, y0⟩⟩ := asks_both hZ hX hY0 hC v (Nat.le_refl 60000)
  · refine ⟨M', sV U' 13 (-1), 60000, zan (zrs Z Q i (zbl Z Q i)) v2 (znj Z i (zbl Z Q i)), ?_, kSim.ask hZ hX hK h1 h2 h3 (((yu.rf.sV v2 (Or.inr rfl)).trans h4).sV _ (Or.inr rfl)), Or.inl ⟨60000, ?_, y0⟩⟩
    · unfold j_Y_job
      rw [eY, Option.bind_some, if_neg d10, y14]; rfl
    · unfold j_O_job
      rw [eX, Option.bind_some, Sum.elim_inr, x_roj hZ (hX.sk h1) hR hi hu x11, Option.bind_some]
  · refine ⟨M', sV U' 13 (-1), 60000, 0, ?_, kSim.ask hZ hX hK h1 h2 h3 (((yu.rf.sV v2 (Or.inr rfl)).trans h4).sV _ (Or.inr rfl)), Or.inr ⟨60000, E, k, ?_, hE, y0⟩⟩
    · unfold j_Y_job
      rw [eY, Option.bind_some, if_pos rfl]
    · unfold j_O_job
      rw [eX, Option.bind_some, Sum.elim_inl]
theorem k_tolerance : pu_tolerance kSim := by
  intro t M U v _ ⟨Z, Q, rk, rn, c, C, F, P, hj, L, ru, pa, hZ, hX, hY, hC, hK⟩
  have out : ∀ (E : String) (k : Int32), j_O_readyTask 9 M v = some (Sum.inl (E, M)) → j_Y_tolerance 9 U v = some (0, sV U 0 k) → ((E = "java/lang/IndexOutOfBoundsException" ∧ k = 1) ∨ (E = "java/lang/IllegalStateException" ∧ k = 2)) → ∃ (M0 : MX) (U0 : MY) (n' : Nat) (r : Int32), j_Y_tolerance n' U v = some (r, U0) ∧ kSim (t + 1) M0 U0 ∧ ((∃ n, j_O_tolerance n M v = some (Sum.inr (r, M0)) ∧ U0.2 0 = 0) ∨ (∃ n E0 k0, j_O_tolerance n M v = some (Sum.inl (E0, M0)) ∧ ((E0 = "java/lang/IndexOutOfBoundsException" ∧ k0 = 1) ∨ (E0 = "java/lang/IllegalStateException" ∧ k0 = 2)) ∧ U0.2 0 = k0)) := fun E k eX eY hE =>
    ⟨M, sV U 0 k, 9, 0, eY, kSim.ask hZ hX hK xsk.rf hC hY (yu.rf.sV k (Or.inl rfl)), Or.inr ⟨9, E, k, by unfold j_O_tolerance; rw [eX, Option.bind_some, Sum.elim_inl], hE, sV_at⟩⟩
  have y0 : v < 1 ∨ 8 < v → j_Y_tolerance 9 U v = some (0, sV U 0 1) := fun h => by
    unfold j_Y_tolerance
    rw [y_isTask0 9 h, Option.bind_some, if_pos rfl, if_neg (show ¬ (sV U 0 1).2 0 = 0 from d10)]
  rcases nI_id v with h | h | ⟨i, hi, rfl⟩
  · exact out _ 1 (x_rt0 9 (Or.inl h)) (y0 (Or.inl h)) (Or.inl ⟨rfl, rfl⟩)
  · exact out _ 1 (x_rt0 9 (Or.inr h)) (y0 (Or.inr h)) (Or.inl ⟨rfl, rfl⟩)
  · by_cases hu : Z 0 i = 1
    · by_cases hR : zrdy Z
      · obtain ⟨M', e1, h1, h2⟩ := x_bear hX hZ hR hC hi hu (Nat.le_refl 20002)
        have hY0 : yset (sV U 0 0) Z Q := hY
        obtain ⟨U', e2, h3⟩ := y_tol hY0 hZ hR hi hu (Nat.le_refl 20003)
        refine ⟨M', U', 20003, nI (zto Z Q i) - 1, ?_, kSim.ask hZ hX hK h1 h2 (hY0.sm h3) ((yu.rf.sV 0 (Or.inl rfl)).trans h3.u), Or.inl ⟨20002, ?_, ?_⟩⟩
        · unfold j_Y_tolerance
          rw [y_isTask hY hZ _ hi, Option.bind_some, if_pos hu, if_neg d10, (y_rdy hY hZ (by omega)).1 hR, Option.bind_some, if_neg d10, if_pos (show (sV U 0 0).2 0 = 0 from rfl), e2, Option.bind_some]
        · unfold j_O_tolerance
          rw [x_rt3 hX hZ (by omega) hi hu hR, Option.bind_some, Sum.elim_inr, e1, Option.bind_some]
        · exact h3.2 0 (by decide) (by decide) (by decide) (by decide) (by decide)
      · refine out _ 2 (x_rt2 hX hZ (by omega) hi hu hR) ?_ (Or.inr ⟨rfl, rfl⟩)
        unfold j_Y_tolerance
        rw [y_isTask hY hZ _ hi, Option.bind_some, if_pos hu, if_neg d10, (y_rdy hY hZ (by omega)).2 hR, Option.bind_some, if_pos rfl, if_neg (show ¬ (sV U 0 2).2 0 = 0 from d20)]
    · refine out _ 1 (x_rt1 hX 9 hi hu) ?_ (Or.inl ⟨rfl, rfl⟩)
      unfold j_Y_tolerance
      rw [y_isTask hY hZ _ hi, Option.bind_some, if_neg hu, if_pos rfl, if_neg (show ¬ (sV U 0 1).2 0 = 0 from d10)]
