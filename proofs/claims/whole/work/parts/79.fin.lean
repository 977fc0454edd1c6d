/-! PURE: tick, the start, and all of it -/
theorem k_tick : pu_tick kSim := by
  intro t M U v ht ⟨Z, Q, rk, rn, c, C, F, P, hj, L, ru, pa, hZ, hX, hY, hC, hK⟩
  have out : j_O_tick 9 M v = some (Sum.inl ("java/lang/IllegalArgumentException", M)) → j_Y_tick 9 U v = some (0, sV U 0 1) → ∃ (M0 : MX) (U0 : MY) (n' : Nat) (r : Int32), j_Y_tick n' U v = some (r, U0) ∧ kSim (t + 1) M0 U0 ∧ ((∃ n, j_O_tick n M v = some (Sum.inr (r, M0)) ∧ U0.2 0 = 0) ∨ (∃ n E0 k0, j_O_tick n M v = some (Sum.inl (E0, M0)) ∧ (E0 = "java/lang/IllegalArgumentException" ∧ k0 = 1) ∧ U0.2 0 = k0)) := fun e1 e2 =>
    ⟨M, sV U 0 1, 9, 0, e2, kSim.ask hZ hX hK xsk.rf hC hY (yu.rf.sV 1 (Or.inl rfl)), Or.inr ⟨9, _, 1, e1, ⟨rfl, rfl⟩, sV_at⟩⟩
  by_cases h1 : v < 1
  · refine out ?_ ?_
    · unfold j_O_tick
      rw [if_pos h1]
    · unfold j_Y_tick
      rw [if_pos h1]; rfl
  · by_cases h2 : v ≤ 2000
    · obtain ⟨A, hA, rfl⟩ := nI_btw (a := v) (k := 2000) (by omega) (fun q => h1 (by
        rw [Int32.lt_iff_toInt_lt] at q ⊢
        have e0 : (0 : Int32).toInt = 0 := by decide +kernel
        have e1 : (1 : Int32).toInt = 1 := by decide +kernel
        omega)) (le_not32 h2)
      have hK0 : krl t M (sV U 0 0) Z C F P hj L ru pa := by
        obtain ⟨k1, k2, k3⟩ := hK
        exact ⟨k1, k2, k3⟩
      obtain ⟨M', U', r, F', P', L', ru', pa', e1, e2, hX', hY', hC', hK', h0'⟩ := tick_L hZ (n := 2001) hA (by omega) (show t ≤ 600 by omega) A A (Nat.le_refl A) 0 2001 2001 0 0 M (sV U 0 0) F P L ru pa (by omega) (by omega) (by omega) (Nat.le_refl 0) ⟨hX, hY, hC, hK0, sV_at⟩
      refine ⟨M', U', 2001, r, ?_, ⟨Z, Q, rk, rn, c, C, F', P', hj, L', ru', pa', hZ, hX', hY', hC', hK'.keep xu.rf yu.rf⟩, Or.inl ⟨2001, ?_, h0'⟩⟩
      · unfold j_Y_tick
        rw [if_neg h1, if_pos h2]
        exact e2
      · unfold j_O_tick j_K_advance
        rw [if_neg h1, if_pos h2, show j_K_advance_L7 2001 (nI A) 2001 0 (nI A) 0 M = some (r, M') from e1, Option.bind_some]
    · refine out ?_ ?_
      · unfold j_O_tick
        rw [if_neg h1, if_neg h2]
      · unfold j_Y_tick
        rw [if_neg h1, if_neg h2]; rfl
theorem k_sim0 : kSim 0 MX0 MY0 := by
  refine ⟨fun _ _ => 0, fun _ _ => 0, fun i => i, fun i => i, 0, fun _ => 0, fun _ => 0, fun _ => 0, 0, 0, 0, 0, fun i _ => ⟨Nat.zero_le 1, fun q => absurd q Nat.zero_ne_one⟩, ⟨Nat.zero_le 8, rfl, fun r hr => ⟨rfl, hr, rfl⟩, fun a b _ hb => absurd hb (Nat.not_lt_zero b), fun i hi => ⟨?_, ?_, hi, rfl, ⟨fun q => absurd q Nat.zero_ne_one, fun q => absurd q (Nat.not_lt_zero i)⟩, fun q => absurd q Nat.zero_ne_one⟩⟩,
    fun i _ => ⟨rfl, fun q => absurd q Nat.zero_ne_one⟩, fun i _ q => absurd q Nat.zero_ne_one, fun i hi => ⟨?_, ⟨Nat.le_refl 0, Nat.zero_le _, Nat.le_refl 0, fun _ => Or.inl rfl, fun _ => ⟨rfl, rfl⟩⟩, fun _ => ⟨rfl, rfl, rfl⟩⟩, ⟨⟨rfl, rfl⟩, rfl, ⟨rfl, rfl⟩, ⟨rfl, rfl⟩, ⟨rfl, rfl⟩⟩, ⟨Nat.zero_le 1, fun _ => ⟨fun _ _ => ⟨rfl, rfl⟩, rfl, rfl⟩, fun q => absurd q Nat.zero_ne_one, Nat.zero_le 8, ⟨Nat.zero_le 8, fun x hx => absurd hx (by omega)⟩, fun x hx => absurd hx (by omega)⟩⟩
  · show nI (fin8 i).val + 1 = nI (i + 1)
    rw [fin8_of hi, nI_1]
  · show nI (fin8 i).val + 1 - 1 = nI i
    rw [fin8_of hi, nI_1]
    exact nI_pred i
  · rw [if_neg (show ¬ 0 = i + 1 by omega)]
    exact ⟨⟨rfl, rfl, rfl⟩, ⟨rfl, rfl, rfl⟩, ⟨rfl, rfl, rfl⟩, fun _ _ => rfl, fun _ _ => rfl, fun q => absurd q (Nat.lt_irrefl 0)⟩
theorem k_all : pu_All kSim := ⟨k_task, k_segment, k_clear, k_reset, k_about, k_admit, k_response, k_job, k_tolerance, k_stretch, k_scenario, k_arrive, k_tick, k_now, k_ended, k_seen⟩
