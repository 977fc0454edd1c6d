/-! PURE: tick: who is next, both sides -/
def kst (t : Nat) (M : MX) (U : MY) (Z Q : Nat → Nat → Nat) (rk rn : Nat → Nat) (c : Nat) (C F P : Nat → Nat) (hj L ru pa : Nat) : Prop := xset M Z Q rk rn c ∧ yset U Z Q ∧ xch M Z Q ∧ krl t M U Z C F P hj L ru pa ∧ U.2 0 = 0
section W
variable {t : Nat} {M M' : MX} {U U' : MY} {Z Q : Nat → Nat → Nat} {rk rn C F P : Nat → Nat} {c hj L ru pa : Nat}
theorem x_hwj_L (hX : xset M Z Q rk rn c) (hF : ∀ i, i < 8 → M.1 1 (fin8 i) 2 = nI (C i) ∧ M.1 1 (fin8 i) 3 = nI (F i) ∧ C i < 2 ^ 31 ∧ F i < 2 ^ 31) (n : Nat) : ∀ (k r f : Nat), r + k = c → k < f →
    ((∀ r', r ≤ r' → r' < c → ¬ F (rn r') < C (rn r')) → j_K_highestWithJob_L2 n M f (nI r) = some none) ∧ (∀ rb, r ≤ rb → rb < c → F (rn rb) < C (rn rb) → (∀ r', r ≤ r' → r' < rb → ¬ F (rn r') < C (rn r')) → j_K_highestWithJob_L2 n M f (nI r) = some (some (fin8 (rn rb)))) := by
  have hc8 := hX.1
  intro k
  induction k with
  | zero =>
    intro r f hr hf
    obtain ⟨f, rfl⟩ : ∃ g, f = g + 1 := ⟨f - 1, by omega⟩
    refine ⟨fun _ => ?_, fun rb h1 h2 => absurd h2 (by omega)⟩
    rw [j_K_highestWithJob_L2, hX.2.1, if_pos (nI_le (by omega) (by omega))]
  | succ k ih =>
    intro r f hr hf
    obtain ⟨f, rfl⟩ : ∃ g, f = g + 1 := ⟨f - 1, by omega⟩
    obtain ⟨h1, h2, h3, h4⟩ := x_rn hX (show r < c by omega)
    obtain ⟨g1, g2, g3, g4⟩ := hF _ h1
    obtain ⟨i1, i2⟩ := ih (r + 1) f (by omega) (by omega)
    by_cases e : F (rn r) < C (rn r)
    · have ho : j_J_hasOpen n M (fin8 (rn r)) = some 1 := by
        unfold j_J_hasOpen
        rw [g1, g2, if_neg (nI_ge e g3)]
      have st : j_K_highestWithJob_L2 n M (f + 1) (nI r) = some (some (fin8 (rn r))) := by
        rw [j_K_highestWithJob_L2]
        simp only [if_pos (nI_in (show r < 8 by omega) (show 8 < 2 ^ 31 by omega))]
        rw [hX.2.1, if_neg (nI_ge (by omega) (by omega)), nI_clamp (by omega), h4, ho, Option.bind_some, if_neg d10]
      refine ⟨fun h => absurd e (h r (Nat.le_refl r) (by omega)), fun rb q1 q2 q3 q4 => ?_⟩
      rw [st]
      by_cases er : rb = r
      · rw [er]
      · exact absurd e (q4 r (Nat.le_refl r) (by omega))
    · have ho : j_J_hasOpen n M (fin8 (rn r)) = some 0 := by
        unfold j_J_hasOpen
        rw [g1, g2, if_pos (nI_le (by omega) (by omega))]
      have st : j_K_highestWithJob_L2 n M (f + 1) (nI r) = j_K_highestWithJob_L2 n M f (nI (r + 1)) := by
        rw [j_K_highestWithJob_L2]
        simp only [if_pos (nI_in (show r < 8 by omega) (show 8 < 2 ^ 31 by omega))]
        rw [hX.2.1, if_neg (nI_ge (by omega) (by omega)), nI_clamp (by omega), h4, ho, Option.bind_some, if_pos rfl, nI_1]
      rw [st]
      refine ⟨fun h => i1 (fun r' q1 q2 => h r' (by omega) q2), fun rb q1 q2 q3 q4 => i2 rb ?_ q2 q3 (fun r' w1 w2 => q4 r' (by omega) w2)⟩
      by_cases er : rb = r
      · rw [er] at q3; exact absurd q3 e
      · omega
theorem y_wait_L (hY : yset U Z Q) (hZ : zset Z Q) (hF : ∀ i, i < 8 → U.1 9 (i + 1) = nI (C i) ∧ U.1 10 (i + 1) = nI (F i) ∧ C i < 2 ^ 31 ∧ F i < 2 ^ 31) (n : Nat) : ∀ (m j f o : Nat), j + m = 8 → m < f → ybest Z (fun i => Z 0 i = 1 ∧ F i < C i) j o →
    ∃ o', j_Y_waiting_L4 n U f (nI o) (nI (j + 1)) = some (nI o') ∧ ybest Z (fun i => Z 0 i = 1 ∧ F i < C i) 8 o' := by
  intro m
  induction m with
  | zero =>
    intro j f o hj hf ho
    obtain ⟨f, rfl⟩ : ∃ g, f = g + 1 := ⟨f - 1, by omega⟩
    have e8 : j = 8 := by omega
    subst e8
    refine ⟨o, ?_, ho⟩
    unfold j_Y_waiting_L4
    rw [if_pos y_8]
  | succ m ih =>
    intro j f o hj hf ho
    obtain ⟨f, rfl⟩ : ∃ g, f = g + 1 := ⟨f - 1, by omega⟩
    have hj8 : j < 8 := by omega
    obtain ⟨g1, g2, g3, g4⟩ := hF j hj8
    unfold j_Y_waiting_L4
    simp only [if_pos (y_in hj8)]
    rw [if_neg (y_n8 hj8), nI_1, nI_clamp (show j + 1 < 2 ^ 31 by omega)]
    rcases y_use hY hZ hj8 with ⟨h, e⟩ | ⟨h, e⟩
    · have hpj := ((hZ _ hj8).2 h).2.2.2.2.1
      rw [e, if_neg (by decide), g1, g2]
      by_cases hlt : F j < C j
      · rw [if_neg (nI_ge hlt g3)]
        rcases ho with ⟨h1, h2⟩ | ⟨k, h1, h2, h3, h4⟩
        · subst h1
          rw [if_pos (show nI 0 = 0 from rfl)]
          exact ih (j + 1) f (j + 1) (by omega) (by omega) (ybest_new (Or.inl ⟨rfl, h2⟩) ⟨h, hlt⟩ (fun k q => by omega))
        · subst h2
          have hk8 : k < 8 := by omega
          have hpk := ((hZ _ hk8).2 h3.1).2.2.2.2.1
          rw [if_neg (nI_ne0 (by omega) (by omega))]
          simp only [if_pos (y_in hk8)]
          rw [nI_clamp (show k + 1 < 2 ^ 31 by omega), ((hY k hk8).2 h3.1).2.2.1, ((hY j hj8).2 h).2.2.1]
          by_cases hq : Z 3 j ≤ Z 3 k
          · rw [if_pos (nI_le hq (by omega))]
            exact ih (j + 1) f (k + 1) (by omega) (by omega) (ybest_keep (Or.inr ⟨k, h1, rfl, h3, h4⟩) hq)
          · rw [if_neg (nI_ge (by omega) (by omega))]
            refine ih (j + 1) f (j + 1) (by omega) (by omega) (ybest_new (Or.inr ⟨k, h1, rfl, h3, h4⟩) ⟨h, hlt⟩ (fun k' q => ?_))
            have e : k' = k := by omega
            rw [e]
            omega
      · rw [if_pos (nI_le (by omega) (by omega))]
        exact ih (j + 1) f o (by omega) (by omega) (ybest_skip ho (fun q => hlt q.2))
    · rw [e, if_pos rfl]
      exact ih (j + 1) f o (by omega) (by omega) (ybest_skip ho (fun q => by have := q.1; omega))
theorem hw_both (hZ : zset Z Q) (hX : xset M Z Q rk rn c) (hY : yset U Z Q) (hK : krl t M U Z C F P hj L ru pa) (ht : t ≤ 600) {n : Nat} (hn : 9 ≤ n) :
    ((∀ i, i < 8 → Z 0 i = 1 → ¬ F i < C i) ∧ j_K_highestWithJob n M = some none ∧ j_Y_waiting n U = some (nI 0)) ∨ ∃ k, k < 8 ∧ Z 0 k = 1 ∧ F k < C k ∧ j_K_highestWithJob n M = some (some (fin8 k)) ∧ j_Y_waiting n U = some (nI (k + 1)) := by
  have hc8 := hX.1
  have bd : ∀ i, i < 8 → C i < 2 ^ 31 ∧ F i < 2 ^ 31 := fun i hi => by
    obtain ⟨-, ⟨n1, n2, n3, -, -⟩, -⟩ := hK.1 i hi
    omega
  obtain ⟨i1, i2⟩ := x_hwj_L hX (fun i hi => ⟨(hK.1 i hi).1.1.1, (hK.1 i hi).1.1.2.1, bd i hi⟩) n c 0 n (by omega) (by omega)
  obtain ⟨o, e, hb⟩ := y_wait_L hY hZ (fun i hi => ⟨(hK.1 i hi).1.2.1.1, (hK.1 i hi).1.2.1.2.1, bd i hi⟩) n 8 0 n 0 (by omega) (by omega) (Or.inl ⟨rfl, fun i hi => absurd hi (Nat.not_lt_zero i)⟩)
  rcases hb with ⟨o0, h⟩ | ⟨k, h1, h2, h3, h4⟩
  · refine Or.inl ⟨fun i hi hu hlt => h i hi ⟨hu, hlt⟩, i1 (fun r' _ q hlt => ?_), by rw [o0] at e; exact e⟩
    obtain ⟨w1, w2, -, -⟩ := x_rn hX q
    exact h _ w1 ⟨w2, hlt⟩
  · obtain ⟨u1, u2⟩ := x_use hX h1 h3.1
    refine Or.inr ⟨k, h1, h3.1, h3.2, ?_, by rw [h2] at e; exact e⟩
    have g := i2 (rk k) (Nat.zero_le _) u1 (by rw [u2]; exact h3.2) (fun r' _ q hlt => by
      obtain ⟨w1, w2, w3, -⟩ := x_rn hX (show r' < c by omega)
      have a := h4 _ w1 ⟨w2, hlt⟩
      have b := (x_hi hX w1 h1 w2 h3.1).mpr (by rw [w3]; exact q)
      omega)
    rw [u2] at g
    exact g
end W
