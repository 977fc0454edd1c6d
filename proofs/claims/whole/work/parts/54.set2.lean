/-! PURE: the set in the reference -/
section Y
variable {U : MY} {Z Q : Nat → Nat → Nat}
theorem y_use (hY : yset U Z Q) (hZ : zset Z Q) {i : Nat} (hi : i < 8) : (Z 0 i = 1 ∧ U.1 1 (i + 1) = 1) ∨ (Z 0 i = 0 ∧ U.1 1 (i + 1) = 0) := by
  have h := (hZ i hi).1
  have e := (hY i hi).1
  by_cases h1 : Z 0 i = 1
  · exact Or.inl ⟨h1, by rw [e, h1]; rfl⟩
  · exact Or.inr ⟨by omega, by rw [e, show Z 0 i = 0 by omega]; rfl⟩
theorem y_in {i : Nat} (hi : i < 8) : ¬ (nI (i + 1) < 0 ∨ 9 ≤ (nI (i + 1)).toNatClampNeg) := nI_in (by omega) (by omega)
theorem y_n8 {i : Nat} (hi : i < 8) : ¬ 8 < nI (i + 1) := nI_nlt (a := 8) (by omega) (by omega)
theorem y_8 : (8 : Int32) < nI 9 := by decide +kernel
theorem y_isTask (hY : yset U Z Q) (hZ : zset Z Q) (n : Nat) {i : Nat} (hi : i < 8) : j_Y_isTask n U (nI (i + 1)) = some (if Z 0 i = 1 then 1 else 0) := by
  unfold j_Y_isTask
  rw [if_neg (show ¬ nI (i + 1) < 1 from nI_nlt (b := 1) (by omega) (by omega)), if_neg (y_n8 hi), if_pos (y_in hi), nI_clamp (by omega)]
  rcases y_use hY hZ hi with ⟨h, e⟩ | ⟨h, e⟩
  · rw [e, if_neg (by decide), if_pos h]
  · rw [e, if_pos rfl, if_neg (by omega)]
theorem y_isTask0 (n : Nat) {a : Int32} (h : a < 1 ∨ 8 < a) : j_Y_isTask n U a = some 0 := by
  unfold j_Y_isTask
  rcases h with h | h
  · rw [if_pos h]
  · rw [if_neg (nI_big h).1, if_pos h]
theorem y_rdy_L (hY : yset U Z Q) (hZ : zset Z Q) (n : Nat) : ∀ (k j f s : Nat), j + k = 8 → k < f → s ≤ 1 →
    ((∃ i, j ≤ i ∧ i < 8 ∧ Z 0 i = 1 ∧ Z 4 i = 0) → j_Y_isReady_L4 n U f (nI s) (nI (j + 1)) = some 0) ∧
    ((∀ i, j ≤ i → i < 8 → Z 0 i = 1 → Z 4 i ≠ 0) → (s = 1 ∨ ∃ i, j ≤ i ∧ i < 8 ∧ Z 0 i = 1) → j_Y_isReady_L4 n U f (nI s) (nI (j + 1)) = some 1) ∧
    ((∀ i, j ≤ i → i < 8 → Z 0 i ≠ 1) → s = 0 → j_Y_isReady_L4 n U f (nI s) (nI (j + 1)) = some 0) := by
  intro k
  induction k with
  | zero =>
    intro j f s hj hf hs
    obtain ⟨f, rfl⟩ : ∃ g, f = g + 1 := ⟨f - 1, by omega⟩
    have e8 : j = 8 := by omega
    subst e8
    unfold j_Y_isReady_L4
    rw [if_pos y_8]
    refine ⟨fun ⟨i, h1, h2, _⟩ => by omega, fun _ h => ?_, fun _ h => ?_⟩
    · rcases h with h | ⟨i, h1, h2, _⟩
      · rw [h]; rfl
      · omega
    · rw [h]; rfl
  | succ k ih =>
    intro j f s hj hf hs
    obtain ⟨f, rfl⟩ : ∃ g, f = g + 1 := ⟨f - 1, by omega⟩
    have hj8 : j < 8 := by omega
    unfold j_Y_isReady_L4
    simp only [if_pos (y_in hj8)]
    rw [if_neg (y_n8 hj8), nI_clamp (by omega), nI_1]
    rcases y_use hY hZ hj8 with ⟨h, e⟩ | ⟨h, e⟩
    · have hb := ((hZ _ hj8).2 h).2.2.2.2.2.1
      rw [e, if_neg (by decide), ((hY j hj8).2 h).2.2.2.1]
      by_cases e4 : Z 4 j = 0
      · rw [if_pos (by rw [e4]; rfl)]
        exact ⟨fun _ => rfl, fun g => absurd e4 (g j (Nat.le_refl j) hj8 h), fun _ _ => rfl⟩
      · rw [if_neg (nI_ne0 (by omega) (by omega)), if_neg (show ¬ (1 : Int32) = 0 by decide)]
        have hred : (if nI s = 0 then j_Y_isReady_L4 n U f 1 (nI (j + 1 + 1)) else j_Y_isReady_L4 n U f 1 (nI (j + 1 + 1))) = j_Y_isReady_L4 n U f (nI 1) (nI (j + 1 + 1)) := by split <;> rfl
        rw [hred]
        obtain ⟨i0, i1, i2⟩ := ih (j + 1) f 1 (by omega) (by omega) (by omega)
        refine ⟨fun ⟨i, g1, g2, g3, g4⟩ => i0 ⟨i, ?_, g2, g3, g4⟩, fun g _ => i1 (fun i g1 g2 => g i (by omega) g2) (Or.inl rfl), fun g => absurd h (g j (Nat.le_refl j) hj8)⟩
        by_cases e2 : i = j
        · subst e2; exact absurd g4 e4
        · omega
    · rw [e, if_pos rfl, if_pos rfl]
      have hred : (if nI s = 0 then j_Y_isReady_L4 n U f 0 (nI (j + 1 + 1)) else j_Y_isReady_L4 n U f 1 (nI (j + 1 + 1))) = j_Y_isReady_L4 n U f (nI s) (nI (j + 1 + 1)) := by
        by_cases e0 : s = 0
        · rw [e0]; rfl
        · rw [show s = 1 by omega]; rfl
      rw [hred]
      obtain ⟨i0, i1, i2⟩ := ih (j + 1) f s (by omega) (by omega) hs
      refine ⟨fun ⟨i, g1, g2, g3, g4⟩ => i0 ⟨i, ?_, g2, g3, g4⟩, fun g g' => i1 (fun i g1 g2 => g i (by omega) g2) ?_, fun g => i2 (fun i g1 g2 => g i (by omega) g2)⟩
      · by_cases e2 : i = j
        · subst e2; omega
        · omega
      · rcases g' with g' | ⟨i, g1, g2, g3⟩
        · exact Or.inl g'
        · refine Or.inr ⟨i, ?_, g2, g3⟩
          by_cases e2 : i = j
          · subst e2; omega
          · omega
theorem y_rdy (hY : yset U Z Q) (hZ : zset Z Q) {n : Nat} (hn : 9 ≤ n) : (zrdy Z → j_Y_isReady n U = some 1) ∧ (¬ zrdy Z → j_Y_isReady n U = some 0) := by
  obtain ⟨i0, i1, i2⟩ := y_rdy_L hY hZ n 8 0 n 0 (by omega) (by omega) (by omega)
  refine ⟨fun ⟨⟨i, h1, h2⟩, h⟩ => i1 (fun i _ g2 => h i g2) (Or.inr ⟨i, Nat.zero_le _, h1, h2⟩), fun h => ?_⟩
  by_cases hz : ∃ i, 0 ≤ i ∧ i < 8 ∧ Z 0 i = 1 ∧ Z 4 i = 0
  · exact i0 hz
  · refine i2 (fun i _ g2 g3 => h ⟨⟨i, g2, g3⟩, fun j h1 h2 h3 => hz ⟨j, Nat.zero_le _, h1, h2, h3⟩⟩) rfl
theorem y_seg {i q : Nat} (hi : i < 8) (hq : q < 8) : 8 * nI (i + 1) + nI q = nI (8 * (i + 1) + q) ∧ ¬ (nI (8 * (i + 1) + q) < 0 ∨ 72 ≤ (nI (8 * (i + 1) + q)).toNatClampNeg) ∧ (nI (8 * (i + 1) + q)).toNatClampNeg = 8 * (i + 1) + q := by
  refine ⟨?_, nI_in (by omega) (by omega), nI_clamp (by omega)⟩
  rw [show (8 : Int32) = nI 8 from rfl, nI_mul, nI_add]
theorem y_wb_L (hY : yset U Z Q) (hZ : zset Z Q) {i k : Nat} (hi : i < 8) (hu : Z 0 i = 1) (hk : k ≤ Z 4 i) (n : Nat) : ∀ (m q f a : Nat), q + m = k → m < f → a = ks_sum (Q i) q → j_Y_workBefore_L5 n U (nI (i + 1)) (nI k) f (nI a) (nI q) = some (nI (ks_sum (Q i) k)) := by
  have hb := ((hZ _ hi).2 hu).2.2.2.2.2.1
  intro m
  induction m with
  | zero =>
    intro q f a hq hf ha
    obtain ⟨f, rfl⟩ : ∃ g, f = g + 1 := ⟨f - 1, by omega⟩
    unfold j_Y_workBefore_L5
    rw [if_pos (nI_le (by omega) (by omega)), ha, show q = k by omega]
  | succ m ih =>
    intro q f a hq hf ha
    obtain ⟨f, rfl⟩ : ∃ g, f = g + 1 := ⟨f - 1, by omega⟩
    obtain ⟨e1, e2, e3⟩ := y_seg hi (show q < 8 by omega)
    unfold j_Y_workBefore_L5
    rw [if_neg (nI_ge (by omega) (by omega)), e1, if_pos e2, e3, ((hY i hi).2 hu).2.2.2.2 q (by omega), nI_add, nI_1]
    exact ih (q + 1) f _ (by omega) (by omega) (by rw [ks_sum_succ, ha])
theorem y_wb (hY : yset U Z Q) (hZ : zset Z Q) {i k n : Nat} (hi : i < 8) (hu : Z 0 i = 1) (hk : k ≤ Z 4 i) (hn : 9 ≤ n) : j_Y_workBefore n U (nI (i + 1)) (nI k) = some (nI (ks_sum (Q i) k)) := by
  have hb := ((hZ _ hi).2 hu).2.2.2.2.2.1
  exact y_wb_L hY hZ hi hu hk n k 0 n 0 (by omega) (by omega) rfl
theorem y_work (hY : yset U Z Q) (hZ : zset Z Q) {i n : Nat} (hi : i < 8) (hu : Z 0 i = 1) (hn : 9 ≤ n) : j_Y_work n U (nI (i + 1)) = some (nI (Z 5 i)) := by
  unfold j_Y_work
  rw [if_pos (y_in hi), nI_clamp (by omega), ((hY i hi).2 hu).2.2.2.1, y_wb hY hZ hi hu (Nat.le_refl _) hn, ((hZ _ hi).2 hu).2.2.2.2.2.2.2.1]
  rfl
theorem y_lo_L (hY : yset U Z Q) (hZ : zset Z Q) {i : Nat} (hi : i < 8) (hu : Z 0 i = 1) (n : Nat) : ∀ (k q f a : Nat), q + k = Z 4 i → k < f → a = ks_max (Q i) q → j_Y_longestOf_L4 n U (nI (i + 1)) f (nI a) (nI q) = some (nI (zlo Z Q i)) := by
  have hb := ((hZ _ hi).2 hu).2.2.2.2.2.1
  intro k
  induction k with
  | zero =>
    intro q f a hq hf ha
    obtain ⟨f, rfl⟩ : ∃ g, f = g + 1 := ⟨f - 1, by omega⟩
    unfold j_Y_longestOf_L4
    rw [if_pos (y_in hi), nI_clamp (by omega), ((hY i hi).2 hu).2.2.2.1, if_pos (nI_le (by omega) (by omega)), ha]
    unfold zlo
    rw [show Z 4 i = q by omega]
  | succ k ih =>
    intro q f a hq hf ha
    obtain ⟨f, rfl⟩ : ∃ g, f = g + 1 := ⟨f - 1, by omega⟩
    have hs := z_seg hZ hi hu (show q < Z 4 i by omega)
    have ham : a ≤ 8800 := by rw [ha]; exact (ks_max_le _).mpr (fun j hj => z_seg hZ hi hu (by omega))
    obtain ⟨e1, e2, e3⟩ := y_seg hi (show q < 8 by omega)
    have key := ih (q + 1) f _ (by omega) (by omega) rfl
    rw [ks_max_succ, ← ha] at key
    unfold j_Y_longestOf_L4
    rw [if_pos (y_in hi), nI_clamp (by omega), ((hY i hi).2 hu).2.2.2.1, if_neg (nI_ge (by omega) (by omega)), e1]
    simp only [if_pos e2]
    rw [e3, ((hY i hi).2 hu).2.2.2.2 q (by omega), nI_1]
    by_cases h : Q i q ≤ a
    · rw [if_pos (nI_le h (by omega))]
      rw [Nat.max_eq_left h] at key
      exact key
    · rw [if_neg (nI_ge (by omega) (by omega))]
      rw [Nat.max_eq_right (by omega)] at key
      exact key
theorem y_lo (hY : yset U Z Q) (hZ : zset Z Q) {i n : Nat} (hi : i < 8) (hu : Z 0 i = 1) (hn : 9 ≤ n) : j_Y_longestOf n U (nI (i + 1)) = some (nI (zlo Z Q i)) := by
  have hb := ((hZ _ hi).2 hu).2.2.2.2.2.1
  exact y_lo_L hY hZ hi hu n (Z 4 i) 0 n 0 (by omega) (by omega) rfl
theorem y_lb_L (hY : yset U Z Q) (hZ : zset Z Q) {x n : Nat} (hx : x < 8) (hux : Z 0 x = 1) (hn : 9 ≤ n) : ∀ (k j f a : Nat), j + k = 8 → k < f → a = ks_max (fun i => if Z 0 i = 1 ∧ Z 3 i < Z 3 x then zlo Z Q i else 0) j → j_Y_longestBelow_L4 n U (nI (x + 1)) f (nI a) (nI (j + 1)) = some (nI (zlb Z Q x)) := by
  intro k
  induction k with
  | zero =>
    intro j f a hj hf ha
    obtain ⟨f, rfl⟩ : ∃ g, f = g + 1 := ⟨f - 1, by omega⟩
    have e8 : j = 8 := by omega
    subst e8
    unfold j_Y_longestBelow_L4
    rw [if_pos y_8, ha]
    rfl
  | succ k ih =>
    intro j f a hj hf ha
    obtain ⟨f, rfl⟩ : ∃ g, f = g + 1 := ⟨f - 1, by omega⟩
    have hj8 : j < 8 := by omega
    have ham : a ≤ 8800 := by
      rw [ha]
      refine (ks_max_le _).mpr (fun i hi => ?_)
      by_cases h : Z 0 i = 1 ∧ Z 3 i < Z 3 x
      · rw [if_pos h]; exact z_lo hZ (by omega) h.1
      · rw [if_neg h]; exact Nat.zero_le _
    have key := ih (j + 1) f _ (by omega) (by omega) rfl
    rw [ks_max_succ, ← ha] at key
    unfold j_Y_longestBelow_L4
    simp only [if_pos (y_in hj8), if_pos (y_in hx)]
    rw [if_neg (y_n8 hj8), nI_clamp (by omega), nI_1]
    rcases y_use hY hZ hj8 with ⟨h, e⟩ | ⟨h, e⟩
    · have hpj := ((hZ _ hj8).2 h).2.2.2.2.1
      have hpx := ((hZ _ hx).2 hux).2.2.2.2.1
      have hlo := z_lo hZ hj8 h
      rw [e, if_neg (by decide), nI_clamp (by omega), ((hY j hj8).2 h).2.2.1, ((hY x hx).2 hux).2.2.1]
      by_cases hp : Z 3 x ≤ Z 3 j
      · rw [if_pos (nI_le hp (by omega))]
        rw [if_neg (fun q => by omega), Nat.max_eq_left (Nat.zero_le _)] at key
        exact key
      · rw [if_neg (nI_ge (by omega) (by omega)), y_lo hY hZ hj8 h hn, Option.bind_some, Option.bind_some]
        rw [if_pos ⟨h, by omega⟩] at key
        by_cases hm : zlo Z Q j ≤ a
        · rw [if_pos (nI_le hm (by omega))]
          rw [Nat.max_eq_left hm] at key
          exact key
        · rw [if_neg (nI_ge (by omega) (by omega))]
          rw [Nat.max_eq_right (by omega)] at key
          exact key
    · rw [e, if_pos rfl]
      rw [if_neg (fun q => by omega), Nat.max_eq_left (Nat.zero_le _)] at key
      exact key
theorem y_lb (hY : yset U Z Q) (hZ : zset Z Q) {x n : Nat} (hx : x < 8) (hux : Z 0 x = 1) (hn : 9 ≤ n) : j_Y_longestBelow n U (nI (x + 1)) = some (nI (zlb Z Q x)) := y_lb_L hY hZ hx hux hn 8 0 n 0 (by omega) (by omega) rfl
theorem y_bl (hY : yset U Z Q) (hZ : zset Z Q) {x n : Nat} (hx : x < 8) (hux : Z 0 x = 1) (hn : 9 ≤ n) : j_Y_blocking n U (nI (x + 1)) = some (nI (zbl Z Q x)) := by
  have hb := z_lb hZ (x := x)
  unfold j_Y_blocking
  rw [y_lb hY hZ hx hux hn, Option.bind_some]
  unfold zbl
  by_cases e : zlb Z Q x = 0
  · rw [e]; rfl
  · rw [if_neg (nI_ne0 (by omega) (by omega)), Option.bind_some, show (1 : Int32) = nI 1 from rfl, nI_sub (by omega)]
end Y
