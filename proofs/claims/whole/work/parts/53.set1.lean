/-! PURE: the set of tasks, as numbers. Z 0 i: in use (1 or 0), Z 1 distance, Z 2 deadline, Z 3 priority, Z 4 how many segments, Z 5 work; Q i q: segment q; tasks are 0..7. rk: a task's rank, rn: the task at a rank, c: how many are in use -/
def zset (Z Q : Nat → Nat → Nat) : Prop :=
  ∀ i, i < 8 → Z 0 i ≤ 1 ∧ (Z 0 i = 1 → 1 ≤ Z 1 i ∧ Z 1 i ≤ 1000 ∧ 1 ≤ Z 2 i ∧ Z 2 i ≤ 8 * Z 1 i ∧ Z 3 i ≤ 99 ∧ Z 4 i ≤ 8 ∧ (∀ q, q < Z 4 i → 1 ≤ Q i q) ∧ Z 5 i = ks_sum (Q i) (Z 4 i) ∧ Z 5 i ≤ 8000 + 100 * Z 4 i ∧ ∀ j, j < 8 → Z 0 j = 1 → Z 3 i = Z 3 j → i = j)
def yset (U : MY) (Z Q : Nat → Nat → Nat) : Prop :=
  ∀ i, i < 8 → U.1 1 (i + 1) = nI (Z 0 i) ∧ (Z 0 i = 1 → U.1 2 (i + 1) = nI (Z 1 i) ∧ U.1 3 (i + 1) = nI (Z 2 i) ∧ U.1 4 (i + 1) = nI (Z 3 i) ∧ U.1 5 (i + 1) = nI (Z 4 i) ∧ ∀ q, q < Z 4 i → U.1 6 (8 * (i + 1) + q) = nI (Q i q))
def xset (M : MX) (Z Q : Nat → Nat → Nat) (rk rn : Nat → Nat) (c : Nat) : Prop :=
  c ≤ 8 ∧ M.2.1 0 2 = nI c ∧ (∀ r, r < 8 → M.2.2.1 r = fin8 (rn r) ∧ rn r < 8 ∧ rk (rn r) = r) ∧ (∀ a b, a < b → b < c → Z 3 (rn b) < Z 3 (rn a)) ∧
  ∀ i, i < 8 → M.1 0 (fin8 i) 0 = nI (i + 1) ∧ M.1 0 (fin8 i) 8 = nI (rk i) ∧ rk i < 8 ∧ rn (rk i) = i ∧ (Z 0 i = 1 ↔ rk i < c) ∧
    (Z 0 i = 1 → M.1 0 (fin8 i) 3 = nI (Z 1 i) ∧ M.1 0 (fin8 i) 4 = nI (Z 2 i) ∧ M.1 0 (fin8 i) 5 = nI (Z 3 i) ∧ M.1 0 (fin8 i) 6 = nI (Z 4 i) ∧ M.1 0 (fin8 i) 7 = nI (Z 5 i) ∧ ∀ q, q < Z 4 i → M.1 2 (fin8 i) q = nI (Q i q))
/-- every task in use has a segment, and there is one -/
def zrdy (Z : Nat → Nat → Nat) : Prop := (∃ i, i < 8 ∧ Z 0 i = 1) ∧ ∀ i, i < 8 → Z 0 i = 1 → Z 4 i ≠ 0
def ks_max (f : Nat → Nat) : Nat → Nat
  | 0 => 0
  | n + 1 => max (ks_max f n) (f n)
theorem ks_max_succ (f : Nat → Nat) (n : Nat) : ks_max f (n + 1) = max (ks_max f n) (f n) := rfl
theorem ks_max_le {f : Nat → Nat} {m : Nat} : ∀ n, ks_max f n ≤ m ↔ ∀ i, i < n → f i ≤ m
  | 0 => ⟨fun _ i h => absurd h (Nat.not_lt_zero i), fun _ => Nat.zero_le m⟩
  | n + 1 => by
    rw [ks_max_succ, Nat.max_le, ks_max_le n]
    refine ⟨fun h i hi => ?_, fun h => ⟨fun i hi => h i (by omega), h n (by omega)⟩⟩
    by_cases e : i = n
    · subst e; exact h.2
    · exact h.1 i (by omega)
theorem ks_max_congr {f g : Nat → Nat} : ∀ n, (∀ i, i < n → f i = g i) → ks_max f n = ks_max g n
  | 0, _ => rfl
  | n + 1, h => by rw [ks_max_succ, ks_max_succ, ks_max_congr n (fun i hi => h i (by omega)), h n (by omega)]
theorem ks_max_ex {f : Nat → Nat} : ∀ n, 0 < ks_max f n → ∃ i, i < n ∧ f i = ks_max f n
  | 0, h => absurd h (Nat.lt_irrefl 0)
  | n + 1, h => by
    rw [ks_max_succ] at h ⊢
    by_cases e : ks_max f n ≤ f n
    · exact ⟨n, by omega, by rw [Nat.max_eq_right e]⟩
    · rw [Nat.max_eq_left (by omega)] at h ⊢
      obtain ⟨i, hi, h1⟩ := ks_max_ex n h
      exact ⟨i, by omega, h1⟩
theorem le_uniq {a b : Nat} (h : ∀ k, a ≤ k ↔ b ≤ k) : a = b := Nat.le_antisymm ((h b).mpr (Nat.le_refl b)) ((h a).mp (Nat.le_refl a))
theorem nI_max {a b : Nat} (ha : a < 2 ^ 31) (hb : b < 2 ^ 31) : (if nI a < nI b then nI b else nI a) = nI (max a b) := by
  by_cases h : a < b
  · rw [if_pos (nI_lt h hb), Nat.max_eq_right (Nat.le_of_lt h)]
  · rw [if_neg (nI_nlt (Nat.not_lt.mp h) ha), Nat.max_eq_left (Nat.not_lt.mp h)]
theorem nI_min {a b : Nat} (ha : a < 2 ^ 31) (hb : b < 2 ^ 31) : (if nI a < nI b then nI a else nI b) = nI (min a b) := by
  by_cases h : a < b
  · rw [if_pos (nI_lt h hb), Nat.min_eq_left (Nat.le_of_lt h)]
  · rw [if_neg (nI_nlt (Nat.not_lt.mp h) ha), Nat.min_eq_right (Nat.not_lt.mp h)]
/-- the longest segment of a task; of the tasks below x; the blocking of x -/
def zlo (Z Q : Nat → Nat → Nat) (i : Nat) : Nat := ks_max (Q i) (Z 4 i)
def zlb (Z Q : Nat → Nat → Nat) (x : Nat) : Nat := ks_max (fun i => if Z 0 i = 1 ∧ Z 3 i < Z 3 x then zlo Z Q i else 0) 8
def zbl (Z Q : Nat → Nat → Nat) (x : Nat) : Nat := zlb Z Q x - 1
section Set
variable {Z Q : Nat → Nat → Nat}
theorem ks_sum_one {f : Nat → Nat} {n q : Nat} (h : q < n) : f q ≤ ks_sum f n := by
  induction n with
  | zero => exact absurd h (Nat.not_lt_zero q)
  | succ n ih =>
    rw [ks_sum_succ]
    by_cases e : q = n
    · subst e; omega
    · have := ih (by omega); omega
theorem z_seg (hZ : zset Z Q) {i q : Nat} (hi : i < 8) (hu : Z 0 i = 1) (hq : q < Z 4 i) : Q i q ≤ 8800 := by
  obtain ⟨-, h⟩ := hZ i hi
  obtain ⟨-, -, -, -, -, h4, -, h5, h6, -⟩ := h hu
  have := ks_sum_one (f := Q i) hq
  omega
theorem z_lo (hZ : zset Z Q) {i : Nat} (hi : i < 8) (hu : Z 0 i = 1) : zlo Z Q i ≤ 8800 := (ks_max_le _).mpr (fun _ hq => z_seg hZ hi hu hq)
theorem z_lb (hZ : zset Z Q) {x : Nat} : zlb Z Q x ≤ 8800 := (ks_max_le _).mpr (fun i hi => by
  by_cases h : Z 0 i = 1 ∧ Z 3 i < Z 3 x
  · rw [if_pos h]; exact z_lo hZ hi h.1
  · rw [if_neg h]; exact Nat.zero_le _)
end Set
/-! the class -/
section X
variable {M : MX} {Z Q : Nat → Nat → Nat} {rk rn : Nat → Nat} {c : Nat}
theorem x_find (hX : xset M Z Q rk rn c) (n : Nat) {i : Nat} (hi : i < 8) : j_S_find n M (nI (i + 1)) = some (if Z 0 i = 1 then some (fin8 i) else none) := by
  obtain ⟨hc, hcnt, hr, hp, ht⟩ := hX
  obtain ⟨h0, h8, hrk, hrn, hu, -⟩ := ht i hi
  unfold j_S_find
  have e1 : nI (i + 1) - 1 = nI i := nI_pred i
  rw [if_neg (show ¬ nI (i + 1) < 1 from nI_nlt (b := 1) (by omega) (by omega)), if_pos (show nI (i + 1) ≤ 8 from nI_le (b := 8) (by omega) (by omega)), e1, if_pos (nI_in (by omega) (by omega)), nI_clamp (by omega), hcnt, h8]
  by_cases h : Z 0 i = 1
  · rw [if_pos h, if_neg (nI_ge (hu.mp h) (by omega))]
  · rw [if_neg h, if_pos (nI_le (Nat.not_lt.mp (fun q => h (hu.mpr q))) (by omega))]
theorem x_find0 (n : Nat) {a : Int32} (h : a < 1 ∨ 8 < a) : j_S_find n M a = some none := by
  unfold j_S_find
  rcases h with h | h
  · rw [if_pos h]
  · rw [if_neg (nI_big h).1, if_neg (nI_big h).2]
/-- a task at a rank in use -/
theorem x_rn (hX : xset M Z Q rk rn c) {r : Nat} (h : r < c) : rn r < 8 ∧ Z 0 (rn r) = 1 ∧ rk (rn r) = r ∧ M.2.2.1 r = fin8 (rn r) := by
  obtain ⟨hc, hcnt, hr, hp, ht⟩ := hX
  obtain ⟨h1, h2, h3⟩ := hr r (by omega)
  exact ⟨h2, (ht _ h2).2.2.2.2.1.mpr (by rw [h3]; exact h), h3, h1⟩
theorem x_use (hX : xset M Z Q rk rn c) {i : Nat} (hi : i < 8) (hu : Z 0 i = 1) : rk i < c ∧ rn (rk i) = i := ⟨(hX.2.2.2.2 i hi).2.2.2.2.1.mp hu, (hX.2.2.2.2 i hi).2.2.2.1⟩
/-- higher is higher in rank -/
theorem x_hi (hX : xset M Z Q rk rn c) {i j : Nat} (hi : i < 8) (hj : j < 8) (hui : Z 0 i = 1) (huj : Z 0 j = 1) : Z 3 j < Z 3 i ↔ rk i < rk j := by
  obtain ⟨a1, a2⟩ := x_use hX hi hui
  obtain ⟨b1, b2⟩ := x_use hX hj huj
  have hp := hX.2.2.2.1
  constructor
  · intro h
    by_cases e : rk i < rk j
    · exact e
    · by_cases e2 : rk i = rk j
      · rw [← a2, ← b2, e2] at h; omega
      · have := hp (rk j) (rk i) (by omega) a1
        rw [a2, b2] at this; omega
  · intro h
    have := hp (rk i) (rk j) h b1
    rw [a2, b2] at this; exact this
theorem x_has_L (hX : xset M Z Q rk rn c) (hZ : zset Z Q) {p : Nat} (hp : p < 2 ^ 31) (n : Nat) : ∀ (k r f : Nat), r + k = c → k < f →
    ((∃ r', r ≤ r' ∧ r' < c ∧ Z 3 (rn r') = p) → j_S_hasPriority_L2 n M (nI p) f (nI r) = some 1) ∧ ((∀ r', r ≤ r' → r' < c → Z 3 (rn r') ≠ p) → j_S_hasPriority_L2 n M (nI p) f (nI r) = some 0) := by
  have hc8 := hX.1
  intro k
  induction k with
  | zero =>
    intro r f hr hf
    obtain ⟨f, rfl⟩ : ∃ g, f = g + 1 := ⟨f - 1, by omega⟩
    unfold j_S_hasPriority_L2
    rw [hX.2.1, if_pos (nI_le (by omega) (by omega))]
    exact ⟨fun ⟨r', h1, h2, _⟩ => by omega, fun _ => rfl⟩
  | succ k ih =>
    intro r f hr hf
    obtain ⟨f, rfl⟩ : ∃ g, f = g + 1 := ⟨f - 1, by omega⟩
    obtain ⟨h1, h2, h3, h4⟩ := x_rn hX (show r < c by omega)
    have hf5 := (hX.2.2.2.2 _ h1).2.2.2.2.2 h2
    have hb := ((hZ _ h1).2 h2).2.2.2.2.1
    unfold j_S_hasPriority_L2
    rw [hX.2.1, if_neg (nI_ge (by omega) (by omega)), if_pos (nI_in (by omega) (by omega)), nI_clamp (by omega), h4, hf5.2.2.1, nI_1]
    by_cases e : Z 3 (rn r) = p
    · rw [if_pos (by rw [e])]
      exact ⟨fun _ => rfl, fun h => absurd e (h r (Nat.le_refl r) (by omega))⟩
    · rw [if_neg (nI_ne e (by omega) hp)]
      obtain ⟨i1, i0⟩ := ih (r + 1) f (by omega) (by omega)
      refine ⟨fun ⟨r', g1, g2, g3⟩ => i1 ⟨r', ?_, g2, g3⟩, fun h => i0 (fun r' g1 g2 => h r' (by omega) g2)⟩
      by_cases e2 : r' = r
      · subst e2; exact absurd g3 e
      · omega
theorem x_has (hX : xset M Z Q rk rn c) (hZ : zset Z Q) {p n : Nat} (hp : p < 2 ^ 31) (hn : 9 ≤ n) :
    ((∃ i, i < 8 ∧ Z 0 i = 1 ∧ Z 3 i = p) → j_S_hasPriority n M (nI p) = some 1) ∧ ((∀ i, i < 8 → Z 0 i = 1 → Z 3 i ≠ p) → j_S_hasPriority n M (nI p) = some 0) := by
  have hc8 := hX.1
  obtain ⟨i1, i0⟩ := x_has_L hX hZ hp n c 0 n (by omega) (by omega)
  refine ⟨fun ⟨i, h1, h2, h3⟩ => i1 ⟨rk i, Nat.zero_le _, (x_use hX h1 h2).1, by rw [(x_use hX h1 h2).2]; exact h3⟩, fun h => i0 (fun r' _ g2 => ?_)⟩
  obtain ⟨h1, h2, -, -⟩ := x_rn hX g2
  exact h _ h1 h2
theorem x_rdy_L (hX : xset M Z Q rk rn c) (hZ : zset Z Q) (n : Nat) : ∀ (k r f : Nat), r + k = c → k < f →
    ((∀ r', r ≤ r' → r' < c → Z 4 (rn r') ≠ 0) → j_S_isReady_L2 n M f (nI r) = some (if c = 0 then 0 else 1)) ∧ ((∃ r', r ≤ r' ∧ r' < c ∧ Z 4 (rn r') = 0) → j_S_isReady_L2 n M f (nI r) = some 0) := by
  have hc8 := hX.1
  intro k
  induction k with
  | zero =>
    intro r f hr hf
    obtain ⟨f, rfl⟩ : ∃ g, f = g + 1 := ⟨f - 1, by omega⟩
    unfold j_S_isReady_L2
    rw [hX.2.1, if_pos (nI_le (by omega) (by omega))]
    refine ⟨fun _ => ?_, fun ⟨r', h1, h2, _⟩ => by omega⟩
    by_cases e : c = 0
    · rw [if_pos e, e]; rfl
    · rw [if_neg e, if_neg (nI_nle (by omega) (by omega))]
  | succ k ih =>
    intro r f hr hf
    obtain ⟨f, rfl⟩ : ∃ g, f = g + 1 := ⟨f - 1, by omega⟩
    obtain ⟨h1, h2, h3, h4⟩ := x_rn hX (show r < c by omega)
    have hf5 := (hX.2.2.2.2 _ h1).2.2.2.2.2 h2
    have hb := ((hZ _ h1).2 h2).2.2.2.2.2.1
    unfold j_S_isReady_L2
    rw [hX.2.1, if_neg (nI_ge (by omega) (by omega)), if_pos (nI_in (by omega) (by omega)), nI_clamp (by omega), h4, hf5.2.2.2.1, nI_1]
    by_cases e : Z 4 (rn r) = 0
    · rw [if_pos (by rw [e]; rfl)]
      exact ⟨fun h => absurd e (h r (Nat.le_refl r) (by omega)), fun _ => rfl⟩
    · rw [if_neg (nI_ne0 (by omega) (by omega))]
      obtain ⟨i1, i0⟩ := ih (r + 1) f (by omega) (by omega)
      refine ⟨fun h => i1 (fun r' g1 g2 => h r' (by omega) g2), fun ⟨r', g1, g2, g3⟩ => i0 ⟨r', ?_, g2, g3⟩⟩
      by_cases e2 : r' = r
      · subst e2; exact absurd g3 e
      · omega
theorem x_rdy (hX : xset M Z Q rk rn c) (hZ : zset Z Q) {n : Nat} (hn : 9 ≤ n) : (zrdy Z → j_S_isReady n M = some 1) ∧ (¬ zrdy Z → j_S_isReady n M = some 0) := by
  have hc8 := hX.1
  obtain ⟨i1, i0⟩ := x_rdy_L hX hZ n c 0 n (by omega) (by omega)
  constructor
  · intro ⟨⟨i, h1, h2⟩, h⟩
    have hc : ¬ c = 0 := by have := (x_use hX h1 h2).1; omega
    rw [if_neg hc] at i1
    exact i1 (fun r' _ g2 => h _ (x_rn hX g2).1 (x_rn hX g2).2.1)
  · intro h
    by_cases hz : ∃ r', 0 ≤ r' ∧ r' < c ∧ Z 4 (rn r') = 0
    · exact i0 hz
    · have hall : ∀ r', 0 ≤ r' → r' < c → Z 4 (rn r') ≠ 0 := fun r' g1 g2 g3 => hz ⟨r', g1, g2, g3⟩
      have e := i1 hall
      by_cases hc : c = 0
      · rw [if_pos hc] at e; exact e
      · exact absurd ⟨⟨rn 0, (x_rn hX (by omega)).1, (x_rn hX (by omega)).2.1⟩, fun i h1 h2 => by
          have g := hall (rk i) (Nat.zero_le _) (x_use hX h1 h2).1
          rw [(x_use hX h1 h2).2] at g; exact g⟩ h
theorem x_lo_L (hX : xset M Z Q rk rn c) (hZ : zset Z Q) {i : Nat} (hi : i < 8) (hu : Z 0 i = 1) (n : Nat) : ∀ (k q f a : Nat), q + k = Z 4 i → k < f → a = ks_max (Q i) q → j_T_longestSegment_L4 n M (fin8 i) f (nI a) (nI q) = some (nI (zlo Z Q i)) := by
  have hf := (hX.2.2.2.2 _ hi).2.2.2.2.2 hu
  have hb := ((hZ _ hi).2 hu).2.2.2.2.2.1
  intro k
  induction k with
  | zero =>
    intro q f a hq hf1 ha
    obtain ⟨f, rfl⟩ : ∃ g, f = g + 1 := ⟨f - 1, by omega⟩
    unfold j_T_longestSegment_L4
    rw [hf.2.2.2.1, if_pos (nI_le (by omega) (by omega)), ha]
    unfold zlo
    rw [show Z 4 i = q by omega]
  | succ k ih =>
    intro q f a hq hf1 ha
    obtain ⟨f, rfl⟩ : ∃ g, f = g + 1 := ⟨f - 1, by omega⟩
    have hs := z_seg hZ hi hu (show q < Z 4 i by omega)
    have ham : a ≤ 8800 := by rw [ha]; exact (ks_max_le _).mpr (fun j hj => z_seg hZ hi hu (by omega))
    unfold j_T_longestSegment_L4
    rw [hf.2.2.2.1, if_neg (nI_ge (by omega) (by omega)), if_pos (nI_in (by omega) (by omega)), nI_clamp (by omega), hf.2.2.2.2.2 q (by omega), nI_max (by omega) (by omega), nI_1]
    exact ih (q + 1) f _ (by omega) (by omega) (by rw [ks_max_succ, ha])
theorem x_lo (hX : xset M Z Q rk rn c) (hZ : zset Z Q) {i n : Nat} (hi : i < 8) (hu : Z 0 i = 1) (hn : 9 ≤ n) : j_T_longestSegment n M (fin8 i) = some (nI (zlo Z Q i)) := by
  have hb := ((hZ _ hi).2 hu).2.2.2.2.2.1
  exact x_lo_L hX hZ hi hu n (Z 4 i) 0 n 0 (by omega) (by omega) rfl
theorem x_lb_L (hX : xset M Z Q rk rn c) (hZ : zset Z Q) {n : Nat} (hn : 9 ≤ n) (x1 : Fin 8) : ∀ (k r f a : Nat), r + k = c → k < f → a ≤ 8800 → ∃ m, j_S_longestBelow_L9 n M x1 f (nI a) (nI r) = some (nI m) ∧ ∀ z, m ≤ z ↔ a ≤ z ∧ ∀ r', r ≤ r' → r' < c → zlo Z Q (rn r') ≤ z := by
  have hc8 := hX.1
  intro k
  induction k with
  | zero =>
    intro r f a hr hf ha
    obtain ⟨f, rfl⟩ : ∃ g, f = g + 1 := ⟨f - 1, by omega⟩
    refine ⟨a, ?_, fun z => ⟨fun h => ⟨h, fun r' g1 g2 => by omega⟩, fun h => h.1⟩⟩
    unfold j_S_longestBelow_L9
    rw [hX.2.1, if_pos (nI_le (by omega) (by omega))]
  | succ k ih =>
    intro r f a hr hf ha
    obtain ⟨f, rfl⟩ : ∃ g, f = g + 1 := ⟨f - 1, by omega⟩
    obtain ⟨h1, h2, h3, h4⟩ := x_rn hX (show r < c by omega)
    have hl := z_lo hZ h1 h2
    obtain ⟨m, e, hm⟩ := ih (r + 1) f (max a (zlo Z Q (rn r))) (by omega) (by omega) (by omega)
    refine ⟨m, ?_, fun z => ?_⟩
    · unfold j_S_longestBelow_L9
      rw [hX.2.1, if_neg (nI_ge (by omega) (by omega)), if_pos (nI_in (by omega) (by omega)), nI_clamp (by omega), h4, x_lo hX hZ h1 h2 hn, Option.bind_some, nI_max (by omega) (by omega), nI_1]
      exact e
    · rw [hm z, Nat.max_le]
      refine ⟨fun ⟨⟨g1, g2⟩, g3⟩ => ⟨g1, fun r' g4 g5 => ?_⟩, fun ⟨g1, g2⟩ => ⟨⟨g1, g2 r (Nat.le_refl r) (by omega)⟩, fun r' g4 g5 => g2 r' (by omega) g5⟩⟩
      by_cases e2 : r' = r
      · subst e2; exact g2
      · exact g3 r' (by omega) g5
theorem x_lb (hX : xset M Z Q rk rn c) (hZ : zset Z Q) {i n : Nat} (hi : i < 8) (hu : Z 0 i = 1) (hn : 9 ≤ n) : j_S_longestBelow n M (fin8 i) = some (nI (zlb Z Q i)) := by
  have hc8 := hX.1
  have hr := (x_use hX hi hu).1
  unfold j_S_longestBelow
  rw [(hX.2.2.2.2 _ hi).2.1, nI_1]
  obtain ⟨m, e, hm⟩ := x_lb_L hX hZ hn (fin8 i) (c - (rk i + 1)) (rk i + 1) n 0 (by omega) (by omega) (by omega)
  rw [show (0 : Int32) = nI 0 from rfl, e]
  congr 2
  refine le_uniq (fun z => ?_)
  rw [hm z]
  unfold zlb
  rw [ks_max_le]
  constructor
  · intro ⟨_, h⟩ j hj
    by_cases hh : Z 0 j = 1 ∧ Z 3 j < Z 3 i
    · rw [if_pos hh]
      have g := h (rk j) ((x_hi hX hi hj hu hh.1).mp hh.2) (x_use hX hj hh.1).1
      rw [(x_use hX hj hh.1).2] at g
      exact g
    · rw [if_neg hh]; exact Nat.zero_le _
  · intro h
    refine ⟨Nat.zero_le _, fun r' g1 g2 => ?_⟩
    obtain ⟨h1, h2, h3, h4⟩ := x_rn hX g2
    have g := h (rn r') h1
    rw [if_pos ⟨h2, (x_hi hX hi h1 hu h2).mpr (by rw [h3]; omega)⟩] at g
    exact g
theorem x_bl (hX : xset M Z Q rk rn c) (hZ : zset Z Q) {i n : Nat} (hi : i < 8) (hu : Z 0 i = 1) (hn : 9 ≤ n) : j_S_blockingOf n M (fin8 i) = some (nI (zbl Z Q i)) := by
  have hb := z_lb hZ (x := i)
  unfold j_S_blockingOf
  rw [x_lb hX hZ hi hu hn, Option.bind_some]
  unfold zbl
  by_cases e : zlb Z Q i = 0
  · rw [e, if_neg (by decide)]; rfl
  · rw [show (1 : Int32) = nI 1 from rfl, nI_sub (by omega)]
    by_cases e1 : zlb Z Q i = 1
    · rw [e1, if_neg (by decide)]; rfl
    · rw [if_pos (show 0 < nI (zlb Z Q i - 1) from nI_lt (a := 0) (by omega) (by omega))]
end X
