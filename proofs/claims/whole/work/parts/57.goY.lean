/-! PURE: the busy time as the reference runs it: one step -/
def zc (Z : Nat → Nat → Nat) (x i : Nat) : Prop := Z 0 i = 1 ∧ Z 3 x ≤ Z 3 i
theorem zc_iff {Z Q : Nat → Nat → Nat} (hZ : zset Z Q) {x i : Nat} (hx : x < 8) (hu : Z 0 x = 1) (hi : i < 8) : zc Z x i ↔ (zhi Z x i = true ∨ i = x) := by
  unfold zc
  constructor
  · intro ⟨h1, h2⟩
    by_cases e : Z 3 x = Z 3 i
    · exact Or.inr (((hZ x hx).2 hu).2.2.2.2.2.2.2.2.2 i hi h1 e).symm
    · exact Or.inl (zhi_iff.mpr ⟨h1, by omega⟩)
  · intro h
    rcases h with h | rfl
    · have := zhi_iff.mp h; exact ⟨this.1, by omega⟩
    · exact ⟨hu, Nat.le_refl _⟩
def updN (f : Nat → Nat) (k v : Nat) : Nat → Nat := fun i => if i = k then v else f i
theorem updN_at {f : Nat → Nat} {k v : Nat} : updN f k v k = v := if_pos rfl
theorem updN_ne {f : Nat → Nat} {k v i : Nat} (h : i ≠ k) : updN f k v i = f i := if_neg h
/-- only what a run of the busy time writes may differ -/
def ysm (U U' : MY) : Prop := (∀ a k, a ≠ 7 → a ≠ 8 → U'.1 a k = U.1 a k) ∧ ∀ f, f ≠ 9 → f ≠ 10 → f ≠ 11 → f ≠ 12 → f ≠ 14 → U'.2 f = U.2 f
theorem ysm.rf {U : MY} : ysm U U := ⟨fun _ _ _ _ => rfl, fun _ _ _ _ _ _ => rfl⟩
theorem ysm.trans {U U' U'' : MY} (h : ysm U U') (h' : ysm U' U'') : ysm U U'' := ⟨fun a k h1 h2 => (h'.1 a k h1 h2).trans (h.1 a k h1 h2), fun f h1 h2 h3 h4 h5 => (h'.2 f h1 h2 h3 h4 h5).trans (h.2 f h1 h2 h3 h4 h5)⟩
theorem ysm.sV {U U' : MY} (h : ysm U U') {k : Nat} (v : Int32) (hk : k = 9 ∨ k = 10 ∨ k = 11 ∨ k = 12 ∨ k = 14) : ysm U (sV U' k v) := ⟨h.1, fun f h1 h2 h3 h4 h5 => (sV_ne (by omega)).trans (h.2 f h1 h2 h3 h4 h5)⟩
theorem ysm.sA {U U' : MY} (h : ysm U U') {a : Nat} (k : Nat) (v : Int32) (ha : a = 7 ∨ a = 8) : ysm U (sA U' a k v) := ⟨fun a' k' h1 h2 => (sA_ne (fun q => by omega)).trans (h.1 a' k' h1 h2), h.2⟩
theorem yset.sm {U U' : MY} {Z Q : Nat → Nat → Nat} (h : yset U Z Q) (hs : ysm U U') : yset U' Z Q := by
  intro i hi
  obtain ⟨h1, h2⟩ := h i hi
  refine ⟨(hs.1 1 _ (by decide) (by decide)).trans h1, fun hu => ?_⟩
  obtain ⟨g1, g2, g3, g4, g5⟩ := h2 hu
  exact ⟨(hs.1 2 _ (by decide) (by decide)).trans g1, (hs.1 3 _ (by decide) (by decide)).trans g2, (hs.1 4 _ (by decide) (by decide)).trans g3, (hs.1 5 _ (by decide) (by decide)).trans g4, fun q hq => (hs.1 6 _ (by decide) (by decide)).trans (g5 q hq)⟩
section Y
variable {U : MY} {Z Q : Nat → Nat → Nat} {x : Nat} {dn pc : Nat → Nat} {T : Nat}
theorem y_counts (hY : yset U Z Q) (hZ : zset Z Q) (n : Nat) (hx : x < 8) (hu : Z 0 x = 1) {k : Nat} (hk : k < 8) : (zc Z x k → j_Y_counts n U (nI (k + 1)) (nI (x + 1)) = some 1) ∧ (¬ zc Z x k → j_Y_counts n U (nI (k + 1)) (nI (x + 1)) = some 0) := by
  have hpx := ((hZ _ hx).2 hu).2.2.2.2.1
  unfold j_Y_counts
  simp only [if_pos (y_in hk), if_pos (y_in hx)]
  rw [nI_clamp (show k + 1 < 2 ^ 31 by omega), nI_clamp (show x + 1 < 2 ^ 31 by omega)]
  rcases y_use hY hZ hk with ⟨h, e⟩ | ⟨h, e⟩
  · have hpk := ((hZ _ hk).2 h).2.2.2.2.1
    rw [e, if_neg (by decide), ((hY k hk).2 h).2.2.1, ((hY x hx).2 hu).2.2.1]
    refine ⟨fun hc => ?_, fun hc => ?_⟩
    · rw [if_neg (nI_nlt hc.2 (by omega))]
    · rw [if_pos (nI_lt (by have : ¬ Z 3 x ≤ Z 3 k := fun q => hc ⟨h, q⟩; omega) (by omega))]
  · rw [e, if_pos rfl]
    exact ⟨fun hc => absurd hc.1 (by omega), fun _ => rfl⟩
/-- the best of those that can -/
def ybest (Z : Nat → Nat → Nat) (av : Nat → Prop) (j o : Nat) : Prop := (o = 0 ∧ ∀ i, i < j → ¬ av i) ∨ ∃ k, k < j ∧ o = k + 1 ∧ av k ∧ ∀ i, i < j → av i → Z 3 i ≤ Z 3 k
theorem ybest_skip {av : Nat → Prop} {j o : Nat} (h : ybest Z av j o) (hn : ¬ av j) : ybest Z av (j + 1) o := by
  rcases h with ⟨h1, h2⟩ | ⟨k, h1, h2, h3, h4⟩
  · refine Or.inl ⟨h1, fun i hi => ?_⟩
    by_cases e : i = j
    · subst e; exact hn
    · exact h2 i (by omega)
  · refine Or.inr ⟨k, by omega, h2, h3, fun i hi ha => ?_⟩
    by_cases e : i = j
    · subst e; exact absurd ha hn
    · exact h4 i (by omega) ha
theorem ybest_keep {av : Nat → Prop} {j k : Nat} (h : ybest Z av j (k + 1)) (hle : Z 3 j ≤ Z 3 k) : ybest Z av (j + 1) (k + 1) := by
  rcases h with ⟨h1, h2⟩ | ⟨k', h1, h2, h3, h4⟩
  · omega
  · have e : k' = k := by omega
    subst e
    refine Or.inr ⟨k', by omega, rfl, h3, fun i hi ha => ?_⟩
    by_cases e : i = j
    · subst e; exact hle
    · exact h4 i (by omega) ha
theorem ybest_new {av : Nat → Prop} {j o : Nat} (h : ybest Z av j o) (ha : av j) (hlt : ∀ k, o = k + 1 → Z 3 k < Z 3 j) : ybest Z av (j + 1) (j + 1) := by
  refine Or.inr ⟨j, by omega, rfl, ha, fun i hi hai => ?_⟩
  by_cases e : i = j
  · subst e; exact Nat.le_refl _
  · rcases h with ⟨h1, h2⟩ | ⟨k', h1, h2, h3, h4⟩
    · exact absurd hai (h2 i (by omega))
    · have := h4 i (by omega) hai
      have := hlt k' h2
      omega
theorem y_next_L (hY : yset U Z Q) (hZ : zset Z Q) (n : Nat) (hx : x < 8) (hu : Z 0 x = 1) (hd : ∀ i, i < 8 → U.1 7 (i + 1) = nI (dn i)) (hT : U.2 9 = nI T) (hTb : T < 2 ^ 31) (hb : ∀ i, i < 8 → zc Z x i → dn i * Z 1 i < 2 ^ 31) : ∀ (m j f o : Nat), j + m = 8 → m < f → ybest Z (fun i => zc Z x i ∧ dn i * Z 1 i ≤ T) j o →
    ∃ o', j_Y_next_L4 n U (nI (x + 1)) f (nI o) (nI (j + 1)) = some (nI o') ∧ ybest Z (fun i => zc Z x i ∧ dn i * Z 1 i ≤ T) 8 o' := by
  intro m
  induction m with
  | zero =>
    intro j f o hj hf ho
    obtain ⟨f, rfl⟩ : ∃ g, f = g + 1 := ⟨f - 1, by omega⟩
    have e8 : j = 8 := by omega
    subst e8
    refine ⟨o, ?_, ho⟩
    unfold j_Y_next_L4
    rw [if_pos y_8]
  | succ m ih =>
    intro j f o hj hf ho
    obtain ⟨f, rfl⟩ : ∃ g, f = g + 1 := ⟨f - 1, by omega⟩
    have hj8 : j < 8 := by omega
    unfold j_Y_next_L4
    rw [if_neg (y_n8 hj8), nI_1]
    by_cases hc : zc Z x j
    · have hfj := (hY j hj8).2 hc.1
      have hpj := ((hZ _ hj8).2 hc.1).2.2.2.2.1
      rw [((y_counts hY hZ n hx hu hj8).1 hc), Option.bind_some, if_neg (by decide)]
      simp only [if_pos (y_in hj8)]
      rw [nI_clamp (show j + 1 < 2 ^ 31 by omega), hd j hj8, hfj.1, nI_mul, hT]
      by_cases ha : dn j * Z 1 j ≤ T
      · rw [if_neg (nI_nlt ha hTb)]
        rcases ho with ⟨h1, h2⟩ | ⟨k, h1, h2, h3, h4⟩
        · subst h1
          rw [if_pos (show nI 0 = 0 from rfl)]
          exact ih (j + 1) f (j + 1) (by omega) (by omega) (ybest_new (Or.inl ⟨rfl, h2⟩) ⟨hc, ha⟩ (fun k q => by omega))
        · subst h2
          have hk8 : k < 8 := by omega
          have hpk := ((hZ _ hk8).2 h3.1.1).2.2.2.2.1
          rw [if_neg (nI_ne0 (by omega) (by omega))]
          simp only [if_pos (y_in hk8)]
          rw [nI_clamp (show k + 1 < 2 ^ 31 by omega), hfj.2.2.1, ((hY k hk8).2 h3.1.1).2.2.1]
          by_cases hp : Z 3 j ≤ Z 3 k
          · rw [if_pos (nI_le hp (by omega))]
            exact ih (j + 1) f (k + 1) (by omega) (by omega) (ybest_keep (Or.inr ⟨k, h1, rfl, h3, h4⟩) hp)
          · rw [if_neg (nI_ge (by omega) (by omega))]
            refine ih (j + 1) f (j + 1) (by omega) (by omega) (ybest_new (Or.inr ⟨k, h1, rfl, h3, h4⟩) ⟨hc, ha⟩ (fun k' q => ?_))
            have e : k' = k := by omega
            rw [e]
            omega
      · rw [if_pos (nI_lt (by omega) (hb j hj8 hc))]
        exact ih (j + 1) f o (by omega) (by omega) (ybest_skip ho (fun q => ha q.2))
    · rw [((y_counts hY hZ n hx hu hj8).2 hc), Option.bind_some, if_pos rfl]
      exact ih (j + 1) f o (by omega) (by omega) (ybest_skip ho (fun q => hc q.1))
theorem y_next (hY : yset U Z Q) (hZ : zset Z Q) {n : Nat} (hn : 9 ≤ n) (hx : x < 8) (hu : Z 0 x = 1) (hd : ∀ i, i < 8 → U.1 7 (i + 1) = nI (dn i)) (hT : U.2 9 = nI T) (hTb : T < 2 ^ 31) (hb : ∀ i, i < 8 → zc Z x i → dn i * Z 1 i < 2 ^ 31) (hex : ∃ i, i < 8 ∧ zc Z x i ∧ dn i * Z 1 i ≤ T) :
    ∃ k, k < 8 ∧ j_Y_next n U (nI (x + 1)) = some (nI (k + 1)) ∧ zc Z x k ∧ dn k * Z 1 k ≤ T ∧ ∀ i, i < 8 → zc Z x i → dn i * Z 1 i ≤ T → Z 3 i ≤ Z 3 k := by
  obtain ⟨o, e, h⟩ := y_next_L hY hZ n hx hu hd hT hTb hb 8 0 n 0 (by omega) (by omega) (Or.inl ⟨rfl, fun i hi => absurd hi (Nat.not_lt_zero i)⟩)
  rcases h with ⟨h1, h2⟩ | ⟨k, h1, h2, h3, h4⟩
  · obtain ⟨i, g1, g2, g3⟩ := hex
    exact absurd ⟨g2, g3⟩ (h2 i g1)
  · subst h2
    exact ⟨k, h1, e, h3.1, h3.2, fun i g1 g2 g3 => h4 i g1 ⟨g2, g3⟩⟩
theorem y_over_L (hY : yset U Z Q) (hZ : zset Z Q) (n : Nat) (hx : x < 8) (hu : Z 0 x = 1) (hd : ∀ i, i < 8 → U.1 7 (i + 1) = nI (dn i)) (hT : U.2 9 = nI T) (hTb : T < 2 ^ 31) (hb : ∀ i, i < 8 → zc Z x i → dn i * Z 1 i < 2 ^ 31) : ∀ (m j f : Nat), j + m = 8 → m < f →
    ((∃ i, j ≤ i ∧ i < 8 ∧ zc Z x i ∧ dn i * Z 1 i < T) → j_Y_isOver_L2 n U (nI (x + 1)) f (nI (j + 1)) = some 0) ∧ ((∀ i, j ≤ i → i < 8 → zc Z x i → T ≤ dn i * Z 1 i) → j_Y_isOver_L2 n U (nI (x + 1)) f (nI (j + 1)) = some (if T = 0 then 0 else 1)) := by
  intro m
  induction m with
  | zero =>
    intro j f hj hf
    obtain ⟨f, rfl⟩ : ∃ g, f = g + 1 := ⟨f - 1, by omega⟩
    have e8 : j = 8 := by omega
    subst e8
    unfold j_Y_isOver_L2
    rw [if_pos y_8, hT]
    refine ⟨fun ⟨i, h1, h2, _⟩ => by omega, fun _ => ?_⟩
    by_cases e : T = 0
    · rw [e]; rfl
    · rw [if_neg e, if_neg (nI_nle (by omega) hTb)]
  | succ m ih =>
    intro j f hj hf
    obtain ⟨f, rfl⟩ : ∃ g, f = g + 1 := ⟨f - 1, by omega⟩
    have hj8 : j < 8 := by omega
    obtain ⟨i0, i1⟩ := ih (j + 1) f (by omega) (by omega)
    unfold j_Y_isOver_L2
    rw [if_neg (y_n8 hj8), nI_1]
    by_cases hc : zc Z x j
    · have hfj := (hY j hj8).2 hc.1
      rw [((y_counts hY hZ n hx hu hj8).1 hc), Option.bind_some, if_neg (by decide)]
      simp only [if_pos (y_in hj8)]
      rw [nI_clamp (show j + 1 < 2 ^ 31 by omega), hd j hj8, hfj.1, nI_mul, hT]
      by_cases ha : T ≤ dn j * Z 1 j
      · rw [if_pos (nI_le ha (hb j hj8 hc))]
        refine ⟨fun ⟨i, g1, g2, g3, g4⟩ => i0 ⟨i, ?_, g2, g3, g4⟩, fun h => i1 (fun i g1 g2 => h i (by omega) g2)⟩
        by_cases e2 : i = j
        · subst e2; omega
        · omega
      · rw [if_neg (nI_ge (by omega) hTb)]
        exact ⟨fun _ => rfl, fun h => absurd (h j (Nat.le_refl j) hj8 hc) ha⟩
    · rw [((y_counts hY hZ n hx hu hj8).2 hc), Option.bind_some, if_pos rfl]
      refine ⟨fun ⟨i, g1, g2, g3, g4⟩ => i0 ⟨i, ?_, g2, g3, g4⟩, fun h => i1 (fun i g1 g2 => h i (by omega) g2)⟩
      by_cases e2 : i = j
      · subst e2; exact absurd g3 hc
      · omega
end Y
/-! one turn of the reference's loop -/
def g1 (U : MY) (C : Nat) (v : Int32) : MY := sA (sV U 9 (U.2 9 + v)) 8 C (U.1 8 C + 1)
def gE (N : MY) (C : Nat) : MY := sA (sA N 8 C 0) 7 C (N.1 7 C + 1)
def gW (N : MY) (C : Nat) (r : Int32) : MY := sV (sV N 11 r) 12 (N.1 7 C)
def gX (N : MY) (C : Nat) (r : Int32) : MY := if N.1 7 C = N.2 13 then sV N 14 r else N
def gr (N : MY) (C : Nat) : Int32 := N.2 9 - N.1 7 C * N.1 2 C
def gV (N : MY) (C : Nat) : MY := gX (if gr N C ≤ N.2 11 then N else gW N C (gr N C)) C (gr N C)
set_option maxHeartbeats 2000000 in
theorem go_step {U : MY} {n f k q : Nat} {a1 a2 v : Int32} (ho : j_Y_isOver n U a1 = some 0) (ht : U.2 9 ≤ 20000) (hn : j_Y_next n U a1 = some (nI (k + 1))) (hk : k < 8) (hq : U.1 8 (k + 1) = nI q) (hq8 : q < 8) :
    j_Y_go_L53 n a1 a2 (f + 1) v U = j_Y_go_L53 n a1 a2 f (nI (k + 1)) (if (g1 U (k + 1) (U.1 6 (8 * (k + 1) + q))).1 5 (k + 1) ≤ (g1 U (k + 1) (U.1 6 (8 * (k + 1) + q))).1 8 (k + 1) then gE (if nI (k + 1) = a1 then gV (g1 U (k + 1) (U.1 6 (8 * (k + 1) + q))) (k + 1) else g1 U (k + 1) (U.1 6 (8 * (k + 1) + q))) (k + 1) else g1 U (k + 1) (U.1 6 (8 * (k + 1) + q))) := by
  obtain ⟨e1, e2, e3⟩ := y_seg hk hq8
  rw [j_Y_go_L53, ho, Option.bind_some, if_pos rfl, if_pos ht, hn, Option.bind_some]
  simp only [if_pos (y_in hk)]
  simp only [nI_clamp (show k + 1 < 2 ^ 31 by omega)]
  rw [hq]
  simp only [e1]
  simp only [if_pos e2]
  simp only [e3]
  have hM : sA (sV U 9 (U.2 9 + U.1 6 (8 * (k + 1) + q))) 8 (k + 1) ((sV U 9 (U.2 9 + U.1 6 (8 * (k + 1) + q))).1 8 (k + 1) + 1) = g1 U (k + 1) (U.1 6 (8 * (k + 1) + q)) := rfl
  simp only [hM]
  generalize g1 U (k + 1) (U.1 6 (8 * (k + 1) + q)) = N
  by_cases c1 : N.1 5 (k + 1) ≤ N.1 8 (k + 1)
  · simp only [if_pos c1]
    by_cases c2 : nI (k + 1) = a1
    · simp only [if_pos c2]
      unfold gV
      have hr : N.2 9 - N.1 7 (k + 1) * N.1 2 (k + 1) = gr N (k + 1) := rfl
      simp only [hr]
      by_cases c3 : gr N (k + 1) ≤ N.2 11
      · simp only [if_pos c3]
        unfold gX
        by_cases c4 : N.1 7 (k + 1) = N.2 13
        · simp only [if_pos c4]
          rfl
        · simp only [if_neg c4]
          rfl
      · simp only [if_neg c3]
        have hW : sV (sV N 11 (gr N (k + 1))) 12 ((sV N 11 (gr N (k + 1))).1 7 (k + 1)) = gW N (k + 1) (gr N (k + 1)) := rfl
        simp only [hW]
        unfold gX
        by_cases c4 : (gW N (k + 1) (gr N (k + 1))).1 7 (k + 1) = (gW N (k + 1) (gr N (k + 1))).2 13
        · simp only [if_pos c4]
          rfl
        · simp only [if_neg c4]
          rfl
    · simp only [if_neg c2]
      rfl
  · simp only [if_neg c1]
