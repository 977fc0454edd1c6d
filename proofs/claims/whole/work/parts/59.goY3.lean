/-! PURE: go, whole; the tasks in the order of their priorities -/
theorem go_init {n : Nat} (a1 a2 : Int32) (U : MY) : ∀ (m j f : Nat) (N : MY), j + m = 8 → m < f → ysm U N → (∀ i, i < j → N.1 7 (i + 1) = 0 ∧ N.1 8 (i + 1) = 0) →
    ∃ N', j_Y_go_L2 n a1 a2 f (nI (j + 1)) N = j_Y_go_L53 n a1 a2 n (nI 9) (sV (sV (sV (sV (sV N' 9 a2) 11 0) 12 0) 14 (-1)) 10 0) ∧ ysm U N' ∧ ∀ i, i < 8 → N'.1 7 (i + 1) = 0 ∧ N'.1 8 (i + 1) = 0 := by
  intro m
  induction m with
  | zero =>
    intro j f N hj hf hs h0
    obtain ⟨f, rfl⟩ : ∃ g, f = g + 1 := ⟨f - 1, by omega⟩
    have e8 : j = 8 := by omega
    subst e8
    refine ⟨N, ?_, hs, h0⟩
    rw [j_Y_go_L2, if_pos y_8]
  | succ m ih =>
    intro j f N hj hf hs h0
    obtain ⟨f, rfl⟩ : ∃ g, f = g + 1 := ⟨f - 1, by omega⟩
    have hj8 : j < 8 := by omega
    rw [j_Y_go_L2, if_neg (y_n8 hj8)]
    simp only [if_pos (y_in hj8)]
    rw [nI_clamp (show j + 1 < 2 ^ 31 by omega), nI_1]
    refine ih (j + 1) f _ (by omega) (by omega) ((hs.sA _ _ (by omega)).sA _ _ (by omega)) (fun i hi => ?_)
    by_cases e : i = j
    · subst e
      exact ⟨(sA_ne (fun q => absurd q.1 (by decide))).trans sA_at, sA_at⟩
    · have ne : ∀ d d' : Nat, ¬ (d = d' ∧ i + 1 = j + 1) := fun d d' q => e (by omega)
      rw [sA_ne (ne _ _), sA_ne (ne _ _), sA_ne (ne _ _), sA_ne (ne _ _)]
      exact h0 i (by omega)
theorem y_go {U : MY} {Z Q : Nat → Nat → Nat} (hY : yset U Z Q) (hZ : zset Z Q) (hR : zrdy Z) {x B n : Nat} (hx : x < 8) (hu : Z 0 x = 1) (hB : B ≤ 10000) (hn : 20003 ≤ n) :
    ∃ U', j_Y_go n U (nI (x + 1)) (nI B) = some U' ∧ ysm U U' ∧ (zbz Z x B ≤ 20000 → U'.2 10 = 0 ∧ U'.2 11 = nI (zw Z Q x B).1 ∧ U'.2 12 = nI (zw Z Q x B).2 ∧ U'.2 14 = zan (zrs Z Q x B) (U.2 13) (znj Z x B)) ∧ (¬ zbz Z x B ≤ 20000 → U'.2 10 = 1) := by
  obtain ⟨N, e, hs, h0⟩ := go_init (n := n) (nI (x + 1)) (nI B) U 8 0 n U (by omega) (by omega) ysm.rf (fun i hi => absurd hi (Nat.not_lt_zero i))
  have hs' : ysm U (sV (sV (sV (sV (sV N 9 (nI B)) 11 0) 12 0) 14 (-1)) 10 0) := ((((hs.sV _ (by omega)).sV _ (by omega)).sV _ (by omega)).sV _ (by omega)).sV _ (by omega)
  obtain ⟨U', g1, g2, g3, g4⟩ := go_loop (n := n) hZ hR hx hu hB (by omega) (nI B) 20001 n (sV (sV (sV (sV (sV N 9 (nI B)) 11 0) 12 0) 14 (-1)) 10 0) (fun _ => 0) (fun _ => 0) B (nI 9) (by omega) (by omega) (by omega)
    ⟨hY.sm hs', fun i hi => h0 i hi, rfl, rfl, rfl, rfl, ak_start (z_ak hZ hR hx hu)⟩
  have e13 : (sV (sV (sV (sV (sV N 9 (nI B)) 11 0) 12 0) 14 (-1)) 10 0).2 13 = U.2 13 := hs.2 13 (by decide) (by decide) (by decide) (by decide) (by decide)
  refine ⟨U', ?_, hs'.trans g2, fun q => ?_, g4⟩
  · unfold j_Y_go
    rw [show (1 : Int32) = nI (0 + 1) from rfl, e, g1]
  · rw [e13] at g3
    exact g3 q
/-- ranks, apart from any memory -/
def zrk (Z : Nat → Nat → Nat) (rk rn : Nat → Nat) (c : Nat) : Prop :=
  c ≤ 8 ∧ (∀ r, r < 8 → rn r < 8 ∧ rk (rn r) = r) ∧ (∀ a b, a < b → b < c → Z 3 (rn b) < Z 3 (rn a)) ∧ ∀ i, i < 8 → rk i < 8 ∧ rn (rk i) = i ∧ (Z 0 i = 1 ↔ rk i < c)
theorem xset.rk {M : MX} {Z Q : Nat → Nat → Nat} {rk rn : Nat → Nat} {c : Nat} (h : xset M Z Q rk rn c) : zrk Z rk rn c :=
  ⟨h.1, fun r hr => (h.2.2.1 r hr).2, h.2.2.2.1, fun i hi => ⟨(h.2.2.2.2 i hi).2.2.1, (h.2.2.2.2 i hi).2.2.2.1, (h.2.2.2.2 i hi).2.2.2.2.1⟩⟩
section Y
variable {U : MY} {Z Q : Nat → Nat → Nat} {rk rn : Nat → Nat} {c : Nat}
theorem y_hst_L (hY : yset U Z Q) (hZ : zset Z Q) (n : Nat) {p : Nat} (hp : p < 2 ^ 31) : ∀ (m j f o : Nat), j + m = 8 → m < f → ybest Z (fun i => Z 0 i = 1 ∧ Z 3 i < p) j o →
    ∃ o', j_Y_highest_L4 n U (nI p) f (nI o) (nI (j + 1)) = some (nI o') ∧ ybest Z (fun i => Z 0 i = 1 ∧ Z 3 i < p) 8 o' := by
  intro m
  induction m with
  | zero =>
    intro j f o hj hf ho
    obtain ⟨f, rfl⟩ : ∃ g, f = g + 1 := ⟨f - 1, by omega⟩
    have e8 : j = 8 := by omega
    subst e8
    refine ⟨o, ?_, ho⟩
    unfold j_Y_highest_L4
    rw [if_pos y_8]
  | succ m ih =>
    intro j f o hj hf ho
    obtain ⟨f, rfl⟩ : ∃ g, f = g + 1 := ⟨f - 1, by omega⟩
    have hj8 : j < 8 := by omega
    unfold j_Y_highest_L4
    simp only [if_pos (y_in hj8)]
    rw [if_neg (y_n8 hj8), nI_1, nI_clamp (show j + 1 < 2 ^ 31 by omega)]
    rcases y_use hY hZ hj8 with ⟨h, e⟩ | ⟨h, e⟩
    · have hpj := ((hZ _ hj8).2 h).2.2.2.2.1
      rw [e, if_neg (by decide), ((hY j hj8).2 h).2.2.1]
      by_cases hlt : Z 3 j < p
      · rw [if_neg (nI_ge hlt hp)]
        rcases ho with ⟨h1, h2⟩ | ⟨k, h1, h2, h3, h4⟩
        · subst h1
          rw [if_pos (show nI 0 = 0 from rfl)]
          exact ih (j + 1) f (j + 1) (by omega) (by omega) (ybest_new (Or.inl ⟨rfl, h2⟩) ⟨h, hlt⟩ (fun k q => by omega))
        · subst h2
          have hk8 : k < 8 := by omega
          have hpk := ((hZ _ hk8).2 h3.1).2.2.2.2.1
          rw [if_neg (nI_ne0 (by omega) (by omega))]
          simp only [if_pos (y_in hk8)]
          rw [nI_clamp (show k + 1 < 2 ^ 31 by omega), ((hY k hk8).2 h3.1).2.2.1]
          by_cases hq : Z 3 j ≤ Z 3 k
          · rw [if_pos (nI_le hq (by omega))]
            exact ih (j + 1) f (k + 1) (by omega) (by omega) (ybest_keep (Or.inr ⟨k, h1, rfl, h3, h4⟩) hq)
          · rw [if_neg (nI_ge (by omega) (by omega))]
            refine ih (j + 1) f (j + 1) (by omega) (by omega) (ybest_new (Or.inr ⟨k, h1, rfl, h3, h4⟩) ⟨h, hlt⟩ (fun k' q => ?_))
            have e : k' = k := by omega
            rw [e]
            omega
      · rw [if_pos (nI_le (by omega) (by omega))]
        exact ih (j + 1) f o (by omega) (by omega) (ybest_skip ho (fun q => hlt q.2))
    · rw [e, if_pos rfl]
      exact ih (j + 1) f o (by omega) (by omega) (ybest_skip ho (fun q => by have := q.1; omega))
/-- below a priority: the first rank that is lower -/
theorem y_hst (hY : yset U Z Q) (hZ : zset Z Q) (hK : zrk Z rk rn c) {n p r : Nat} (hn : 9 ≤ n) (hp : p < 2 ^ 31) (hr : r ≤ c) (h1 : ∀ r', r' < r → p ≤ Z 3 (rn r')) (h2 : r < c → Z 3 (rn r) < p) :
    j_Y_highest n U (nI p) = some (nI (if r < c then rn r + 1 else 0)) := by
  obtain ⟨hc8, hrn, hdesc, hall⟩ := hK
  obtain ⟨o, e, h⟩ := y_hst_L hY hZ n hp 8 0 n 0 (by omega) (by omega) (Or.inl ⟨rfl, fun i hi => absurd hi (Nat.not_lt_zero i)⟩)
  have ho : o = (if r < c then rn r + 1 else 0) := by
    rcases h with ⟨g1, g2⟩ | ⟨k, g1, g2, g3, g4⟩
    · rw [g1]
      by_cases e2 : r < c
      · exact absurd ⟨(hall _ (hrn r (by omega)).1).2.2.mpr (by rw [(hrn r (by omega)).2]; exact e2), h2 e2⟩ (g2 (rn r) (hrn r (by omega)).1)
      · rw [if_neg e2]
    · have hk := hall k g1
      have hkc := hk.2.2.mp g3.1
      have hge : r ≤ rk k := by
        by_cases e2 : r ≤ rk k
        · exact e2
        · have := h1 (rk k) (by omega)
          rw [hk.2.1] at this
          omega
      have hrc : r < c := by omega
      rw [if_pos hrc, g2]
      have hle := g4 (rn r) (hrn r (by omega)).1 ⟨(hall _ (hrn r (by omega)).1).2.2.mpr (by rw [(hrn r (by omega)).2]; exact hrc), h2 hrc⟩
      by_cases e2 : r = rk k
      · rw [e2, hk.2.1]
      · have := hdesc r (rk k) (by omega) hkc
        rw [hk.2.1] at this
        omega
  rw [← ho]
  exact e
theorem y_hst0 (hY : yset U Z Q) (hZ : zset Z Q) (hK : zrk Z rk rn c) {n : Nat} (hn : 9 ≤ n) : j_Y_highest n U 100 = some (nI (if 0 < c then rn 0 + 1 else 0)) := by
  have := hK.1
  refine y_hst (p := 100) hY hZ hK hn (by omega) (Nat.zero_le _) (fun r' h => absurd h (Nat.not_lt_zero r')) (fun h => ?_)
  have h1 := (hK.2.1 0 (by omega)).1
  have := ((hZ _ h1).2 ((hK.2.2.2 _ h1).2.2.mpr (by rw [(hK.2.1 0 (by omega)).2]; exact h))).2.2.2.2.1
  omega
theorem y_hst1 (hY : yset U Z Q) (hZ : zset Z Q) (hK : zrk Z rk rn c) {n r : Nat} (hn : 9 ≤ n) (hr : r < c) : j_Y_highest n U (nI (Z 3 (rn r))) = some (nI (if r + 1 < c then rn (r + 1) + 1 else 0)) := by
  have hc := hK.1
  have h1 := (hK.2.1 r (by omega)).1
  have hp := ((hZ _ h1).2 ((hK.2.2.2 _ h1).2.2.mpr (by rw [(hK.2.1 r (by omega)).2]; exact hr))).2.2.2.2.1
  refine y_hst hY hZ hK hn (by omega) (by omega) (fun r' h => ?_) (fun h => hK.2.2.1 r (r + 1) (by omega) h)
  by_cases e : r' = r
  · rw [e]; exact Nat.le_refl _
  · exact Nat.le_of_lt (hK.2.2.1 r' r (by omega) hr)
end Y
