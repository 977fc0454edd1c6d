/-! PURE: the scenario in the reference, run through; and both -/
section Y
variable {U : MY} {Z Q : Nat → Nat → Nat} {rk rn : Nat → Nat} {c : Nat}
set_option maxHeartbeats 2000000 in
theorem y_sc_in (hY : yset U Z Q) (hZ : zset Z Q) (hK : zrk Z rk rn c) {x n cr p t n0 : Nat} (hx : x < 8) (hu : Z 0 x = 1) (hn : 9 ≤ n) (h12 : U.2 12 = nI cr) (hcr : cr < 2 ^ 30) (hp : n0 + p < 2 ^ 31) (ht : t < 2 ^ 30) (hcb : n0 + (zct Z rn (rk x) cr t + 8) < 2 ^ 30) (a3 z4 z5 z6 z8 : Int32) (kk : Int32 → Int32 → MY → Option (Int32 × MY)) : ∀ (k r f : Nat), r + k = rk x + 1 → k < f →
    (∀ r0, r ≤ r0 → zhit Z rn (rk x) cr p t r0 → j_Y_scenario_L193 n (nI (x + 1)) (nI (n0 + p)) a3 z4 z5 z6 z8 (nI t) kk f (nI (n0 + (zct Z rn (rk x) cr t + ks_sum (zin Z rn (rk x) cr t) r))) (nI (if r < c then rn r + 1 else 0)) U = some (if a3 = 0 then z5 + nI t else nI (rn r0 + 1), U)) ∧
    ((∀ r0, r ≤ r0 → ¬ zhit Z rn (rk x) cr p t r0) → j_Y_scenario_L193 n (nI (x + 1)) (nI (n0 + p)) a3 z4 z5 z6 z8 (nI t) kk f (nI (n0 + (zct Z rn (rk x) cr t + ks_sum (zin Z rn (rk x) cr t) r))) (nI (if r < c then rn r + 1 else 0)) U = kk (nI (n0 + (zct Z rn (rk x) cr t + ks_sum (zin Z rn (rk x) cr t) (rk x + 1)))) (nI t + 1) U) := by
  have hc8 := hK.1
  have hKx := hK.2.2.2 x hx
  have hrx : rk x < c := hKx.2.2.mp hu
  have hrn : rn (rk x) = x := hKx.2.1
  have hsb : ∀ m, m ≤ 8 → ks_sum (zin Z rn (rk x) cr t) m ≤ m := by
    intro m
    induction m with
    | zero => intro _; exact Nat.le_refl _
    | succ m ih =>
      intro hm
      rw [ks_sum_succ]
      have := ih (by omega)
      have := zin_le (Z := Z) (rn := rn) (R := rk x) (cr := cr) (t := t) (r := m)
      omega
  have hpx := ((hZ _ hx).2 hu).2.2.2.2.1
  intro k
  induction k with
  | zero =>
    intro r f hr hf
    obtain ⟨f, rfl⟩ : ∃ g, f = g + 1 := ⟨f - 1, by omega⟩
    have er : r = rk x + 1 := by omega
    refine ⟨fun r0 h1 h2 => absurd h2.1 (by omega), fun _ => ?_⟩
    rw [j_Y_scenario_L193, ← er]
    by_cases e : r < c
    · have h1 := (hK.2.1 r (by omega)).1
      have h2 : Z 0 (rn r) = 1 := (hK.2.2.2 _ h1).2.2.mpr (by rw [(hK.2.1 r (by omega)).2]; exact e)
      have hlt := hK.2.2.1 (rk x) r (by omega) e
      rw [hrn] at hlt
      rw [if_pos e, if_neg (nI_ne0 (by omega) (by omega)), if_pos (y_in h1), if_pos (y_in hx), nI_clamp (show rn r + 1 < 2 ^ 31 by omega), nI_clamp (show x + 1 < 2 ^ 31 by omega), ((hY _ h1).2 h2).2.2.1, ((hY _ hx).2 hu).2.2.1, if_pos (nI_lt hlt (by omega))]
    · rw [if_neg e, if_pos (show nI 0 = 0 from rfl)]
  | succ k ih =>
    intro r f hr hf
    obtain ⟨f, rfl⟩ : ∃ g, f = g + 1 := ⟨f - 1, by omega⟩
    have hrc : r < c := by omega
    have h1 := (hK.2.1 r (by omega)).1
    have hrk : rk (rn r) = r := (hK.2.1 r (by omega)).2
    have h2 : Z 0 (rn r) = 1 := (hK.2.2.2 _ h1).2.2.mpr (by rw [hrk]; exact hrc)
    have hz := (hZ _ h1).2 h2
    have hge : Z 3 x ≤ Z 3 (rn r) := by
      by_cases e : r = rk x
      · rw [e, hrn]; exact Nat.le_refl _
      · have := hK.2.2.1 r (rk x) (by omega) hrx
        rw [hrn] at this
        omega
    obtain ⟨i1, i2⟩ := ih (r + 1) f (by omega) (by omega)
    have hsr := hsb r (by omega)
    have hfr := (hY _ h1).2 h2
    have hnx := y_hst1 hY hZ hK hn hrc
    have hzin := zin_le (Z := Z) (rn := rn) (R := rk x) (cr := cr) (t := t) (r := r)
    -- it arrives not: on to the next rank
    have key0 : zin Z rn (rk x) cr t r = 0 → (∀ r0, r ≤ r0 → zhit Z rn (rk x) cr p t r0 → j_Y_scenario_L193 n (nI (x + 1)) (nI (n0 + p)) a3 z4 z5 z6 z8 (nI t) kk f (nI (n0 + (zct Z rn (rk x) cr t + ks_sum (zin Z rn (rk x) cr t) r))) (nI (if r + 1 < c then rn (r + 1) + 1 else 0)) U = some (if a3 = 0 then z5 + nI t else nI (rn r0 + 1), U)) ∧
        ((∀ r0, r ≤ r0 → ¬ zhit Z rn (rk x) cr p t r0) → j_Y_scenario_L193 n (nI (x + 1)) (nI (n0 + p)) a3 z4 z5 z6 z8 (nI t) kk f (nI (n0 + (zct Z rn (rk x) cr t + ks_sum (zin Z rn (rk x) cr t) r))) (nI (if r + 1 < c then rn (r + 1) + 1 else 0)) U = kk (nI (n0 + (zct Z rn (rk x) cr t + ks_sum (zin Z rn (rk x) cr t) (rk x + 1)))) (nI t + 1) U) := by
      intro h0
      rw [ks_sum_succ, h0, Nat.add_zero] at i1 i2
      refine ⟨fun r0 g1 g2 => i1 r0 ?_ g2, fun g => i2 (fun r0 g1 => g r0 (by omega))⟩
      by_cases e : r0 = r
      · subst e
        have := g2.2.1
        omega
      · omega
    -- it arrives
    have key1 : zin Z rn (rk x) cr t r = 1 → (∀ r0, r ≤ r0 → zhit Z rn (rk x) cr p t r0 → (if nI (n0 + (zct Z rn (rk x) cr t + ks_sum (zin Z rn (rk x) cr t) r)) = nI (n0 + p) then (if a3 = 0 then some (z5 + nI t, U) else some (nI (rn r + 1), U)) else j_Y_scenario_L193 n (nI (x + 1)) (nI (n0 + p)) a3 z4 z5 z6 z8 (nI t) kk f (nI (n0 + (zct Z rn (rk x) cr t + ks_sum (zin Z rn (rk x) cr t) r)) + 1) (nI (if r + 1 < c then rn (r + 1) + 1 else 0)) U) = some (if a3 = 0 then z5 + nI t else nI (rn r0 + 1), U)) ∧
        ((∀ r0, r ≤ r0 → ¬ zhit Z rn (rk x) cr p t r0) → (if nI (n0 + (zct Z rn (rk x) cr t + ks_sum (zin Z rn (rk x) cr t) r)) = nI (n0 + p) then (if a3 = 0 then some (z5 + nI t, U) else some (nI (rn r + 1), U)) else j_Y_scenario_L193 n (nI (x + 1)) (nI (n0 + p)) a3 z4 z5 z6 z8 (nI t) kk f (nI (n0 + (zct Z rn (rk x) cr t + ks_sum (zin Z rn (rk x) cr t) r)) + 1) (nI (if r + 1 < c then rn (r + 1) + 1 else 0)) U) = kk (nI (n0 + (zct Z rn (rk x) cr t + ks_sum (zin Z rn (rk x) cr t) (rk x + 1)))) (nI t + 1) U) := by
      intro h0
      rw [ks_sum_succ, h0] at i1 i2
      by_cases e : zct Z rn (rk x) cr t + ks_sum (zin Z rn (rk x) cr t) r = p
      · rw [e, if_pos rfl]
        have hhit : zhit Z rn (rk x) cr p t r := ⟨by omega, h0, e⟩
        refine ⟨fun r0 g1 g2 => ?_, fun g => absurd hhit (g r (Nat.le_refl r))⟩
        have er0 : r0 = r := by
          by_cases e2 : r0 = r
          · exact e2
          · have hm : ks_sum (zin Z rn (rk x) cr t) (r + 1) ≤ ks_sum (zin Z rn (rk x) cr t) r0 := ks_sum_mono (by omega)
            rw [ks_sum_succ, h0] at hm
            have := g2.2.2
            omega
        rw [er0]
        split <;> rfl
      · rw [if_neg (nI_ne (by omega) (by omega) hp), nI_1, Nat.add_assoc, Nat.add_assoc]
        refine ⟨fun r0 g1 g2 => i1 r0 ?_ g2, fun g => i2 (fun r0 g1 => g r0 (by omega))⟩
        by_cases e2 : r0 = r
        · subst e2
          exact absurd g2.2.2 e
        · omega
    rw [j_Y_scenario_L193, if_pos hrc, if_neg (nI_ne0 (by omega) (by omega))]
    simp only [if_pos (y_in h1), if_pos (y_in hx)]
    rw [nI_clamp (show rn r + 1 < 2 ^ 31 by omega), nI_clamp (show x + 1 < 2 ^ 31 by omega), hfr.2.2.1, ((hY _ hx).2 hu).2.2.1, if_neg (nI_nlt hge (by omega)), hfr.1, hnx]
    simp only [Option.bind_some, if_pos (nI_ne0 (show 0 < Z 1 (rn r) by omega) (show Z 1 (rn r) < 2 ^ 31 by omega))]
    rw [nI_rem (by omega) (by omega), nI_div (by omega) (by omega), h12]
    have hml := Nat.mod_lt t (show 0 < Z 1 (rn r) by omega)
    by_cases em : t % Z 1 (rn r) = 0
    · rw [if_pos (by rw [em]; rfl)]
      by_cases er : r = rk x
      · have hne : nI (rn r + 1) = nI (x + 1) := by rw [er, hrn]
        have hdl := Nat.div_le_self t (Z 1 (rn r))
        rw [if_pos hne]
        by_cases ec : t / Z 1 (rn r) ≤ cr
        · rw [if_pos (nI_le ec (by omega))]
          exact key1 (by unfold zin; rw [if_pos ⟨em, fun _ => ec⟩])
        · rw [if_neg (nI_ge (by omega) (by omega))]
          exact key0 (by unfold zin; rw [if_neg (fun q => ec (q.2 er))])
      · have hne : ¬ nI (rn r + 1) = nI (x + 1) := nI_ne (fun q => er (by rw [← hrk, show rn r = x by omega])) (by omega) (by omega)
        rw [if_neg hne]
        exact key1 (by unfold zin; rw [if_pos ⟨em, fun q => absurd q er⟩])
    · rw [if_neg (nI_ne0 (by omega) (by omega))]
      exact key0 (by unfold zin; rw [if_neg (fun q => em q.1)])
theorem y_sc_L (hY : yset U Z Q) (hZ : zset Z Q) (hK : zrk Z rk rn c) {x n cr p n0 S : Nat} (hx : x < 8) (hu : Z 0 x = 1) (hn : 20 ≤ n) (h12 : U.2 12 = nI cr) (hcr : cr < 2 ^ 30) (hp : n0 + p < 2 ^ 31) (hS : S ≤ 50000) (hn0 : n0 ≤ 1) (hct : ∀ T, T ≤ 60000 → zct Z rn (rk x) cr T ≤ 600000) (a3 z4 z5 z6 : Int32) : ∀ (k t f : Nat), t + k = S → k < f →
    (∀ t0 r0, t ≤ t0 → t0 < S → zhit Z rn (rk x) cr p t0 r0 → j_Y_scenario_L178 n (nI (x + 1)) (nI (n0 + p)) a3 z4 z5 z6 (nI S) f (nI (n0 + zct Z rn (rk x) cr t)) (nI t) U = some (if a3 = 0 then z5 + nI t0 else nI (rn r0 + 1), U)) ∧
    (zct Z rn (rk x) cr S ≤ p → j_Y_scenario_L178 n (nI (x + 1)) (nI (n0 + p)) a3 z4 z5 z6 (nI S) f (nI (n0 + zct Z rn (rk x) cr t)) (nI t) U = some (-1, U)) := by
  have hc8 := hK.1
  have hKx := hK.2.2.2 x hx
  have hrx : rk x < c := hKx.2.2.mp hu
  have hD : ∀ r, r ≤ rk x → 0 < Z 1 (rn r) := fun r hr => by
    have h1 := (hK.2.1 r (by omega)).1
    exact ((hZ _ h1).2 ((hK.2.2.2 _ h1).2.2.mpr (by rw [(hK.2.1 r (by omega)).2]; omega))).1
  intro k
  induction k with
  | zero =>
    intro t f ht hf
    obtain ⟨f, rfl⟩ : ∃ g, f = g + 1 := ⟨f - 1, by omega⟩
    refine ⟨fun t0 r0 h1 h2 => by omega, fun _ => ?_⟩
    rw [j_Y_scenario_L178, if_pos (nI_le (by omega) (by omega))]
  | succ k ih =>
    intro t f ht hf
    obtain ⟨f, rfl⟩ : ∃ g, f = g + 1 := ⟨f - 1, by omega⟩
    obtain ⟨i1, i2⟩ := ih (t + 1) f (by omega) (by omega)
    have hcb := hct t (by omega)
    obtain ⟨a1, a2⟩ := y_sc_in hY hZ hK (p := p) (t := t) (n0 := n0) hx hu (show 9 ≤ n by omega) h12 hcr hp (by omega) (by omega) a3 z4 z5 z6 (nI S) (fun k0 k1 k2 => j_Y_scenario_L178 n (nI (x + 1)) (nI (n0 + p)) a3 z4 z5 z6 (nI S) f k0 k1 k2) (rk x + 1) 0 n (by omega) (by omega)
    have e0 : zct Z rn (rk x) cr t + ks_sum (zin Z rn (rk x) cr t) 0 = zct Z rn (rk x) cr t := rfl
    rw [e0] at a1 a2
    rw [j_Y_scenario_L178, if_neg (nI_ge (by omega) (by omega)), y_hst0 hY hZ hK (by omega), Option.bind_some]
    by_cases hex : ∃ r0, zhit Z rn (rk x) cr p t r0
    · obtain ⟨r0, h0⟩ := hex
      have hb := zhit_t hD h0
      refine ⟨fun t1 r1 g1 g2 g3 => ?_, fun g => ?_⟩
      · have hb1 := zhit_t hD g3
        have et : t1 = t := by
          by_cases e : t1 = t
          · exact e
          · have := zct_mono (cr := cr) hD (show t + 1 ≤ t1 by omega); omega
        subst et
        exact a1 r1 (Nat.zero_le _) g3
      · have := zct_mono (cr := cr) hD (show t + 1 ≤ S by omega); omega
    · have hno : ∀ r0, 0 ≤ r0 → ¬ zhit Z rn (rk x) cr p t r0 := fun r0 _ g => hex ⟨r0, g⟩
      rw [a2 hno, ← zct_succ hD, nI_1]
      refine ⟨fun t1 r1 g1 g2 g3 => i1 t1 r1 ?_ g2 g3, i2⟩
      by_cases e : t1 = t
      · subst e; exact absurd g3 (fun q => hex ⟨r1, q⟩)
      · omega
end Y
