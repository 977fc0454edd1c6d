/-! PURE: how much blocking is borne -/
theorem ks_first_spec {p : Nat → Bool} : ∀ (f t : Nat), t ≤ ks_first p f t ∧ (∀ u, t ≤ u → u < ks_first p f t → p u = true) ∧ (ks_first p f t < t + f → p (ks_first p f t) = false) ∧ ks_first p f t ≤ t + f
  | 0, t => ⟨Nat.le_refl _, fun u h1 h2 => absurd h2 (by show ¬ u < t; omega), fun h => absurd h (by show ¬ t < t + 0; omega), Nat.le_refl _⟩
  | f + 1, t => by
    unfold ks_first
    by_cases e : p t = true
    · rw [if_pos e]
      obtain ⟨a, b, c, d⟩ := ks_first_spec (p := p) f (t + 1)
      refine ⟨by omega, fun u h1 h2 => ?_, fun h => c (by omega), by omega⟩
      by_cases e2 : u = t
      · subst e2; exact e
      · exact b u (by omega) h2
    · rw [if_neg e]
      exact ⟨Nat.le_refl _, fun u h1 h2 => by omega, fun _ => by simpa using e, by omega⟩
section N
variable {Z Q : Nat → Nat → Nat} {x : Nat}
theorem zb_iff {B : Nat} : zbears Z Q x B = true ↔ (zbz Z x B ≤ 20000 ∧ (zw Z Q x B).1 ≤ Z 2 x) := by unfold zbears; exact decide_eq_true_iff
theorem zb_mono (hZ : zset Z Q) (hR : zrdy Z) (hx : x < 8) (hu : Z 0 x = 1) {B B2 : Nat} (h : B ≤ B2) (hb : zbears Z Q x B2 = true) : zbears Z Q x B = true :=
  zb_iff.mpr (sp_bears_mono (z_ak hZ hR hx hu) h (zb_iff.mp hb))
theorem zb_work (hZ : zset Z Q) (hR : zrdy Z) (hx : x < 8) (hu : Z 0 x = 1) {B : Nat} (hb : zbears Z Q x B = true) : B + Z 5 x ≤ Z 2 x := sp_bears_work (z_ak hZ hR hx hu) (zb_iff.mp hb)
theorem zb_gr (hZ : zset Z Q) (hR : zrdy Z) (hx : x < 8) (hu : Z 0 x = 1) {B : Nat} : zgr Z Q x B ≤ Z 2 x ↔ zbears Z Q x B = true := by
  rw [zb_iff]
  have hL := (hZ x hx).2 hu
  by_cases h : 20000 < zbz Z x B
  · rw [(z_gr hZ hR hx hu).1 h]
    exact ⟨fun q => by omega, fun q => by omega⟩
  · rw [((z_gr hZ hR hx hu).2 h).1]
    exact ⟨fun q => ⟨by omega, q⟩, fun q => q.2⟩
theorem zb_no (hZ : zset Z Q) (hR : zrdy Z) (hx : x < 8) (hu : Z 0 x = 1) : zbears Z Q x (Z 2 x + 1 - Z 5 x) = false := by
  cases h : zbears Z Q x (Z 2 x + 1 - Z 5 x) with
  | false => rfl
  | true => have := zb_work hZ hR hx hu h; omega
/-- the first blocking that is not borne is just that -/
theorem zto_eq (hZ : zset Z Q) (hR : zrdy Z) (hx : x < 8) (hu : Z 0 x = 1) {b : Nat} (h1 : ∀ B, B < b → zbears Z Q x B = true) (h2 : zbears Z Q x b = false) : zto Z Q x = b := by
  obtain ⟨a1, a2, a3, a4⟩ := ks_first_spec (p := zbears Z Q x) (Z 2 x + 1) 0
  unfold zto
  by_cases e : b < ks_first (zbears Z Q x) (Z 2 x + 1) 0
  · have := a2 b (Nat.zero_le _) e
    rw [h2] at this; cases this
  · by_cases e2 : ks_first (zbears Z Q x) (Z 2 x + 1) 0 < b
    · have g := h1 _ e2
      by_cases e3 : ks_first (zbears Z Q x) (Z 2 x + 1) 0 < 0 + (Z 2 x + 1)
      · rw [a3 e3] at g; cases g
      · have := zb_work hZ hR hx hu g; omega
    · omega
end N
section X
variable {M : MX} {Z Q : Nat → Nat → Nat} {rk rn : Nat → Nat} {c : Nat}
theorem x_tol_L (hX : xset M Z Q rk rn c) (hZ : zset Z Q) (hR : zrdy Z) {x n : Nat} (hx : x < 8) (hu : Z 0 x = 1) (hn : 20002 ≤ n) : ∀ (k b r v f : Nat) (N : MX), r - b < 2 ^ k → v + k ≤ 64 → k < f → b ≤ r → r ≤ 8001 → (∀ B, B < b → zbears Z Q x B = true) → zbears Z Q x r = false → xsm M N →
    ∃ N', j_A_greatestBorne_L21 n (fin8 x) f (nI b - 1) (nI r) (nI v) N = some (nI (zto Z Q x) - 1, N') ∧ xsm M N' := by
  have hL := (hZ x hx).2 hu
  have hd : ∀ {b r : Nat}, b ≤ r → r ≤ 8001 → nI r - (nI b - 1) = nI (r - b + 1) := by
    intro b r h1 h2
    apply Int32.toInt_inj.mp
    have e1 : (1 : Int32).toInt = 1 := rfl
    have e0 : (nI b - 1).toInt = (b : Int) - 1 := by
      rw [i3_sub (by rw [nI_toInt (by omega), e1]; omega) (by rw [nI_toInt (by omega), e1]; omega), nI_toInt (by omega), e1]
    rw [i3_sub (by rw [nI_toInt (by omega), e0]; omega) (by rw [nI_toInt (by omega), e0]; omega), e0, nI_toInt (by omega), nI_toInt (by omega)]
    omega
  intro k
  induction k with
  | zero =>
    intro b r v f N hk hv hf hb hr h1 h2 hs
    obtain ⟨f, rfl⟩ : ∃ g, f = g + 1 := ⟨f - 1, by omega⟩
    have e : b = r := by omega
    subst e
    refine ⟨N, ?_, hs⟩
    rw [zto_eq hZ hR hx hu h1 h2]
    unfold j_A_greatestBorne_L21
    rw [hd (Nat.le_refl b) hr, if_pos (show nI (b - b + 1) ≤ 1 from by rw [Nat.sub_self]; decide)]
    split <;> rfl
  | succ k ih =>
    intro b r v f N hk hv hf hb hr h1 h2 hs
    obtain ⟨f, rfl⟩ : ∃ g, f = g + 1 := ⟨f - 1, by omega⟩
    unfold j_A_greatestBorne_L21
    rw [if_neg (show ¬ 64 ≤ nI v from nI_ge (b := 64) (by omega) (by omega)), hd hb hr]
    by_cases e : b = r
    · subst e
      rw [if_pos (show nI (b - b + 1) ≤ 1 from by rw [Nat.sub_self]; decide)]
      refine ⟨N, ?_, hs⟩
      rw [zto_eq hZ hR hx hu h1 h2]
    · rw [if_neg (show ¬ nI (r - b + 1) ≤ 1 from nI_ge (a := 1) (by omega) (by omega))]
      have hmid : (nI b - 1 + nI r) / 2 = nI ((b + r - 1) / 2) := by
        have e1 : nI b - 1 + nI r = nI (b + r - 1) := by
          rw [Int32.sub_eq_add_neg, Int32.add_assoc, Int32.add_comm (-1) (nI r), ← Int32.add_assoc, nI_add, ← Int32.sub_eq_add_neg, show (1 : Int32) = nI 1 from rfl, nI_sub (by omega)]
        rw [e1, show (2 : Int32) = nI 2 from rfl, nI_div (by omega) (by omega)]
      rw [hmid]
      have hXN := hX.sm hs
      obtain ⟨N1, e1, s1, -, -⟩ := x_gw hXN hZ hR hx hu (show (b + r - 1) / 2 ≤ 10000 by omega) hn
      have hX1 := hXN.sm s1
      have hgb := z_grb hZ hR hx hu (B := (b + r - 1) / 2)
      have hpow : 2 ^ (k + 1) = 2 * 2 ^ k := by rw [Nat.pow_succ, Nat.mul_comm]
      rw [e1, Option.bind_some]
      show ∃ N', (if N1.1 0 (fin8 x) 4 < nI (zgr Z Q x ((b + r - 1) / 2)) then j_A_greatestBorne_L21 n (fin8 x) f (nI b - 1) (nI ((b + r - 1) / 2)) (nI v + 1) N1 else j_A_greatestBorne_L21 n (fin8 x) f (nI ((b + r - 1) / 2)) (nI r) (nI v + 1) N1) = _ ∧ _
      rw [((hX1.2.2.2.2 _ hx).2.2.2.2.2 hu).2.1, nI_1]
      by_cases hb2 : zbears Z Q x ((b + r - 1) / 2) = true
      · have hle := (zb_gr hZ hR hx hu).mpr hb2
        rw [if_neg (nI_nlt hle (by omega)), show nI ((b + r - 1) / 2) = nI ((b + r - 1) / 2 + 1) - 1 from (nI_pred _).symm]
        exact ih ((b + r - 1) / 2 + 1) r (v + 1) f N1 (by omega) (by omega) (by omega) (by omega) hr (fun B hB => zb_mono hZ hR hx hu (by omega) hb2) h2 (hs.trans s1)
      · have hlt : Z 2 x < zgr Z Q x ((b + r - 1) / 2) := Nat.not_le.mp (fun q => hb2 ((zb_gr hZ hR hx hu).mp q))
        rw [if_pos (nI_lt hlt hgb)]
        exact ih b ((b + r - 1) / 2) (v + 1) f N1 (by omega) (by omega) (by omega) (by omega) (by omega) h1 (by simpa using hb2) (hs.trans s1)
theorem x_tol (hX : xset M Z Q rk rn c) (hZ : zset Z Q) (hR : zrdy Z) {x n : Nat} (hx : x < 8) (hu : Z 0 x = 1) (hn : 20002 ≤ n) : ∃ N', j_A_greatestBorne n M (fin8 x) = some (nI (zto Z Q x) - 1, N') ∧ xsm M N' := by
  have hL := (hZ x hx).2 hu
  have hW := z_W hZ hx hu
  have hf := (hX.2.2.2.2 _ hx).2.2.2.2.2 hu
  have e : (if 0 < nI (Z 2 x) - nI (Z 5 x) + 1 then nI (Z 2 x) - nI (Z 5 x) + 1 else 0) = nI (Z 2 x + 1 - Z 5 x) := by
    by_cases h : Z 5 x ≤ Z 2 x
    · rw [nI_sub h, nI_1, if_pos (show 0 < nI (Z 2 x - Z 5 x + 1) from nI_lt (a := 0) (by omega) (by omega)), show Z 2 x - Z 5 x + 1 = Z 2 x + 1 - Z 5 x by omega]
    · have e1 : (1 : Int32).toInt = 1 := rfl
      have hn : ¬ 0 < nI (Z 2 x) - nI (Z 5 x) + 1 := fun q => by
        have q1 := Int32.lt_iff_toInt_lt.mp q
        have e2 : (nI (Z 2 x) - nI (Z 5 x)).toInt = (Z 2 x : Int) - Z 5 x := by rw [i3_sub (by rw [nI_toInt (by omega), nI_toInt (by omega)]; omega) (by rw [nI_toInt (by omega), nI_toInt (by omega)]; omega), nI_toInt (by omega), nI_toInt (by omega)]
        have e3 : (nI (Z 2 x) - nI (Z 5 x) + 1).toInt = (Z 2 x : Int) - Z 5 x + 1 := by
          rw [Int32.toInt_add, e2, e1]
          exact Int.bmod_eq_of_le (by omega) (by omega)
        rw [e3] at q1
        have e0 : (0 : Int32).toInt = 0 := rfl
        omega
      rw [if_neg hn, show Z 2 x + 1 - Z 5 x = 0 by omega]
      rfl
  unfold j_A_greatestBorne
  rw [hf.2.1, hf.2.2.2.2.1, e]
  exact x_tol_L hX hZ hR hx hu hn 14 0 (Z 2 x + 1 - Z 5 x) 0 n M (by omega) (by omega) (by omega) (Nat.zero_le _) (by omega) (fun B h => absurd h (Nat.not_lt_zero B)) (zb_no hZ hR hx hu) xsm.rf
theorem nI_m1_ne2 {k : Nat} (hk : k < 2 ^ 31) : ¬ nI k - 1 = -2 := fun q => by
  have e1 : (1 : Int32).toInt = 1 := rfl
  have h1 := congrArg Int32.toInt q
  rw [i3_sub (by rw [nI_toInt hk, e1]; omega) (by rw [nI_toInt hk, e1]; omega), nI_toInt hk, e1] at h1
  have h2 : (-2 : Int32).toInt = -2 := by decide +kernel
  omega
theorem x_bear (hX : xset M Z Q rk rn c) (hZ : zset Z Q) (hR : zrdy Z) (hC : xch M Z Q) {x n : Nat} (hx : x < 8) (hu : Z 0 x = 1) (hn : 20002 ≤ n) : ∃ M', j_A_bearableBy n M (fin8 x) = some (nI (zto Z Q x) - 1, M') ∧ xsk M M' ∧ xch M' Z Q := by
  unfold j_A_bearableBy
  by_cases h : M.1 0 (fin8 x) 12 = -2
  · obtain ⟨N, e, hs⟩ := x_tol hX hZ hR hx hu hn
    rw [if_pos h, e, Option.bind_some]
    refine ⟨sF N 0 (fin8 x) 12 (nI (zto Z Q x) - 1), ?_, hs.sk.sF (fin8 x) _ (by omega), fun i hi hui => ?_⟩
    · show some ((sF N 0 (fin8 x) 12 (nI (zto Z Q x) - 1)).1 0 (fin8 x) 12, _) = _
      rw [sF_at]
    · by_cases e2 : i = x
      · subst e2
        refine ⟨?_, Or.inr ⟨hR, sF_at⟩⟩
        have hc := (hC i hi hui).1
        unfold xch1 at hc ⊢
        rw [sF_k (by decide), sF_k (by decide), sF_k (by decide), hs.1]
        exact hc
      · have ne := fin8_ne hi hx e2
        have hc := hC i hi hui
        unfold xch1 xch2 at hc ⊢
        rw [sF_x ne, sF_x ne, sF_x ne, sF_x ne, hs.1]
        exact hc
  · rw [if_neg h]
    rcases (hC x hx hu).2 with hc | ⟨-, h1⟩
    · exact absurd hc h
    · exact ⟨M, by rw [h1], xsk.rf, hC⟩
end X
section Y
variable {Z Q : Nat → Nat → Nat}
theorem y_tol_L (hZ : zset Z Q) (hR : zrdy Z) {x n : Nat} (hx : x < 8) (hu : Z 0 x = 1) (hn : 20003 ≤ n) : ∀ (k b f : Nat) (U : MY), Z 2 x + 1 - b ≤ k → k + 1 < f → b ≤ Z 2 x → (∀ B, B < b → zbears Z Q x B = true) → yset U Z Q →
    ∃ U', j_Y_tolerates_L4 n (nI (x + 1)) f (nI b) 1 U = some (nI (zto Z Q x) - 1, U') ∧ ysm U U' := by
  have hL := (hZ x hx).2 hu
  intro k
  induction k with
  | zero => intro b f U h1 h2 h3; omega
  | succ k ih =>
    intro b f U h1 h2 h3 h4 hY
    obtain ⟨f, rfl⟩ : ∃ g, f = g + 1 := ⟨f - 1, by omega⟩
    obtain ⟨U1, e1, s1, g1, g2⟩ := y_go hY hZ hR hx hu (show b ≤ 10000 by omega) hn
    have hY1 := hY.sm s1
    have hstop : zbears Z Q x b = false → ∃ U', j_Y_tolerates_L4 n (nI (x + 1)) f (nI b) 0 U1 = some (nI (zto Z Q x) - 1, U') ∧ ysm U U' := by
      intro hb
      obtain ⟨f', rfl⟩ : ∃ g, f = g + 1 := ⟨f - 1, by omega⟩
      refine ⟨U1, ?_, s1⟩
      rw [zto_eq hZ hR hx hu h4 hb]
      unfold j_Y_tolerates_L4
      rw [if_pos rfl]
    unfold j_Y_tolerates_L4
    simp only [if_pos (y_in hx)]
    rw [if_neg (by decide), nI_clamp (show x + 1 < 2 ^ 31 by omega), ((hY x hx).2 hu).2.1, if_neg (nI_nlt h3 (by omega)), e1, Option.bind_some, ((hY1 x hx).2 hu).2.1, nI_1]
    by_cases hz : zbz Z x b ≤ 20000
    · obtain ⟨w0, w1, -, -⟩ := g1 hz
      obtain ⟨-, b2⟩ := (z_gr hZ hR hx hu (B := b)).2 (by omega)
      rw [w0, if_pos rfl, w1]
      by_cases hle : (zw Z Q x b).1 ≤ Z 2 x
      · have hb : zbears Z Q x b = true := zb_iff.mpr ⟨hz, hle⟩
        have hw := zb_work hZ hR hx hu hb
        have hW1 : 1 ≤ Z 5 x := by
          have := hR.2 x hx hu
          have h7 := hL.2.2.2.2.2.2.1
          have := ks_sum_ge (Z 4 x) h7
          omega
        rw [if_neg (nI_nlt hle (by omega))]
        obtain ⟨U2, e2, s2⟩ := ih (b + 1) f U1 (by omega) (by omega) (by omega) (fun B hB => by
          by_cases e : B = b
          · rw [e]; exact hb
          · exact h4 B (by omega)) hY1
        exact ⟨U2, e2, s1.trans s2⟩
      · have hb : zbears Z Q x b = false := by
          cases h : zbears Z Q x b with
          | false => rfl
          | true => exact absurd (zb_iff.mp h).2 hle
        rw [if_pos (nI_lt (by omega) (by omega))]
        exact hstop hb
    · have hb : zbears Z Q x b = false := by
        cases h : zbears Z Q x b with
        | false => rfl
        | true => exact absurd (zb_iff.mp h).1 hz
      rw [g2 hz, if_neg (by decide)]
      exact hstop hb
theorem y_tol {U : MY} (hY : yset U Z Q) (hZ : zset Z Q) (hR : zrdy Z) {x n : Nat} (hx : x < 8) (hu : Z 0 x = 1) (hn : 20003 ≤ n) : ∃ U', j_Y_tolerates n U (nI (x + 1)) = some (nI (zto Z Q x) - 1, U') ∧ ysm U U' := by
  have hL := (hZ x hx).2 hu
  exact y_tol_L hZ hR hx hu hn (Z 2 x + 1) 0 n U (by omega) (by omega) (Nat.zero_le _) (fun B h => absurd h (Nat.not_lt_zero B)) hY
end Y
