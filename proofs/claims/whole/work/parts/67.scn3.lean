/-! PURE: the scenario: the blocker, and both answers -/
theorem least_of {p : Nat → Prop} : ∀ n, p n → ∃ m, m ≤ n ∧ p m ∧ ∀ k, k < m → ¬ p k := by
  intro n
  induction n using Nat.strongRecOn with
  | ind n ih =>
    intro h
    by_cases e : ∃ k, k < n ∧ p k
    · obtain ⟨k, h1, h2⟩ := e
      obtain ⟨m, g1, g2, g3⟩ := ih k h1 h2
      exact ⟨m, by omega, g2, g3⟩
    · exact ⟨n, Nat.le_refl n, h, fun k hk hp => e ⟨k, hk, hp⟩⟩
section B
variable {M : MX} {U : MY} {Z Q : Nat → Nat → Nat} {rk rn : Nat → Nat} {c : Nat}
/-- the highest task below with the longest segment; the first such segment -/
theorem z_blk (hX : xset M Z Q rk rn c) {x : Nat} (hx : x < 8) (hu : Z 0 x = 1) (hb : 0 < zbl Z Q x) : ∃ rb kb, rk x < rb ∧ rb < c ∧ zlo Z Q (rn rb) = zlb Z Q x ∧ (∀ r, rk x < r → r < rb → zlo Z Q (rn r) ≠ zlb Z Q x) ∧ kb < Z 4 (rn rb) ∧ Q (rn rb) kb = zlb Z Q x ∧ ∀ q, q < kb → Q (rn rb) q ≠ zlb Z Q x := by
  have hpos : 0 < zlb Z Q x := by unfold zbl at hb; omega
  obtain ⟨i, hi, he⟩ := ks_max_ex (f := fun i => if Z 0 i = 1 ∧ Z 3 i < Z 3 x then zlo Z Q i else 0) 8 hpos
  have hc : Z 0 i = 1 ∧ Z 3 i < Z 3 x := by
    by_cases h : Z 0 i = 1 ∧ Z 3 i < Z 3 x
    · exact h
    · rw [if_neg h] at he
      have : (0 : Nat) = zlb Z Q x := he
      omega
  rw [if_pos hc] at he
  obtain ⟨g1, g2⟩ := x_use hX hi hc.1
  have hlt := (x_hi hX hx hi hu hc.1).mp hc.2
  obtain ⟨rb, b1, ⟨b2, b3, b4⟩, b5⟩ := least_of (p := fun r => rk x < r ∧ r < c ∧ zlo Z Q (rn r) = zlb Z Q x) (rk i) ⟨hlt, g1, by rw [g2]; exact he⟩
  have hpos2 : 0 < ks_max (Q (rn rb)) (Z 4 (rn rb)) := by
    have : ks_max (Q (rn rb)) (Z 4 (rn rb)) = zlb Z Q x := b4
    omega
  obtain ⟨q, hq1, hq2⟩ := ks_max_ex (f := Q (rn rb)) (Z 4 (rn rb)) hpos2
  obtain ⟨kb, d1, ⟨d2, d3⟩, d4⟩ := least_of (p := fun k => k < Z 4 (rn rb) ∧ Q (rn rb) k = zlb Z Q x) q ⟨hq1, hq2.trans b4⟩
  exact ⟨rb, kb, b2, b3, b4, fun r h1 h2 h3 => b5 r h2 ⟨h1, by omega, h3⟩, d2, d3, fun k h1 h2 => d4 k h1 ⟨by omega, h2⟩⟩
theorem x_hbw_L (hX : xset M Z Q rk rn c) (hZ : zset Z Q) {n len rb : Nat} (hn : 9 ≤ n) (hlen : len ≤ 8800) (x1 : Fin 8) (hrb : rb < c) (h0 : zlo Z Q (rn rb) = len) : ∀ (k r f : Nat), r + k = rb → k < f → (∀ r', r ≤ r' → r' < rb → zlo Z Q (rn r') ≠ len) → j_A_highestBelowWith_L7 n M x1 (nI len) f (nI r) = some (fin8 (rn rb)) := by
  have hc8 := hX.1
  intro k
  induction k with
  | zero =>
    intro r f hr hf hno
    obtain ⟨f, rfl⟩ : ∃ g, f = g + 1 := ⟨f - 1, by omega⟩
    have e : r = rb := by omega
    subst e
    obtain ⟨h1, h2, h3, h4⟩ := x_rn hX hrb
    unfold j_A_highestBelowWith_L7
    rw [hX.2.1, if_neg (nI_ge hrb (by omega)), if_pos (nI_in (by omega) (by omega)), nI_clamp (by omega), h4, x_lo hX hZ h1 h2 hn, Option.bind_some, h0, if_pos rfl, if_pos (by have := nI_in (c := r) (N := 8) (by omega) (by omega); rw [nI_clamp (by omega)] at this; exact this)]
  | succ k ih =>
    intro r f hr hf hno
    obtain ⟨f, rfl⟩ : ∃ g, f = g + 1 := ⟨f - 1, by omega⟩
    obtain ⟨h1, h2, h3, h4⟩ := x_rn hX (show r < c by omega)
    have hlo := z_lo hZ h1 h2
    unfold j_A_highestBelowWith_L7
    rw [hX.2.1, if_neg (nI_ge (by omega) (by omega)), if_pos (nI_in (by omega) (by omega)), nI_clamp (by omega), h4, x_lo hX hZ h1 h2 hn, Option.bind_some, if_neg (nI_ne (hno r (Nat.le_refl r) (by omega)) (by omega) (by omega)), nI_1]
    exact ih (r + 1) f (by omega) (by omega) (fun r' g1 g2 => hno r' (by omega) g2)
theorem x_wao_L (hX : xset M Z Q rk rn c) (hZ : zset Z Q) {n len y kb : Nat} (hlen : len ≤ 8800) (hy : y < 8) (hu : Z 0 y = 1) (hkb : kb < Z 4 y) (h0 : Q y kb = len) (hno : ∀ q, q < kb → Q y q ≠ len) : ∀ (k q f : Nat), q + k = kb → k < f → j_T_workAheadOf_L4 n M (fin8 y) (nI len) f (nI (ks_sum (Q y) q)) (nI q) = some (nI (ks_sum (Q y) kb)) := by
  have hf := (hX.2.2.2.2 _ hy).2.2.2.2.2 hu
  have hb := ((hZ _ hy).2 hu).2.2.2.2.2.1
  intro k
  induction k with
  | zero =>
    intro q f hq hf1
    obtain ⟨f, rfl⟩ : ∃ g, f = g + 1 := ⟨f - 1, by omega⟩
    have e : q = kb := by omega
    subst e
    unfold j_T_workAheadOf_L4
    rw [hf.2.2.2.1, if_neg (nI_ge (by omega) (by omega)), if_pos (nI_in (by omega) (by omega)), nI_clamp (by omega), hf.2.2.2.2.2 q (by omega), h0, if_pos rfl]
  | succ k ih =>
    intro q f hq hf1
    obtain ⟨f, rfl⟩ : ∃ g, f = g + 1 := ⟨f - 1, by omega⟩
    have hs := z_seg hZ hy hu (show q < Z 4 y by omega)
    have hin : ¬ (nI q < 0 ∨ 8 ≤ (nI q).toNatClampNeg) := nI_in (by omega) (by omega)
    unfold j_T_workAheadOf_L4
    simp only [if_pos hin]
    rw [hf.2.2.2.1, if_neg (nI_ge (by omega) (by omega)), nI_clamp (by omega), hf.2.2.2.2.2 q (by omega), if_neg (nI_ne (hno q (by omega)) (by omega) (by omega)), nI_add, nI_1]
    exact ih (q + 1) f (by omega) (by omega)
theorem y_sc55 (hY : yset U Z Q) (hZ : zset Z Q) (hK : zrk Z rk rn c) {n b rb : Nat} (hn : 9 ≤ n) (hb : b + 1 ≤ 8800) (hrb : rb < c) (h0 : zlo Z Q (rn rb) = b + 1) (a1 a2 a3 z5 : Int32) : ∀ (k r f : Nat), r + k = rb → k < f → (∀ r', r ≤ r' → r' < rb → zlo Z Q (rn r') ≠ b + 1) → j_Y_scenario_L55 n a1 a2 a3 (nI b) z5 f (nI (rn r + 1)) U = j_Y_scenario_L87 n a1 a2 a3 (nI b) z5 (nI (rn rb + 1)) n 0 U := by
  have hc8 := hK.1
  have use : ∀ r, r < c → rn r < 8 ∧ Z 0 (rn r) = 1 := fun r h => ⟨(hK.2.1 r (by omega)).1, (hK.2.2.2 _ (hK.2.1 r (by omega)).1).2.2.mpr (by rw [(hK.2.1 r (by omega)).2]; exact h)⟩
  intro k
  induction k with
  | zero =>
    intro r f hr hf hno
    obtain ⟨f, rfl⟩ : ∃ g, f = g + 1 := ⟨f - 1, by omega⟩
    have e : r = rb := by omega
    subst e
    rw [j_Y_scenario_L55, y_lo hY hZ (use r hrb).1 (use r hrb).2 hn, Option.bind_some, h0, nI_1, if_pos rfl]
  | succ k ih =>
    intro r f hr hf hno
    obtain ⟨f, rfl⟩ : ∃ g, f = g + 1 := ⟨f - 1, by omega⟩
    have hrc : r < c := by omega
    obtain ⟨h1, h2⟩ := use r hrc
    have hlo := z_lo hZ h1 h2
    rw [j_Y_scenario_L55, y_lo hY hZ h1 h2 hn, Option.bind_some, nI_1, if_neg (nI_ne (hno r (Nat.le_refl r) (by omega)) (by omega) (by omega)), if_pos (y_in h1), nI_clamp (show rn r + 1 < 2 ^ 31 by omega), ((hY _ h1).2 h2).2.2.1, y_hst1 hY hZ hK hn hrc, Option.bind_some, if_pos (show r + 1 < c by omega)]
    exact ih (r + 1) f (by omega) (by omega) (fun r' g1 g2 => hno r' (by omega) g2)
theorem y_sc87 (hY : yset U Z Q) (hZ : zset Z Q) {n b x y kb : Nat} (hn : 9 ≤ n) (hb0 : 0 < b) (hb : b + 1 ≤ 8800) (hx : x < 8) (hy : y < 8) (hu : Z 0 y = 1) (hkb : kb < Z 4 y) (h0 : Q y kb = b + 1) (hno : ∀ q, q < kb → Q y q ≠ b + 1) (a2 a3 z5 : Int32) : ∀ (k q f : Nat), q + k = kb → k < f →
    j_Y_scenario_L87 n (nI (x + 1)) a2 a3 (nI b) z5 (nI (y + 1)) f (nI q) U = (if a2 = 0 then (if a3 = 0 then some (0, U) else some (nI (y + 1), U)) else j_Y_scenario_L178 n (nI (x + 1)) a2 a3 (nI b) (1 + nI (ks_sum (Q y) kb)) (nI (y + 1)) ((U.2 12 * U.1 2 (x + 1)) + U.2 11) n 1 0 U) := by
  have hb8 := ((hZ _ hy).2 hu).2.2.2.2.2.1
  intro k
  induction k with
  | zero =>
    intro q f hq hf
    obtain ⟨f, rfl⟩ : ∃ g, f = g + 1 := ⟨f - 1, by omega⟩
    have e : q = kb := by omega
    subst e
    obtain ⟨e1, e2, e3⟩ := y_seg hy (show q < 8 by omega)
    rw [j_Y_scenario_L87, e1, if_pos e2, e3, ((hY y hy).2 hu).2.2.2.2 q hkb, h0, nI_1, if_pos rfl, y_wb hY hZ hy hu (by omega) hn, Option.bind_some, if_neg (nI_nle hb0 (by omega)), if_neg (nI_nle hb0 (by omega)), if_pos (y_in hx), nI_clamp (show x + 1 < 2 ^ 31 by omega)]
  | succ k ih =>
    intro q f hq hf
    obtain ⟨f, rfl⟩ : ∃ g, f = g + 1 := ⟨f - 1, by omega⟩
    obtain ⟨e1, e2, e3⟩ := y_seg hy (show q < 8 by omega)
    have hs := z_seg hZ hy hu (show q < Z 4 y by omega)
    rw [j_Y_scenario_L87, e1, if_pos e2, e3, ((hY y hy).2 hu).2.2.2.2 q (by omega), nI_1, if_neg (nI_ne (hno q (by omega)) (by omega) (by omega)), nI_1]
    exact ih (q + 1) f (by omega) (by omega)
/-- the reference, from the blocking on -/
def ysc (n : Nat) (U : MY) (a1 a2 a3 r_8 : Int32) : Option (Int32 × MY) :=
  if r_8 ≤ 0 then j_Y_scenario_L178 n a1 a2 a3 r_8 0 0 ((U.2 12 * U.1 2 a1.toNatClampNeg) + U.2 11) n 0 0 U
  else (j_Y_highest n U (U.1 4 a1.toNatClampNeg)).bind fun r_51 => j_Y_scenario_L55 n a1 a2 a3 r_8 0 n r_51 U
set_option maxHeartbeats 2000000 in
theorem sc_both (hX : xset M Z Q rk rn c) (hY : yset U Z Q) (hZ : zset Z Q) {x n cr w i : Nat} (hx : x < 8) (hu : Z 0 x = 1) (hn : 60000 ≤ n) (h9 : M.1 0 (fin8 x) 9 = nI w) (h10 : M.1 0 (fin8 x) 10 = nI cr) (h11 : U.2 11 = nI w) (h12 : U.2 12 = nI cr) (hcr : cr < 2 ^ 30) (hS1 : 1 ≤ w) (hS2 : cr * Z 1 x + w ≤ 50000) (hi : i < 2 ^ 31) {a3 b3 : Int32} (h3 : (a3 = 0 ∧ b3 = 1) ∨ (a3 = 1 ∧ b3 = 0)) :
    ∃ r, j_A_scenarioItem n M (fin8 x) (nI i) b3 = some r ∧ ysc n U (nI (x + 1)) (nI i) a3 (nI (zbl Z Q x)) = some (r, U) := by
  have hK := hX.rk
  have hc8 := hX.1
  obtain ⟨hrx, hrn⟩ := x_use hX hx hu
  have hD : ∀ r, r ≤ rk x → 0 < Z 1 (rn r) := fun r hr => by
    obtain ⟨h1, h2, -, -⟩ := x_rn hX (show r < c by omega)
    exact ((hZ _ h1).2 h2).1
  have hct : ∀ T, T ≤ 60000 → zct Z rn (rk x) cr T ≤ 600000 := fun T hT => z_ctb hX hx hu hT
  have hfx := (hX.2.2.2.2 _ hx).2.2.2.2.2 hu
  have hfy := (hY _ hx).2 hu
  obtain ⟨S, hSe⟩ : ∃ S, S = cr * Z 1 x + w := ⟨_, rfl⟩
  have hspan : nI cr * nI (Z 1 x) + nI w = nI S := by rw [nI_mul, nI_add, hSe]
  have hspan1 : nI S - 1 = nI (S - 1) := by rw [show (1 : Int32) = nI 1 from rfl, nI_sub (by omega)]
  have hcS := hct S (by omega)
  have hblb := z_lb hZ (x := x)
  -- the item number p, behind the blocker
  have item : ∀ (p n0 : Nat) (st : Nat), n0 ≤ 1 → n0 + p < 2 ^ 31 → ∃ r, ((j_A_scenarioArrivalsBy n M (fin8 x) (nI (S - 1))).bind fun r_5 => if nI p < r_5 then (j_A_timeOfArrival n M (fin8 x) (nI p) (nI S)).bind fun r_8 => if b3 = 0 then (j_A_taskOfArrival n M (fin8 x) (nI p) r_8).bind fun r_11 => some r_11 else some (nI st + r_8) else some (-1)) = some r ∧
      ∀ z4 z6 : Int32, j_Y_scenario_L178 n (nI (x + 1)) (nI (n0 + p)) a3 z4 (nI st) z6 (nI S) n (nI n0) 0 U = some (r, U) := by
    intro p n0 st hn0 hp
    have hL := fun z4 z6 => y_sc_L hY hZ hK (p := p) (n0 := n0) (S := S) hx hu (show 20 ≤ n by omega) h12 hcr hp (by omega) hn0 hct a3 z4 (nI st) z6 S 0 n (by omega) (by omega)
    rw [zct_0] at hL
    have hav : j_A_scenarioArrivalsBy n M (fin8 x) (nI (S - 1)) = some (nI (zct Z rn (rk x) cr S)) := by
      have e : S = (S - 1) + 1 := by omega
      conv => rhs; rw [e]
      exact x_sc hX hx hu (by omega) h10 hcr (by omega) hZ (fun j hj huj => by rw [zav_p]; exact x_arr hX hZ n hj huj (by omega))
    rw [hav, Option.bind_some]
    by_cases hlt : p < zct Z rn (rk x) cr S
    · obtain ⟨t, r0, ht, hh⟩ := zhit_ex hD S hlt
      obtain ⟨b1, b2⟩ := zhit_t hD hh
      have htime : j_A_timeOfArrival n M (fin8 x) (nI p) (nI S) = some (nI t) := by
        unfold j_A_timeOfArrival
        rw [hspan1]
        exact x_time_L hX hZ hx hu (by omega) h10 hcr (by omega) hD b1 b2 (nI S) 16 0 (S - 1) 0 n (by omega) (by omega) (by omega) (Nat.zero_le _) (by omega) (by omega)
      have htask : j_A_taskOfArrival n M (fin8 x) (nI p) (nI t) = some (nI (rn r0 + 1)) := by
        unfold j_A_taskOfArrival
        rw [x_sc hX hx hu (by omega) h10 hcr (T := t) (by omega) hZ (fun j hj huj => x_arrM hX hZ n hj huj (by omega)), Option.bind_some]
        exact x_task_L hX hZ hx hu (by omega) (by omega) (by omega) hh (rk x) 0 n (by omega) (by omega) (Nat.zero_le _)
      rw [if_pos (nI_lt hlt (by omega)), htime, Option.bind_some, htask, Option.bind_some]
      refine ⟨if b3 = 0 then nI (rn r0 + 1) else nI st + nI t, by split <;> rfl, fun z4 z6 => ?_⟩
      have := (hL z4 z6).1 t r0 (Nat.zero_le _) ht hh
      rw [show (0 : Int32) = nI 0 from rfl, show nI n0 = nI (n0 + 0) from rfl, this]
      rcases h3 with ⟨e1, e2⟩ | ⟨e1, e2⟩
      · rw [e1, e2]; rfl
      · rw [e1, e2]; rfl
    · rw [if_neg (nI_nlt (by omega) (by omega))]
      refine ⟨-1, rfl, fun z4 z6 => ?_⟩
      exact (hL z4 z6).2 (by omega)
  unfold j_A_scenarioItem ysc
  rw [x_bl hX hZ hx hu (by omega), Option.bind_some, h9, h10, hfx.1, hspan, hspan1, nI_clamp (show x + 1 < 2 ^ 31 by omega), h11, h12, hfy.1, hspan]
  by_cases hb : zbl Z Q x = 0
  · rw [hb, if_pos (show nI 0 ≤ 0 by decide), if_pos (show nI 0 ≤ 0 by decide)]
    obtain ⟨r, e1, e2⟩ := item i 0 0 (by omega) (by omega)
    refine ⟨r, e1, ?_⟩
    have := e2 (nI 0) 0
    rw [Nat.zero_add] at this
    exact this
  · obtain ⟨rb, kb, q1, q2, q3, q4, q5, q6, q7⟩ := z_blk hX hx hu (show 0 < zbl Z Q x by omega)
    obtain ⟨y1, y2, y3, y4⟩ := x_rn hX q2
    have hlb : zbl Z Q x + 1 = zlb Z Q x := by unfold zbl at hb ⊢; omega
    have hbb : zbl Z Q x + 1 ≤ 8800 := by omega
    have hhb : j_A_highestBelowWith n M (fin8 x) (nI (zlb Z Q x)) = some (fin8 (rn rb)) := by
      unfold j_A_highestBelowWith
      rw [(hX.2.2.2.2 _ hx).2.1, nI_1]
      exact x_hbw_L hX hZ (by omega) (by omega) (fin8 x) q2 q3 (rb - (rk x + 1)) (rk x + 1) n (by omega) (by omega) (fun r' g1 g2 => q4 r' (by omega) g2)
    have hwa : j_T_workAheadOf n M (fin8 (rn rb)) (nI (zlb Z Q x)) = some (nI (ks_sum (Q (rn rb)) kb)) := x_wao_L hX hZ (by omega) y1 y2 q5 q6 q7 kb 0 n (by omega) (by have := ((hZ _ y1).2 y2).2.2.2.2.2.1; omega)
    have hhst := y_hst1 hY hZ hK (n := n) (by omega) hrx
    rw [hrn, if_pos (show rk x + 1 < c by omega)] at hhst
    have h55 := y_sc55 hY hZ hK (n := n) (b := zbl Z Q x) (by omega) hbb q2 (by rw [hlb]; exact q3) (nI (x + 1)) (nI i) a3 0 (rb - (rk x + 1)) (rk x + 1) n (by omega) (by omega) (fun r' g1 g2 => by rw [hlb]; exact q4 r' (by omega) g2)
    have h87 := y_sc87 hY hZ (n := n) (b := zbl Z Q x) (x := x) (by omega) (by omega) hbb hx y1 y2 q5 (by rw [hlb]; exact q6) (fun q hq => by rw [hlb]; exact q7 q hq) (nI i) a3 0 kb 0 n (by omega) (by have := ((hZ _ y1).2 y2).2.2.2.2.2.1; omega)
    rw [show nI 0 = (0 : Int32) from rfl] at h87
    rw [if_neg (nI_nle (by omega) (by omega)), if_neg (nI_nle (by omega) (by omega)), x_lb hX hZ hx hu (by omega), Option.bind_some, hhb, Option.bind_some, hfy.2.2.1, hhst, Option.bind_some, h55, h87, h12, hfy.1, h11, hspan]
    by_cases hi0 : i = 0
    · subst hi0
      rw [if_pos (show nI 0 = 0 from rfl), if_pos (show nI 0 = 0 from rfl), (hX.2.2.2.2 _ y1).1]
      rcases h3 with ⟨e1, e2⟩ | ⟨e1, e2⟩
      · rw [e1, e2]; exact ⟨0, rfl, rfl⟩
      · rw [e1, e2]; exact ⟨nI (rn rb + 1), rfl, rfl⟩
    · rw [if_neg (nI_ne0 (by omega) hi), if_neg (nI_ne0 (by omega) hi), hwa, Option.bind_some, show (1 : Int32) = nI 1 from rfl, nI_sub (show 1 ≤ i by omega), nI_add, nI_add, Nat.add_comm 1 (ks_sum (Q (rn rb)) kb)]
      obtain ⟨r, e1, e2⟩ := item (i - 1) 1 (ks_sum (Q (rn rb)) kb + 1) (by omega) (by omega)
      refine ⟨r, e1, ?_⟩
      have := e2 (nI (zbl Z Q x)) (nI (rn rb + 1))
      rw [show 1 + (i - 1) = i by omega] at this
      exact this
end B
