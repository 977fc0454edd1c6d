/-! PURE: tick: pieces against steps -/
def ymd (U : MY) (j l : Nat) : MY := sV (sV U 15 (U.2 15 + nI j)) 27 (nI l)
theorem ymd_0 {U : MY} {l : Nat} (h : U.2 27 = nI l) : ymd U 0 l = U := by
  refine Prod.ext rfl (funext fun k => ?_)
  show (if k = 27 then nI l else if k = 15 then U.2 15 + nI 0 else U.2 k) = U.2 k
  by_cases h1 : k = 27
  · rw [if_pos h1, h1, h]
  · rw [if_neg h1]
    by_cases h2 : k = 15
    · rw [if_pos h2, h2]; exact Int32.add_zero _
    · rw [if_neg h2]
theorem ymd_s {U : MY} {j l : Nat} {w : Int32} : ymd (sV (sV U 15 (U.2 15 + 1)) 27 w) j l = ymd U (j + 1) l := by
  refine Prod.ext rfl (funext fun k => ?_)
  show (if k = 27 then nI l else if k = 15 then (U.2 15 + 1) + nI j else (if k = 27 then w else if k = 15 then U.2 15 + 1 else U.2 k)) = (if k = 27 then nI l else if k = 15 then U.2 15 + nI (j + 1) else U.2 k)
  by_cases h1 : k = 27
  · rw [if_pos h1, if_pos h1]
  · rw [if_neg h1, if_neg h1, if_neg h1]
    by_cases h2 : k = 15
    · rw [if_pos h2, if_pos h2, Int32.add_assoc, show (1 : Int32) = nI 1 from rfl, nI_add, Nat.add_comm]
    · rw [if_neg h2, if_neg h2, if_neg h2]
theorem ystep_mid {U : MY} {x l n : Nat} (hx : x < 8) (hr : U.2 26 = nI (x + 1)) (hL : U.2 27 = nI (l + 1)) (hl : 1 ≤ l) (hl2 : l < 2 ^ 31) : j_Y_step n U = some (nI (x + 1), sV (sV U 15 (U.2 15 + 1)) 27 (nI l)) := by
  have hne : ¬ nI (x + 1) = 0 := nI_ne0 (by omega) (by omega)
  have e26 : (sV U 15 (U.2 15 + 1)).2 26 = nI (x + 1) := hr
  have e27 : (sV U 15 (U.2 15 + 1)).2 27 - 1 = nI l := by rw [show (sV U 15 (U.2 15 + 1)).2 27 = nI (l + 1) from hL]; exact nI_pred l
  unfold j_Y_step
  rw [if_neg (by rw [hr]; exact hne), e26, if_neg hne, e27, sV_at, if_neg (nI_nle (by omega) (by omega))]
theorem ystep_end {W : MY} {x n : Nat} (hx : x < 8) (hr : W.2 26 = nI (x + 1)) (hL : W.2 27 = nI 1) {V : MY} (hV : V = sV (sV (sV W 15 (W.2 15 + 1)) 27 (nI 0)) 26 0) :
    j_Y_step n W = if V.1 13 (x + 1) = V.1 5 (x + 1) then (j_Y_finish n V (nI (x + 1))).bind (fun M_8 => some (nI (x + 1), M_8)) else some (nI (x + 1), sV V 28 (nI (x + 1))) := by
  have hne : ¬ nI (x + 1) = 0 := nI_ne0 (by omega) (by omega)
  have e26 : (sV W 15 (W.2 15 + 1)).2 26 = nI (x + 1) := hr
  have e27 : (sV W 15 (W.2 15 + 1)).2 27 - 1 = nI 0 := by rw [show (sV W 15 (W.2 15 + 1)).2 27 = nI 1 from hL]; rfl
  unfold j_Y_step
  rw [if_neg (by rw [hr]; exact hne), e26, if_neg hne, e27, if_pos (show (sV (sV W 15 (W.2 15 + 1)) 27 (nI 0)).2 27 ≤ 0 by rw [sV_at]; decide +kernel), if_pos (y_in hx), if_pos (y_in hx), nI_clamp (show x + 1 < 2 ^ 31 by omega), ← hV]
theorem ystep_bg {U U1 : MY} {n : Nat} (h0 : U.2 26 = 0) (hb : j_Y_begin n U = some U1) (h1 : ¬ U1.2 26 = 0) : j_Y_step n U = j_Y_step n U1 := by
  unfold j_Y_step
  rw [if_pos h0, hb, Option.bind_some, if_neg h1]
theorem ystep_idle {U : MY} {n : Nat} (h0 : U.2 26 = 0) (hb : j_Y_begin n U = some U) : j_Y_step n U = some (0, sV U 15 (U.2 15 + 1)) := by
  unfold j_Y_step
  rw [if_pos h0, hb, Option.bind_some, if_pos (show (sV U 15 (U.2 15 + 1)).2 26 = 0 from h0)]
theorem y_mid {x A n : Nat} (hx : x < 8) (hA : A < 2 ^ 31) : ∀ (j : Nat) (U : MY) (L s f : Nat) (v : Int32), U.2 26 = nI (x + 1) → U.2 27 = nI L → j < L → L < 2 ^ 31 → s + j ≤ A →
    j_Y_tick_L27 n (nI A) (f + j) v (nI s) U = j_Y_tick_L27 n (nI A) f (if j = 0 then v else nI (x + 1)) (nI (s + j)) (ymd U j (L - j)) := by
  intro j
  induction j with
  | zero =>
    intro U L s f v hr hL _ _ _
    rw [if_pos rfl, Nat.sub_zero, ymd_0 hL, Nat.add_zero, Nat.add_zero]
  | succ j ih =>
    intro U L s f v hr hL hj hL2 hs
    obtain ⟨l, rfl⟩ : ∃ l, L = l + 1 := ⟨L - 1, by omega⟩
    have e := ih (sV (sV U 15 (U.2 15 + 1)) 27 (nI l)) l (s + 1) f (nI (x + 1)) hr rfl (by omega) (by omega) (by omega)
    rw [ymd_s] at e
    rw [show f + (j + 1) = (f + j) + 1 from rfl, j_Y_tick_L27, if_neg (nI_ge (by omega) (by omega)), ystep_mid hx hr hL (by omega) (by omega), Option.bind_some, nI_1]
    refine e.trans ?_
    rw [show l + 1 - (j + 1) = l - j by omega, show s + 1 + j = s + (j + 1) by omega, if_neg (Nat.succ_ne_zero j)]
    by_cases q : j = 0
    · rw [if_pos q]
    · rw [if_neg q]
theorem y_wait0 {U : MY} {Z Q : Nat → Nat → Nat} {C F : Nat → Nat} (hY : yset U Z Q) (hZ : zset Z Q) (hF : ∀ i, i < 8 → U.1 9 (i + 1) = nI (C i) ∧ U.1 10 (i + 1) = nI (F i) ∧ C i < 2 ^ 31 ∧ F i < 2 ^ 31) (hno : ∀ i, i < 8 → Z 0 i = 1 → ¬ F i < C i) {n : Nat} (hn : 9 ≤ n) : j_Y_waiting n U = some (nI 0) := by
  obtain ⟨o, e, hb⟩ := y_wait_L hY hZ hF n 8 0 n 0 (by omega) (by omega) (Or.inl ⟨rfl, fun i hi => absurd hi (Nat.not_lt_zero i)⟩)
  rcases hb with ⟨o0, -⟩ | ⟨k, h1, h2, h3, h4⟩
  · rw [o0] at e; exact e
  · exact absurd h3.2 (hno k h1 h3.1)
theorem y_idle {U0 : MY} {Z Q : Nat → Nat → Nat} {C F : Nat → Nat} (hY : yset U0 Z Q) (hZ : zset Z Q) (hF : ∀ i, i < 8 → U0.1 9 (i + 1) = nI (C i) ∧ U0.1 10 (i + 1) = nI (F i) ∧ C i < 2 ^ 31 ∧ F i < 2 ^ 31) (hno : ∀ i, i < 8 → Z 0 i = 1 → ¬ F i < C i) {n A : Nat} (hn : 9 ≤ n) (hA : A < 2 ^ 31) : ∀ (rest : Nat) (U : MY) (s f : Nat) (v : Int32), U.1 = U0.1 → U.2 26 = 0 → s + rest = A → rest < f →
    ∃ U', j_Y_tick_L27 n (nI A) f v (nI s) U = some (if rest = 0 then v else 0, U') ∧ U'.1 = U.1 ∧ U'.2 15 = U.2 15 + nI rest ∧ ∀ k, k ≠ 15 → U'.2 k = U.2 k := by
  intro rest
  induction rest with
  | zero =>
    intro U s f v h1 h26 hs hf
    obtain ⟨f, rfl⟩ : ∃ g, f = g + 1 := ⟨f - 1, by omega⟩
    refine ⟨U, ?_, rfl, (Int32.add_zero _).symm, fun _ _ => rfl⟩
    rw [j_Y_tick_L27, if_pos (nI_le (by omega) (by omega)), if_pos rfl]
  | succ rest ih =>
    intro U s f v h1 h26 hs hf
    obtain ⟨f, rfl⟩ : ∃ g, f = g + 1 := ⟨f - 1, by omega⟩
    have hYU : yset U Z Q := by unfold yset; rw [h1]; exact hY
    have hw := y_wait0 hYU hZ (fun i hi => by rw [h1]; exact hF i hi) hno hn
    have hb : j_Y_begin n U = some U := by
      unfold j_Y_begin
      rw [hw, Option.bind_some, if_pos (show nI 0 = 0 from rfl)]
    obtain ⟨U', e, g1, g2, g3⟩ := ih (sV U 15 (U.2 15 + 1)) (s + 1) f 0 h1 h26 (by omega) (by omega)
    refine ⟨U', ?_, g1, ?_, fun k hk => (g3 k hk).trans (sV_ne hk)⟩
    · rw [j_Y_tick_L27, if_neg (nI_ge (by omega) (by omega)), ystep_idle h26 hb, Option.bind_some, nI_1]
      refine e.trans ?_
      rw [if_neg (Nat.succ_ne_zero rest)]
      by_cases q : rest = 0
      · rw [if_pos q]
      · rw [if_neg q]
    · rw [g2, show (sV U 15 (U.2 15 + 1)).2 15 = U.2 15 + 1 from rfl, Int32.add_assoc, show (1 : Int32) = nI 1 from rfl, nI_add, Nat.add_comm]
section P
variable {t : Nat} {Z Q : Nat → Nat → Nat} {rk rn C : Nat → Nat} {c hj : Nat}
theorem k_piece (hZ : zset Z Q) {M : MX} {U : MY} {F P : Nat → Nat} {L x pa : Nat} (hS : kst t M U Z Q rk rn c C F P hj L (x + 1) pa) (ht : t ≤ 600) {n p A : Nat} (hp1 : 1 ≤ p) (hpL : p ≤ L) (hA : A ≤ 2000) :
    ∃ M2 U2 F' P' L' ru' pa', j_K_run n M (fin8 x) (nI p) = some M2 ∧ (∀ f s v, s + p ≤ A → j_Y_tick_L27 n (nI A) (f + p) v (nI s) U = j_Y_tick_L27 n (nI A) f (nI (x + 1)) (nI (s + p)) U2) ∧ kst t M2 U2 Z Q rk rn c C F' P' hj L' ru' pa' := by
  obtain ⟨hX, hY, hC, ⟨h1, ⟨g1, g2, g3, g4, g5⟩, hm⟩, h0⟩ := hS
  obtain ⟨m1, m2, m3, m4, m5, m6⟩ := hm
  obtain ⟨hu, hlt, hP, hL1, hL2⟩ := m6 x rfl
  have hx : x < 8 := by omega
  have e3 : (sG M 2 2 (M.2.1 2 2 + nI p)).2.1 2 3 - nI p = nI (L - p) := by
    rw [show (sG M 2 2 (M.2.1 2 2 + nI p)).2.1 2 3 = nI L from g3.1, nI_sub hpL]
  by_cases e : p < L
  · refine ⟨sG (sG M 2 2 (M.2.1 2 2 + nI p)) 2 3 (nI (L - p)), ymd U p (L - p), F, P, L - p, x + 1, pa, ?_, fun f s v hs => ?_, hX.cg (fun _ _ _ _ => rfl) rfl rfl, hY, hC.cg (fun _ _ => rfl), ⟨h1, ⟨g1, ?_, ⟨rfl, rfl⟩, g4, g5⟩, ⟨m1, m2, m3, m4, m5, fun y hy => ?_⟩⟩, h0⟩
    · unfold j_K_run
      rw [e3, sG_at, if_neg (nI_ne0 (by omega) (by omega))]
    · rw [y_mid hx (by omega) p U L s f v g4.2 g3.2 e (by omega) hs, if_neg (show ¬ p = 0 by omega)]
    · show U.2 15 + nI p = M.2.1 2 2 + nI p
      rw [g2]
    · obtain ⟨w1, w2, w3, -, -⟩ := m6 y hy
      exact ⟨w1, w2, w3, by omega, by omega⟩
  · have e' : p = L := by omega
    subst e'
    obtain ⟨N, hN⟩ : ∃ N, N = sG (sG M 2 2 (M.2.1 2 2 + nI p)) 2 3 (nI (p - p)) := ⟨_, rfl⟩
    obtain ⟨W, hW⟩ : ∃ W, W = ymd U (p - 1) (p - (p - 1)) := ⟨_, rfl⟩
    obtain ⟨V, hV⟩ : ∃ V, V = sV (sV (sV W 15 (W.2 15 + 1)) 27 (nI 0)) 26 0 := ⟨_, rfl⟩
    have V1 : V.1 = U.1 := by rw [hV, hW]; rfl
    have N1 : N.1 = M.1 := by rw [hN]; rfl
    have V2 : ∀ k, k ≠ 15 → k ≠ 26 → k ≠ 27 → V.2 k = U.2 k := fun k q1 q2 q3 => by
      rw [hV, sV_ne q2, sV_ne q3, sV_ne q1, hW]
      unfold ymd
      rw [sV_ne q3, sV_ne q1]
    have V15 : V.2 15 = U.2 15 + nI p := by
      rw [hV, hW]
      show U.2 15 + nI (p - 1) + 1 = U.2 15 + nI p
      rw [Int32.add_assoc, show (1 : Int32) = nI 1 from rfl, nI_add, show p - 1 + 1 = p by omega]
    obtain ⟨M2, U2, F', P', pa', s1, s2, s3⟩ := seg_end (N := N) (V := V) (c := c) (rk := rk) (rn := rn) (L := p) hZ (hX.cg (fun d y k _ => by rw [N1]) (by rw [hN]; rfl) (by rw [hN]; rfl)) (hY.cg (fun a k _ _ => by rw [V1])) (hC.cg (fun y k => by rw [N1])) hx
      (fun i hi => by
        obtain ⟨q1, q2, q3⟩ := h1 i hi
        exact ⟨q1.of (fun d k _ => by rw [N1]) (fun a _ _ _ => by rw [V1]) (fun k _ => by rw [V1]) (fun k _ => by rw [V1]), q2, fun w => by rw [N1]; exact q3 w⟩)
      ⟨m1, m2, m3, m4, m5, m6⟩ ⟨by rw [hN]; exact g1.1, by rw [V2 25 (by decide) (by decide) (by decide)]; exact g1.2⟩
      (by rw [V15, g2, hN]; rfl) ⟨by rw [hN, Nat.sub_self]; exact sG_at, by rw [hV]; rfl⟩ (by rw [hV]; rfl) ⟨by rw [hN]; exact g5.1, by rw [V2 28 (by decide) (by decide) (by decide)]; exact g5.2⟩ (by rw [V2 0 (by decide) (by decide) (by decide)]; exact h0) ht n
    refine ⟨M2, U2, F', P', 0, 0, pa', ?_, fun f s v hs => ?_, s3⟩
    · unfold j_K_run
      rw [e3, if_pos (show (sG (sG M 2 2 (M.2.1 2 2 + nI p)) 2 3 (nI (p - p))).2.1 2 3 = 0 by rw [sG_at, Nat.sub_self]; rfl), ← hN, s1, Option.bind_some]
    · have hWr : W.2 26 = nI (x + 1) := by rw [hW]; exact g4.2
      have hWL : W.2 27 = nI 1 := by rw [hW, show p - (p - 1) = 1 by omega]; rfl
      rw [show f + p = (f + 1) + (p - 1) by omega, y_mid hx (by omega) (p - 1) U p s (f + 1) v g4.2 g3.2 (by omega) (by omega) (by omega), ← hW, j_Y_tick_L27, if_neg (nI_ge (by omega) (by omega)), ystep_end hx hWr hWL hV, s2, Option.bind_some, nI_1, show s + (p - 1) + 1 = s + p by omega]
theorem tick_L (hZ : zset Z Q) {A n : Nat} (hA : A ≤ 2000) (hn : 9 ≤ n) (ht : t ≤ 600) : ∀ (m rest : Nat), rest ≤ m → ∀ (s f fY round : Nat) (v : Int32) (M : MX) (U : MY) (F P : Nat → Nat) (L ru pa : Nat), s + rest = A → rest < f → rest < fY → round ≤ s → kst t M U Z Q rk rn c C F P hj L ru pa →
    ∃ M' U' r F' P' L' ru' pa', j_K_advance_L7 n (nI A) f v (nI rest) (nI round) M = some (r, M') ∧ j_Y_tick_L27 n (nI A) fY v (nI s) U = some (r, U') ∧ kst t M' U' Z Q rk rn c C F' P' hj L' ru' pa' := by
  have base : ∀ (s f fY round : Nat) (v : Int32) (M : MX) (U : MY) (F P : Nat → Nat) (L ru pa : Nat), s + 0 = A → 0 < f → 0 < fY → round ≤ s → kst t M U Z Q rk rn c C F P hj L ru pa →
    ∃ M' U' r F' P' L' ru' pa', j_K_advance_L7 n (nI A) f v (nI 0) (nI round) M = some (r, M') ∧ j_Y_tick_L27 n (nI A) fY v (nI s) U = some (r, U') ∧ kst t M' U' Z Q rk rn c C F' P' hj L' ru' pa' := by
    intro s f fY round v M U F P L ru pa hs hf hfY hr hS
    obtain ⟨f, rfl⟩ : ∃ g, f = g + 1 := ⟨f - 1, by omega⟩
    obtain ⟨fY, rfl⟩ : ∃ g, fY = g + 1 := ⟨fY - 1, by omega⟩
    refine ⟨M, U, v, F, P, L, ru, pa, ?_, ?_, hS⟩
    · rw [j_K_advance_L7]
      by_cases q : A ≤ round
      · rw [if_pos (nI_le q (by omega))]
      · rw [if_neg (nI_ge (by omega) (by omega)), if_pos (show nI 0 ≤ 0 by decide +kernel)]
    · rw [j_Y_tick_L27, if_pos (nI_le (by omega) (by omega))]
  intro m
  induction m with
  | zero =>
    intro rest hrest
    obtain rfl : rest = 0 := by omega
    exact base
  | succ m ih =>
    intro rest hrest
    by_cases r0 : rest = 0
    · subst r0; exact base
    · intro s f fY round v M U F P L ru pa hs hf hfY hr hS
      obtain ⟨f, rfl⟩ : ∃ g, f = g + 1 := ⟨f - 1, by omega⟩
      have go : ∀ (M1 : MX) (U1 : MY) (L1 x pa1 : Nat), kst t M1 U1 Z Q rk rn c C F P hj L1 (x + 1) pa1 → ∃ M' U' r F' P' L' ru' pa', ((j_K_run n M1 (fin8 x) (if nI rest < M1.2.1 2 3 then nI rest else M1.2.1 2 3)).bind fun M_12 => j_K_advance_L7 n (nI A) f (M1.1 0 (fin8 x) 0) (nI rest - (if nI rest < M1.2.1 2 3 then nI rest else M1.2.1 2 3)) (nI round + 1) M_12) = some (r, M') ∧ j_Y_tick_L27 n (nI A) fY v (nI s) U1 = some (r, U') ∧ kst t M' U' Z Q rk rn c C F' P' hj L' ru' pa' := by
        intro M1 U1 L1 x pa1 hS1
        have hx8 : x < 8 := by have := hS1.2.2.2.1.2.2.2.2.2.1; omega
        obtain ⟨-, -, -, hL1, hL2⟩ := hS1.2.2.2.1.2.2.2.2.2.2.2 x rfl
        have g3 := hS1.2.2.2.1.2.1.2.2.1.1
        obtain ⟨p, hp⟩ : ∃ p, p = min rest L1 := ⟨_, rfl⟩
        obtain ⟨M2, U2, F', P', L', ru', pa', e1, e2, e3⟩ := k_piece (n := n) hZ hS1 ht (show 1 ≤ p by omega) (show p ≤ L1 by omega) hA
        obtain ⟨M', U', r, F'', P'', L'', ru'', pa'', w1, w2, w3⟩ := ih (rest - p) (by omega) (s + p) f (fY - p) (round + 1) (nI (x + 1)) M2 U2 F' P' L' ru' pa' (by omega) (by omega) (by omega) (by omega) e3
        refine ⟨M', U', r, F'', P'', L'', ru'', pa'', ?_, ?_, w3⟩
        · rw [g3, nI_min (by omega) (by omega), ← hp, e1, Option.bind_some, (hS1.1.2.2.2.2 x hx8).1, nI_sub (by omega), nI_1]
          exact w1
        · have := e2 (fY - p) s v (by omega)
          rw [show fY - p + p = fY by omega] at this
          rw [this]
          exact w2
      have gR := hS.2.2.2.1.2.1.2.2.2.1
      have st : j_K_advance_L7 n (nI A) (f + 1) v (nI rest) (nI round) M = gw_oc M.2.2.2.1 ((j_K_beginSegment n M).bind fun M_5 => gw_oc M_5.2.2.2.1 (some (0, (sG M_5 2 2 ((M_5.2.1 2 2) + nI rest)))) (fun y_6 => (M_5.2.2.2.1).bind fun y_7 => (M_5.2.2.2.1).bind fun y_9 => (j_K_run n M_5 y_9 (if nI rest < (M_5.2.1 2 3) then nI rest else (M_5.2.1 2 3))).bind fun M_12 => j_K_advance_L7 n (nI A) f (M_5.1 0 y_7 0) (nI rest - (if nI rest < (M_5.2.1 2 3) then nI rest else (M_5.2.1 2 3))) (nI round + 1) M_12))
          (fun y_3 => gw_oc M.2.2.2.1 (some (0, (sG M 2 2 ((M.2.1 2 2) + nI rest)))) (fun y_14 => (M.2.2.2.1).bind fun y_15 => (M.2.2.2.1).bind fun y_17 => (j_K_run n M y_17 (if nI rest < (M.2.1 2 3) then nI rest else (M.2.1 2 3))).bind fun M_20 => j_K_advance_L7 n (nI A) f (M.1 0 y_15 0) (nI rest - (if nI rest < (M.2.1 2 3) then nI rest else (M.2.1 2 3))) (nI round + 1) M_20)) := by
        rw [j_K_advance_L7, if_neg (nI_ge (by omega) (by omega)), if_neg (nI_nle (by omega) (by omega))]
      by_cases hru : ru = 0
      · subst hru
        have h26 : U.2 26 = 0 := gR.2
        rcases k_begin hZ hS ht hn with ⟨hno, b1, b2⟩ | ⟨k, M1, U1, hk, b1, b2, hS1⟩
        · obtain ⟨hX, hY, hC, hK, h0⟩ := hS
          have bd : ∀ i, i < 8 → C i < 2 ^ 31 ∧ F i < 2 ^ 31 := fun i hi => by
            obtain ⟨-, ⟨n1, n2, n3, -, -⟩, -⟩ := hK.1 i hi
            omega
          obtain ⟨U', y1, y2, y3, y4⟩ := y_idle hY hZ (fun i hi => ⟨(hK.1 i hi).1.2.1.1, (hK.1 i hi).1.2.1.2.1, bd i hi⟩) hno hn (show A < 2 ^ 31 by omega) rest U s fY v rfl h26 hs hfY
          rw [if_neg r0] at y1
          obtain ⟨h1, ⟨g1, g2, g3, g4, g5⟩, hm⟩ := hK
          refine ⟨sG M 2 2 (M.2.1 2 2 + nI rest), U', 0, F, P, L, 0, pa, ?_, y1, hX.cg (fun _ _ _ _ => rfl) rfl rfl, hY.cg (fun a k _ _ => by rw [y2]), hC.cg (fun _ _ => rfl), ⟨fun i hi => ?_, ⟨⟨g1.1, by rw [y4 25 (by decide)]; exact g1.2⟩, ?_, ⟨g3.1, by rw [y4 27 (by decide)]; exact g3.2⟩, ⟨g4.1, by rw [y4 26 (by decide)]; exact g4.2⟩, ⟨g5.1, by rw [y4 28 (by decide)]; exact g5.2⟩⟩, hm⟩, by rw [y4 0 (by decide)]; exact h0⟩
          · rw [st, gR.1]
            show ((j_K_beginSegment n M).bind _) = _
            rw [b1, Option.bind_some, gR.1]
            rfl
          · obtain ⟨q1, q2, q3⟩ := h1 i hi
            exact ⟨q1.of (fun _ _ _ => rfl) (fun a _ _ _ => by rw [y2]) (fun k _ => by rw [y2]) (fun k _ => by rw [y2]), q2, q3⟩
          · rw [y3, g2]
            show M.2.1 2 2 + nI rest = (sG M 2 2 (M.2.1 2 2 + nI rest)).2.1 2 2
            rw [sG_at]
        · obtain ⟨M', U', r, F', P', L', ru', pa', w1, w2, w3⟩ := go M1 U1 _ k 0 hS1
          refine ⟨M', U', r, F', P', L', ru', pa', ?_, ?_, w3⟩
          · rw [st, gR.1]
            show ((j_K_beginSegment n M).bind _) = _
            rw [b1, Option.bind_some, hS1.2.2.2.1.2.1.2.2.2.1.1]
            exact w1
          · obtain ⟨fY, rfl⟩ : ∃ g, fY = g + 1 := ⟨fY - 1, by omega⟩
            have h26' : ¬ U1.2 26 = 0 := by rw [hS1.2.2.2.1.2.1.2.2.2.1.2]; exact nI_ne0 (by omega) (by omega)
            rw [← w2, j_Y_tick_L27, j_Y_tick_L27, ystep_bg h26 b2 h26', if_neg (nI_ge (by omega) (by omega)), if_neg (nI_ge (by omega) (by omega))]
      · obtain ⟨x, rfl⟩ : ∃ x, ru = x + 1 := ⟨ru - 1, by omega⟩
        obtain ⟨M', U', r, F', P', L', ru', pa', w1, w2, w3⟩ := go M U _ x pa hS
        refine ⟨M', U', r, F', P', L', ru', pa', ?_, w2, w3⟩
        rw [st, gR.1]
        exact w1
end P
