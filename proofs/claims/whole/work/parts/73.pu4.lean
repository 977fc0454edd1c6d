/-! PURE: reset, clear, arrive -/
section J
variable {rk rn : Nat → Nat} {c : Nat}
def xj (M : MX) (x : Fin 8) : MX := sF (sF (sF (sF (sF (sF M 1 x 2 0) 1 x 3 0) 1 x 4 0) 1 x 5 0) 1 x 6 0) 1 x 7 0
theorem xj_at {M : MX} {x : Fin 8} {k : Nat} (h : 2 ≤ k) (h7 : k ≤ 7) : (xj M x).1 1 x k = 0 := by
  have : k = 2 ∨ k = 3 ∨ k = 4 ∨ k = 5 ∨ k = 6 ∨ k = 7 := by omega
  unfold xj
  rcases this with rfl | rfl | rfl | rfl | rfl | rfl
  · rw [sF_k (by decide), sF_k (by decide), sF_k (by decide), sF_k (by decide), sF_k (by decide)]; exact sF_at
  · rw [sF_k (by decide), sF_k (by decide), sF_k (by decide), sF_k (by decide)]; exact sF_at
  · rw [sF_k (by decide), sF_k (by decide), sF_k (by decide)]; exact sF_at
  · rw [sF_k (by decide), sF_k (by decide)]; exact sF_at
  · rw [sF_k (by decide)]; exact sF_at
  · exact sF_at
theorem xj_d {M : MX} {x y : Fin 8} {d k : Nat} (h : d ≠ 1) : (xj M x).1 d y k = M.1 d y k := by
  unfold xj
  rw [sF_d h, sF_d h, sF_d h, sF_d h, sF_d h, sF_d h]
theorem xj_x {M : MX} {x y : Fin 8} {d k : Nat} (h : y ≠ x) : (xj M x).1 d y k = M.1 d y k := by
  unfold xj
  rw [sF_x h, sF_x h, sF_x h, sF_x h, sF_x h, sF_x h]
theorem x_fj_L (n : Nat) (hc : c ≤ 8) : ∀ (k r f : Nat) (M : MX), r + k = c → k < f → M.2.1 0 2 = nI c → (∀ q, q < 8 → M.2.2.1 q = fin8 (rn q)) →
    ∃ N, j_K_forgetJobs_L2 n f (nI r) M = some (sP (sU (sG (sG (sG N 2 1 0) 2 2 0) 2 3 0) none) none) ∧ N.2 = M.2 ∧ (∀ d y k, d ≠ 1 → N.1 d y k = M.1 d y k) ∧ (∀ q, r ≤ q → q < c → ∀ k, 2 ≤ k → k ≤ 7 → N.1 1 (fin8 (rn q)) k = 0) ∧ ∀ (y : Fin 8) k, 2 ≤ k → k ≤ 7 → M.1 1 y k = 0 → N.1 1 y k = 0 := by
  intro k
  induction k with
  | zero =>
    intro r f M hr hf hcnt hrk
    obtain ⟨f, rfl⟩ : ∃ g, f = g + 1 := ⟨f - 1, by omega⟩
    refine ⟨M, ?_, rfl, fun _ _ _ _ => rfl, fun q h1 h2 => absurd h2 (by omega), fun _ _ _ _ h => h⟩
    rw [j_K_forgetJobs_L2, hcnt, if_pos (nI_le (by omega) (by omega))]
  | succ k ih =>
    intro r f M hr hf hcnt hrk
    obtain ⟨f, rfl⟩ : ∃ g, f = g + 1 := ⟨f - 1, by omega⟩
    obtain ⟨N, e, h1, h2, h3, h4⟩ := ih (r + 1) f (xj M (fin8 (rn r))) (by omega) (by omega) hcnt hrk
    refine ⟨N, ?_, h1, fun d y k hd => (h2 d y k hd).trans (xj_d hd), fun q g1 g2 k k1 k2 => ?_, fun y k k1 k2 h => ?_⟩
    · rw [j_K_forgetJobs_L2, hcnt, if_neg (nI_ge (by omega) (by omega)), if_pos (nI_in (by omega) (by omega)), nI_clamp (by omega), hrk r (by omega), nI_1]
      exact e
    · by_cases e2 : q = r
      · rw [e2]; exact h4 _ k k1 k2 (xj_at k1 k2)
      · exact h3 q (by omega) g2 k k1 k2
    · refine h4 y k k1 k2 ?_
      by_cases e2 : y = fin8 (rn r)
      · rw [e2]; exact xj_at k1 k2
      · rw [xj_x e2]; exact h
def yj (U : MY) (k : Nat) : MY := sA (sA (sA (sA (sA (sA U 9 k 0) 10 k 0) 13 k 0) 14 k 0) 15 k 0) 16 k 0
def yja (a : Nat) : Prop := a = 9 ∨ a = 10 ∨ a = 13 ∨ a = 14 ∨ a = 15 ∨ a = 16
theorem yj_at {U : MY} {k a : Nat} (h : yja a) : (yj U k).1 a k = 0 := by
  unfold yj
  rcases h with rfl | rfl | rfl | rfl | rfl | rfl
  · rw [sA_ne (by omega), sA_ne (by omega), sA_ne (by omega), sA_ne (by omega), sA_ne (by omega)]; exact sA_at
  · rw [sA_ne (by omega), sA_ne (by omega), sA_ne (by omega), sA_ne (by omega)]; exact sA_at
  · rw [sA_ne (by omega), sA_ne (by omega), sA_ne (by omega)]; exact sA_at
  · rw [sA_ne (by omega), sA_ne (by omega)]; exact sA_at
  · rw [sA_ne (by omega)]; exact sA_at
  · exact sA_at
theorem yj_a {U : MY} {k k' a : Nat} (h : ¬ (yja a ∧ k' = k)) : (yj U k).1 a k' = U.1 a k' := by
  unfold yja at h
  unfold yj
  rw [sA_ne (fun q => h ⟨by omega, q.2⟩), sA_ne (fun q => h ⟨by omega, q.2⟩), sA_ne (fun q => h ⟨by omega, q.2⟩), sA_ne (fun q => h ⟨by omega, q.2⟩), sA_ne (fun q => h ⟨by omega, q.2⟩), sA_ne (fun q => h ⟨by omega, q.2⟩)]
theorem y_fj_L (n : Nat) : ∀ (m j f : Nat) (U : MY), j + m = 9 → m < f → (∀ a k, yja a → k < j → U.1 a k = 0) →
    ∃ U', j_Y_forgetJobs_L27 n f (nI j) U = some U' ∧ U'.2 = U.2 ∧ (∀ a k, ¬ yja a → U'.1 a k = U.1 a k) ∧ ∀ a k, yja a → k < 9 → U'.1 a k = 0 := by
  intro m
  induction m with
  | zero =>
    intro j f U hj hf h
    obtain ⟨f, rfl⟩ : ∃ g, f = g + 1 := ⟨f - 1, by omega⟩
    refine ⟨U, ?_, rfl, fun _ _ _ => rfl, fun a k ha hk => h a k ha (by omega)⟩
    rw [j_Y_forgetJobs_L27, if_pos (show (9 : Int32) ≤ nI j from nI_le (a := 9) (by omega) (by omega))]
  | succ m ih =>
    intro j f U hj hf h
    obtain ⟨f, rfl⟩ : ∃ g, f = g + 1 := ⟨f - 1, by omega⟩
    obtain ⟨U', e, h1, h2, h3⟩ := ih (j + 1) f (yj U j) (by omega) (by omega) (fun a k ha hk => by
      by_cases q : k = j
      · rw [q]; exact yj_at ha
      · rw [yj_a (fun w => q w.2)]; exact h a k ha (by omega))
    refine ⟨U', ?_, h1, fun a k ha => (h2 a k ha).trans (yj_a (fun w => ha w.1)), h3⟩
    have hin : ¬ (nI j < 0 ∨ 9 ≤ (nI j).toNatClampNeg) := nI_in (by omega) (by omega)
    rw [j_Y_forgetJobs_L27, if_neg (show ¬ (9 : Int32) ≤ nI j from nI_ge (b := 9) (by omega) (by omega)), if_pos hin, if_pos hin, if_pos hin, if_pos hin, if_pos hin, if_pos hin, nI_clamp (by omega), nI_1]
    exact e
theorem y_fj {n : Nat} (hn : 10 ≤ n) (U : MY) : ∃ U', j_Y_forgetJobs n U = some U' ∧ (∀ a k, ¬ yja a → U'.1 a k = U.1 a k) ∧ (∀ a k, yja a → k < 9 → U'.1 a k = 0) ∧ U'.2 15 = 0 ∧ U'.2 25 = 0 ∧ U'.2 26 = 0 ∧ U'.2 27 = 0 ∧ U'.2 28 = 0 := by
  obtain ⟨U', e, h1, h2, h3⟩ := y_fj_L n 9 0 n (sV (sV (sV (sV (sV U 15 0) 25 0) 26 0) 27 0) 28 0) (by omega) (by omega) (fun a k _ hk => absurd hk (Nat.not_lt_zero k))
  refine ⟨U', e, h2, h3, ?_, ?_, ?_, ?_, ?_⟩ <;> rw [h1] <;> rfl
theorem x_fj {M : MX} {U : MY} {Z Q : Nat → Nat → Nat} {C F P : Nat → Nat} {t hj L ru pa n : Nat} (hX : xset M Z Q rk rn c) (hK : krl t M U Z C F P hj L ru pa) (hn : 9 ≤ n) :
    ∃ M', j_K_forgetJobs n M = some M' ∧ (∀ d y k, d ≠ 1 → M'.1 d y k = M.1 d y k) ∧ (∀ i, i < 8 → ∀ k, 2 ≤ k → k ≤ 7 → M'.1 1 (fin8 i) k = 0) ∧ M'.2.1 0 2 = M.2.1 0 2 ∧ M'.2.1 2 1 = 0 ∧ M'.2.1 2 2 = 0 ∧ M'.2.1 2 3 = 0 ∧ M'.2.2.1 = M.2.2.1 ∧ M'.2.2.2 = (none, none) := by
  have hc8 := hX.1
  obtain ⟨N, e, h1, h2, h3, h4⟩ := x_fj_L (rn := rn) n hc8 c 0 n M (by omega) (by omega) hX.2.1 (fun q hq => (hX.2.2.1 q hq).1)
  refine ⟨sP (sU (sG (sG (sG N 2 1 0) 2 2 0) 2 3 0) none) none, e, h2, fun i hi k k1 k2 => ?_, ?_, rfl, rfl, rfl, ?_, rfl⟩
  · show N.1 1 (fin8 i) k = 0
    by_cases hu : Z 0 i = 1
    · obtain ⟨g1, g2⟩ := x_use hX hi hu
      have g := h3 (rk i) (Nat.zero_le _) g1 k k1 k2
      rw [g2] at g; exact g
    · obtain ⟨⟨⟨a2, a3, a7⟩, -, -, -, -, -⟩, ⟨n1, n2, n3, n4, n5⟩, k3⟩ := hK.1 i hi
      obtain ⟨q1, q2⟩ := n5 hu
      obtain ⟨q3, q4, q5⟩ := k3 hu
      have q6 : F i = 0 := by omega
      refine h4 _ k k1 k2 ?_
      have : k = 2 ∨ k = 3 ∨ k = 4 ∨ k = 5 ∨ k = 6 ∨ k = 7 := by omega
      rcases this with rfl | rfl | rfl | rfl | rfl | rfl
      · rw [a2, q1]; rfl
      · rw [a3, q6]; rfl
      · exact q3
      · exact q4
      · exact q5
      · rw [a7, q2]; rfl
  · show N.2.1 0 2 = M.2.1 0 2
    rw [h1]
  · show N.2.2.1 = M.2.2.1
    rw [h1]
end J
/-- no jobs at all -/
theorem krl_0 {t t' : Nat} {M M' : MX} {U U' : MY} {Z Z' : Nat → Nat → Nat} {C F P : Nat → Nat} {hj L ru pa : Nat} (hK : krl t M U Z C F P hj L ru pa)
    (x1 : ∀ d y k, d ≠ 1 → M'.1 d y k = M.1 d y k) (x2 : ∀ i, i < 8 → ∀ k, 2 ≤ k → k ≤ 7 → M'.1 1 (fin8 i) k = 0) (x3 : M'.2.1 2 1 = 0 ∧ M'.2.1 2 2 = 0 ∧ M'.2.1 2 3 = 0) (x4 : M'.2.2.2 = (none, none))
    (y1 : ∀ a k, a = 12 ∨ a = 17 → U'.1 a k = U.1 a k) (y2 : ∀ a k, yja a → k < 9 → U'.1 a k = 0) (y3 : U'.2 15 = 0 ∧ U'.2 25 = 0 ∧ U'.2 26 = 0 ∧ U'.2 27 = 0 ∧ U'.2 28 = 0) : krl t' M' U' Z' (fun _ => 0) (fun _ => 0) (fun _ => 0) 0 0 0 0 := by
  obtain ⟨x31, x32, x33⟩ := x3
  obtain ⟨y31, y32, y33, y34, y35⟩ := y3
  refine ⟨fun i hi => ⟨?_, ⟨Nat.le_refl 0, Nat.zero_le _, Nat.zero_le _, fun _ => Or.inl rfl, fun _ => ⟨rfl, rfl⟩⟩, fun _ => ⟨x2 i hi 4 (by omega) (by omega), x2 i hi 5 (by omega) (by omega), x2 i hi 6 (by omega) (by omega)⟩⟩,
    ⟨⟨x31, y32⟩, by rw [y31, x32], ⟨x33, y34⟩, ⟨by rw [x4]; rfl, y33⟩, ⟨by rw [x4]; rfl, y35⟩⟩, ⟨by omega, fun _ => ⟨fun _ _ => ⟨rfl, rfl⟩, rfl, rfl⟩, fun q => absurd q (by decide), by omega, ⟨by omega, fun x hx => absurd hx (by omega)⟩, fun x hx => absurd hx (by omega)⟩⟩
  obtain ⟨⟨-, -, -, d1, d2, -⟩, -, -⟩ := hK.1 i hi
  rw [if_neg (show ¬ 0 = i + 1 by omega)]
  refine ⟨⟨x2 i hi 2 (by omega) (by omega), x2 i hi 3 (by omega) (by omega), x2 i hi 7 (by omega) (by omega)⟩, ⟨y2 9 _ (by unfold yja; omega) (by omega), y2 10 _ (by unfold yja; omega) (by omega), y2 13 _ (by unfold yja; omega) (by omega)⟩, ⟨?_, ?_, ?_⟩, fun k hk => ?_, fun k hk => ?_, fun q => absurd q (Nat.lt_irrefl 0)⟩
  · rw [x2 i hi 4 (by omega) (by omega)]; exact y2 14 _ (by unfold yja; omega) (by omega)
  · rw [x2 i hi 5 (by omega) (by omega)]; exact y2 15 _ (by unfold yja; omega) (by omega)
  · rw [x2 i hi 6 (by omega) (by omega)]; exact y2 16 _ (by unfold yja; omega) (by omega)
  · rw [y1 12 _ (Or.inl rfl), x1 3 _ _ (by decide)]; exact d1 k hk
  · rw [y1 17 _ (Or.inr rfl), x1 4 _ _ (by decide)]; exact d2 k hk
theorem k_reset : pu_reset kSim := by
  intro t M U _ ⟨Z, Q, rk, rn, c, C, F, P, hj, L, ru, pa, hZ, hX, hY, hC, hK⟩
  obtain ⟨M', e1, a1, a2, a3, a4, a5, a6, a7, a8⟩ := x_fj hX hK (Nat.le_refl 9)
  obtain ⟨U', e2, b1, b2, b3⟩ := y_fj (Nat.le_refl 10) (sV U 0 0)
  refine ⟨M', U', 9, 10, ?_, ?_, ⟨Z, Q, rk, rn, c, _, _, _, _, _, _, _, hZ, hX.cg (fun d y k hd => a1 d y k (by omega)) a3 a7, yset.cg (U := U) hY (fun a k h1 h2 => b1 a k (by unfold yja; omega)), hC.cg (fun y k => a1 0 y k (by decide)), krl_0 hK a1 a2 ⟨a4, a5, a6⟩ a8 (fun a k h => b1 a k (by unfold yja; omega)) b2 b3⟩⟩
  · unfold j_O_reset
    rw [e1, Option.bind_some]
  · unfold j_Y_reset
    rw [e2, Option.bind_some]
theorem y_cl_L (n : Nat) : ∀ (m j f : Nat) (U : MY), j + m = 9 → m < f → (∀ k, k < j → U.1 1 k = 0) →
    ∃ U1, j_Y_clear_L7 n f (nI j) U = (j_Y_forgetJobs n U1).bind (fun M_3 => some M_3) ∧ U1.2 = U.2 ∧ (∀ a k, a ≠ 1 → U1.1 a k = U.1 a k) ∧ ∀ k, k < 9 → U1.1 1 k = 0 := by
  intro m
  induction m with
  | zero =>
    intro j f U hj hf h
    obtain ⟨f, rfl⟩ : ∃ g, f = g + 1 := ⟨f - 1, by omega⟩
    refine ⟨U, ?_, rfl, fun _ _ _ => rfl, fun k hk => h k (by omega)⟩
    rw [j_Y_clear_L7, if_pos (show (9 : Int32) ≤ nI j from nI_le (a := 9) (by omega) (by omega))]
  | succ m ih =>
    intro j f U hj hf h
    obtain ⟨f, rfl⟩ : ∃ g, f = g + 1 := ⟨f - 1, by omega⟩
    obtain ⟨U', e, h1, h2, h3⟩ := ih (j + 1) f (sA U 1 j 0) (by omega) (by omega) (fun k hk => by
      by_cases q : k = j
      · rw [q]; exact sA_at
      · rw [sA_ne (fun w => q w.2)]; exact h k (by omega))
    refine ⟨U', ?_, h1, fun a k ha => (h2 a k ha).trans (sA_ne (fun w => ha w.1)), h3⟩
    rw [j_Y_clear_L7, if_neg (show ¬ (9 : Int32) ≤ nI j from nI_ge (b := 9) (by omega) (by omega)), if_pos (nI_in (by omega) (by omega)), nI_clamp (by omega), nI_1]
    exact e
theorem k_clear : pu_clear kSim := by
  intro t M U _ ⟨Z, Q, rk, rn, c, C, F, P, hj, L, ru, pa, hZ, hX, hY, hC, hK⟩
  obtain ⟨M', e1, a1, a2, a3, a4, a5, a6, a7, a8⟩ := x_fj hX hK (Nat.le_refl 9)
  obtain ⟨U1, e2, c1, c2, c3⟩ := y_cl_L 10 9 0 10 (sV U 0 0) (by omega) (by omega) (fun k hk => absurd hk (Nat.not_lt_zero k))
  obtain ⟨U', e3, b1, b2, b3⟩ := y_fj (Nat.le_refl 10) U1
  have hX' : xset M' Z Q rk rn c := hX.cg (fun d y k hd => a1 d y k (by omega)) a3 a7
  obtain ⟨Z', hZ'⟩ : ∃ Z' : Nat → Nat → Nat, Z' = fun a i => if a = 0 then 0 else Z a i := ⟨_, rfl⟩
  have z0 : ∀ i, Z' 0 i = 0 := fun i => by rw [hZ']; rfl
  have nz : ∀ i, ¬ Z' 0 i = 1 := fun i => by rw [z0]; decide
  refine ⟨sG M' 0 2 0, U', 9, 10, ?_, ?_, ⟨Z', Q, rk, rn, 0, _, _, _, _, _, _, _, fun i _ => ⟨by rw [z0]; omega, fun q => absurd q (nz i)⟩, ⟨by omega, rfl, hX'.2.2.1, fun a b _ h => absurd h (Nat.not_lt_zero b), fun i hi => ?_⟩, fun i hi => ⟨?_, fun q => absurd q (nz i)⟩, fun i _ q => absurd q (nz i), krl_0 (M' := sG M' 0 2 0) hK a1 a2 ⟨a4, a5, a6⟩ a8 (fun a k h => (b1 a k (by unfold yja; omega)).trans (c2 a k (by omega))) b2 b3⟩⟩
  · unfold j_O_clear
    rw [e1, Option.bind_some]; rfl
  · unfold j_Y_clear
    rw [show (0 : Int32) = nI 0 from rfl]
    refine e2.trans ?_
    rw [e3, Option.bind_some]
  · obtain ⟨g1, g2, g3, g4, -, -⟩ := hX'.2.2.2.2 i hi
    exact ⟨g1, g2, g3, g4, ⟨fun q => absurd q (nz i), fun q => absurd q (Nat.not_lt_zero _)⟩, fun q => absurd q (nz i)⟩
  · rw [z0, b1 1 _ (by unfold yja; omega)]
    exact c3 _ (by omega)
theorem k_arrive : pu_arrive kSim := by
  intro t M U v ht ⟨Z, Q, rk, rn, c, C, F, P, hj, L, ru, pa, hZ, hX, hY, hC, hK⟩
  have hsim : kSim (t + 1) M (sV U 0 0) := kSim.ask hZ hX hK xsk.rf hC hY (yu.rf.sV 0 (Or.inl rfl))
  have hY0 : yset (sV U 0 0) Z Q := hY
  have out : v < 1 ∨ 8 < v → ∃ (M0 : MX) (U0 : MY) (n n' : Nat) (r : Int32), j_O_arrive n M v = some (r, M0) ∧ j_Y_arrive n' U v = some (r, U0) ∧ kSim (t + 1) M0 U0 := fun h =>
    ⟨M, sV U 0 0, 9, 9, 0, by unfold j_O_arrive; rw [x_find0 9 h, Option.bind_some]; rfl, by unfold j_Y_arrive; rw [y_isTask0 9 h, Option.bind_some, if_pos rfl], hsim⟩
  rcases nI_id v with h | h | ⟨i, hi, rfl⟩
  · exact out (Or.inl h)
  · exact out (Or.inr h)
  · by_cases hu : Z 0 i = 1
    · by_cases hR : zrdy Z
      · obtain ⟨⟨⟨a2, a3, a7⟩, ⟨b9, b10, b13⟩, cc, d1, d2, d3⟩, ⟨n1, n2, n3, n4, n5⟩, k3⟩ := hK.1 i hi
        obtain ⟨⟨g1, g2⟩, g3, gL, gR, gP⟩ := hK.2.1
        obtain ⟨m1, m2, m3, m4, m5, m6⟩ := hK.2.2
        have fx := (hX.2.2.2.2 _ hi).2.2.2.2.2 hu
        have fy := (hY _ hi).2 hu
        obtain ⟨T, hT⟩ : ∃ T, T = M.2.1 2 2 := ⟨_, rfl⟩
        have hm : C i % 9 < 9 := Nat.mod_lt _ (by omega)
        have hm1 : (C i - 1) % 9 < 9 := Nat.mod_lt _ (by omega)
        have er : nI (C i) - nI (C i) / 9 * 9 = nI (C i % 9) := nI_rem (b := 9) (by omega) (by omega)
        have hin : ¬ (nI (C i % 9) < 0 ∨ 9 ≤ (nI (C i % 9)).toNatClampNeg) := nI_in (by omega) (by omega)
        have ei : 9 * nI (i + 1) + nI (C i % 9) = nI (9 * (i + 1) + C i % 9) := by rw [show (9 : Int32) = nI 9 from rfl, nI_mul, nI_add]
        have hin2 : ¬ (nI (9 * (i + 1) + C i % 9) < 0 ∨ 81 ≤ (nI (9 * (i + 1) + C i % 9)).toNatClampNeg) := nI_in (by omega) (by omega)
        have es : nI (C i) - nI (F i) = nI (C i - F i) := nI_sub n1
        have xa : ∀ r N, j_J_accept 9 M (fin8 i) T (nI (Z 1 i)) = some (r, N) → (r = 0 ∨ r = 1) → j_O_arrive 9 M (nI (i + 1)) = some (r, if r = 0 then N else sG N 2 1 1) := fun r N e hr => by
          unfold j_O_arrive
          rw [x_find hX 9 hi, Option.bind_some, if_pos hu]
          show ((j_S_isReady 9 M).bind _) = _
          rw [(x_rdy hX hZ (by omega)).1 hR, Option.bind_some, if_neg d10]
          unfold j_K_accept
          rw [← hT, fx.1, e, Option.bind_some]
          rcases hr with rfl | rfl
          · rw [if_pos rfl, if_pos rfl, Option.bind_some, if_pos rfl]
          · rw [if_neg d10, if_neg d10, Option.bind_some, if_neg d10]
        have ya : ∀ r, (if nI (C i) ≤ 0 then (if nI (C i) - nI (F i) = 9 then some ((0 : Int32), sV U 0 0) else if ¬ (9 * nI (i + 1) + nI (C i % 9) < 0 ∨ 81 ≤ (9 * nI (i + 1) + nI (C i % 9)).toNatClampNeg) then some (1, sV (sA (sA (sA (sV U 0 0) 12 (9 * nI (i + 1) + nI (C i % 9)).toNatClampNeg T) 11 (i + 1) T) 9 (i + 1) (nI (C i + 1))) 25 1) else none)
            else if T - U.1 11 (i + 1) < nI (Z 1 i) then some (0, sV U 0 0) else if nI (C i) - nI (F i) = 9 then some (0, sV U 0 0) else if ¬ (9 * nI (i + 1) + nI (C i % 9) < 0 ∨ 81 ≤ (9 * nI (i + 1) + nI (C i % 9)).toNatClampNeg) then some (1, sV (sA (sA (sA (sV U 0 0) 12 (9 * nI (i + 1) + nI (C i % 9)).toNatClampNeg T) 11 (i + 1) T) 9 (i + 1) (nI (C i + 1))) 25 1) else none) = r → j_Y_arrive 9 U (nI (i + 1)) = r := fun r e => by
          have h15 : (sV U 0 0).2 15 = T := g3.trans hT.symm
          unfold j_Y_arrive
          rw [y_isTask hY0 hZ 9 hi, Option.bind_some, if_pos hu, if_neg d10, (y_rdy hY0 hZ (by omega)).1 hR, Option.bind_some, if_neg d10]
          simp only [if_pos (y_in hi)]
          simp only [nI_clamp (show i + 1 < 2 ^ 31 by omega), sA_2, h15]
          rw [show (sV U 0 0).1 9 (i + 1) = nI (C i) from b9, show (sV U 0 0).1 10 (i + 1) = nI (F i) from b10, show (sV U 0 0).1 2 (i + 1) = nI (Z 1 i) from fy.1, er, sA_ne (d' := 9) (fun q => by omega), sA_ne (d' := 9) (fun q => by omega), show (sV U 0 0).1 9 (i + 1) = nI (C i) from b9, nI_1]
          exact e
        have acc : C i - F i < 9 → j_J_accept 9 M (fin8 i) T (nI (Z 1 i)) = some (1, sF (sF M 3 (fin8 i) (C i % 9) T) 1 (fin8 i) 2 (nI (C i + 1))) → j_Y_arrive 9 U (nI (i + 1)) = some (1, sV (sA (sA (sA (sV U 0 0) 12 (9 * (i + 1) + C i % 9) T) 11 (i + 1) T) 9 (i + 1) (nI (C i + 1))) 25 1) → ∃ (M0 : MX) (U0 : MY) (n n' : Nat) (r : Int32), j_O_arrive n M (nI (i + 1)) = some (r, M0) ∧ j_Y_arrive n' U (nI (i + 1)) = some (r, U0) ∧ kSim (t + 1) M0 U0 := fun hlt e1 e2 => by
          have e1' := xa 1 _ e1 (Or.inr rfl)
          rw [if_neg d10] at e1'
          have mx : ∀ d y k, ¬ (y = fin8 i ∧ (d = 3 ∨ d = 1 ∧ k = 2)) → (sF (sF M 3 (fin8 i) (C i % 9) T) 1 (fin8 i) 2 (nI (C i + 1))).1 d y k = M.1 d y k := fun d y k hh => by
            rw [sF_ne (fun q => hh ⟨q.2.1, by omega⟩), sF_ne (fun q => hh ⟨q.2.1, by omega⟩)]
          have my : ∀ a k, ¬ ((a = 12 ∧ k = 9 * (i + 1) + C i % 9) ∨ ((a = 11 ∨ a = 9) ∧ k = i + 1)) → (sV (sA (sA (sA (sV U 0 0) 12 (9 * (i + 1) + C i % 9) T) 11 (i + 1) T) 9 (i + 1) (nI (C i + 1))) 25 1).1 a k = U.1 a k := fun a k hh => by
            show (sA (sA (sA (sV U 0 0) 12 (9 * (i + 1) + C i % 9) T) 11 (i + 1) T) 9 (i + 1) (nI (C i + 1))).1 a k = U.1 a k
            rw [sA_ne (fun q => hh (by omega)), sA_ne (fun q => hh (by omega)), sA_ne (fun q => hh (by omega))]; rfl
          refine ⟨_, _, 9, 9, 1, e1', e2, Z, Q, rk, rn, c, updN C i (C i + 1), F, P, 1, L, ru, pa, hZ, hX.cg (fun d y k hd => mx d y k (by omega)) rfl rfl, yset.cg (U := U) hY (fun a k q1 q2 => my a k (by omega)), hC.cg (fun y k => mx 0 y k (by omega)), fun j hj8 => ?_, ⟨⟨rfl, rfl⟩, g3, gL, gR, gP⟩, ⟨by omega, fun q => absurd q (by decide), fun _ => hR, m4, m5, fun x hx => ?_⟩⟩
          · by_cases ej : j = i
            · subst ej
              rw [updN_at]
              refine ⟨⟨⟨sF_at, (mx 1 _ 3 (by omega)).trans a3, (mx 1 _ 7 (by omega)).trans a7⟩, ⟨sA_at, (my 10 _ (by omega)).trans b10, (my 13 _ (by omega)).trans b13⟩, ⟨(my 14 _ (by omega)).trans (cc.1.trans (mx 1 _ 4 (by omega)).symm), (my 15 _ (by omega)).trans (cc.2.1.trans (mx 1 _ 5 (by omega)).symm), (my 16 _ (by omega)).trans (cc.2.2.trans (mx 1 _ 6 (by omega)).symm)⟩, fun k hk => ?_, fun k hk => (my 17 _ (by omega)).trans ((d2 k hk).trans (mx 4 _ k (by omega)).symm), fun _ => ?_⟩, ⟨by omega, by omega, by omega, n4, fun q => absurd hu q⟩, fun q => absurd hu q⟩
              · show (sA (sA (sA (sV U 0 0) 12 (9 * (j + 1) + C j % 9) T) 11 (j + 1) T) 9 (j + 1) (nI (C j + 1))).1 12 (9 * (j + 1) + k) = (sF (sF M 3 (fin8 j) (C j % 9) T) 1 (fin8 j) 2 (nI (C j + 1))).1 3 (fin8 j) k
                rw [sA_ne (by omega), sA_ne (by omega), sF_d (by decide)]
                by_cases ek : k = C j % 9
                · rw [ek, sA_at, sF_at]
                · rw [sA_ne (by omega), sF_k ek]; exact d1 k hk
              · show (sA (sA (sA (sV U 0 0) 12 (9 * (j + 1) + C j % 9) T) 11 (j + 1) T) 9 (j + 1) (nI (C j + 1))).1 11 (j + 1) = (sF (sF M 3 (fin8 j) (C j % 9) T) 1 (fin8 j) 2 (nI (C j + 1))).1 3 (fin8 j) ((C j + 1 - 1) % 9)
                rw [sA_ne (by omega), sA_at, sF_d (by decide), show C j + 1 - 1 = C j by omega, sF_at]
            · rw [updN_ne ej]
              obtain ⟨q1, ⟨q2, q3, q4, q5, q6⟩, q7⟩ := hK.1 j hj8
              have hne := fin8_ne hj8 hi ej
              exact ⟨q1.of (fun d k _ => mx d _ k (fun w => hne w.1)) (fun a _ h12 h17 => my a _ (by omega)) (fun k hk => my 12 _ (by omega)) (fun k hk => my 17 _ (by omega)), ⟨q2, q3, by omega, q5, q6⟩, fun w => by
                rw [show (sG (sF (sF M 3 (fin8 i) (C i % 9) T) 1 (fin8 i) 2 (nI (C i + 1))) 2 1 1).1 1 (fin8 j) 4 = M.1 1 (fin8 j) 4 from mx 1 _ 4 (fun w => hne w.1), show (sG (sF (sF M 3 (fin8 i) (C i % 9) T) 1 (fin8 i) 2 (nI (C i + 1))) 2 1 1).1 1 (fin8 j) 5 = M.1 1 (fin8 j) 5 from mx 1 _ 5 (fun w => hne w.1), show (sG (sF (sF M 3 (fin8 i) (C i % 9) T) 1 (fin8 i) 2 (nI (C i + 1))) 2 1 1).1 1 (fin8 j) 6 = M.1 1 (fin8 j) 6 from mx 1 _ 6 (fun w => hne w.1)]
                exact q7 w⟩
          · obtain ⟨w1, w2, w3, w4, w5⟩ := m6 x hx
            refine ⟨w1, ?_, w3, w4, w5⟩
            by_cases ej : x = i
            · rw [ej, updN_at]; rw [ej] at w2; omega
            · rw [updN_ne ej]; exact w2
        have rej : ∀ N, j_J_accept 9 M (fin8 i) T (nI (Z 1 i)) = some (0, N) → N = M → j_Y_arrive 9 U (nI (i + 1)) = some (0, sV U 0 0) → ∃ (M0 : MX) (U0 : MY) (n n' : Nat) (r : Int32), j_O_arrive n M (nI (i + 1)) = some (r, M0) ∧ j_Y_arrive n' U (nI (i + 1)) = some (r, U0) ∧ kSim (t + 1) M0 U0 := fun N e1 hN e2 => by
          have e1' := xa 0 N e1 (Or.inl rfl)
          rw [if_pos rfl, hN] at e1'
          exact ⟨M, sV U 0 0, 9, 9, 0, e1', e2, hsim⟩
        by_cases h9 : C i - F i = 9
        · have hc0 : ¬ nI (C i) ≤ 0 := nI_nle (by omega) (by omega)
          refine rej M ?_ rfl (ya _ ?_)
          · unfold j_J_accept
            rw [a2, a3, es, h9, if_neg (show ¬ nI 9 < 9 from nI_nlt (b := 9) (by omega) (by omega))]
          · rw [if_neg hc0, es, h9, if_pos (show nI 9 = 9 from rfl)]
            by_cases q : T - U.1 11 (i + 1) < nI (Z 1 i)
            · rw [if_pos q]
            · rw [if_neg q]
        · have hlt : C i - F i < 9 := by omega
          have hlt2 : nI (C i - F i) < 9 := nI_lt (b := 9) hlt (by omega)
          have hne9 : ¬ nI (C i - F i) = 9 := nI_ne (b := 9) h9 (by omega) (by omega)
          by_cases hc : C i = 0
          · have hc0 : nI (C i) ≤ 0 := by rw [hc]; decide +kernel
            refine acc hlt ?_ (ya _ ?_)
            · unfold j_J_accept
              rw [a2, a3, es, if_pos hlt2, if_pos hc0, er, if_pos hin, nI_clamp (by omega), sF_d (M := M) (d' := 1) (by decide), a2, nI_1]
            · rw [if_pos hc0, es, if_neg hne9, ei, if_pos hin2, nI_clamp (by omega)]
          · have hc0 : ¬ nI (C i) ≤ 0 := nI_nle (by omega) (by omega)
            have ep : nI (C i) - 1 = nI (C i - 1) := by rw [show (1 : Int32) = nI 1 from rfl, nI_sub (by omega)]
            have er1 : nI (C i - 1) - nI (C i - 1) / 9 * 9 = nI ((C i - 1) % 9) := nI_rem (b := 9) (by omega) (by omega)
            have d3' := d3 (by omega)
            by_cases q : nI (Z 1 i) ≤ T - M.1 3 (fin8 i) ((C i - 1) % 9)
            · refine acc hlt ?_ (ya _ ?_)
              · unfold j_J_accept
                rw [a2, a3, es, if_pos hlt2, if_neg hc0, ep, er1, if_pos (nI_in (by omega) (by omega)), nI_clamp (n := (C i - 1) % 9) (by omega), if_pos q, er, if_pos hin, nI_clamp (by omega), sF_d (M := M) (d' := 1) (by decide), a2, nI_1]
              · rw [if_neg hc0, d3', if_neg (le_not32 q), es, if_neg hne9, ei, if_pos hin2, nI_clamp (by omega)]
            · refine rej M ?_ rfl (ya _ ?_)
              · unfold j_J_accept
                rw [a2, a3, es, if_pos hlt2, if_neg hc0, ep, er1, if_pos (nI_in (by omega) (by omega)), nI_clamp (n := (C i - 1) % 9) (by omega), if_neg q]
              · rw [if_neg hc0, d3', if_pos (not_le32 q)]
      · refine ⟨M, sV U 0 0, 9, 9, 0, ?_, ?_, hsim⟩
        · unfold j_O_arrive
          rw [x_find hX 9 hi, Option.bind_some, if_pos hu]
          show ((j_S_isReady 9 M).bind _) = _
          rw [(x_rdy hX hZ (by omega)).2 hR, Option.bind_some, if_pos rfl]
        · unfold j_Y_arrive
          rw [y_isTask hY0 hZ 9 hi, Option.bind_some, if_pos hu, if_neg d10, (y_rdy hY0 hZ (by omega)).2 hR, Option.bind_some, if_pos rfl]
    · exact ⟨M, sV U 0 0, 9, 9, 0, by unfold j_O_arrive; rw [x_find hX 9 hi, Option.bind_some, if_neg hu]; rfl, by unfold j_Y_arrive; rw [y_isTask hY0 hZ 9 hi, Option.bind_some, if_neg hu, if_pos rfl], hsim⟩
