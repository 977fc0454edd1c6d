/-! PURE: tick: a segment begins, both sides -/
theorem seg_at {N : MX} {x : Fin 8} {np p n : Nat} (h6 : N.1 0 x 6 = nI np) (hp : p < np) (h8 : np ≤ 8) : j_T_segmentAt n N x (nI p) = some (N.1 2 x p) := by
  unfold j_T_segmentAt
  rw [if_neg (nI_pos (by omega)), h6, if_pos (nI_lt hp (by omega)), if_pos (nI_in (by omega) (by omega)), nI_clamp (by omega)]
section B
variable {t : Nat} {M M' : MX} {U U' : MY} {Z Q : Nat → Nat → Nat} {rk rn C F P : Nat → Nat} {c hj L ru pa : Nat}
theorem kb_state (hZ : zset Z Q) (hS : kst t M U Z Q rk rn c C F P hj L 0 pa) {k : Nat} (hk : k < 8) (hu : Z 0 k = 1) (hlt : F k < C k) (hP : P k < Z 4 k) :
    kst t (sG (sU (sP M none) (some (fin8 k))) 2 3 (nI (Q k (P k)))) (sA (sV (sV (sV U 28 0) 26 (nI (k + 1))) 27 (nI (Q k (P k)))) 13 (k + 1) (nI (P k + 1))) Z Q rk rn c C F P hj (Q k (P k)) (k + 1) 0 := by
  obtain ⟨hX, hY, hC, ⟨h1, ⟨g1, g2, g3, g4, g5⟩, ⟨m1, m2, m3, m4, m5, m6⟩⟩, h0⟩ := hS
  have my : ∀ a j, ¬ (a = 13 ∧ j = k + 1) → (sA (sV (sV (sV U 28 0) 26 (nI (k + 1))) 27 (nI (Q k (P k)))) 13 (k + 1) (nI (P k + 1))).1 a j = U.1 a j := fun a j h => sA_ne h
  refine ⟨hX.cg (fun _ _ _ _ => rfl) rfl rfl, hY.cg (fun a j q1 q2 => my a j (by omega)), hC.cg (fun _ _ => rfl), ⟨fun i hi => ?_, ⟨g1, g2, ⟨rfl, rfl⟩, ⟨rfl, rfl⟩, ⟨rfl, rfl⟩⟩, ⟨m1, fun q => ?_, m3, by omega, ⟨by omega, fun x hx => absurd hx (by omega)⟩, fun x hx => ?_⟩⟩, h0⟩
  · obtain ⟨kk, q2, q3⟩ := h1 i hi
    rw [if_neg (show ¬ 0 = i + 1 by omega)] at kk
    refine ⟨?_, q2, q3⟩
    by_cases e : i = k
    · subst e
      rw [if_pos rfl]
      obtain ⟨a1, ⟨b1, b2, b3⟩, ⟨c1, c2, c3⟩, d1, d2, d3⟩ := kk
      exact ⟨a1, ⟨(my 9 _ (by omega)).trans b1, (my 10 _ (by omega)).trans b2, sA_at⟩, ⟨(my 14 _ (by omega)).trans c1, (my 15 _ (by omega)).trans c2, (my 16 _ (by omega)).trans c3⟩, fun j hj => (my 12 _ (by omega)).trans (d1 j hj), fun j hj => (my 17 _ (by omega)).trans (d2 j hj), fun q => (my 11 _ (by omega)).trans (d3 q)⟩
    · rw [if_neg (by omega)]
      exact kk.of (fun _ _ _ => rfl) (fun a _ _ _ => my a _ (by omega)) (fun j _ => my 12 _ (by omega)) (fun j _ => my 17 _ (by omega))
  · have := (m2 q).1 k hk
    omega
  · have e : x = k := by omega
    rw [e]
    exact ⟨hu, hlt, hP, ((hZ k hk).2 hu).2.2.2.2.2.2.1 _ hP, z_seg hZ hk hu hP⟩
theorem kb_bump (hS : kst t M U Z Q rk rn c C F P hj L 0 pa) {y : Nat} (hy : y < 8) (hu : Z 0 y = 1) :
    kst t (sF M 1 (fin8 y) 5 (M.1 1 (fin8 y) 5 + 1)) (sA U 15 (y + 1) (U.1 15 (y + 1) + 1)) Z Q rk rn c C F P hj L 0 pa := by
  obtain ⟨hX, hY, hC, ⟨h1, g, m⟩, h0⟩ := hS
  have mx : ∀ d z k, ¬ (d = 1 ∧ z = fin8 y ∧ k = 5) → (sF M 1 (fin8 y) 5 (M.1 1 (fin8 y) 5 + 1)).1 d z k = M.1 d z k := fun d z k h => sF_ne h
  have my : ∀ a j, ¬ (a = 15 ∧ j = y + 1) → (sA U 15 (y + 1) (U.1 15 (y + 1) + 1)).1 a j = U.1 a j := fun a j h => sA_ne h
  refine ⟨hX.cg (fun d z k h => mx d z k (fun q => by omega)) rfl rfl, hY.cg (fun a j q1 q2 => my a j (by omega)), hC.cg (fun z k => mx 0 z k (fun q => absurd q.1 (by decide))), ⟨fun i hi => ?_, g, m⟩, h0⟩
  obtain ⟨kk, q2, q3⟩ := h1 i hi
  by_cases e : i = y
  · subst e
    obtain ⟨⟨a1, a2, a3⟩, ⟨b1, b2, b3⟩, ⟨c1, c2, c3⟩, d1, d2, d3⟩ := kk
    refine ⟨⟨⟨(mx 1 _ 2 (fun q => absurd q.2.2 (by decide))).trans a1, (mx 1 _ 3 (fun q => absurd q.2.2 (by decide))).trans a2, (mx 1 _ 7 (fun q => absurd q.2.2 (by decide))).trans a3⟩, ⟨(my 9 _ (by omega)).trans b1, (my 10 _ (by omega)).trans b2, (my 13 _ (by omega)).trans b3⟩, ⟨?_, ?_, ?_⟩, fun j hj => ?_, fun j hj => ?_, fun q => ?_⟩, q2, fun w => absurd hu w⟩
    · rw [my 14 _ (by omega), mx 1 _ 4 (fun q => absurd q.2.2 (by decide))]; exact c1
    · rw [sA_at, sF_at, c2]
    · rw [my 16 _ (by omega), mx 1 _ 6 (fun q => absurd q.2.2 (by decide))]; exact c3
    · rw [my 12 _ (by omega), mx 3 _ _ (fun q => absurd q.1 (by decide))]; exact d1 j hj
    · rw [my 17 _ (by omega), mx 4 _ _ (fun q => absurd q.1 (by decide))]; exact d2 j hj
    · rw [my 11 _ (by omega), mx 3 _ _ (fun q => absurd q.1 (by decide))]; exact d3 q
  · have hne := fin8_ne hi hy e
    refine ⟨kk.of (fun d k _ => mx d _ k (fun q => hne q.2.1)) (fun a _ _ _ => my a _ (by omega)) (fun j _ => my 12 _ (by omega)) (fun j _ => my 17 _ (by omega)), q2, fun w => ?_⟩
    rw [mx 1 _ 4 (fun q => hne q.2.1), mx 1 _ 5 (fun q => hne q.2.1), mx 1 _ 6 (fun q => hne q.2.1)]
    exact q3 w
/-- the class begins a segment of k, nothing being counted as interrupted any more -/
theorem x_bg {n k np p : Nat} {q : Int32} (h7 : M.1 1 (fin8 k) 7 = nI p) (h6 : M.1 0 (fin8 k) 6 = nI np) (hp : p < np) (h8 : np ≤ 8) (hq : M.1 2 (fin8 k) p = q) :
    ((j_T_segmentAt n (sU (sP M none) (some (fin8 k))) (fin8 k) ((sU (sP M none) (some (fin8 k))).1 1 (fin8 k) 7)).bind fun r_6 => some (sG (sU (sP M none) (some (fin8 k))) 2 3 r_6)) = some (sG (sU (sP M none) (some (fin8 k))) 2 3 q) := by
  rw [show (sU (sP M none) (some (fin8 k))).1 1 (fin8 k) 7 = nI p from h7, seg_at (N := sU (sP M none) (some (fin8 k))) h6 hp h8, Option.bind_some, show (sU (sP M none) (some (fin8 k))).1 2 (fin8 k) p = q from hq]
theorem y_bg {k p : Nat} {q : Int32} (hk : k < 8) (hp : p < 8) (h13 : U.1 13 (k + 1) = nI p) (hq : U.1 6 (8 * (k + 1) + p) = q) :
    (if ¬ (8 * nI (k + 1) + U.1 13 (k + 1) < 0 ∨ 72 ≤ (8 * nI (k + 1) + U.1 13 (k + 1)).toNatClampNeg) then some (sA (sV (sV (sV U 28 0) 26 (nI (k + 1))) 27 (U.1 6 (8 * nI (k + 1) + U.1 13 (k + 1)).toNatClampNeg)) 13 (k + 1) (U.1 13 (k + 1) + 1)) else none) = some (sA (sV (sV (sV U 28 0) 26 (nI (k + 1))) 27 q) 13 (k + 1) (nI (p + 1))) := by
  obtain ⟨e1, e2, e3⟩ := y_seg hk hp
  rw [h13, e1, if_pos e2, e3, hq, nI_1]
theorem k_begin (hZ : zset Z Q) (hS : kst t M U Z Q rk rn c C F P hj L 0 pa) (ht : t ≤ 600) {n : Nat} (hn : 9 ≤ n) :
    ((∀ i, i < 8 → Z 0 i = 1 → ¬ F i < C i) ∧ j_K_beginSegment n M = some M ∧ j_Y_begin n U = some U) ∨ ∃ k M1 U1, k < 8 ∧ j_K_beginSegment n M = some M1 ∧ j_Y_begin n U = some U1 ∧ kst t M1 U1 Z Q rk rn c C F P hj (Q k (P k)) (k + 1) 0 := by
  obtain ⟨hX, hY, hC, hK, h0⟩ := hS
  rcases hw_both hZ hX hY hK ht hn with ⟨hno, e1, e2⟩ | ⟨k, hk, hu, hlt, e1, e2⟩
  · refine Or.inl ⟨hno, ?_, ?_⟩
    · unfold j_K_beginSegment
      rw [e1, Option.bind_some]; rfl
    · unfold j_Y_begin
      rw [e2, Option.bind_some, if_pos (show nI 0 = 0 from rfl)]
  · obtain ⟨⟨⟨a2, a3, a7⟩, ⟨b9, b10, b13⟩, -, -, -, -⟩, ⟨n1, n2, n3, n4, n5⟩, -⟩ := hK.1 k hk
    obtain ⟨-, -, -, -, ⟨gP, gP2⟩⟩ := hK.2.1
    obtain ⟨m1, m2, m3, m4, m5, -⟩ := hK.2.2
    rw [if_neg (show ¬ 0 = k + 1 by omega)] at b13
    have hj1 : hj = 1 := by
      by_cases q : hj = 0
      · have := (m2 q).1 k hk; omega
      · omega
    have hR := m3 hj1
    have hP : P k < Z 4 k := by
      have := n4 hu
      have := hR.2 k hk hu
      omega
    have fx := (hX.2.2.2.2 _ hk).2.2.2.2.2 hu
    have fy := (hY _ hk).2 hu
    have hp8 := ((hZ _ hk).2 hu).2.2.2.2.2.1
    have hne : ¬ nI (k + 1) = 0 := nI_ne0 (by omega) (by omega)
    have ex : ∀ N : MX, N.1 1 (fin8 k) 7 = nI (P k) → N.1 0 (fin8 k) 6 = nI (Z 4 k) → N.1 2 (fin8 k) (P k) = nI (Q k (P k)) → ((j_T_segmentAt n (sU (sP N none) (some (fin8 k))) (fin8 k) ((sU (sP N none) (some (fin8 k))).1 1 (fin8 k) 7)).bind fun r_6 => some (sG (sU (sP N none) (some (fin8 k))) 2 3 r_6)) = some (sG (sU (sP N none) (some (fin8 k))) 2 3 (nI (Q k (P k)))) := fun N q1 q2 q3 => x_bg q1 q2 hP hp8 q3
    have exM := ex M a7 fx.2.2.2.1 (fx.2.2.2.2.2 _ hP)
    have eyU := y_bg (U := U) (q := nI (Q k (P k))) hk (show P k < 8 by omega) b13 (fy.2.2.2.2 _ hP)
    have same := kb_state hZ ⟨hX, hY, hC, hK, h0⟩ hk hu hlt hP
    by_cases p0 : pa = 0
    · subst p0
      refine Or.inr ⟨k, _, _, hk, ?_, ?_, same⟩
      · unfold j_K_beginSegment
        rw [e1, Option.bind_some]
        show gw_oc M.2.2.2.2 _ _ = _
        rw [gP]
        exact exM
      · unfold j_Y_begin
        rw [e2, Option.bind_some, if_neg hne, if_pos (show U.2 28 = 0 from gP2)]
        simp only [if_pos (y_in hk)]
        rw [nI_clamp (show k + 1 < 2 ^ 31 by omega)]
        exact eyU
    · obtain ⟨y, rfl⟩ : ∃ y, pa = y + 1 := ⟨pa - 1, by omega⟩
      have hy8 : y < 8 := by have := m5.1; omega
      have hpn : ¬ U.2 28 = 0 := by rw [gP2]; exact nI_ne0 (by omega) (by omega)
      by_cases ek : y = k
      · subst ek
        refine Or.inr ⟨y, _, _, hk, ?_, ?_, same⟩
        · unfold j_K_beginSegment
          rw [e1, Option.bind_some]
          show gw_oc M.2.2.2.2 _ _ = _
          rw [gP]
          show (if zo (y + 1) = some (fin8 y) then _ else _) = _
          rw [if_pos (show zo (y + 1) = some (fin8 y) from rfl)]
          exact exM
        · unfold j_Y_begin
          rw [e2, Option.bind_some, if_neg hne, if_neg hpn, if_pos gP2]
          simp only [if_pos (y_in hk)]
          rw [nI_clamp (show y + 1 < 2 ^ 31 by omega)]
          exact eyU
      · have hne2 := fin8_ne hk hy8 (fun q => ek q.symm)
        have hS2 := kb_bump ⟨hX, hY, hC, hK, h0⟩ hy8 (m5.2 y rfl)
        refine Or.inr ⟨k, _, _, hk, ?_, ?_, kb_state hZ hS2 hk hu hlt hP⟩
        · unfold j_K_beginSegment
          rw [e1, Option.bind_some]
          show gw_oc M.2.2.2.2 _ _ = _
          rw [gP]
          show (if zo (y + 1) = some (fin8 k) then _ else _) = _
          rw [if_neg (show ¬ zo (y + 1) = some (fin8 k) from fun q => hne2 (Option.some.inj q).symm)]
          exact ex (sF M 1 (fin8 y) 5 (M.1 1 (fin8 y) 5 + 1)) ((sF_x hne2).trans a7) ((sF_x hne2).trans fx.2.2.2.1) ((sF_x hne2).trans (fx.2.2.2.2.2 _ hP))
        · have eyV := y_bg (U := sA U 15 (y + 1) (U.1 15 (y + 1) + 1)) (q := nI (Q k (P k))) hk (show P k < 8 by omega) ((sA_ne (by omega)).trans b13) ((sA_ne (by omega)).trans (fy.2.2.2.2 _ hP))
          unfold j_Y_begin
          rw [e2, Option.bind_some, if_neg hne, if_neg hpn, gP2, if_neg (nI_ne (by omega) (by omega) (by omega))]
          simp only [if_pos (y_in hk), if_pos (y_in hy8)]
          rw [nI_clamp (show k + 1 < 2 ^ 31 by omega), nI_clamp (show y + 1 < 2 ^ 31 by omega)]
          exact eyV
end B
