/-! PURE: segment, clear, reset, arrive -/
section S
variable {M M' : MX} {U U' : MY} {Z Q : Nat → Nat → Nat} {rk rn : Nat → Nat} {c x l : Nat}
def zsZ (Z : Nat → Nat → Nat) (x l : Nat) : Nat → Nat → Nat := fun a i => if i = x then (if a = 4 then Z 4 x + 1 else if a = 5 then Z 5 x + l else Z a i) else Z a i
def zsQ (Q : Nat → Nat → Nat) (x k l : Nat) : Nat → Nat → Nat := fun i q => if i = x ∧ q = k then l else Q i q
theorem zs_ne {i a : Nat} (h : i ≠ x) : zsZ Z x l a i = Z a i := if_neg h
theorem zs_x {a : Nat} (h4 : a ≠ 4) (h5 : a ≠ 5) : zsZ Z x l a x = Z a x := by unfold zsZ; rw [if_pos rfl, if_neg h4, if_neg h5]
theorem zs_4 : zsZ Z x l 4 x = Z 4 x + 1 := by unfold zsZ; rw [if_pos rfl, if_pos rfl]
theorem zs_5 : zsZ Z x l 5 x = Z 5 x + l := by unfold zsZ; rw [if_pos rfl, if_neg (by decide), if_pos rfl]
theorem zs_03 {i a : Nat} (h4 : a ≠ 4) (h5 : a ≠ 5) : zsZ Z x l a i = Z a i := by
  by_cases e : i = x
  · subst e; exact zs_x h4 h5
  · exact zs_ne e
theorem zsq_at {k : Nat} : zsQ Q x k l x k = l := if_pos ⟨rfl, rfl⟩
theorem zsq_ne {k i q : Nat} (h : ¬ (i = x ∧ q = k)) : zsQ Q x k l i q = Q i q := if_neg h
theorem zset_s (hZ : zset Z Q) (hu : Z 0 x = 1) (hk : Z 4 x < 8) (hl : 1 ≤ l) (hl2 : l ≤ 100) (hx : x < 8) : zset (zsZ Z x l) (zsQ Q x (Z 4 x) l) := by
  intro i hi
  rw [zs_03 (by decide) (by decide)]
  refine ⟨(hZ i hi).1, fun hui => ?_⟩
  obtain ⟨z1, z2, z3, z4, z5, z6, z7, z8, z9, z10⟩ := (hZ i hi).2 hui
  rw [zs_03 (a := 1) (by decide) (by decide), zs_03 (a := 2) (by decide) (by decide), zs_03 (a := 3) (by decide) (by decide)]
  refine ⟨z1, z2, z3, z4, z5, ?_, ?_, ?_, ?_, fun j hj huj e => z10 j hj (by rw [zs_03 (by decide) (by decide)] at huj; exact huj) (by rw [zs_03 (by decide) (by decide)] at e; exact e)⟩
  · by_cases e : i = x
    · rw [e, zs_4]; omega
    · rw [zs_ne e]; exact z6
  · intro q hq
    by_cases e : i = x
    · rw [e, zs_4] at hq
      rw [e]
      by_cases e2 : q = Z 4 x
      · rw [e2, zsq_at]; exact hl
      · rw [zsq_ne (fun w => e2 w.2), ← e]; exact z7 q (by rw [e]; omega)
    · rw [zs_ne e] at hq
      rw [zsq_ne (fun w => e w.1)]; exact z7 q hq
  · by_cases e : i = x
    · rw [e, zs_5, zs_4, ks_sum_succ, zsq_at, ← e, z8, e]
      congr 1
      exact ks_sum_congr _ (fun q hq => (zsq_ne (fun w => by omega)).symm)
    · rw [zs_ne e, zs_ne e, z8]
      exact ks_sum_congr _ (fun q hq => (zsq_ne (fun w => e w.1)).symm)
  · by_cases e : i = x
    · rw [e, zs_5, zs_4]; rw [e] at z9; omega
    · rw [zs_ne e, zs_ne e]; exact z9
/-- the class's set depends only on these -/
theorem xset.cg (h : xset M Z Q rk rn c) (h1 : ∀ d y k, d = 0 ∨ d = 2 → M'.1 d y k = M.1 d y k) (h2 : M'.2.1 0 2 = M.2.1 0 2) (h3 : M'.2.2.1 = M.2.2.1) : xset M' Z Q rk rn c := by
  obtain ⟨a1, a2, a3, a4, a5⟩ := h
  refine ⟨a1, h2.trans a2, fun r hr => by rw [h3]; exact a3 r hr, a4, fun i hi => ?_⟩
  obtain ⟨b1, b2, b3, b4, b5, b6⟩ := a5 i hi
  refine ⟨(h1 0 _ _ (Or.inl rfl)).trans b1, (h1 0 _ _ (Or.inl rfl)).trans b2, b3, b4, b5, fun hu => ?_⟩
  obtain ⟨c1, c2, c3, c4, c5, c6⟩ := b6 hu
  exact ⟨(h1 0 _ _ (Or.inl rfl)).trans c1, (h1 0 _ _ (Or.inl rfl)).trans c2, (h1 0 _ _ (Or.inl rfl)).trans c3, (h1 0 _ _ (Or.inl rfl)).trans c4, (h1 0 _ _ (Or.inl rfl)).trans c5, fun q hq => (h1 2 _ _ (Or.inr rfl)).trans (c6 q hq)⟩
theorem xch.cg (h : xch M Z Q) (h1 : ∀ y k, M'.1 0 y k = M.1 0 y k) : xch M' Z Q := by
  intro i hi hu
  obtain ⟨g1, g2⟩ := h i hi hu
  unfold xch1 xch2 at *
  rw [h1, h1, h1, h1]
  exact ⟨g1, g2⟩
theorem yset.cg (h : yset U Z Q) (h1 : ∀ a k, 1 ≤ a → a ≤ 6 → U'.1 a k = U.1 a k) : yset U' Z Q := by
  intro i hi
  obtain ⟨a1, a2⟩ := h i hi
  refine ⟨(h1 1 _ (by omega) (by omega)).trans a1, fun hu => ?_⟩
  obtain ⟨c1, c2, c3, c4, c5⟩ := a2 hu
  exact ⟨(h1 2 _ (by omega) (by omega)).trans c1, (h1 3 _ (by omega) (by omega)).trans c2, (h1 4 _ (by omega) (by omega)).trans c3, (h1 5 _ (by omega) (by omega)).trans c4, fun q hq => (h1 6 _ (by omega) (by omega)).trans (c5 q hq)⟩
theorem xset_s (h : xset M Z Q rk rn c) (hx : x < 8) (hu : Z 0 x = 1) :
    xset (sF (sF (sF M 2 (fin8 x) (Z 4 x) (nI l)) 0 (fin8 x) 6 (nI (Z 4 x + 1))) 0 (fin8 x) 7 (nI (Z 5 x + l))) (zsZ Z x l) (zsQ Q x (Z 4 x) l) rk rn c := by
  obtain ⟨a1, a2, a3, a4, a5⟩ := h
  have same : ∀ d y k, ¬ (y = fin8 x ∧ (d = 2 ∧ k = Z 4 x ∨ d = 0 ∧ (k = 6 ∨ k = 7))) → (sF (sF (sF M 2 (fin8 x) (Z 4 x) (nI l)) 0 (fin8 x) 6 (nI (Z 4 x + 1))) 0 (fin8 x) 7 (nI (Z 5 x + l))).1 d y k = M.1 d y k := fun d y k hh => by
    rw [sF_ne (fun q => hh ⟨q.2.1, Or.inr ⟨q.1, Or.inr q.2.2⟩⟩), sF_ne (fun q => hh ⟨q.2.1, Or.inr ⟨q.1, Or.inl q.2.2⟩⟩), sF_ne (fun q => hh ⟨q.2.1, Or.inl ⟨q.1, q.2.2⟩⟩)]
  refine ⟨a1, a2, a3, fun a b hab hb => by rw [zs_03 (by decide) (by decide), zs_03 (by decide) (by decide)]; exact a4 a b hab hb, fun i hi => ?_⟩
  obtain ⟨b1, b2, b3, b4, b5, b6⟩ := a5 i hi
  refine ⟨(same 0 _ 0 (fun q => by omega)).trans b1, (same 0 _ 8 (fun q => by omega)).trans b2, b3, b4, by rw [zs_03 (by decide) (by decide)]; exact b5, fun hui => ?_⟩
  rw [zs_03 (by decide) (by decide)] at hui
  obtain ⟨c1, c2, c3, c4, c5, c6⟩ := b6 hui
  rw [zs_03 (a := 1) (by decide) (by decide), zs_03 (a := 2) (by decide) (by decide), zs_03 (a := 3) (by decide) (by decide)]
  refine ⟨(same 0 _ 3 (fun q => by omega)).trans c1, (same 0 _ 4 (fun q => by omega)).trans c2, (same 0 _ 5 (fun q => by omega)).trans c3, ?_, ?_, fun q hq => ?_⟩
  · by_cases e : i = x
    · rw [e, zs_4, sF_k (by decide)]; exact sF_at
    · rw [zs_ne e, same 0 _ 6 (fun q => fin8_ne hi hx e q.1)]; exact c4
  · by_cases e : i = x
    · rw [e, zs_5]; exact sF_at
    · rw [zs_ne e, same 0 _ 7 (fun q => fin8_ne hi hx e q.1)]; exact c5
  · by_cases e : i = x
    · rw [e, zs_4] at hq
      rw [e]
      by_cases e2 : q = Z 4 x
      · rw [e2, zsq_at, sF_d (by decide), sF_d (by decide)]; exact sF_at
      · rw [zsq_ne (fun w => e2 w.2), same 2 _ q (fun w => by omega), ← e]; exact c6 q (by rw [e]; omega)
    · rw [zs_ne e] at hq
      rw [zsq_ne (fun w => e w.1), same 2 _ q (fun w => fin8_ne hi hx e w.1)]; exact c6 q hq
theorem yset_s (h : yset U Z Q) (hZ : zset Z Q) (hx : x < 8) (hk : Z 4 x < 8) : yset (sA (sA U 6 (8 * (x + 1) + Z 4 x) (nI l)) 5 (x + 1) (nI (Z 4 x + 1))) (zsZ Z x l) (zsQ Q x (Z 4 x) l) := by
  intro i hi
  obtain ⟨a1, a2⟩ := h i hi
  have same : ∀ a k, a ≠ 5 → a ≠ 6 → (sA (sA U 6 (8 * (x + 1) + Z 4 x) (nI l)) 5 (x + 1) (nI (Z 4 x + 1))).1 a k = U.1 a k := fun a k h5 h6 => by
    rw [sA_ne (fun q => h5 q.1), sA_ne (fun q => h6 q.1)]
  refine ⟨by rw [same 1 _ (by decide) (by decide), zs_03 (by decide) (by decide)]; exact a1, fun hui => ?_⟩
  rw [zs_03 (by decide) (by decide)] at hui
  have hp8 := ((hZ i hi).2 hui).2.2.2.2.2.1
  obtain ⟨c1, c2, c3, c4, c5⟩ := a2 hui
  rw [same 2 _ (by decide) (by decide), same 3 _ (by decide) (by decide), same 4 _ (by decide) (by decide), zs_03 (a := 1) (by decide) (by decide), zs_03 (a := 2) (by decide) (by decide), zs_03 (a := 3) (by decide) (by decide)]
  refine ⟨c1, c2, c3, ?_, fun q hq => ?_⟩
  · by_cases e : i = x
    · rw [e, zs_4]; exact sA_at
    · rw [zs_ne e, sA_ne (fun q => by omega), sA_ne (fun q => by omega)]; exact c4
  · rw [sA_ne (fun w => by omega)]
    by_cases e : i = x
    · rw [e, zs_4] at hq
      rw [e]
      by_cases e2 : q = Z 4 x
      · rw [e2, zsq_at]; exact sA_at
      · rw [zsq_ne (fun w => e2 w.2), sA_ne (fun w => by omega), ← e]; exact c5 q (by rw [e]; omega)
    · rw [zs_ne e] at hq
      rw [zsq_ne (fun w => e w.1), sA_ne (fun w => by omega)]; exact c5 q hq
end S
theorem k_segment : pu_segment kSim := by
  intro t M U v v2 _ ⟨Z, Q, rk, rn, c, C, F, P, hj, L, ru, pa, hZ, hX, hY, hC, hK⟩
  have hsim : kSim (t + 1) M (sV U 0 0) := kSim.ask hZ hX hK xsk.rf hC hY (yu.rf.sV 0 (Or.inl rfl))
  have hY0 : yset (sV U 0 0) Z Q := hY
  obtain ⟨ghj, ghj2⟩ := hK.2.1.1
  have ghj3 : (sV U 0 0).2 25 = nI hj := ghj2
  by_cases h0 : hj = 0
  · subst h0
    have no : ∀ (v : Int32), j_S_addSegment 9 M v v2 = some (0, M) → j_Y_segment 9 U v v2 = some (0, sV U 0 0) → ∃ (M0 : MX) (U0 : MY) (n n' : Nat) (r : Int32), j_O_segment n M v v2 = some (r, M0) ∧ j_Y_segment n' U v v2 = some (r, U0) ∧ kSim (t + 1) M0 U0 := fun v e1 e2 =>
      ⟨M, sV U 0 0, 9, 9, 0, by unfold j_O_segment; rw [if_pos (show M.2.1 2 1 = 0 from ghj), e1, Option.bind_some, if_pos rfl], e2, hsim⟩
    have out : v < 1 ∨ 8 < v → ∃ (M0 : MX) (U0 : MY) (n n' : Nat) (r : Int32), j_O_segment n M v v2 = some (r, M0) ∧ j_Y_segment n' U v v2 = some (r, U0) ∧ kSim (t + 1) M0 U0 := fun h =>
      no v (by unfold j_S_addSegment; rw [x_find0 9 h, Option.bind_some]; rfl) (by unfold j_Y_segment; rw [if_pos (show (sV U 0 0).2 25 = 0 from ghj2), y_isTask0 9 h, Option.bind_some, if_pos rfl])
    rcases nI_id v with h | h | ⟨i, hi, rfl⟩
    · exact out (Or.inl h)
    · exact out (Or.inr h)
    · by_cases hu : Z 0 i = 1
      · have fx := (hX.2.2.2.2 _ hi).2.2.2.2.2 hu
        have fy := (hY _ hi).2 hu
        have hz := (hZ _ hi).2 hu
        have hp8 : Z 4 i ≤ 8 := hz.2.2.2.2.2.1
        have hw : Z 5 i ≤ 8800 := z_W hZ hi hu
        have ax : ∀ r, j_T_append 9 M (fin8 i) v2 = r → j_S_addSegment 9 M (nI (i + 1)) v2 = r.bind (fun q_5 => if q_5.1 = 0 then some (0, q_5.2) else (j_S_forgetFindings 9 q_5.2).bind fun M_8 => some (1, M_8)) := fun r e => by
          unfold j_S_addSegment
          rw [x_find hX 9 hi, Option.bind_some, if_pos hu, ← e]; rfl
        have ay : ∀ r, (if U.1 5 (i + 1) = 8 then some ((0 : Int32), sV U 0 0) else if v2 < 1 then some (0, sV U 0 0) else if v2 ≤ 100 then (if ¬ (8 * nI (i + 1) + U.1 5 (i + 1) < 0 ∨ 72 ≤ (8 * nI (i + 1) + U.1 5 (i + 1)).toNatClampNeg) then some (1, sA (sA (sV U 0 0) 6 (8 * nI (i + 1) + U.1 5 (i + 1)).toNatClampNeg v2) 5 (i + 1) ((sA (sV U 0 0) 6 (8 * nI (i + 1) + U.1 5 (i + 1)).toNatClampNeg v2).1 5 (i + 1) + 1)) else none) else some (0, sV U 0 0)) = r → j_Y_segment 9 U (nI (i + 1)) v2 = r := fun r e => by
          unfold j_Y_segment
          rw [if_pos (show (sV U 0 0).2 25 = 0 from ghj2), y_isTask hY0 hZ 9 hi, Option.bind_some, if_pos hu, if_neg d10]
          simp only [if_pos (y_in hi)]
          rw [nI_clamp (show i + 1 < 2 ^ 31 by omega)]
          exact e
        by_cases e8 : Z 4 i = 8
        · refine no _ ((ax _ rfl).trans ?_) (ay _ ?_)
          · unfold j_T_append
            rw [fx.2.2.2.1, e8, if_pos (show (8 : Int32) ≤ nI 8 from nI_le (a := 8) (by omega) (by omega)), Option.bind_some, if_pos rfl]
          · rw [fy.2.2.2.1, e8, if_pos (show nI 8 = 8 from rfl)]
        · have e8x : ¬ (8 : Int32) ≤ nI (Z 4 i) := nI_ge (b := 8) (by omega) (by omega)
          have e8y : ¬ nI (Z 4 i) = 8 := nI_ne (b := 8) e8 (by omega) (by omega)
          by_cases b1 : v2 < 1
          · refine no _ ((ax _ rfl).trans ?_) (ay _ ?_)
            · unfold j_T_append
              rw [fx.2.2.2.1, if_neg e8x, if_pos b1, Option.bind_some, if_pos rfl]
            · rw [fy.2.2.2.1, if_neg e8y, if_pos b1]
          · by_cases b2 : v2 ≤ 100
            · obtain ⟨l, hl, rfl⟩ := nI_btw (a := v2) (k := 100) (by omega) (fun q => b1 (by
                rw [Int32.lt_iff_toInt_lt] at q ⊢
                have e0 : (0 : Int32).toInt = 0 := by decide +kernel
                have e1 : (1 : Int32).toInt = 1 := by decide +kernel
                omega)) (le_not32 b2)
              have hl1 : 1 ≤ l := by
                by_cases q : l = 0
                · subst q; exact absurd b1 (by decide +kernel)
                · omega
              have eX : j_T_append 9 M (fin8 i) (nI l) = some (1, sF (sF (sF M 2 (fin8 i) (Z 4 i) (nI l)) 0 (fin8 i) 6 (nI (Z 4 i + 1))) 0 (fin8 i) 7 (nI (Z 5 i + l))) := by
                unfold j_T_append
                rw [fx.2.2.2.1, if_neg e8x, if_neg b1, if_pos b2, if_pos (nI_in (by omega) (by omega)), nI_clamp (by omega)]
                rw [sF_d (M := M) (d' := 0) (by decide), fx.2.2.2.1, nI_1, sF_k (k' := 7) (by decide), sF_d (M := M) (d' := 0) (by decide), fx.2.2.2.2.1, nI_add]
              have hX1 := xset_s (l := l) hX hi hu
              obtain ⟨M2, f1, f2, f3⟩ := x_ff hX1 (Nat.le_refl 9)
              have ei : 8 * nI (i + 1) + nI (Z 4 i) = nI (8 * (i + 1) + Z 4 i) := (y_seg hi (by omega)).1
              have hxu : xu M (sF (sF (sF M 2 (fin8 i) (Z 4 i) (nI l)) 0 (fin8 i) 6 (nI (Z 4 i + 1))) 0 (fin8 i) 7 (nI (Z 5 i + l))) := ⟨rfl, fun _ => rfl, fun d y k h1 h2 => by rw [sF_d h1, sF_d h1, sF_d h2]⟩
              refine ⟨M2, sA (sA (sV U 0 0) 6 (8 * (i + 1) + Z 4 i) (nI l)) 5 (i + 1) (nI (Z 4 i + 1)), 9, 9, 1, ?_, ay _ ?_, ⟨zsZ Z i l, zsQ Q i (Z 4 i) l, rk, rn, c, C, F, P, 0, L, ru, pa, zset_s hZ hu (by omega) hl1 hl hi, hX1.sk f2, yset_s hY0 hZ hi (by omega), f3, hK.new (hxu.trans f2.st.u) ⟨fun a k ha => by rw [sA_ne (fun q => by omega), sA_ne (fun q => by omega)]; rfl, fun f hf => sV_ne (by omega)⟩ (fun j _ q => by rw [zs_03 (by decide) (by decide)]; exact q)⟩⟩
              · unfold j_O_segment
                rw [if_pos (show M.2.1 2 1 = 0 from ghj), ax _ eX, Option.bind_some, if_neg d10, f1, Option.bind_some, Option.bind_some, if_neg d10]
              · rw [fy.2.2.2.1, if_neg e8y, if_neg b1, if_pos b2, ei, if_pos (nI_in (by omega) (by omega)), nI_clamp (by omega), sA_ne (d' := 5) (fun q => by omega), show (sV U 0 0).1 5 (i + 1) = nI (Z 4 i) from fy.2.2.2.1, nI_1]
            · refine no _ ((ax _ rfl).trans ?_) (ay _ ?_)
              · unfold j_T_append
                rw [fx.2.2.2.1, if_neg e8x, if_neg b1, if_neg b2, Option.bind_some, if_pos rfl]
              · rw [fy.2.2.2.1, if_neg e8y, if_neg b1, if_neg b2]
      · exact no _ (by unfold j_S_addSegment; rw [x_find hX 9 hi, Option.bind_some, if_neg hu]; rfl) (by unfold j_Y_segment; rw [if_pos (show (sV U 0 0).2 25 = 0 from ghj2), y_isTask hY0 hZ 9 hi, Option.bind_some, if_neg hu, if_pos rfl])
  · have h1 : hj = 1 := by have := hK.2.2.1; omega
    subst h1
    refine ⟨M, sV U 0 0, 9, 9, 0, ?_, ?_, hsim⟩
    · unfold j_O_segment
      rw [if_neg (show ¬ M.2.1 2 1 = 0 by rw [ghj]; exact d10)]
    · unfold j_Y_segment
      rw [if_neg (show ¬ (sV U 0 0).2 25 = 0 by rw [ghj3]; exact d10)]
