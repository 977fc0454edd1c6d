/-! PURE: forgetting findings; what is asked first, both sides -/
section F
variable {rk rn : Nat → Nat} {c : Nat}
theorem x_ff_L (n : Nat) (hc : c ≤ 8) : ∀ (k r f : Nat) (M : MX), r + k = c → k < f → M.2.1 0 2 = nI c → (∀ q, q < 8 → M.2.2.1 q = fin8 (rn q)) →
    ∃ M', j_S_forgetFindings_L2 n f (nI r) M = some M' ∧ xsk M M' ∧ (∀ q, r ≤ q → q < c → M'.1 0 (fin8 (rn q)) 9 = -2 ∧ M'.1 0 (fin8 (rn q)) 12 = -2) ∧ ∀ y : Fin 8, (M.1 0 y 9 = -2 → M'.1 0 y 9 = -2) ∧ (M.1 0 y 12 = -2 → M'.1 0 y 12 = -2) := by
  intro k
  induction k with
  | zero =>
    intro r f M hr hf hcnt hrk
    obtain ⟨f, rfl⟩ : ∃ g, f = g + 1 := ⟨f - 1, by omega⟩
    refine ⟨M, ?_, xsk.rf, fun q h1 h2 => absurd h2 (by omega), fun y => ⟨fun h => h, fun h => h⟩⟩
    rw [j_S_forgetFindings_L2, hcnt, if_pos (nI_le (by omega) (by omega))]
  | succ k ih =>
    intro r f M hr hf hcnt hrk
    obtain ⟨f, rfl⟩ : ∃ g, f = g + 1 := ⟨f - 1, by omega⟩
    obtain ⟨M', e, h1, h2, h3⟩ := ih (r + 1) f (sF (sF M 0 (fin8 (rn r)) 9 (-2)) 0 (fin8 (rn r)) 12 (-2)) (by omega) (by omega) hcnt hrk
    have a9 : ∀ y, (M.1 0 y 9 = -2 ∨ y = fin8 (rn r)) → M'.1 0 y 9 = -2 := fun y h => (h3 y).1 (by
      rw [sF_k (by decide)]
      by_cases e : y = fin8 (rn r)
      · rw [e]; exact sF_at
      · rw [sF_x e]; exact h.resolve_right e)
    have a12 : ∀ y, (M.1 0 y 12 = -2 ∨ y = fin8 (rn r)) → M'.1 0 y 12 = -2 := fun y h => (h3 y).2 (by
      by_cases e : y = fin8 (rn r)
      · rw [e]; exact sF_at
      · rw [sF_x e, sF_x e]; exact h.resolve_right e)
    refine ⟨M', ?_, ((xsk.rf.sF (fin8 (rn r)) (-2) (by omega)).sF (fin8 (rn r)) (-2) (by omega)).trans h1, fun q g1 g2 => ?_, fun y => ⟨fun h => a9 y (Or.inl h), fun h => a12 y (Or.inl h)⟩⟩
    · rw [j_S_forgetFindings_L2, hcnt, if_neg (nI_ge (by omega) (by omega)), if_pos (nI_in (by omega) (by omega)), nI_clamp (by omega), hrk r (by omega), nI_1]
      exact e
    · by_cases e2 : q = r
      · rw [e2]; exact ⟨a9 _ (Or.inr rfl), a12 _ (Or.inr rfl)⟩
      · exact h2 q (by omega) g2
theorem x_ff {M : MX} {Z Q : Nat → Nat → Nat} (hX : xset M Z Q rk rn c) {n : Nat} (hn : 9 ≤ n) : ∃ M', j_S_forgetFindings n M = some M' ∧ xsk M M' ∧ xch M' Z Q := by
  have hc8 := hX.1
  obtain ⟨M', e, h1, h2, -⟩ := x_ff_L (rn := rn) n hc8 c 0 n M (by omega) (by omega) hX.2.1 (fun q hq => (hX.2.2.1 q hq).1)
  refine ⟨M', e, h1, fun i hi hu => ?_⟩
  obtain ⟨g1, g2⟩ := x_use hX hi hu
  have g := h2 (rk i) (Nat.zero_le _) g1
  rw [g2] at g
  exact ⟨Or.inl g.1, Or.inl g.2⟩
end F
theorem ne_100 {i : Nat} (hi : i < 8) : -(nI (i + 1)) - 100 ≠ 1 := by
  have : i = 0 ∨ i = 1 ∨ i = 2 ∨ i = 3 ∨ i = 4 ∨ i = 5 ∨ i = 6 ∨ i = 7 := by omega
  rcases this with rfl | rfl | rfl | rfl | rfl | rfl | rfl | rfl <;> decide +kernel
theorem ne_neg {i : Nat} (hi : i < 8) : -(nI (i + 1)) ≠ 1 := by
  have : i = 0 ∨ i = 1 ∨ i = 2 ∨ i = 3 ∨ i = 4 ∨ i = 5 ∨ i = 6 ∨ i = 7 := by omega
  rcases this with rfl | rfl | rfl | rfl | rfl | rfl | rfl | rfl <;> decide +kernel
theorem zver_bears {Z Q : Nat → Nat → Nat} {rn : Nat → Nat} : ∀ (k r : Nat), (∀ q, q < r + k → rn q < 8) → zver Z Q rn k r = 1 → ∀ q, r ≤ q → q < r + k → zbears Z Q (rn q) (zbl Z Q (rn q)) = true := by
  intro k
  induction k with
  | zero => intro r _ _ q h1 h2; exact absurd h2 (by omega)
  | succ k ih =>
    intro r h8 hv q h1 h2
    rw [zver] at hv
    by_cases e1 : 20000 < zbz Z (rn r) (zbl Z Q (rn r))
    · rw [if_pos e1] at hv; exact absurd hv (ne_100 (h8 r (by omega)))
    · rw [if_neg e1] at hv
      by_cases e2 : (zw Z Q (rn r) (zbl Z Q (rn r))).1 ≤ Z 2 (rn r)
      · rw [if_pos e2] at hv
        by_cases e3 : q = r
        · rw [e3]; exact zb_iff.mpr ⟨by omega, e2⟩
        · exact ih (r + 1) (fun q' hq' => h8 q' (by omega)) hv q (by omega) (by omega)
      · rw [if_neg e2] at hv; exact absurd hv (ne_neg (h8 r (by omega)))
/-- what a call that only asks keeps, in the reference -/
def yu (U U' : MY) : Prop := (∀ a k, 9 ≤ a → U'.1 a k = U.1 a k) ∧ ∀ f, (f = 15 ∨ 25 ≤ f) → U'.2 f = U.2 f
theorem yu.rf {U : MY} : yu U U := ⟨fun _ _ _ => rfl, fun _ _ => rfl⟩
theorem yu.trans {U U' U'' : MY} (h : yu U U') (h' : yu U' U'') : yu U U'' := ⟨fun a k ha => (h'.1 a k ha).trans (h.1 a k ha), fun f hf => (h'.2 f hf).trans (h.2 f hf)⟩
theorem yu.sV {U U' : MY} (h : yu U U') {k : Nat} (v : Int32) (hk : k = 0 ∨ k = 13) : yu U (sV U' k v) := ⟨h.1, fun f hf => (sV_ne (by omega)).trans (h.2 f hf)⟩
theorem ysm.u {U U' : MY} (h : ysm U U') : yu U U' := ⟨fun a k ha => h.1 a k (by omega) (by omega), fun f hf => h.2 f (by omega) (by omega) (by omega) (by omega) (by omega)⟩
theorem yst.u {U U' : MY} (h : yst U U') : yu U U' := ⟨h.1, fun f hf => h.2 f (by omega)⟩
theorem d10 : ¬ (1 : Int32) = 0 := by decide
theorem d20 : ¬ (2 : Int32) = 0 := by decide
theorem d30 : ¬ (3 : Int32) = 0 := by decide
section Y
variable {U : MY} {Z Q : Nat → Nat → Nat}
theorem y_asks0 (n : Nat) {a : Int32} (h : a < 1 ∨ 8 < a) : j_Y_asks n U a = some (0, sV U 0 1) := by
  unfold j_Y_asks
  rw [y_isTask0 n h, Option.bind_some, if_pos rfl, if_neg (show ¬ (sV U 0 1).2 0 = 0 from d10)]
theorem y_asks1 (hY : yset U Z Q) (hZ : zset Z Q) (n : Nat) {i : Nat} (hi : i < 8) (hu : ¬ Z 0 i = 1) : j_Y_asks n U (nI (i + 1)) = some (0, sV U 0 1) := by
  unfold j_Y_asks
  rw [y_isTask hY hZ n hi, Option.bind_some, if_neg hu, if_pos rfl, if_neg (show ¬ (sV U 0 1).2 0 = 0 from d10)]
theorem y_asks2 (hY : yset U Z Q) (hZ : zset Z Q) {n i : Nat} (hn : 9 ≤ n) (hi : i < 8) (hu : Z 0 i = 1) (hR : ¬ zrdy Z) : j_Y_asks n U (nI (i + 1)) = some (0, sV U 0 2) := by
  unfold j_Y_asks
  rw [y_isTask hY hZ n hi, Option.bind_some, if_pos hu, if_neg d10, (y_rdy hY hZ hn).2 hR, Option.bind_some, if_pos rfl, if_neg (show ¬ (sV U 0 2).2 0 = 0 from d20)]
theorem y_asks3 (hY : yset U Z Q) (hZ : zset Z Q) {n i : Nat} (hn : 20003 ≤ n) (hi : i < 8) (hu : Z 0 i = 1) (hR : zrdy Z) : ∃ U1, ysm (sV U 0 0) U1 ∧
    (zbz Z i (zbl Z Q i) ≤ 20000 → j_Y_asks n U (nI (i + 1)) = some (1, sV U1 0 0) ∧ U1.2 11 = nI (zw Z Q i (zbl Z Q i)).1 ∧ U1.2 12 = nI (zw Z Q i (zbl Z Q i)).2 ∧ U1.2 14 = zan (zrs Z Q i (zbl Z Q i)) (U.2 13) (znj Z i (zbl Z Q i))) ∧
    (¬ zbz Z i (zbl Z Q i) ≤ 20000 → j_Y_asks n U (nI (i + 1)) = some (0, sV U1 0 3)) := by
  have hY0 : yset (sV U 0 0) Z Q := hY
  obtain ⟨U1, e, hs, h1, h2⟩ := y_go hY0 hZ hR hi hu (z_bl hZ) hn
  have hR1 := (y_rdy hY hZ (show 9 ≤ n by omega)).1 hR
  have hb := y_bl hY0 hZ hi hu (show 9 ≤ n by omega)
  refine ⟨U1, hs, fun q => ⟨?_, (h1 q).2.1, (h1 q).2.2.1, (h1 q).2.2.2⟩, fun q => ?_⟩
  · unfold j_Y_asks
    rw [y_isTask hY hZ n hi, Option.bind_some, if_pos hu, if_neg d10, hR1, Option.bind_some, if_neg d10, if_pos (show (sV U 0 0).2 0 = 0 from rfl), hb, Option.bind_some, e, Option.bind_some, if_pos (h1 q).1, if_pos (show (sV U1 0 0).2 10 = 0 from (h1 q).1)]
  · have g : ¬ U1.2 10 = 0 := by rw [h2 q]; exact d10
    unfold j_Y_asks
    rw [y_isTask hY hZ n hi, Option.bind_some, if_pos hu, if_neg d10, hR1, Option.bind_some, if_neg d10, if_pos (show (sV U 0 0).2 0 = 0 from rfl), hb, Option.bind_some, e, Option.bind_some, if_neg g, if_neg (show ¬ (sV U1 0 3).2 10 = 0 from g)]
end Y
section X
variable {M : MX} {Z Q : Nat → Nat → Nat} {rk rn : Nat → Nat} {c : Nat}
theorem x_rt0 (n : Nat) {a : Int32} (h : a < 1 ∨ 8 < a) : j_O_readyTask n M a = some (Sum.inl ("java/lang/IndexOutOfBoundsException", M)) := by
  unfold j_O_readyTask
  rw [x_find0 n h, Option.bind_some]; rfl
theorem x_rt1 (hX : xset M Z Q rk rn c) (n : Nat) {i : Nat} (hi : i < 8) (hu : ¬ Z 0 i = 1) : j_O_readyTask n M (nI (i + 1)) = some (Sum.inl ("java/lang/IndexOutOfBoundsException", M)) := by
  unfold j_O_readyTask
  rw [x_find hX n hi, Option.bind_some, if_neg hu]; rfl
theorem x_rt2 (hX : xset M Z Q rk rn c) (hZ : zset Z Q) {n i : Nat} (hn : 9 ≤ n) (hi : i < 8) (hu : Z 0 i = 1) (hR : ¬ zrdy Z) : j_O_readyTask n M (nI (i + 1)) = some (Sum.inl ("java/lang/IllegalStateException", M)) := by
  unfold j_O_readyTask
  rw [x_find hX n hi, Option.bind_some, if_pos hu]
  show ((j_S_isReady n M).bind _) = _
  rw [(x_rdy hX hZ hn).2 hR, Option.bind_some, if_pos rfl]
theorem x_rt3 (hX : xset M Z Q rk rn c) (hZ : zset Z Q) {n i : Nat} (hn : 9 ≤ n) (hi : i < 8) (hu : Z 0 i = 1) (hR : zrdy Z) : j_O_readyTask n M (nI (i + 1)) = some (Sum.inr (fin8 i, M)) := by
  unfold j_O_readyTask
  rw [x_find hX n hi, Option.bind_some, if_pos hu]
  show ((j_S_isReady n M).bind _) = _
  rw [(x_rdy hX hZ hn).1 hR, Option.bind_some, if_neg d10]
theorem x_svL {n : Nat} {a : Int32} {z : String × MX} (h : j_O_readyTask n M a = some (Sum.inl z)) : j_O_surveyedTask n M a = some (Sum.inl z) := by
  unfold j_O_surveyedTask
  rw [h, Option.bind_some, Sum.elim_inl]
theorem x_sv (hX : xset M Z Q rk rn c) (hZ : zset Z Q) (hC : xch M Z Q) {n i : Nat} (hn : 20002 ≤ n) (hi : i < 8) (hu : Z 0 i = 1) (hR : zrdy Z) :
    ∃ M', xsk M M' ∧ xch M' Z Q ∧ M'.1 0 (fin8 i) 9 = nI (zgr Z Q i (zbl Z Q i)) ∧ M'.1 0 (fin8 i) 10 = nI (zw Z Q i (zbl Z Q i)).2 ∧ M'.1 0 (fin8 i) 11 = nI (znj Z i (zbl Z Q i)) ∧
      (zbz Z i (zbl Z Q i) ≤ 20000 → j_O_surveyedTask n M (nI (i + 1)) = some (Sum.inr (fin8 i, M'))) ∧ (¬ zbz Z i (zbl Z Q i) ≤ 20000 → j_O_surveyedTask n M (nI (i + 1)) = some (Sum.inl ("java/lang/ArithmeticException", M'))) := by
  obtain ⟨M', e, h1, h2, h3, h4, h5⟩ := x_survey hX hZ hR hC hi hu hn
  have hl := x_long (n := n) hZ hR hi hu h3
  refine ⟨M', h1, h2, h3, h4, h5, fun q => ?_, fun q => ?_⟩
  · unfold j_O_surveyedTask
    rw [x_rt3 hX hZ (by omega) hi hu hR, Option.bind_some, Sum.elim_inr]
    rw [e, Option.bind_some, hl, Option.bind_some, if_neg (show ¬ 20000 < zbz Z i (zbl Z Q i) by omega), if_pos rfl]
  · unfold j_O_surveyedTask
    rw [x_rt3 hX hZ (by omega) hi hu hR, Option.bind_some, Sum.elim_inr]
    rw [e, Option.bind_some, hl, Option.bind_some, if_pos (show 20000 < zbz Z i (zbl Z Q i) by omega), if_neg d10]
end X
