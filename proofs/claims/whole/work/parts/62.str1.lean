/-! PURE: a longer last segment: the cut -/
def zcut (s : Nat → Nat) : Nat → Nat → Nat → Nat × Nat
  | 0, q, a => (q, a)
  | m + 1, q, a => if s q ≤ a then zcut s m (q + 1) (a - s q) else (q, a)
theorem zcut_spec {s : Nat → Nat} : ∀ (m q a : Nat), q ≤ (zcut s m q a).1 ∧ (zcut s m q a).1 ≤ q + m ∧ ks_sum s (zcut s m q a).1 + (zcut s m q a).2 = ks_sum s q + a
  | 0, q, a => ⟨Nat.le_refl _, Nat.le_refl _, rfl⟩
  | m + 1, q, a => by
    unfold zcut
    by_cases e : s q ≤ a
    · rw [if_pos e]
      obtain ⟨h1, h2, h3⟩ := zcut_spec (s := s) m (q + 1) (a - s q)
      rw [ks_sum_succ] at h3
      exact ⟨by omega, by omega, by omega⟩
    · rw [if_neg e]
      exact ⟨Nat.le_refl _, by show q ≤ q + (m + 1); omega, rfl⟩
/-- how many segments there are then, and which -/
def znN (s : Nat → Nat) (np a : Nat) : Nat := if (zcut s (np - 1) 0 a).2 = 0 then (zcut s (np - 1) 0 a).1 + 1 else (zcut s (np - 1) 0 a).1 + 2
def znQ (s : Nat → Nat) (np a l : Nat) (q : Nat) : Nat := if (zcut s (np - 1) 0 a).2 = 0 then (if q = (zcut s (np - 1) 0 a).1 then l else s q) else (if q = (zcut s (np - 1) 0 a).1 then (zcut s (np - 1) 0 a).2 else if q = (zcut s (np - 1) 0 a).1 + 1 then l else s q)
theorem zn_spec {s : Nat → Nat} {np a l : Nat} (hnp : 1 ≤ np) (ha : a ≤ ks_sum s (np - 1)) (hs : ∀ q, q < np → 1 ≤ s q) (hl : 1 ≤ l) :
    1 ≤ znN s np a ∧ znN s np a ≤ np ∧ (∀ q, q < znN s np a → 1 ≤ znQ s np a l q) ∧ ks_sum (znQ s np a l) (znN s np a) = a + l ∧ znQ s np a l (znN s np a - 1) = l ∧ ((zcut s (np - 1) 0 a).2 ≠ 0 → (zcut s (np - 1) 0 a).1 < np - 1) := by
  obtain ⟨h1, h2, h3⟩ := zcut_spec (s := s) (np - 1) 0 a
  have h0 : ks_sum s 0 = 0 := rfl
  rw [h0, Nat.zero_add] at h3
  have hlt : (zcut s (np - 1) 0 a).2 ≠ 0 → (zcut s (np - 1) 0 a).1 < np - 1 := fun q => by
    by_cases e : (zcut s (np - 1) 0 a).1 < np - 1
    · exact e
    · have e2 : (zcut s (np - 1) 0 a).1 = np - 1 := by omega
      rw [e2] at h3
      omega
  unfold znN znQ
  generalize (zcut s (np - 1) 0 a).1 = κ at h2 h3 hlt ⊢
  generalize (zcut s (np - 1) 0 a).2 = ρ at h3 hlt ⊢
  by_cases e : ρ = 0
  · simp only [if_pos e]
    refine ⟨by omega, by omega, fun q hq => ?_, ?_, ?_, hlt⟩
    · by_cases e2 : q = κ
      · rw [if_pos e2]; exact hl
      · rw [if_neg e2]; exact hs q (by omega)
    · rw [ks_sum_succ, if_pos rfl, ks_sum_congr (g := s) κ (fun i hi => if_neg (by omega))]
      omega
    · rw [Nat.add_sub_cancel, if_pos rfl]
  · simp only [if_neg e]
    have := hlt e
    refine ⟨by omega, by omega, fun q hq => ?_, ?_, ?_, hlt⟩
    · by_cases e2 : q = κ
      · rw [if_pos e2]; omega
      · rw [if_neg e2]
        by_cases e3 : q = κ + 1
        · rw [if_pos e3]; exact hl
        · rw [if_neg e3]; exact hs q (by omega)
    · rw [ks_sum_succ, ks_sum_succ, if_pos rfl, if_neg (by omega), if_pos rfl, ks_sum_congr (g := s) κ (fun i hi => by rw [if_neg (by omega), if_neg (by omega)])]
      omega
    · rw [show κ + 2 - 1 = κ + 1 by omega, if_neg (by omega), if_pos rfl]
/-! the class -/
def xgrow (M M' : MX) (x N' : Nat) (s' : Nat → Nat) : Prop := M'.2 = M.2 ∧ M'.1 0 (fin8 x) 6 = nI N' ∧ (∀ q, q < N' → M'.1 2 (fin8 x) q = nI (s' q)) ∧ ∀ d y k, ¬ (y = fin8 x ∧ ((d = 0 ∧ k = 6) ∨ d = 2)) → M'.1 d y k = M.1 d y k
/-- the last segment alone is written -/
theorem xg_1 {M : MX} {x q l : Nat} {s : Nat → Nat} (hs : ∀ j, j < q → M.1 2 (fin8 x) j = nI (s j)) : xgrow M (sF (sF M 2 (fin8 x) q (nI l)) 0 (fin8 x) 6 (nI (q + 1))) x (q + 1) (fun j => if j = q then l else s j) := by
  refine ⟨rfl, sF_at, fun j hj => ?_, fun d y k h => ?_⟩
  · rw [sF_d (by decide)]
    dsimp only
    by_cases e : j = q
    · rw [if_pos e, e]; exact sF_at
    · rw [if_neg e, sF_k e]; exact hs j (by omega)
  · rw [sF_ne (fun q2 => h ⟨q2.2.1, Or.inl ⟨q2.1, q2.2.2⟩⟩), sF_ne (fun q2 => h ⟨q2.2.1, Or.inr q2.1⟩)]
theorem xg_2 {M : MX} {x q l a : Nat} {s : Nat → Nat} (hs : ∀ j, j < q → M.1 2 (fin8 x) j = nI (s j)) : xgrow M (sF (sF (sF M 2 (fin8 x) q (nI a)) 2 (fin8 x) (q + 1) (nI l)) 0 (fin8 x) 6 (nI (q + 2))) x (q + 2) (fun j => if j = q then a else if j = q + 1 then l else s j) := by
  refine ⟨rfl, sF_at, fun j hj => ?_, fun d y k h => ?_⟩
  · rw [sF_d (by decide)]
    dsimp only
    by_cases e : j = q
    · rw [if_pos e, e, sF_k (by omega)]; exact sF_at
    · rw [if_neg e]
      by_cases e2 : j = q + 1
      · rw [if_pos e2, e2]; exact sF_at
      · rw [if_neg e2, sF_k e2, sF_k e]; exact hs j (by omega)
  · rw [sF_ne (fun q2 => h ⟨q2.2.1, Or.inl ⟨q2.1, q2.2.2⟩⟩), sF_ne (fun q2 => h ⟨q2.2.1, Or.inr q2.1⟩), sF_ne (fun q2 => h ⟨q2.2.1, Or.inr q2.1⟩)]
theorem x_grow_L {M : MX} {n x l np : Nat} {s : Nat → Nat} (hnp : 1 ≤ np) (hnp8 : np ≤ 8) (hseg : ∀ q, q < np → M.1 2 (fin8 x) q = nI (s q)) (hs1 : ∀ q, q < np → 1 ≤ s q) (hs2 : ∀ q, q < np → s q < 2 ^ 31) : ∀ (m q a f : Nat), q + m = np - 1 → m < f → a < 2 ^ 31 → ((zcut s m q a).2 ≠ 0 → (zcut s m q a).1 < np - 1) →
    ∃ M', j_T_growLast_L15 n (fin8 x) (nI l) (nI np) f (nI a) (nI q) M = some (nI np - nI (if (zcut s m q a).2 = 0 then (zcut s m q a).1 + 1 else (zcut s m q a).1 + 2), M') ∧
      xgrow M M' x (if (zcut s m q a).2 = 0 then (zcut s m q a).1 + 1 else (zcut s m q a).1 + 2) (fun j => if (zcut s m q a).2 = 0 then (if j = (zcut s m q a).1 then l else s j) else (if j = (zcut s m q a).1 then (zcut s m q a).2 else if j = (zcut s m q a).1 + 1 then l else s j)) := by
  have e1 : nI np - 1 = nI (np - 1) := by rw [show (1 : Int32) = nI 1 from rfl, nI_sub hnp]
  intro m
  induction m with
  | zero =>
    intro q a f hq hf ha hlt
    obtain ⟨f, rfl⟩ : ∃ g, f = g + 1 := ⟨f - 1, by omega⟩
    have ec : zcut s 0 q a = (q, a) := rfl
    rw [ec] at hlt ⊢
    have ha0 : a = 0 := by
      by_cases e : a = 0
      · exact e
      · have : q < np - 1 := hlt e
        omega
    subst ha0
    simp only [if_pos]
    refine ⟨_, ?_, xg_1 (fun j hj => hseg j (by omega))⟩
    unfold j_T_growLast_L15
    rw [e1, if_pos (nI_le (by omega) (by omega)), if_pos (show nI 0 ≤ 0 by decide), if_pos (nI_in (by omega) (by omega)), nI_clamp (by omega), sF_at, nI_1]
  | succ m ih =>
    intro q a f hq hf ha hlt
    obtain ⟨f, rfl⟩ : ∃ g, f = g + 1 := ⟨f - 1, by omega⟩
    have hin : ¬ (nI q < 0 ∨ 8 ≤ (nI q).toNatClampNeg) := nI_in (by omega) (by omega)
    have hin1 : ¬ (nI (q + 1) < 0 ∨ 8 ≤ (nI (q + 1)).toNatClampNeg) := nI_in (by omega) (by omega)
    unfold j_T_growLast_L15
    rw [e1, if_neg (nI_ge (by omega) (by omega))]
    simp only [if_neg (nI_ge (show q < np - 1 by omega) (show np - 1 < 2 ^ 31 by omega)), if_pos hin, nI_1]
    simp only [if_pos hin1]
    rw [nI_clamp (show q < 2 ^ 31 by omega), nI_clamp (show q + 1 < 2 ^ 31 by omega), hseg q (by omega)]
    by_cases e : s q ≤ a
    · have ec : zcut s (m + 1) q a = zcut s m (q + 1) (a - s q) := by
        show (if s q ≤ a then _ else _) = _
        rw [if_pos e]
      rw [ec] at hlt ⊢
      rw [if_neg (nI_nlt e ha), nI_sub e]
      exact ih (q + 1) (a - s q) f (by omega) (by omega) (by omega) hlt
    · have ec : zcut s (m + 1) q a = (q, a) := by
        show (if s q ≤ a then _ else _) = _
        rw [if_neg e]
      rw [ec] at hlt ⊢
      rw [if_pos (nI_lt (by omega) (hs2 q (by omega)))]
      by_cases e0 : a = 0
      · subst e0
        simp only [if_pos]
        refine ⟨_, ?_, xg_1 (fun j hj => hseg j (by omega))⟩
        rw [if_pos (show nI 0 ≤ 0 by decide), sF_at]
      · simp only [if_neg e0]
        refine ⟨_, ?_, xg_2 (fun j hj => hseg j (by omega))⟩
        rw [if_neg (nI_nle (by omega) ha), sF_at]
theorem x_grow {M : MX} {Z Q : Nat → Nat → Nat} {rk rn : Nat → Nat} {c : Nat} (hX : xset M Z Q rk rn c) (hZ : zset Z Q) (hR : zrdy Z) {x l n : Nat} (hx : x < 8) (hu : Z 0 x = 1) (hn : 9 ≤ n) (hl1 : 1 ≤ l) (hl2 : l ≤ Z 5 x) (hl3 : Q x (Z 4 x - 1) ≤ l) :
    ∃ M', j_T_growLast n M (fin8 x) (nI l) = some (nI (Z 4 x) - nI (znN (Q x) (Z 4 x) (Z 5 x - l)), M') ∧ xgrow M M' x (znN (Q x) (Z 4 x) (Z 5 x - l)) (znQ (Q x) (Z 4 x) (Z 5 x - l) l) := by
  have hz := (hZ x hx).2 hu
  have hf := (hX.2.2.2.2 _ hx).2.2.2.2.2 hu
  have h4 := hR.2 x hx hu
  have hW := z_W hZ hx hu
  have hlast := (sp_last (z_ak hZ hR hx hu)).2
  have hspec := zn_spec (s := Q x) (np := Z 4 x) (a := Z 5 x - l) (l := l) (by omega) (by omega) hz.2.2.2.2.2.2.1 hl1
  unfold j_T_growLast
  rw [hf.2.2.2.1, hf.2.2.2.2.1, nI_sub hl2]
  exact x_grow_L (by omega) (by omega) (fun q hq => hf.2.2.2.2.2 q hq) hz.2.2.2.2.2.2.1 (fun q hq => by have := z_seg hZ hx hu hq; omega) (Z 4 x - 1) 0 (Z 5 x - l) n (by omega) (by omega) (by omega) hspec.2.2.2.2.2
/-! the reference -/
def ygrow (U U' : MY) (x N' : Nat) (s' : Nat → Nat) : Prop := U'.2 = U.2 ∧ U'.1 5 (x + 1) = nI N' ∧ (∀ q, q < N' → U'.1 6 (8 * (x + 1) + q) = nI (s' q)) ∧ ∀ a k, ¬ ((a = 5 ∧ k = x + 1) ∨ (a = 6 ∧ 8 * (x + 1) ≤ k ∧ k < 8 * (x + 1) + 8)) → U'.1 a k = U.1 a k
theorem yg_1 {U : MY} {x q l : Nat} {s : Nat → Nat} (hq : q < 8) (hs : ∀ j, j < q → U.1 6 (8 * (x + 1) + j) = nI (s j)) : ygrow U (sA (sA U 6 (8 * (x + 1) + q) (nI l)) 5 (x + 1) (nI (q + 1))) x (q + 1) (fun j => if j = q then l else s j) := by
  refine ⟨rfl, sA_at, fun j hj => ?_, fun a k h => ?_⟩
  · rw [sA_ne (fun q2 => absurd q2.1 (by decide))]
    dsimp only
    by_cases e : j = q
    · rw [if_pos e, e]; exact sA_at
    · rw [if_neg e, sA_ne (fun q2 => e (by omega))]; exact hs j (by omega)
  · rw [sA_ne (fun q2 => h (Or.inl q2)), sA_ne (fun q2 => h (Or.inr ⟨q2.1, by omega, by omega⟩))]
theorem yg_2 {U : MY} {x q l a : Nat} {s : Nat → Nat} (hq : q + 1 < 8) (hs : ∀ j, j < q → U.1 6 (8 * (x + 1) + j) = nI (s j)) : ygrow U (sA (sA (sA U 6 (8 * (x + 1) + q) (nI a)) 6 (8 * (x + 1) + (q + 1)) (nI l)) 5 (x + 1) (nI (q + 2))) x (q + 2) (fun j => if j = q then a else if j = q + 1 then l else s j) := by
  refine ⟨rfl, sA_at, fun j hj => ?_, fun a k h => ?_⟩
  · rw [sA_ne (fun q2 => absurd q2.1 (by decide))]
    dsimp only
    by_cases e : j = q
    · rw [if_pos e, e, sA_ne (fun q2 => by omega)]; exact sA_at
    · rw [if_neg e]
      by_cases e2 : j = q + 1
      · rw [if_pos e2, e2]; exact sA_at
      · rw [if_neg e2, sA_ne (fun q2 => e2 (by omega)), sA_ne (fun q2 => e (by omega))]; exact hs j (by omega)
  · rw [sA_ne (fun q2 => h (Or.inl q2)), sA_ne (fun q2 => h (Or.inr ⟨q2.1, by omega, by omega⟩)), sA_ne (fun q2 => h (Or.inr ⟨q2.1, by omega, by omega⟩))]
theorem y_grow_L {U : MY} {n x l np A : Nat} {s : Nat → Nat} (hx : x < 8) (hnp : 1 ≤ np) (hnp8 : np ≤ 8) (hseg : ∀ q, q < np → U.1 6 (8 * (x + 1) + q) = nI (s q)) (hs1 : ∀ q, q < np → 1 ≤ s q) (hs2 : ∀ q, q < np → s q ≤ 8800) (hA : A ≤ 8800) : ∀ (m q f : Nat), q + m = np - 1 → m + 1 < f → ks_sum s q ≤ A → ((zcut s m q (A - ks_sum s q)).2 ≠ 0 → (zcut s m q (A - ks_sum s q)).1 < np - 1) →
    ∃ U', j_Y_stretchOne_L14 n (nI (x + 1)) (nI l) (nI A) f (nI q) (nI (ks_sum s q)) U = some U' ∧
      ygrow U U' x (if (zcut s m q (A - ks_sum s q)).2 = 0 then (zcut s m q (A - ks_sum s q)).1 + 1 else (zcut s m q (A - ks_sum s q)).1 + 2) (fun j => if (zcut s m q (A - ks_sum s q)).2 = 0 then (if j = (zcut s m q (A - ks_sum s q)).1 then l else s j) else (if j = (zcut s m q (A - ks_sum s q)).1 then (zcut s m q (A - ks_sum s q)).2 else if j = (zcut s m q (A - ks_sum s q)).1 + 1 then l else s j)) := by
  have wr : ∀ (q f : Nat) (V : MY), q < 8 → j_Y_stretchOne_L14 n (nI (x + 1)) (nI l) (nI A) (f + 1) (nI q) (nI A) V = some (sA (sA V 6 (8 * (x + 1) + q) (nI l)) 5 (x + 1) (nI (q + 1))) := by
    intro q f V hq
    obtain ⟨g1, g2, g3⟩ := y_seg hx hq
    unfold j_Y_stretchOne_L14
    rw [if_pos (nI_le (Nat.le_refl A) (by omega)), g1, if_pos g2, if_pos (y_in hx), g3, nI_clamp (by omega), nI_1]
  intro m
  induction m with
  | zero =>
    intro q f hq hf hle hlt
    obtain ⟨f, rfl⟩ : ∃ g, f = g + 1 := ⟨f - 1, by omega⟩
    have ec : zcut s 0 q (A - ks_sum s q) = (q, A - ks_sum s q) := rfl
    rw [ec] at hlt ⊢
    have ha0 : A - ks_sum s q = 0 := by
      by_cases e : A - ks_sum s q = 0
      · exact e
      · have : q < np - 1 := hlt e
        omega
    have hAe : ks_sum s q = A := by omega
    rw [ha0, hAe]
    simp only [if_pos]
    exact ⟨_, wr q f U (by omega), yg_1 (by omega) (fun j hj => hseg j (by omega))⟩
  | succ m ih =>
    intro q f hq hf hle hlt
    obtain ⟨f, rfl⟩ : ∃ g, f = g + 1 := ⟨f - 1, by omega⟩
    by_cases hAe : ks_sum s q = A
    · have h0 : A - ks_sum s q = 0 := by omega
      have ec : zcut s (m + 1) q 0 = (q, 0) := by
        show (if s q ≤ 0 then _ else _) = _
        rw [if_neg (by have := hs1 q (by omega); omega)]
      rw [h0, ec, hAe]
      simp only [if_pos]
      exact ⟨_, wr q f U (by omega), yg_1 (by omega) (fun j hj => hseg j (by omega))⟩
    · obtain ⟨g1, g2, g3⟩ := y_seg hx (show q < 8 by omega)
      have hb := hs2 q (by omega)
      rw [j_Y_stretchOne_L14, if_neg (nI_ge (by omega) (by omega)), g1]
      simp only [if_pos g2]
      rw [g3, hseg q (by omega), nI_add]
      by_cases e : s q ≤ A - ks_sum s q
      · have ec : zcut s (m + 1) q (A - ks_sum s q) = zcut s m (q + 1) (A - ks_sum s (q + 1)) := by
          show (if s q ≤ _ then _ else _) = _
          rw [if_pos e, ks_sum_succ, Nat.sub_sub]
        rw [ec] at hlt ⊢
        rw [if_pos (nI_le (by omega) (by omega)), nI_1]
        have h := ih (q + 1) f (by omega) (by omega) (by rw [ks_sum_succ]; omega) hlt
        rw [ks_sum_succ] at h ⊢
        exact h
      · have ec : zcut s (m + 1) q (A - ks_sum s q) = (q, A - ks_sum s q) := by
          show (if s q ≤ _ then _ else _) = _
          rw [if_neg e]
        rw [ec] at hlt ⊢
        obtain ⟨f', rfl⟩ : ∃ g, f = g + 1 := ⟨f - 1, by omega⟩
        rw [if_neg (nI_ge (by omega) (by omega)), sA_at, nI_sub hle, nI_add, show ks_sum s q + (A - ks_sum s q) = A by omega, nI_1]
        simp only [if_neg (show ¬ A - ks_sum s q = 0 by omega)]
        exact ⟨_, wr (q + 1) f' _ (by omega), yg_2 (by omega) (fun j hj => hseg j (by omega))⟩
theorem y_grow {U : MY} {Z Q : Nat → Nat → Nat} (hY : yset U Z Q) (hZ : zset Z Q) (hR : zrdy Z) {x l n : Nat} (hx : x < 8) (hu : Z 0 x = 1) (hn : 10 ≤ n) (hl1 : 1 ≤ l) (hl2 : l ≤ Z 5 x) (hl3 : Q x (Z 4 x - 1) ≤ l) :
    ∃ U', j_Y_stretchOne n U (nI (x + 1)) (nI l) = some U' ∧ ygrow U U' x (znN (Q x) (Z 4 x) (Z 5 x - l)) (znQ (Q x) (Z 4 x) (Z 5 x - l) l) := by
  have hz := (hZ x hx).2 hu
  have hf := (hY x hx).2 hu
  have h4 := hR.2 x hx hu
  have hW := z_W hZ hx hu
  have hlast := (sp_last (z_ak hZ hR hx hu)).2
  have hspec := zn_spec (s := Q x) (np := Z 4 x) (a := Z 5 x - l) (l := l) (by omega) (by omega) hz.2.2.2.2.2.2.1 hl1
  unfold j_Y_stretchOne
  rw [y_work hY hZ hx hu (by omega), Option.bind_some, nI_sub hl2]
  exact y_grow_L hx (by omega) (by omega) hf.2.2.2.2 hz.2.2.2.2.2.2.1 (fun q hq => z_seg hZ hx hu hq) (by omega) (Z 4 x - 1) 0 n (by omega) (by omega) (Nat.zero_le _) hspec.2.2.2.2.2
