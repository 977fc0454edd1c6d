/-! PURE: task: its place among the ranks -/
def xpm (M : MX) (rk rn : Nat → Nat) : Prop := (∀ r, r < 8 → M.2.2.1 r = fin8 (rn r) ∧ rn r < 8 ∧ rk (rn r) = r) ∧ ∀ i, i < 8 → M.1 0 (fin8 i) 8 = nI (rk i) ∧ rk i < 8 ∧ rn (rk i) = i
def xpk (M M' : MX) : Prop := M'.2.1 = M.2.1 ∧ M'.2.2.2 = M.2.2.2 ∧ ∀ d y k, ¬ (d = 0 ∧ k = 8) → M'.1 d y k = M.1 d y k
theorem xpk.rf {M : MX} : xpk M M := ⟨rfl, rfl, fun _ _ _ _ => rfl⟩
theorem xpk.trans {M M' M'' : MX} (h : xpk M M') (h' : xpk M' M'') : xpk M M'' := ⟨h'.1.trans h.1, h'.2.1.trans h.2.1, fun d y k hd => (h'.2.2 d y k hd).trans (h.2.2 d y k hd)⟩
def pmk (rk rn : Nat → Nat) (a b : Nat) : Nat → Nat := fun i => if i = rn a then b else if i = rn b then a else rk i
def pmn (rn : Nat → Nat) (a b : Nat) : Nat → Nat := fun r => if r = a then rn b else if r = b then rn a else rn r
theorem pmn_a {rn : Nat → Nat} {a b : Nat} : pmn rn a b a = rn b := if_pos rfl
theorem pmn_b {rn : Nat → Nat} {a b : Nat} (h : ¬ b = a) : pmn rn a b b = rn a := by unfold pmn; rw [if_neg h, if_pos rfl]
theorem pmn_o {rn : Nat → Nat} {a b r : Nat} (h : ¬ r = a) (h2 : ¬ r = b) : pmn rn a b r = rn r := by unfold pmn; rw [if_neg h, if_neg h2]
theorem pmk_a {rk rn : Nat → Nat} {a b : Nat} : pmk rk rn a b (rn a) = b := if_pos rfl
theorem pmk_b {rk rn : Nat → Nat} {a b : Nat} (h : ¬ rn b = rn a) : pmk rk rn a b (rn b) = a := by unfold pmk; rw [if_neg h, if_pos rfl]
theorem pmk_o {rk rn : Nat → Nat} {a b i : Nat} (h : ¬ i = rn a) (h2 : ¬ i = rn b) : pmk rk rn a b i = rk i := by unfold pmk; rw [if_neg h, if_neg h2]
theorem x_swap {M : MX} {rk rn : Nat → Nat} (h : xpm M rk rn) {a b n : Nat} (ha : a < 8) (hb : b < 8) : ∃ M', j_S_swap n M (nI a) (nI b) = some M' ∧ xpk M M' ∧ xpm M' (pmk rk rn a b) (pmn rn a b) := by
  obtain ⟨h1, h2⟩ := h
  have ia : ¬ (nI a < 0 ∨ 8 ≤ (nI a).toNatClampNeg) := nI_in (by omega) (by omega)
  have ib : ¬ (nI b < 0 ∨ 8 ≤ (nI b).toNatClampNeg) := nI_in (by omega) (by omega)
  obtain ⟨pa1, pa2, pa3⟩ := h1 a ha
  obtain ⟨pb1, pb2, pb3⟩ := h1 b hb
  obtain ⟨R, hR⟩ : ∃ R, R = sR (sR M a (fin8 (rn b))) b (fin8 (rn a)) := ⟨_, rfl⟩
  have eR : ∀ r, R.2.2.1 r = if r = b then fin8 (rn a) else if r = a then fin8 (rn b) else M.2.2.1 r := fun r => by rw [hR]; rfl
  have eRb : R.2.2.1 b = fin8 (rn a) := by rw [eR, if_pos rfl]
  have eRa : R.2.2.1 a = fin8 (rn b) := by
    rw [eR]
    by_cases q : a = b
    · rw [if_pos q, q]
    · rw [if_neg q, if_pos rfl]
  refine ⟨sF (sF R 0 (fin8 (rn b)) 8 (nI a)) 0 (fin8 (rn a)) 8 (nI b), ?_, ⟨by rw [hR]; rfl, by rw [hR]; rfl, fun d y k hd => ?_⟩, fun r hr => ?_, fun i hi => ?_⟩
  · unfold j_S_swap
    rw [if_pos ia, if_pos ib, if_pos ia, if_pos ib, if_pos ia, if_pos ib, nI_clamp (show a < 2 ^ 31 by omega), nI_clamp (show b < 2 ^ 31 by omega), pa1, pb1, ← hR, eRa]
    rw [show (sF R 0 (fin8 (rn b)) 8 (nI a)).2.2.1 b = R.2.2.1 b from rfl, eRb]
  · rw [sF_ne (fun q => hd ⟨q.1, q.2.2⟩), sF_ne (fun q => hd ⟨q.1, q.2.2⟩), hR]; rfl
  · obtain ⟨q1, q2, q3⟩ := h1 r hr
    show R.2.2.1 r = fin8 (pmn rn a b r) ∧ pmn rn a b r < 8 ∧ pmk rk rn a b (pmn rn a b r) = r
    by_cases ea : r = a
    · rw [ea, pmn_a, eRa]
      refine ⟨rfl, pb2, ?_⟩
      by_cases q : rn b = rn a
      · rw [q, pmk_a]
        have w := pb3
        rw [q, pa3] at w
        exact w.symm
      · rw [pmk_b q]
    · by_cases eb : r = b
      · rw [eb, pmn_b (fun w => ea (eb.trans w)), eRb, pmk_a]
        exact ⟨rfl, pa2, rfl⟩
      · rw [eR, if_neg eb, if_neg ea, pmn_o ea eb, pmk_o (fun q => ea (by rw [← q3, q, pa3])) (fun q => eb (by rw [← q3, q, pb3]))]
        exact ⟨q1, q2, q3⟩
  · obtain ⟨q1, q2, q3⟩ := h2 i hi
    by_cases ea : i = rn a
    · rw [ea, pmk_a, sF_at]
      refine ⟨rfl, hb, ?_⟩
      by_cases q : b = a
      · rw [q, pmn_a]
      · rw [pmn_b q]
    · rw [sF_x (fin8_ne hi pa2 ea)]
      by_cases eb : i = rn b
      · rw [eb, pmk_b (fun w => ea (eb.trans w)), sF_at, pmn_a]
        exact ⟨rfl, ha, rfl⟩
      · rw [pmk_o ea eb, sF_x (fin8_ne hi pb2 eb), pmn_o (fun q => ea (by rw [← q3, q])) (fun q => eb (by rw [← q3, q]))]
        refine ⟨?_, q2, q3⟩
        rw [hR]; exact q1
theorem x_plc {c : Nat} (hc : c < 8) (pr : Nat → Nat) (n : Nat) (x1 : Fin 8) : ∀ (p f : Nat) (M : MX) (rk rn : Nat → Nat), p < f → p ≤ c → xpm M rk rn → M.2.1 0 2 = nI c →
    (∀ i, i < 8 → rk i ≤ c → M.1 0 (fin8 i) 5 = nI (pr i) ∧ pr i ≤ 99) → (∀ i j, i < 8 → j < 8 → rk i ≤ c → rk j ≤ c → pr i = pr j → i = j) →
    (∀ a b, a < b → b ≤ c → a ≠ p → b ≠ p → pr (rn b) < pr (rn a)) → (∀ b, p < b → b ≤ c → pr (rn b) < pr (rn p)) →
    ∃ M' rk' rn', j_S_place_L17 n x1 f (nI p) M = some (sG M' 0 2 (nI (c + 1))) ∧ xpk M M' ∧ xpm M' rk' rn' ∧ (∀ a b, a < b → b ≤ c → pr (rn' b) < pr (rn' a)) ∧ ∀ i, i < 8 → (rk' i ≤ c ↔ rk i ≤ c) := by
  intro p
  induction p with
  | zero =>
    intro f M rk rn hf hp hm hcnt h5 hd hs1 hs2
    obtain ⟨f, rfl⟩ : ∃ g, f = g + 1 := ⟨f - 1, by omega⟩
    refine ⟨M, rk, rn, ?_, xpk.rf, hm, fun a b hab hb => ?_, fun _ _ => Iff.rfl⟩
    · rw [j_S_place_L17, if_pos (show nI 0 ≤ 0 by decide +kernel), hcnt, nI_1]
    · by_cases e : a = 0
      · rw [e]; exact hs2 b (by omega) hb
      · exact hs1 a b hab hb e (by omega)
  | succ p ih =>
    intro f M rk rn hf hp hm hcnt h5 hd hs1 hs2
    obtain ⟨f, rfl⟩ : ∃ g, f = g + 1 := ⟨f - 1, by omega⟩
    obtain ⟨u1, u2, u3⟩ := hm.1 p (by omega)
    obtain ⟨w1, w2, w3⟩ := hm.1 (p + 1) (by omega)
    obtain ⟨f1, f2⟩ := h5 (rn p) u2 (by omega)
    obtain ⟨f3, f4⟩ := h5 (rn (p + 1)) w2 (by omega)
    have ep : nI (p + 1) - 1 = nI p := nI_pred p
    have em : nI (p + 1) + (-1) = nI p := by rw [← ep]; exact (Int32.sub_eq_add_neg _ _).symm
    have hne : pr (rn p) ≠ pr (rn (p + 1)) := fun q => by
      have := hd _ _ u2 w2 (by omega) (by omega) q
      rw [this, w3] at u3
      omega
    have start : j_S_place_L17 n x1 (f + 1) (nI (p + 1)) M = if nI (pr (rn (p + 1))) ≤ nI (pr (rn p)) then some (sG M 0 2 (nI (c + 1))) else (j_S_swap n M (nI p) (nI (p + 1))).bind fun M_8 => j_S_place_L17 n x1 f (nI p) M_8 := by
      rw [j_S_place_L17, if_neg (nI_nle (by omega) (by omega)), ep, em, if_pos (nI_in (by omega) (by omega)), if_pos (nI_in (by omega) (by omega)), nI_clamp (n := p) (by omega), nI_clamp (n := p + 1) (by omega), u1, w1, f1, f3, hcnt, nI_1]
    by_cases e : pr (rn (p + 1)) ≤ pr (rn p)
    · refine ⟨M, rk, rn, ?_, xpk.rf, hm, fun a b hab hb => ?_, fun _ _ => Iff.rfl⟩
      · rw [start, if_pos (nI_le e (by omega))]
      · by_cases e1 : a = p + 1
        · rw [e1]; exact hs2 b (by omega) hb
        · by_cases e2 : b = p + 1
          · rw [e2]
            by_cases e3 : a = p
            · rw [e3]; omega
            · have := hs1 a p (by omega) (by omega) e1 (by omega)
              omega
          · exact hs1 a b hab hb e1 e2
    · obtain ⟨M1, s1, s2, s3⟩ := x_swap (n := n) hm (show p < 8 by omega) (show p + 1 < 8 by omega)
      have rkle : ∀ i, i < 8 → (pmk rk rn p (p + 1) i ≤ c ↔ rk i ≤ c) := fun i hi => by
        unfold pmk
        by_cases q1 : i = rn p
        · rw [if_pos q1, q1, u3]; omega
        · rw [if_neg q1]
          by_cases q2 : i = rn (p + 1)
          · rw [if_pos q2, q2, w3]; omega
          · rw [if_neg q2]
      have n1 : pmn rn p (p + 1) p = rn (p + 1) := if_pos rfl
      have n2 : pmn rn p (p + 1) (p + 1) = rn p := by unfold pmn; rw [if_neg (by omega), if_pos rfl]
      have n3 : ∀ r, r ≠ p → r ≠ p + 1 → pmn rn p (p + 1) r = rn r := fun r q1 q2 => by unfold pmn; rw [if_neg q1, if_neg q2]
      obtain ⟨M', rk', rn', r1, r2, r3, r4, r5⟩ := ih f M1 (pmk rk rn p (p + 1)) (pmn rn p (p + 1)) (by omega) (by omega) s3 (by rw [s2.1]; exact hcnt)
        (fun i hi hr => by rw [s2.2.2 0 _ 5 (by omega)]; exact h5 i hi ((rkle i hi).mp hr))
        (fun i j hi hj h1 h2 q => hd i j hi hj ((rkle i hi).mp h1) ((rkle j hj).mp h2) q)
        (fun a b hab hb q1 q2 => by
          by_cases e1 : a = p + 1
          · rw [e1, n2, n3 b q2 (by omega)]; exact hs1 p b (by omega) hb (by omega) (by omega)
          · rw [n3 a q1 e1]
            by_cases e2 : b = p + 1
            · rw [e2, n2]; exact hs1 a p (by omega) (by omega) e1 (by omega)
            · rw [n3 b q2 e2]; exact hs1 a b hab hb e1 e2)
        (fun b hb1 hb2 => by
          rw [n1]
          by_cases e2 : b = p + 1
          · rw [e2, n2]; omega
          · rw [n3 b (by omega) e2]; exact hs2 b (by omega) hb2)
      refine ⟨M', rk', rn', ?_, s2.trans r2, r3, r4, fun i hi => (r5 i hi).trans (rkle i hi)⟩
      rw [start, if_neg (nI_ge (by omega) (by omega)), s1, Option.bind_some]
      exact r1
section T
variable {M : MX} {U : MY} {Z Q : Nat → Nat → Nat} {rk rn : Nat → Nat} {c x D dl p : Nat}
def ztZ (Z : Nat → Nat → Nat) (x D dl p : Nat) : Nat → Nat → Nat := fun a i => if i = x then (if a = 0 then 1 else if a = 1 then D else if a = 2 then dl else if a = 3 then p else 0) else Z a i
theorem zt_ne {a i : Nat} (h : i ≠ x) : ztZ Z x D dl p a i = Z a i := if_neg h
theorem zt_x {a : Nat} : ztZ Z x D dl p a x = if a = 0 then 1 else if a = 1 then D else if a = 2 then dl else if a = 3 then p else 0 := if_pos rfl
theorem zset_t (hZ : zset Z Q) (hD : 1 ≤ D) (hD2 : D ≤ 1000) (hl : 1 ≤ dl) (hl2 : dl ≤ 8 * D) (hp : p ≤ 99) (hno : ∀ i, i < 8 → Z 0 i = 1 → Z 3 i ≠ p) : zset (ztZ Z x D dl p) Q := by
  intro i hi
  by_cases e : i = x
  · subst e
    refine ⟨by rw [zt_x]; exact Nat.le_refl 1, fun _ => ⟨by rw [zt_x]; exact hD, by rw [zt_x]; exact hD2, by rw [zt_x]; exact hl, by rw [zt_x, zt_x]; exact hl2, by rw [zt_x]; exact hp, by rw [zt_x]; exact Nat.zero_le 8, fun q hq => by rw [zt_x] at hq; exact absurd hq (Nat.not_lt_zero q), by rw [zt_x, zt_x]; rfl, by rw [zt_x]; exact Nat.zero_le _, fun j hj hu hq => ?_⟩⟩
    by_cases e2 : j = i
    · exact e2.symm
    · rw [zt_ne e2] at hu
      rw [zt_ne e2, zt_x] at hq
      exact absurd hq.symm (hno j hj hu)
  · rw [zt_ne e]
    refine ⟨(hZ i hi).1, fun hu => ?_⟩
    obtain ⟨z1, z2, z3, z4, z5, z6, z7, z8, z9, z10⟩ := (hZ i hi).2 hu
    rw [zt_ne e, zt_ne e, zt_ne e, zt_ne e, zt_ne e]
    refine ⟨z1, z2, z3, z4, z5, z6, z7, z8, z9, fun j hj huj hq => ?_⟩
    by_cases e2 : j = x
    · rw [e2, zt_x] at hq
      exact absurd hq (hno i hi hu)
    · rw [zt_ne e2] at huj hq
      exact z10 j hj huj hq
def xbe (M : MX) (x : Fin 8) (a b d : Int32) : MX := sF (sF (sF (sF (sF M 0 x 3 a) 0 x 4 b) 0 x 5 d) 0 x 6 0) 0 x 7 0
theorem xbe_ne {x y : Fin 8} {a b e : Int32} {d k : Nat} (h : ¬ (d = 0 ∧ y = x ∧ 3 ≤ k ∧ k ≤ 7)) : (xbe M x a b e).1 d y k = M.1 d y k := by
  unfold xbe
  rw [sF_ne (fun q => h ⟨q.1, q.2.1, by omega⟩), sF_ne (fun q => h ⟨q.1, q.2.1, by omega⟩), sF_ne (fun q => h ⟨q.1, q.2.1, by omega⟩), sF_ne (fun q => h ⟨q.1, q.2.1, by omega⟩), sF_ne (fun q => h ⟨q.1, q.2.1, by omega⟩)]
theorem xbe_at {x : Fin 8} {a b e : Int32} : (xbe M x a b e).1 0 x 3 = a ∧ (xbe M x a b e).1 0 x 4 = b ∧ (xbe M x a b e).1 0 x 5 = e ∧ (xbe M x a b e).1 0 x 6 = 0 ∧ (xbe M x a b e).1 0 x 7 = 0 := by
  unfold xbe
  refine ⟨?_, ?_, ?_, ?_, sF_at⟩
  · rw [sF_k (by decide), sF_k (by decide), sF_k (by decide), sF_k (by decide)]; exact sF_at
  · rw [sF_k (by decide), sF_k (by decide), sF_k (by decide)]; exact sF_at
  · rw [sF_k (by decide), sF_k (by decide)]; exact sF_at
  · rw [sF_k (by decide)]; exact sF_at
/-- the class takes a task in -/
theorem x_place (hX : xset M Z Q rk rn c) (hZ : zset Z Q) (hx : x < 8) (hu : ¬ Z 0 x = 1) (hD : D ≤ 1000) (hp : p ≤ 99) (hno : ∀ i, i < 8 → Z 0 i = 1 → Z 3 i ≠ p) {n : Nat} (hn : 9 ≤ n) :
    ∃ M' rk' rn' c', j_S_place n (xbe M (fin8 x) (nI D) (nI dl) (nI p)) (fin8 x) = some M' ∧ xset M' (ztZ Z x D dl p) Q rk' rn' c' ∧ xu M M' := by
  obtain ⟨a1, a2, a3, a4, a5⟩ := hX
  obtain ⟨b1, b2, b3, b4, b5, -⟩ := a5 x hx
  have hrc : c ≤ rk x := Nat.not_lt.mp (fun q => hu (b5.mpr q))
  have hc : c < 8 := by omega
  obtain ⟨B, hB⟩ : ∃ B, B = xbe M (fin8 x) (nI D) (nI dl) (nI p) := ⟨_, rfl⟩
  have hB2 : B.2 = M.2 := by rw [hB]; rfl
  have hBn : ∀ d y k, ¬ (d = 0 ∧ y = fin8 x ∧ 3 ≤ k ∧ k ≤ 7) → B.1 d y k = M.1 d y k := fun d y k h => by rw [hB]; exact xbe_ne h
  have hm : xpm B rk rn := ⟨fun r hr => by rw [hB2]; exact a3 r hr, fun i hi => ⟨by rw [hBn 0 _ 8 (by omega)]; exact (a5 i hi).2.1, (a5 i hi).2.2.1, (a5 i hi).2.2.2.1⟩⟩
  obtain ⟨M1, s1, s2, s3⟩ := x_swap (n := n) hm b3 hc
  obtain ⟨c1, c2, c3⟩ := a3 c hc
  have hM1c : M1.2.1 0 2 = nI c := by rw [s2.1, hB2]; exact a2
  have rkc : ∀ i, i < 8 → (pmk rk rn (rk x) c i ≤ c ↔ (i = x ∨ Z 0 i = 1)) := fun i hi => by
    unfold pmk
    rw [b4]
    by_cases q1 : i = x
    · rw [if_pos q1]
      exact ⟨fun _ => Or.inl q1, fun _ => Nat.le_refl c⟩
    · rw [if_neg q1]
      by_cases q2 : i = rn c
      · rw [if_pos q2]
        constructor
        · intro w
          exact absurd (show i = x by rw [q2, show c = rk x by omega, b4]) q1
        · intro w
          rcases w with w | w
          · exact absurd w q1
          · rw [q2] at w
            have := (a5 (rn c) c2).2.2.2.2.1.mp w
            omega
      · rw [if_neg q2]
        have w1 := (a5 i hi).2.2.2.2.1
        have w2 : rk i ≠ c := fun w => q2 (by rw [← w, (a5 i hi).2.2.2.1])
        constructor
        · intro w; exact Or.inr (w1.mpr (by omega))
        · intro w
          rcases w with w | w
          · exact absurd w q1
          · have := w1.mp w; omega
  have rnc : pmn rn (rk x) c c = x := by
    unfold pmn
    by_cases q : c = rk x
    · rw [if_pos q, q, b4]
    · rw [if_neg q, if_pos rfl, b4]
  have rnl : ∀ r, r < c → pmn rn (rk x) c r = rn r := fun r hr => by unfold pmn; rw [if_neg (by omega), if_neg (by omega)]
  have prx : ztZ Z x D dl p 3 x = p := by rw [zt_x]; rfl
  have rnx : ∀ r, r < c → rn r ≠ x ∧ rn r < 8 ∧ Z 0 (rn r) = 1 := fun r hr => by
    obtain ⟨q1, q2, q3⟩ := a3 r (by omega)
    have q4 := (a5 _ q2).2.2.2.2.1.mpr (by rw [q3]; exact hr)
    exact ⟨fun w => hu (by rw [← w]; exact q4), q2, q4⟩
  obtain ⟨M', rk', rn', r1, r2, r3, r4, r5⟩ := x_plc hc (fun i => ztZ Z x D dl p 3 i) n (fin8 x) c n M1 (pmk rk rn (rk x) c) (pmn rn (rk x) c) (by omega) (Nat.le_refl c) s3 hM1c
    (fun i hi hr => by
      rw [s2.2.2 0 _ 5 (by omega)]
      rcases (rkc i hi).mp hr with q | q
      · show B.1 0 (fin8 i) 5 = nI (ztZ Z x D dl p 3 i) ∧ ztZ Z x D dl p 3 i ≤ 99
        rw [q, prx, hB]; exact ⟨xbe_at.2.2.1, hp⟩
      · have hne : i ≠ x := fun w => hu (by rw [← w]; exact q)
        show B.1 0 (fin8 i) 5 = nI (ztZ Z x D dl p 3 i) ∧ ztZ Z x D dl p 3 i ≤ 99
        rw [zt_ne hne, hBn 0 _ 5 (fun w => fin8_ne hi hx hne w.2.1)]
        exact ⟨((a5 i hi).2.2.2.2.2 q).2.2.1, ((hZ i hi).2 q).2.2.2.2.1⟩)
    (fun i j hi hj h1 h2 q => by
      have q' : ztZ Z x D dl p 3 i = ztZ Z x D dl p 3 j := q
      rcases (rkc i hi).mp h1 with w1 | w1 <;> rcases (rkc j hj).mp h2 with w2 | w2
      · rw [w1, w2]
      · have hne : j ≠ x := fun w => hu (by rw [← w]; exact w2)
        rw [w1, prx, zt_ne hne] at q'
        exact absurd q'.symm (hno j hj w2)
      · have hne : i ≠ x := fun w => hu (by rw [← w]; exact w1)
        rw [w2, prx, zt_ne hne] at q'
        exact absurd q' (hno i hi w1)
      · have hne : i ≠ x := fun w => hu (by rw [← w]; exact w1)
        have hne2 : j ≠ x := fun w => hu (by rw [← w]; exact w2)
        rw [zt_ne hne, zt_ne hne2] at q'
        exact ((hZ i hi).2 w1).2.2.2.2.2.2.2.2.2 j hj w2 q')
    (fun a b hab hb q1 q2 => by
      have hbc : b < c := by omega
      show ztZ Z x D dl p 3 (pmn rn (rk x) c b) < ztZ Z x D dl p 3 (pmn rn (rk x) c a)
      rw [rnl a (by omega), rnl b hbc, zt_ne (rnx a (by omega)).1, zt_ne (rnx b hbc).1]
      exact a4 a b hab hbc)
    (fun b hb1 hb2 => absurd hb2 (by omega))
  have hall : ∀ d y k, ¬ (d = 0 ∧ k = 8) → M'.1 d y k = B.1 d y k := fun d y k h => (r2.2.2 d y k h).trans (s2.2.2 d y k h)
  refine ⟨sG M' 0 2 (nI (c + 1)), rk', rn', c + 1, ?_, ⟨by omega, rfl, fun r hr => r3.1 r hr, fun a b hab hb => r4 a b hab (by omega), fun i hi => ?_⟩, ?_⟩
  · unfold j_S_place
    rw [← hB, show B.1 0 (fin8 x) 8 = nI (rk x) from (hBn 0 _ 8 (by omega)).trans b2, hB2, a2, s1, Option.bind_some, hM1c]
    exact r1
  · obtain ⟨t1, t2, t3⟩ := r3.2 i hi
    have use : ztZ Z x D dl p 0 i = 1 ↔ (i = x ∨ Z 0 i = 1) := by
      by_cases e : i = x
      · rw [e, zt_x]; exact ⟨fun _ => Or.inl rfl, fun _ => rfl⟩
      · rw [zt_ne e]; exact ⟨fun w => Or.inr w, fun w => w.resolve_left e⟩
    refine ⟨?_, t1, t2, t3, ?_, fun hui => ?_⟩
    · show M'.1 0 (fin8 i) 0 = nI (i + 1)
      rw [hall 0 _ 0 (by omega), hBn 0 _ 0 (by omega)]
      exact (a5 i hi).1
    · rw [use, ← rkc i hi, ← r5 i hi]; omega
    · show M'.1 0 (fin8 i) 3 = nI (ztZ Z x D dl p 1 i) ∧ M'.1 0 (fin8 i) 4 = nI (ztZ Z x D dl p 2 i) ∧ M'.1 0 (fin8 i) 5 = nI (ztZ Z x D dl p 3 i) ∧ M'.1 0 (fin8 i) 6 = nI (ztZ Z x D dl p 4 i) ∧ M'.1 0 (fin8 i) 7 = nI (ztZ Z x D dl p 5 i) ∧ ∀ q, q < ztZ Z x D dl p 4 i → M'.1 2 (fin8 i) q = nI (Q i q)
      rw [hall 0 _ 3 (by omega), hall 0 _ 4 (by omega), hall 0 _ 5 (by omega), hall 0 _ 6 (by omega), hall 0 _ 7 (by omega)]
      by_cases e : i = x
      · rw [e, zt_x, zt_x, zt_x, zt_x, zt_x, hB]
        obtain ⟨o1, o2, o3, o4, o5⟩ := xbe_at (M := M) (x := fin8 x) (a := nI D) (b := nI dl) (e := nI p)
        exact ⟨o1, o2, o3, o4, o5, fun q hq => absurd hq (Nat.not_lt_zero q)⟩
      · have hne := fin8_ne hi hx e
        have hz := (use.mp hui).resolve_left e
        rw [zt_ne e, zt_ne e, zt_ne e, zt_ne e, zt_ne e, hBn 0 _ 3 (fun w => hne w.2.1), hBn 0 _ 4 (fun w => hne w.2.1), hBn 0 _ 5 (fun w => hne w.2.1), hBn 0 _ 6 (fun w => hne w.2.1), hBn 0 _ 7 (fun w => hne w.2.1)]
        obtain ⟨o1, o2, o3, o4, o5, o6⟩ := (a5 i hi).2.2.2.2.2 hz
        exact ⟨o1, o2, o3, o4, o5, fun q hq => by rw [hall 2 _ q (by omega), hBn 2 _ q (by omega)]; exact o6 q hq⟩
  · refine ⟨?_, fun k => ?_, fun d y k h0 h2 => ?_⟩
    · show M'.2.2.2 = M.2.2.2
      rw [r2.2.1, s2.2.1, hB2]
    · show (sG M' 0 2 (nI (c + 1))).2.1 2 k = M.2.1 2 k
      rw [sG_ne (by omega), r2.1, s2.1, hB2]
    · show M'.1 d y k = M.1 d y k
      rw [hall d y k (fun w => h0 w.1), hBn d y k (fun w => h0 w.1)]
/-- the reference: is the priority taken? -/
theorem y_task_L (hY : yset U Z Q) (hZ : zset Z Q) (hx : x < 8) (hp : p ≤ 99) (n : Nat) (a2 a3 : Int32) : ∀ (k j f : Nat), j + k = 8 → k < f →
    ((∃ i, j ≤ i ∧ i < 8 ∧ Z 0 i = 1 ∧ Z 3 i = p) → j_Y_task_L74 n (nI (x + 1)) a2 a3 (nI p) f (nI (j + 1)) U = some (0, U)) ∧
    ((∀ i, j ≤ i → i < 8 → Z 0 i = 1 → Z 3 i ≠ p) → j_Y_task_L74 n (nI (x + 1)) a2 a3 (nI p) f (nI (j + 1)) U = some (1, sA (sA (sA (sA (sA U 1 (x + 1) 1) 2 (x + 1) a2) 3 (x + 1) a3) 4 (x + 1) (nI p)) 5 (x + 1) 0)) := by
  intro k
  induction k with
  | zero =>
    intro j f hj hf
    obtain ⟨f, rfl⟩ : ∃ g, f = g + 1 := ⟨f - 1, by omega⟩
    refine ⟨fun ⟨i, h1, h2, _⟩ => absurd h1 (by omega), fun _ => ?_⟩
    rw [j_Y_task_L74, show j + 1 = 9 by omega, if_pos y_8, if_pos (y_in hx), if_pos (y_in hx), if_pos (y_in hx), if_pos (y_in hx), if_pos (y_in hx), nI_clamp (show x + 1 < 2 ^ 31 by omega)]
  | succ k ih =>
    intro j f hj hf
    obtain ⟨f, rfl⟩ : ∃ g, f = g + 1 := ⟨f - 1, by omega⟩
    have hj8 : j < 8 := by omega
    obtain ⟨i1, i0⟩ := ih (j + 1) f (by omega) (by omega)
    rcases y_use hY hZ hj8 with ⟨z1, u1⟩ | ⟨z0, u0⟩
    · have fy := (hY j hj8).2 z1
      have hb := ((hZ j hj8).2 z1).2.2.2.2.1
      have st : j_Y_task_L74 n (nI (x + 1)) a2 a3 (nI p) (f + 1) (nI (j + 1)) U = if nI (Z 3 j) = nI p then some (0, U) else j_Y_task_L74 n (nI (x + 1)) a2 a3 (nI p) f (nI (j + 1 + 1)) U := by
        rw [j_Y_task_L74]
        simp only [if_pos (y_in hj8)]
        rw [if_neg (y_n8 hj8), nI_clamp (show j + 1 < 2 ^ 31 by omega), if_neg (show ¬ U.1 1 (j + 1) = 0 by rw [u1]; exact d10), fy.2.2.1, nI_1]
      by_cases e : Z 3 j = p
      · refine ⟨fun _ => by rw [st, if_pos (by rw [e])], fun h => absurd e (h j (Nat.le_refl j) hj8 z1)⟩
      · rw [if_neg (nI_ne e (by omega) (by omega))] at st
        rw [st]
        refine ⟨fun ⟨i, h1, h2, h3, h4⟩ => i1 ⟨i, ?_, h2, h3, h4⟩, fun h => i0 (fun i h1 h2 => h i (by omega) h2)⟩
        by_cases q : i = j
        · rw [q] at h4; exact absurd h4 e
        · omega
    · have st : j_Y_task_L74 n (nI (x + 1)) a2 a3 (nI p) (f + 1) (nI (j + 1)) U = j_Y_task_L74 n (nI (x + 1)) a2 a3 (nI p) f (nI (j + 1 + 1)) U := by
        rw [j_Y_task_L74, if_neg (y_n8 hj8), if_pos (y_in hj8), nI_clamp (show j + 1 < 2 ^ 31 by omega), if_pos u0, nI_1]
      rw [st]
      refine ⟨fun ⟨i, h1, h2, h3, h4⟩ => i1 ⟨i, ?_, h2, h3, h4⟩, fun h => i0 (fun i h1 h2 => h i (by omega) h2)⟩
      by_cases q : i = j
      · rw [q, z0] at h3; omega
      · omega
theorem yset_t (hY : yset U Z Q) (hx : x < 8) : yset (sA (sA (sA (sA (sA U 1 (x + 1) 1) 2 (x + 1) (nI D)) 3 (x + 1) (nI dl)) 4 (x + 1) (nI p)) 5 (x + 1) 0) (ztZ Z x D dl p) Q := by
  intro i hi
  by_cases e : i = x
  · subst e
    refine ⟨?_, fun _ => ⟨?_, ?_, ?_, ?_, fun q hq => absurd hq (by rw [zt_x]; exact Nat.not_lt_zero q)⟩⟩
    · rw [zt_x, sA_ne (by omega), sA_ne (by omega), sA_ne (by omega), sA_ne (by omega), sA_at]; rfl
    · rw [zt_x, sA_ne (by omega), sA_ne (by omega), sA_ne (by omega), sA_at]; rfl
    · rw [zt_x, sA_ne (by omega), sA_ne (by omega), sA_at]; rfl
    · rw [zt_x, sA_ne (by omega), sA_at]; rfl
    · rw [zt_x, sA_at]; rfl
  · obtain ⟨h1, h2⟩ := hY i hi
    have same : ∀ a k, (a = 6 ∨ k = i + 1) → (sA (sA (sA (sA (sA U 1 (x + 1) 1) 2 (x + 1) (nI D)) 3 (x + 1) (nI dl)) 4 (x + 1) (nI p)) 5 (x + 1) 0).1 a k = U.1 a k := fun a k h => by
      rw [sA_ne (by omega), sA_ne (by omega), sA_ne (by omega), sA_ne (by omega), sA_ne (by omega)]
    rw [same 1 _ (Or.inr rfl), same 2 _ (Or.inr rfl), same 3 _ (Or.inr rfl), same 4 _ (Or.inr rfl), same 5 _ (Or.inr rfl), zt_ne e, zt_ne e, zt_ne e, zt_ne e, zt_ne e]
    refine ⟨h1, fun hu => ?_⟩
    obtain ⟨o1, o2, o3, o4, o5⟩ := h2 hu
    exact ⟨o1, o2, o3, o4, fun q hq => by rw [same 6 _ (Or.inl rfl)]; exact o5 q hq⟩
end T
theorem k_task : pu_task kSim := by
  intro t M U v v2 v3 v4 _ ⟨Z, Q, rk, rn, c, C, F, P, hj, L, ru, pa, hZ, hX, hY, hC, hK⟩
  have hsim : kSim (t + 1) M (sV U 0 0) := kSim.ask hZ hX hK xsk.rf hC hY (yu.rf.sV 0 (Or.inl rfl))
  have hY0 : yset (sV U 0 0) Z Q := hY
  obtain ⟨ghj, ghj2⟩ := hK.2.1.1
  have ghj3 : (sV U 0 0).2 25 = nI hj := ghj2
  by_cases h0 : hj = 0
  · subst h0
    have q1 : M.2.1 2 1 = 0 := ghj
    have q2 : (sV U 0 0).2 25 = 0 := ghj2
    have no : j_S_add 9 M v v2 v3 v4 = some (0, M) → j_Y_task 9 U v v2 v3 v4 = some (0, sV U 0 0) → ∃ (M0 : MX) (U0 : MY) (n n' : Nat) (r : Int32), j_O_task n M v v2 v3 v4 = some (r, M0) ∧ j_Y_task n' U v v2 v3 v4 = some (r, U0) ∧ kSim (t + 1) M0 U0 := fun e1 e2 =>
      ⟨M, sV U 0 0, 9, 9, 0, by unfold j_O_task; rw [if_pos q1, e1, Option.bind_some, if_pos rfl], e2, hsim⟩
    by_cases v1a : v < 1
    · refine no (by unfold j_S_add; rw [if_pos v1a]) (by unfold j_Y_task; rw [if_pos q2, if_pos v1a])
    · by_cases v1b : 8 < v
      · refine no (by unfold j_S_add; rw [if_neg v1a, if_pos v1b]) (by unfold j_Y_task; rw [if_pos q2, if_neg v1a, if_pos v1b])
      · rcases nI_id v with h | h | ⟨i, hi, rfl⟩
        · exact absurd h v1a
        · exact absurd h v1b
        · have ux := y_use hY hZ hi
          have hnt : ¬ (sV U 0 0).1 1 (i + 1) = 0 ↔ Z 0 i = 1 := by
            show ¬ U.1 1 (i + 1) = 0 ↔ Z 0 i = 1
            rcases ux with ⟨z1, u1⟩ | ⟨z0, u0⟩
            · rw [u1, z1]; exact ⟨fun _ => rfl, fun _ => d10⟩
            · rw [u0, z0]; exact ⟨fun w => absurd rfl w, fun w => absurd w (by decide)⟩
          have y0 : ∀ r, (if (sV U 0 0).1 1 (i + 1) = 0 then (if v2 < 1 then some ((0 : Int32), sV U 0 0) else if 1000 < v2 then some (0, sV U 0 0) else if v3 < 1 then some (0, sV U 0 0) else if 8 * v2 < v3 then some (0, sV U 0 0) else if v4 < 0 then some (0, sV U 0 0) else if v4 ≤ 99 then j_Y_task_L74 9 (nI (i + 1)) v2 v3 v4 9 1 (sV U 0 0) else some (0, sV U 0 0)) else some (0, sV U 0 0)) = r → j_Y_task 9 U (nI (i + 1)) v2 v3 v4 = r := fun r e => by
            unfold j_Y_task
            rw [if_pos q2, if_neg v1a, if_neg v1b, if_pos (y_in hi), nI_clamp (show i + 1 < 2 ^ 31 by omega)]
            exact e
          have ybad : (∀ (h : (sV U 0 0).1 1 (i + 1) = 0), (if v2 < 1 then some ((0 : Int32), sV U 0 0) else if 1000 < v2 then some (0, sV U 0 0) else if v3 < 1 then some (0, sV U 0 0) else if 8 * v2 < v3 then some (0, sV U 0 0) else if v4 < 0 then some (0, sV U 0 0) else if v4 ≤ 99 then j_Y_task_L74 9 (nI (i + 1)) v2 v3 v4 9 1 (sV U 0 0) else some (0, sV U 0 0)) = some (0, sV U 0 0)) → j_Y_task 9 U (nI (i + 1)) v2 v3 v4 = some (0, sV U 0 0) := fun e => y0 _ (by
            by_cases q : (sV U 0 0).1 1 (i + 1) = 0
            · rw [if_pos q]; exact e q
            · rw [if_neg q])
          by_cases w1 : v2 < 1
          · exact no (by unfold j_S_add; rw [if_neg v1a, if_neg v1b, if_pos w1]) (ybad (fun _ => by rw [if_pos w1]))
          · by_cases w2 : 1000 < v2
            · exact no (by unfold j_S_add; rw [if_neg v1a, if_neg v1b, if_neg w1, if_neg (lt_not32 w2)]) (ybad (fun _ => by rw [if_neg w1, if_pos w2]))
            · have w2' := not_lt32 w2
              by_cases w3 : v3 < 1
              · exact no (by unfold j_S_add; rw [if_neg v1a, if_neg v1b, if_neg w1, if_pos w2', if_pos w3]) (ybad (fun _ => by rw [if_neg w1, if_neg w2, if_pos w3]))
              · by_cases w4 : 8 * v2 < v3
                · exact no (by unfold j_S_add; rw [if_neg v1a, if_neg v1b, if_neg w1, if_pos w2', if_neg w3, if_neg (lt_not32 w4)]) (ybad (fun _ => by rw [if_neg w1, if_neg w2, if_neg w3, if_pos w4]))
                · have w4' := not_lt32 w4
                  by_cases w5 : v4 < 0
                  · exact no (by unfold j_S_add; rw [if_neg v1a, if_neg v1b, if_neg w1, if_pos w2', if_neg w3, if_pos w4', if_pos w5]) (ybad (fun _ => by rw [if_neg w1, if_neg w2, if_neg w3, if_neg w4, if_pos w5]))
                  · by_cases w6 : v4 ≤ 99
                    · have w6' := le_not32 w6
                      have g1 : ∀ {a : Int32}, ¬ a < 1 → ¬ a < 0 := fun {a} h q => h (by
                        rw [Int32.lt_iff_toInt_lt] at q ⊢
                        have e0 : (0 : Int32).toInt = 0 := by decide +kernel
                        have e1 : (1 : Int32).toInt = 1 := by decide +kernel
                        omega)
                      have g2 : ∀ {k : Nat}, ¬ nI k < 1 → 1 ≤ k := fun {k} h => by
                        by_cases q : k = 0
                        · subst q; exact absurd (by decide +kernel) h
                        · omega
                      obtain ⟨D, hD, rfl⟩ := nI_btw (k := 1000) (by omega) (g1 w1) w2
                      have e8 : 8 * nI D = nI (8 * D) := by rw [show (8 : Int32) = nI 8 from rfl, nI_mul]
                      have w4s := w4
                      rw [e8] at w4s
                      obtain ⟨dl, hdl, rfl⟩ := nI_btw (k := 8 * D) (by omega) (g1 w3) w4s
                      obtain ⟨p, hp, rfl⟩ := nI_btw (k := 99) (by omega) w5 w6'
                      have hD1 := g2 w1
                      have hdl1 := g2 w3
                      have xg : ∀ r, (j_S_hasPriority 9 M (nI p)).bind (fun r_10 => if r_10 = 0 then (j_S_find 9 M (nI (i + 1))).bind fun r_13 => gw_oc r_13 (if ¬ ((nI (i + 1) - 1) < 0 ∨ 8 ≤ (nI (i + 1) - 1).toNatClampNeg) then (j_T_become 9 M (fin8 (nI (i + 1) - 1).toNatClampNeg) (nI D) (nI dl) (nI p)).bind fun M_17 => if ¬ ((nI (i + 1) - 1) < 0 ∨ 8 ≤ (nI (i + 1) - 1).toNatClampNeg) then (j_S_place 9 M_17 (fin8 (nI (i + 1) - 1).toNatClampNeg)).bind fun M_20 => (j_S_forgetFindings 9 M_20).bind fun M_22 => some (1, M_22) else none else none) (fun y_14 => some (0, M)) else some (0, M)) = r → j_S_add 9 M (nI (i + 1)) (nI D) (nI dl) (nI p) = r := fun r e => by
                        unfold j_S_add
                        rw [if_neg v1a, if_neg v1b, if_neg w1, if_pos w2', if_neg w3, if_pos w4', if_neg w5, if_neg w6']
                        exact e
                      have yg : (sV U 0 0).1 1 (i + 1) = 0 → ∀ r, j_Y_task_L74 9 (nI (i + 1)) (nI D) (nI dl) (nI p) 9 1 (sV U 0 0) = r → j_Y_task 9 U (nI (i + 1)) (nI D) (nI dl) (nI p) = r := fun q r e => y0 r (by rw [if_pos q, if_neg w1, if_neg w2, if_neg w3, if_neg w4, if_neg w5, if_pos w6]; exact e)
                      obtain ⟨hp1, hp0⟩ := x_has hX hZ (show p < 2 ^ 31 by omega) (Nat.le_refl 9)
                      obtain ⟨yp1, yp0⟩ := y_task_L (p := p) hY0 hZ hi hp 9 (nI D) (nI dl) 8 0 9 (by omega) (by omega)
                      by_cases hpr : ∃ j, j < 8 ∧ Z 0 j = 1 ∧ Z 3 j = p
                      · refine no (xg _ ?_) ?_
                        · rw [hp1 hpr, Option.bind_some, if_neg d10]
                        · by_cases q : (sV U 0 0).1 1 (i + 1) = 0
                          · refine yg q _ (yp1 ?_)
                            obtain ⟨j, j1, j2, j3⟩ := hpr
                            exact ⟨j, Nat.zero_le _, j1, j2, j3⟩
                          · exact y0 _ (by rw [if_neg q])
                      · have hno : ∀ j, j < 8 → Z 0 j = 1 → Z 3 j ≠ p := fun j j1 j2 j3 => hpr ⟨j, j1, j2, j3⟩
                        by_cases hu : Z 0 i = 1
                        · refine no (xg _ ?_) (y0 _ (by rw [if_neg (hnt.mpr hu)]))
                          rw [hp0 hno, Option.bind_some, if_pos rfl, x_find hX 9 hi, Option.bind_some, if_pos hu]; rfl
                        · have q : (sV U 0 0).1 1 (i + 1) = 0 := by
                            by_cases q : (sV U 0 0).1 1 (i + 1) = 0
                            · exact q
                            · exact absurd (hnt.mp q) hu
                          obtain ⟨M1, rk', rn', c', p1, p2, p3⟩ := x_place (dl := dl) hX hZ hi hu hD hp hno (Nat.le_refl 9)
                          obtain ⟨M2, f1, f2, f3⟩ := x_ff p2 (Nat.le_refl 9)
                          have eX : j_S_add 9 M (nI (i + 1)) (nI D) (nI dl) (nI p) = some (1, M2) := xg _ (by
                            have ei : nI (i + 1) - 1 = nI i := nI_pred i
                            rw [hp0 hno, Option.bind_some, if_pos rfl, x_find hX 9 hi, Option.bind_some, if_neg hu, ei]
                            show (if ¬ (nI i < 0 ∨ 8 ≤ (nI i).toNatClampNeg) then _ else none) = _
                            rw [if_pos (nI_in (by omega) (by omega)), nI_clamp (show i < 2 ^ 31 by omega)]
                            show (if ¬ (nI i < 0 ∨ 8 ≤ i) then (j_S_place 9 (xbe M (fin8 i) (nI D) (nI dl) (nI p)) (fin8 i)).bind fun M_20 => (j_S_forgetFindings 9 M_20).bind fun M_22 => some (1, M_22) else none) = _
                            rw [if_pos (show ¬ (nI i < 0 ∨ 8 ≤ i) from fun w => by rcases w with w | w; exact absurd w (nI_pos (by omega)); omega), p1, Option.bind_some, f1, Option.bind_some])
                          refine ⟨M2, sA (sA (sA (sA (sA (sV U 0 0) 1 (i + 1) 1) 2 (i + 1) (nI D)) 3 (i + 1) (nI dl)) 4 (i + 1) (nI p)) 5 (i + 1) 0, 9, 9, 1, ?_, yg q _ (yp0 (fun j _ j1 j2 => hno j j1 j2)), ⟨ztZ Z i D dl p, Q, rk', rn', c', C, F, P, 0, L, ru, pa, zset_t hZ hD1 hD hdl1 hdl hp hno, p2.sk f2, yset_t hY0 hi, f3, hK.new (p3.trans f2.st.u) ⟨fun a k ha => by rw [sA_ne (by omega), sA_ne (by omega), sA_ne (by omega), sA_ne (by omega), sA_ne (by omega)]; rfl, fun f hf => sV_ne (by omega)⟩ (fun j _ w => ?_)⟩⟩
                          · unfold j_O_task
                            rw [if_pos q1, eX, Option.bind_some, if_neg d10]
                          · by_cases e : j = i
                            · rw [e, zt_x]; rfl
                            · rw [zt_ne e]; exact w
                    · have w6' := not_le32 w6
                      exact no (by unfold j_S_add; rw [if_neg v1a, if_neg v1b, if_neg w1, if_pos w2', if_neg w3, if_pos w4', if_neg w5, if_pos w6']) (ybad (fun _ => by rw [if_neg w1, if_neg w2, if_neg w3, if_neg w4, if_neg w5, if_neg w6]))
  · have h1 : hj = 1 := by have := hK.2.2.1; omega
    subst h1
    refine ⟨M, sV U 0 0, 9, 9, 0, ?_, ?_, hsim⟩
    · unfold j_O_task
      rw [if_neg (show ¬ M.2.1 2 1 = 0 by rw [ghj]; exact d10)]
    · unfold j_Y_task
      rw [if_neg (show ¬ (sV U 0 0).2 25 = 0 by rw [ghj3]; exact d10)]
