/-! PURE: what the analysis keeps, the verdict -/
/-- what the analysis may write -/
def xsk (M M' : MX) : Prop := M'.2.2 = M.2.2 ∧ (∀ d k, d ≠ 1 → M'.2.1 d k = M.2.1 d k) ∧ ∀ d x k, (d ≠ 0 ∨ (k ≠ 9 ∧ k ≠ 10 ∧ k ≠ 11 ∧ k ≠ 12)) → M'.1 d x k = M.1 d x k
theorem xsk.rf {M : MX} : xsk M M := ⟨rfl, fun _ _ _ => rfl, fun _ _ _ _ => rfl⟩
theorem xsk.trans {M M' M'' : MX} (h : xsk M M') (h' : xsk M' M'') : xsk M M'' := ⟨h'.1.trans h.1, fun d k hd => (h'.2.1 d k hd).trans (h.2.1 d k hd), fun d x k hd => (h'.2.2 d x k hd).trans (h.2.2 d x k hd)⟩
theorem xsm.sk {M M' : MX} (h : xsm M M') : xsk M M' := ⟨h.2.1, h.2.2, fun d x k _ => by rw [h.1]⟩
theorem xsk.sF {M M' : MX} (h : xsk M M') (x : Fin 8) {k : Nat} (v : Int32) (hk : k = 9 ∨ k = 10 ∨ k = 11 ∨ k = 12) : xsk M (sF M' 0 x k v) :=
  ⟨h.1, h.2.1, fun d x' k' hd => (sF_ne (fun q => by omega)).trans (h.2.2 d x' k' hd)⟩
theorem xset.sk {M M' : MX} {Z Q : Nat → Nat → Nat} {rk rn : Nat → Nat} {c : Nat} (h : xset M Z Q rk rn c) (hs : xsk M M') : xset M' Z Q rk rn c := by
  obtain ⟨h1, h2, h3, h4, h5⟩ := h
  obtain ⟨e1, e2, e3⟩ := hs
  refine ⟨h1, (e2 0 2 (by decide)).trans h2, ?_, h4, fun i hi => ?_⟩
  · rw [show M'.2.2.1 = M.2.2.1 by rw [e1]]; exact h3
  · obtain ⟨g0, g8, g1, g2, g3, g4⟩ := h5 i hi
    refine ⟨(e3 0 _ 0 (by decide)).trans g0, (e3 0 _ 8 (by decide)).trans g8, g1, g2, g3, fun hu => ?_⟩
    obtain ⟨a1, a2, a3, a4, a5, a6⟩ := g4 hu
    exact ⟨(e3 0 _ 3 (by decide)).trans a1, (e3 0 _ 4 (by decide)).trans a2, (e3 0 _ 5 (by decide)).trans a3, (e3 0 _ 6 (by decide)).trans a4, (e3 0 _ 7 (by decide)).trans a5, fun q hq => (e3 2 _ q (Or.inl (by decide))).trans (a6 q hq)⟩
/-- the first number at which p fails -/
def ks_first (p : Nat → Bool) : Nat → Nat → Nat
  | 0, t => t
  | f + 1, t => if p t = true then ks_first p f (t + 1) else t
def zbears (Z Q : Nat → Nat → Nat) (x B : Nat) : Bool := decide (zbz Z x B ≤ 20000 ∧ (zw Z Q x B).1 ≤ Z 2 x)
/-- how many blockings are borne: one more than the greatest -/
def zto (Z Q : Nat → Nat → Nat) (x : Nat) : Nat := ks_first (zbears Z Q x) (Z 2 x + 1) 0
def xch1 (M : MX) (Z Q : Nat → Nat → Nat) (i : Nat) : Prop := M.1 0 (fin8 i) 9 = -2 ∨ (zrdy Z ∧ M.1 0 (fin8 i) 9 = nI (zgr Z Q i (zbl Z Q i)) ∧ M.1 0 (fin8 i) 10 = nI (zw Z Q i (zbl Z Q i)).2 ∧ M.1 0 (fin8 i) 11 = nI (znj Z i (zbl Z Q i)))
def xch2 (M : MX) (Z Q : Nat → Nat → Nat) (i : Nat) : Prop := M.1 0 (fin8 i) 12 = -2 ∨ (zrdy Z ∧ M.1 0 (fin8 i) 12 = nI (zto Z Q i) - 1)
/-- what is remembered is right -/
def xch (M : MX) (Z Q : Nat → Nat → Nat) : Prop := ∀ i, i < 8 → Z 0 i = 1 → xch1 M Z Q i ∧ xch2 M Z Q i
theorem nI_ne2 {k : Nat} (hk : k < 2 ^ 31) : ¬ nI k = -2 := fun q => by
  have h1 := congrArg Int32.toInt q
  rw [nI_toInt hk] at h1
  have h2 : (-2 : Int32).toInt = -2 := by decide +kernel
  omega
section N
variable {Z Q : Nat → Nat → Nat} {x B : Nat}
theorem z_bl (hZ : zset Z Q) : zbl Z Q x ≤ 10000 := by
  have := z_lb hZ (x := x)
  unfold zbl
  omega
theorem z_gr (hZ : zset Z Q) (hR : zrdy Z) (hx : x < 8) (hu : Z 0 x = 1) : (20000 < zbz Z x B → zgr Z Q x B = 1000000000) ∧ (¬ 20000 < zbz Z x B → zgr Z Q x B = (zw Z Q x B).1 ∧ (zw Z Q x B).1 ≤ 28799) := by
  obtain ⟨-, h2, -⟩ := z_nj hZ hx hu (B := B)
  unfold zgr
  constructor
  · intro h; rw [if_pos (h2.mpr h)]
  · intro h; rw [if_neg (fun q => h (h2.mp q))]; exact ⟨rfl, z_wb hZ hR hx hu (Nat.le_refl _)⟩
theorem z_grb (hZ : zset Z Q) (hR : zrdy Z) (hx : x < 8) (hu : Z 0 x = 1) : zgr Z Q x B < 2 ^ 31 := by
  by_cases h : 20000 < zbz Z x B
  · rw [(z_gr hZ hR hx hu).1 h]; omega
  · have := (z_gr hZ hR hx hu (B := B)).2 h; omega
end N
/-- the verdict, rank by rank -/
def zver (Z Q : Nat → Nat → Nat) (rn : Nat → Nat) : Nat → Nat → Int32
  | 0, _ => 1
  | k + 1, r => if 20000 < zbz Z (rn r) (zbl Z Q (rn r)) then -(nI (rn r + 1)) - 100 else if (zw Z Q (rn r) (zbl Z Q (rn r))).1 ≤ Z 2 (rn r) then zver Z Q rn k (r + 1) else -(nI (rn r + 1))
section X
variable {M : MX} {Z Q : Nat → Nat → Nat} {rk rn : Nat → Nat} {c : Nat}
theorem x_survey (hX : xset M Z Q rk rn c) (hZ : zset Z Q) (hR : zrdy Z) (hC : xch M Z Q) {x n : Nat} (hx : x < 8) (hu : Z 0 x = 1) (hn : 20002 ≤ n) :
    ∃ M', j_A_survey n M (fin8 x) = some M' ∧ xsk M M' ∧ xch M' Z Q ∧ M'.1 0 (fin8 x) 9 = nI (zgr Z Q x (zbl Z Q x)) ∧ M'.1 0 (fin8 x) 10 = nI (zw Z Q x (zbl Z Q x)).2 ∧ M'.1 0 (fin8 x) 11 = nI (znj Z x (zbl Z Q x)) := by
  unfold j_A_survey
  by_cases h : M.1 0 (fin8 x) 9 = -2
  · obtain ⟨N, e, hs, h1, h2⟩ := x_gw hX hZ hR hx hu (z_bl hZ) hn
    rw [if_pos h, x_bl hX hZ hx hu (by omega), Option.bind_some, e, Option.bind_some]
    refine ⟨_, rfl, ((hs.sk.sF (fin8 x) _ (by omega)).sF (fin8 x) _ (by omega)).sF (fin8 x) _ (by omega), fun i hi hui => ?_, ?_, ?_, ?_⟩
    · by_cases e2 : i = x
      · subst e2
        refine ⟨Or.inr ⟨hR, ?_, ?_, ?_⟩, ?_⟩
        · exact (sF_k (by decide)).trans ((sF_k (by decide)).trans sF_at)
        · exact (sF_k (by decide)).trans (sF_at.trans h1)
        · exact sF_at.trans h2
        · have hc := (hC i hi hui).2
          unfold xch2 at hc ⊢
          rw [sF_k (by decide), sF_k (by decide), sF_k (by decide), hs.1]
          exact hc
      · have ne := fin8_ne hi hx e2
        have hc := hC i hi hui
        unfold xch1 xch2 at hc ⊢
        rw [sF_x ne, sF_x ne, sF_x ne, sF_x ne, sF_x ne, sF_x ne, sF_x ne, sF_x ne, sF_x ne, sF_x ne, sF_x ne, sF_x ne, hs.1]
        exact hc
    · exact (sF_k (by decide)).trans ((sF_k (by decide)).trans sF_at)
    · exact (sF_k (by decide)).trans (sF_at.trans h1)
    · exact sF_at.trans h2
  · rw [if_neg h]
    rcases (hC x hx hu).1 with hc | ⟨-, h1, h2, h3⟩
    · exact absurd hc h
    · exact ⟨M, rfl, xsk.rf, hC, h1, h2, h3⟩
theorem x_long {n x B : Nat} (hZ : zset Z Q) (hR : zrdy Z) (hx : x < 8) (hu : Z 0 x = 1) (h : M.1 0 (fin8 x) 9 = nI (zgr Z Q x B)) : j_T_isTooLong n M (fin8 x) = some (if 20000 < zbz Z x B then 1 else 0) := by
  unfold j_T_isTooLong
  rw [h]
  by_cases e : 20000 < zbz Z x B
  · rw [if_pos e, (z_gr hZ hR hx hu).1 e]; rfl
  · obtain ⟨e1, e2⟩ := (z_gr hZ hR hx hu (B := B)).2 e
    rw [if_neg e, e1, if_neg (show ¬ nI (zw Z Q x B).1 = 1000000000 from nI_ne (b := 1000000000) (by omega) (by omega) (by omega))]
theorem x_verd_L (hZ : zset Z Q) (hR : zrdy Z) {n : Nat} (hn : 20002 ≤ n) : ∀ (k r f : Nat) (M : MX), r + k = c → k < f → xset M Z Q rk rn c → xch M Z Q →
    ∃ M', j_A_verdict_L2 n f (nI r) M = some (zver Z Q rn k r, M') ∧ xsk M M' ∧ xch M' Z Q := by
  intro k
  induction k with
  | zero =>
    intro r f M hr hf hX hC
    have hc8 := hX.1
    obtain ⟨f, rfl⟩ : ∃ g, f = g + 1 := ⟨f - 1, by omega⟩
    refine ⟨M, ?_, xsk.rf, hC⟩
    unfold j_A_verdict_L2
    rw [hX.2.1, if_pos (nI_le (by omega) (by omega))]
    rfl
  | succ k ih =>
    intro r f M hr hf hX hC
    have hc8 := hX.1
    obtain ⟨f, rfl⟩ : ∃ g, f = g + 1 := ⟨f - 1, by omega⟩
    obtain ⟨h1, h2, h3, h4⟩ := x_rn hX (show r < c by omega)
    obtain ⟨M1, e1, s1, c1, w1, w2, w3⟩ := x_survey hX hZ hR hC h1 h2 hn
    have hX1 := hX.sk s1
    have hf1 := (hX1.2.2.2.2 _ h1)
    have hL := (hZ _ h1).2 h2
    unfold j_A_verdict_L2
    rw [hX.2.1, if_neg (nI_ge (by omega) (by omega)), if_pos (nI_in (by omega) (by omega)), nI_clamp (by omega), h4, e1, Option.bind_some, x_long hZ hR h1 h2 w1, Option.bind_some, hf1.1, w1, (hf1.2.2.2.2.2 h2).2.1, nI_1]
    unfold zver
    by_cases e : 20000 < zbz Z (rn r) (zbl Z Q (rn r))
    · rw [if_pos e, if_pos e, if_neg (by decide)]
      exact ⟨M1, rfl, s1, c1⟩
    · obtain ⟨g1, g2⟩ := (z_gr hZ hR h1 h2 (B := zbl Z Q (rn r))).2 e
      rw [if_neg e, if_neg e, if_pos rfl, g1]
      by_cases e2 : (zw Z Q (rn r) (zbl Z Q (rn r))).1 ≤ Z 2 (rn r)
      · rw [if_pos (nI_le e2 (by omega)), if_pos e2]
        obtain ⟨M2, e3, s2, c2⟩ := ih (r + 1) f M1 (by omega) (by omega) hX1 c1
        exact ⟨M2, e3, s1.trans s2, c2⟩
      · rw [if_neg (nI_ge (by omega) (by omega)), if_neg e2]
        exact ⟨M1, rfl, s1, c1⟩
theorem x_verd (hX : xset M Z Q rk rn c) (hZ : zset Z Q) (hR : zrdy Z) (hC : xch M Z Q) {n : Nat} (hn : 20002 ≤ n) : ∃ M', j_A_verdict n M = some (zver Z Q rn c 0, M') ∧ xsk M M' ∧ xch M' Z Q := by
  have hc8 := hX.1
  exact x_verd_L hZ hR hn c 0 n M (by omega) (by omega) hX hC
end X
section Y
variable {Z Q : Nat → Nat → Nat} {rk rn : Nat → Nat} {c : Nat}
theorem y_adm_L (hZ : zset Z Q) (hR : zrdy Z) (hK : zrk Z rk rn c) {n : Nat} (hn : 20003 ≤ n) : ∀ (k r f : Nat) (U : MY), r + k = c → k < f → yset U Z Q →
    ∃ U', j_Y_admitted_L7 n f (nI (if r < c then rn r + 1 else 0)) U = some (zver Z Q rn k r, U') ∧ ysm U U' := by
  have hc8 := hK.1
  intro k
  induction k with
  | zero =>
    intro r f U hr hf hY
    obtain ⟨f, rfl⟩ : ∃ g, f = g + 1 := ⟨f - 1, by omega⟩
    refine ⟨U, ?_, ysm.rf⟩
    unfold j_Y_admitted_L7
    rw [if_neg (show ¬ r < c by omega), if_pos (show nI 0 = 0 from rfl)]
    rfl
  | succ k ih =>
    intro r f U hr hf hY
    obtain ⟨f, rfl⟩ : ∃ g, f = g + 1 := ⟨f - 1, by omega⟩
    have hrc : r < c := by omega
    have h1 := (hK.2.1 r (by omega)).1
    have h2 : Z 0 (rn r) = 1 := (hK.2.2.2 _ h1).2.2.mpr (by rw [(hK.2.1 r (by omega)).2]; exact hrc)
    have hL := (hZ _ h1).2 h2
    obtain ⟨U1, e1, s1, g1, g2⟩ := y_go hY hZ hR h1 h2 (z_bl hZ (x := rn r)) hn
    have hY1 := hY.sm s1
    rw [if_pos hrc]
    unfold j_Y_admitted_L7
    rw [if_neg (nI_ne0 (by omega) (by omega)), y_bl hY hZ h1 h2 (by omega), Option.bind_some, e1, Option.bind_some]
    simp only [if_pos (y_in h1)]
    rw [nI_clamp (show rn r + 1 < 2 ^ 31 by omega), ((hY1 _ h1).2 h2).2.1, ((hY1 _ h1).2 h2).2.2.1]
    unfold zver
    by_cases e : 20000 < zbz Z (rn r) (zbl Z Q (rn r))
    · rw [if_pos e, g2 (by omega), if_neg (by decide)]
      exact ⟨U1, rfl, s1⟩
    · obtain ⟨w0, w1, -, -⟩ := g1 (by omega)
      obtain ⟨-, b2⟩ := (z_gr hZ hR h1 h2 (B := zbl Z Q (rn r))).2 e
      rw [if_neg e, w0, if_pos rfl, w1]
      by_cases e2 : (zw Z Q (rn r) (zbl Z Q (rn r))).1 ≤ Z 2 (rn r)
      · rw [if_pos (nI_le e2 (by omega)), if_pos e2, y_hst1 hY1 hZ hK (by omega) hrc, Option.bind_some]
        obtain ⟨U2, e3, s2⟩ := ih (r + 1) f U1 (by omega) (by omega) hY1
        exact ⟨U2, e3, s1.trans s2⟩
      · rw [if_neg (nI_ge (by omega) (by omega)), if_neg e2]
        exact ⟨U1, rfl, s1⟩
theorem y_adm {U : MY} (hY : yset U Z Q) (hZ : zset Z Q) (hR : zrdy Z) (hK : zrk Z rk rn c) {n : Nat} (hn : 20003 ≤ n) : ∃ U', j_Y_admitted n U = some (zver Z Q rn c 0, U') ∧ ysm U U' := by
  have hc8 := hK.1
  unfold j_Y_admitted
  rw [y_hst0 hY hZ hK (by omega), Option.bind_some]
  exact y_adm_L hZ hR hK hn c 0 n U (by omega) (by omega) hY
end Y
