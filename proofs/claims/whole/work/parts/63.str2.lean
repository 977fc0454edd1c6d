/-! PURE: the set with one task stretched -/
def zgZ (Z : Nat → Nat → Nat) (x N' : Nat) : Nat → Nat → Nat := fun a i => if a = 4 ∧ i = x then N' else Z a i
def zgQ (Q : Nat → Nat → Nat) (x : Nat) (s' : Nat → Nat) : Nat → Nat → Nat := fun i q => if i = x then s' q else Q i q
section G
variable {Z Q : Nat → Nat → Nat} {x N' : Nat} {s' : Nat → Nat}
theorem zg_f {a : Nat} (h : a ≠ 4) : zgZ Z x N' a = Z a := funext fun i => if_neg (fun q => h q.1)
theorem zg_at : zgZ Z x N' 4 x = N' := if_pos ⟨rfl, rfl⟩
theorem zg_ne {i : Nat} (h : i ≠ x) : zgZ Z x N' 4 i = Z 4 i := if_neg (fun q => h q.2)
theorem zq_at : zgQ Q x s' x = s' := funext fun q => if_pos rfl
theorem zq_ne {i : Nat} (h : i ≠ x) : zgQ Q x s' i = Q i := funext fun q => if_neg h
theorem zg_hi {y : Nat} : zhi (zgZ Z x N') y = zhi Z y := by
  funext i
  unfold zhi
  rw [zg_f (by decide), zg_f (by decide)]
theorem zg_bz {y B : Nat} : zbz (zgZ Z x N') y B = zbz Z y B := by
  unfold zbz
  rw [zg_f (by decide), zg_f (by decide), zg_hi]
theorem zg_nj {y B : Nat} : znj (zgZ Z x N') y B = znj Z y B := by
  unfold znj
  rw [zg_f (by decide), zg_f (by decide), zg_hi]
theorem zg_rs {y B k : Nat} (h : y ≠ x) : zrs (zgZ Z x N') (zgQ Q x s') y B k = zrs Z Q y B k := by
  unfold zrs sp_rsp sp_own
  rw [zg_f (by decide), zg_f (by decide), zg_hi, zq_ne h, zg_ne h]
theorem zg_w {y B : Nat} (h : y ≠ x) : zw (zgZ Z x N') (zgQ Q x s') y B = zw Z Q y B := by
  unfold zw
  rw [zg_nj, show zrs (zgZ Z x N') (zgQ Q x s') y B = zrs Z Q y B from funext fun k => zg_rs h]
theorem zg_bears {y B : Nat} (h : y ≠ x) : zbears (zgZ Z x N') (zgQ Q x s') y B = zbears Z Q y B := by
  unfold zbears
  rw [zg_bz, zg_w h, zg_f (by decide)]
theorem zg_lo {y : Nat} (h : y ≠ x) : zlo (zgZ Z x N') (zgQ Q x s') y = zlo Z Q y := by
  unfold zlo
  rw [zq_ne h, zg_ne h]
/-- of a task that is no higher: its blocking stays -/
theorem zg_bl {y : Nat} (h : Z 3 y ≤ Z 3 x) : zbl (zgZ Z x N') (zgQ Q x s') y = zbl Z Q y := by
  unfold zbl zlb
  congr 1
  refine ks_max_congr 8 (fun i _ => ?_)
  rw [zg_f (by decide), zg_f (by decide)]
  by_cases e : Z 0 i = 1 ∧ Z 3 i < Z 3 y
  · rw [if_pos e, if_pos e, zg_lo (fun q => by rw [q] at e; omega)]
  · rw [if_neg e, if_neg e]
/-- it bears what it bore -/
theorem zg_more (hZ : zset Z Q) (hR : zrdy Z) (hx : x < 8) (hu : Z 0 x = 1) {l : Nat} (hl1 : Q x (Z 4 x - 1) ≤ l) (hN : 1 ≤ N') (hsum : ks_sum s' N' = Z 5 x) (hlast : s' (N' - 1) = l) {B : Nat} (hb : zbears Z Q x B = true) : zbears (zgZ Z x N') (zgQ Q x s') x B = true := by
  obtain ⟨h1, h2⟩ := zb_iff.mp hb
  have hS := z_ak hZ hR hx hu
  refine zb_iff.mpr ⟨by rw [zg_bz]; exact h1, ?_⟩
  rw [show zgZ Z x N' 2 x = Z 2 x by rw [zg_f (by decide)]]
  refine (sp_w_le _).mpr (fun k hk => ?_)
  rw [zg_nj] at hk
  refine Nat.le_trans ?_ ((sp_w_le _).mp h2 k hk)
  have hl := (sp_last hS).2
  have hs2 : Z 5 x = ks_sum s' (N' - 1) + l := by
    rw [← hsum, ← hlast]
    have e : N' = (N' - 1) + 1 := by omega
    rw [e, ks_sum_succ, Nat.add_sub_cancel]
  have hok := sp_lb_ok hS hk
  have hown : sp_own (Z 5) (zgQ Q x s') (zgZ Z x N' 4) x k + (l - Q x (Z 4 x - 1)) = sp_own (Z 5) Q (Z 4) x k := by
    unfold sp_own
    rw [zq_at, zg_at]
    omega
  have hge : sp_own (Z 5) Q (Z 4) x k ≤ sp_lb (Z 1) (Z 5) (zhi Z x) B (sp_own (Z 5) Q (Z 4) x k) := by omega
  have hle : sp_lb (Z 1) (Z 5) (zhi Z x) B (sp_own (Z 5) (zgQ Q x s') (zgZ Z x N' 4) x k) ≤ sp_lb (Z 1) (Z 5) (zhi Z x) B (sp_own (Z 5) Q (Z 4) x k) - (l - Q x (Z 4 x - 1)) := by
    refine ak_least (Nat.zero_le _) ?_
    show B + sp_own (Z 5) (zgQ Q x s') (zgZ Z x N' 4) x k + ak_hw (Z 1) (Z 5) (zhi Z x) (sp_lb (Z 1) (Z 5) (zhi Z x) B (sp_own (Z 5) Q (Z 4) x k) - (l - Q x (Z 4 x - 1))) ≤ _
    have hm : ak_hw (Z 1) (Z 5) (zhi Z x) (sp_lb (Z 1) (Z 5) (zhi Z x) B (sp_own (Z 5) Q (Z 4) x k) - (l - Q x (Z 4 x - 1))) ≤ ak_hw (Z 1) (Z 5) (zhi Z x) (sp_lb (Z 1) (Z 5) (zhi Z x) B (sp_own (Z 5) Q (Z 4) x k)) := ak_hw_mono (Nat.sub_le _ _)
    omega
  unfold zrs sp_rsp
  rw [zg_f (by decide), zg_f (by decide), zg_hi, zq_at, zg_at, hlast]
  have e4 : sp_own (Z 5) (zgQ Q x s') (zgZ Z x N' 4) x k = sp_own (Z 5) (zgQ Q x s') (zgZ Z x N' 4) x k := rfl
  omega
theorem zset_g (hZ : zset Z Q) (hx : x < 8) (hu : Z 0 x = 1) (h8 : N' ≤ 8) (hseg : ∀ q, q < N' → 1 ≤ s' q) (hsum : ks_sum s' N' = Z 5 x) (hW : Z 5 x ≤ 8000) : zset (zgZ Z x N') (zgQ Q x s') := by
  intro i hi
  obtain ⟨h0, h⟩ := hZ i hi
  rw [zg_f (a := 0) (by decide), zg_f (a := 1) (by decide), zg_f (a := 2) (by decide), zg_f (a := 3) (by decide), zg_f (a := 5) (by decide)]
  refine ⟨h0, fun hui => ?_⟩
  obtain ⟨a1, a2, a3, a4, a5, a6, a7, a8, a9, a10⟩ := h hui
  by_cases e : i = x
  · subst e
    rw [zg_at, zq_at]
    exact ⟨a1, a2, a3, a4, a5, h8, hseg, hsum.symm, by omega, a10⟩
  · rw [zg_ne e, zq_ne e]
    exact ⟨a1, a2, a3, a4, a5, a6, a7, a8, a9, a10⟩
theorem zrdy_g (hR : zrdy Z) (hN : 1 ≤ N') : zrdy (zgZ Z x N') := by
  obtain ⟨h1, h2⟩ := hR
  unfold zrdy
  rw [zg_f (by decide)]
  refine ⟨h1, fun i hi hu => ?_⟩
  by_cases e : i = x
  · subst e; rw [zg_at]; omega
  · rw [zg_ne e]; exact h2 i hi hu
theorem xset_g {M M' : MX} {rk rn : Nat → Nat} {c : Nat} (h : xset M Z Q rk rn c) (hx : x < 8) (hg : xgrow M M' x N' s') : xset M' (zgZ Z x N') (zgQ Q x s') rk rn c := by
  obtain ⟨h1, h2, h3, h4, h5⟩ := h
  obtain ⟨e1, e2, e3, e4⟩ := hg
  refine ⟨h1, by rw [e1]; exact h2, by rw [e1]; exact h3, by rw [zg_f (by decide)]; exact h4, fun i hi => ?_⟩
  obtain ⟨g0, g8, g1, g2, g3, g4⟩ := h5 i hi
  have k0 : ∀ k, k ≠ 6 → M'.1 0 (fin8 i) k = M.1 0 (fin8 i) k := fun k hk => e4 0 _ k (fun q => by omega)
  rw [zg_f (a := 0) (by decide), zg_f (a := 1) (by decide), zg_f (a := 2) (by decide), zg_f (a := 3) (by decide), zg_f (a := 5) (by decide), k0 0 (by decide), k0 8 (by decide), k0 3 (by decide), k0 4 (by decide), k0 5 (by decide), k0 7 (by decide)]
  refine ⟨g0, g8, g1, g2, g3, fun hu => ?_⟩
  obtain ⟨a1, a2, a3, a4, a5, a6⟩ := g4 hu
  by_cases e : i = x
  · subst e
    rw [zg_at, zq_at]
    exact ⟨a1, a2, a3, e2, a5, e3⟩
  · have ne := fin8_ne hi hx e
    rw [zg_ne e, zq_ne e, e4 0 _ 6 (fun q => ne q.1)]
    exact ⟨a1, a2, a3, a4, a5, fun q hq => by rw [e4 2 _ q (fun z => ne z.1)]; exact a6 q hq⟩
theorem yset_g {U U' : MY} (h : yset U Z Q) (hZ : zset Z Q) (hx : x < 8) (hg : ygrow U U' x N' s') : yset U' (zgZ Z x N') (zgQ Q x s') := by
  obtain ⟨e1, e2, e3, e4⟩ := hg
  intro i hi
  obtain ⟨g1, g2⟩ := h i hi
  rw [zg_f (a := 0) (by decide), zg_f (a := 1) (by decide), zg_f (a := 2) (by decide), zg_f (a := 3) (by decide), e4 1 _ (fun q => by omega), e4 2 _ (fun q => by omega), e4 3 _ (fun q => by omega), e4 4 _ (fun q => by omega)]
  refine ⟨g1, fun hu => ?_⟩
  obtain ⟨a1, a2, a3, a4, a5⟩ := g2 hu
  by_cases e : i = x
  · subst e
    rw [zg_at, zq_at]
    exact ⟨a1, a2, a3, e2, e3⟩
  · have h8 := ((hZ i hi).2 hu).2.2.2.2.2.1
    rw [zg_ne e, zq_ne e, e4 5 _ (fun q => by omega)]
    exact ⟨a1, a2, a3, a4, fun q hq => by rw [e4 6 _ (fun z => by omega)]; exact a5 q hq⟩
theorem zrk_g {rk rn : Nat → Nat} {c : Nat} (h : zrk Z rk rn c) : zrk (zgZ Z x N') rk rn c := by
  unfold zrk
  rw [zg_f (by decide), zg_f (by decide)]
  exact h
end G
/-! what the calls of the analysis may change -/
def xst (M M' : MX) : Prop := M'.2.2 = M.2.2 ∧ (∀ d k, d ≠ 1 → M'.2.1 d k = M.2.1 d k) ∧ ∀ d y k, d ≠ 0 → d ≠ 2 → M'.1 d y k = M.1 d y k
def yst (U U' : MY) : Prop := (∀ a k, 9 ≤ a → U'.1 a k = U.1 a k) ∧ ∀ f, (f = 0 ∨ f = 13 ∨ f = 15 ∨ 25 ≤ f) → U'.2 f = U.2 f
theorem xst.rf {M : MX} : xst M M := ⟨rfl, fun _ _ _ => rfl, fun _ _ _ _ _ => rfl⟩
theorem yst.rf {U : MY} : yst U U := ⟨fun _ _ _ => rfl, fun _ _ => rfl⟩
theorem xst.trans {M M' M'' : MX} (h : xst M M') (h' : xst M' M'') : xst M M'' := ⟨h'.1.trans h.1, fun d k hd => (h'.2.1 d k hd).trans (h.2.1 d k hd), fun d x k h1 h2 => (h'.2.2 d x k h1 h2).trans (h.2.2 d x k h1 h2)⟩
theorem yst.trans {U U' U'' : MY} (h : yst U U') (h' : yst U' U'') : yst U U'' := ⟨fun a k ha => (h'.1 a k ha).trans (h.1 a k ha), fun f hf => (h'.2 f hf).trans (h.2 f hf)⟩
theorem xsk.st {M M' : MX} (h : xsk M M') : xst M M' := ⟨h.1, h.2.1, fun d y k h1 _ => h.2.2 d y k (Or.inl h1)⟩
theorem xsm.st {M M' : MX} (h : xsm M M') : xst M M' := h.sk.st
theorem ysm.st {U U' : MY} (h : ysm U U') : yst U U' := ⟨fun a k ha => h.1 a k (by omega) (by omega), fun f hf => h.2 f (by omega) (by omega) (by omega) (by omega) (by omega)⟩
theorem xgrow.st {M M' : MX} {x N' : Nat} {s' : Nat → Nat} (h : xgrow M M' x N' s') : xst M M' := ⟨by rw [h.1], fun d k _ => by rw [h.1], fun d y k h1 h2 => h.2.2.2 d y k (fun q => by omega)⟩
theorem ygrow.st {U U' : MY} {x N' : Nat} {s' : Nat → Nat} (h : ygrow U U' x N' s') : yst U U' := ⟨fun a k ha => h.2.2.2 a k (fun q => by omega), fun f _ => by rw [h.1]⟩
