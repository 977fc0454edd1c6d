/-! PURE: the analysis in the class: when a job's last segment begins; the greatest response -/
def zbz (Z : Nat → Nat → Nat) (x B : Nat) : Nat := sp_bz (Z 1) (Z 5) (zhi Z x) x B
def znj (Z : Nat → Nat → Nat) (x B : Nat) : Nat := sp_nj (Z 1) (Z 5) (zhi Z x) x B
def zlt (Z Q : Nat → Nat → Nat) (x B k : Nat) : Nat := sp_lb (Z 1) (Z 5) (zhi Z x) B (sp_own (Z 5) Q (Z 4) x k)
def zrs (Z Q : Nat → Nat → Nat) (x B k : Nat) : Nat := sp_rsp (Z 1) (Z 5) Q (Z 4) (zhi Z x) x B k
def zw (Z Q : Nat → Nat → Nat) (x B : Nat) : Nat × Nat := sp_w (zrs Z Q x B) (znj Z x B)
def zgr (Z Q : Nat → Nat → Nat) (x B : Nat) : Nat := if znj Z x B = 0 then 1000000000 else (zw Z Q x B).1
theorem zrs_eq {Z Q : Nat → Nat → Nat} {x B k : Nat} : zrs Z Q x B k = zlt Z Q x B k + Q x (Z 4 x - 1) - k * Z 1 x := rfl
section N
variable {Z Q : Nat → Nat → Nat} {x B : Nat}
theorem z_nj (hZ : zset Z Q) (hx : x < 8) (hu : Z 0 x = 1) : znj Z x B ≤ 20000 ∧ (znj Z x B = 0 ↔ 20000 < zbz Z x B) ∧ (zbz Z x B ≤ 20000 → znj Z x B = (zbz Z x B - 1) / Z 1 x + 1) := by
  unfold znj sp_nj zbz
  have h1 := sp_bz_ge (D := Z 1) (W := Z 5) (hi := zhi Z x) (x := x) (B := B)
  by_cases h : 20000 < sp_bz (Z 1) (Z 5) (zhi Z x) x B
  · rw [if_pos h]
    exact ⟨by omega, ⟨fun _ => h, fun _ => rfl⟩, fun q => by omega⟩
  · rw [if_neg h]
    have h2 : (sp_bz (Z 1) (Z 5) (zhi Z x) x B - 1) / Z 1 x ≤ sp_bz (Z 1) (Z 5) (zhi Z x) x B - 1 := Nat.div_le_self _ _
    exact ⟨by omega, ⟨fun q => absurd q (Nat.succ_ne_zero _), fun q => absurd q h⟩, fun _ => rfl⟩
theorem z_lt (hS : ak_set (Z 1) (Z 5) Q (Z 4) (zhi Z x) x) {k : Nat} (hk : k < znj Z x B) : zlt Z Q x B k ≤ 19999 := by
  have h1 := sp_lb_le hS hk
  have h2 := (sp_nj_lt hS hk).1
  unfold zlt
  omega
/-- the subtraction in a response doesn't go below 0 -/
theorem z_rs (hS : ak_set (Z 1) (Z 5) Q (Z 4) (zhi Z x) x) {k : Nat} (hk : k < znj Z x B) : k * Z 1 x ≤ zlt Z Q x B k + Q x (Z 4 x - 1) := by
  by_cases e : k = 0
  · rw [e, Nat.zero_mul]; exact Nat.zero_le _
  · have := sp_lb_gt hS (show 1 ≤ k by omega) hk
    unfold zlt
    omega
theorem z_rsb (hZ : zset Z Q) (hR : zrdy Z) (hx : x < 8) (hu : Z 0 x = 1) {k : Nat} (hk : k < znj Z x B) : zrs Z Q x B k ≤ 28799 := by
  have h1 := z_lt (z_ak hZ hR hx hu) hk
  have h2 := z_seg hZ hx hu (show Z 4 x - 1 < Z 4 x by have := hR.2 x hx hu; omega)
  rw [zrs_eq]
  omega
theorem z_wb (hZ : zset Z Q) (hR : zrdy Z) (hx : x < 8) (hu : Z 0 x = 1) {k : Nat} (hk : k ≤ znj Z x B) : (sp_w (zrs Z Q x B) k).1 ≤ 28799 := (sp_w_le k).mpr (fun _ hj => z_rsb hZ hR hx hu (by omega))
end N
/-- only the analysis's own fields may differ -/
def xsm (M M' : MX) : Prop := M'.1 = M.1 ∧ M'.2.2 = M.2.2 ∧ ∀ d k, d ≠ 1 → M'.2.1 d k = M.2.1 d k
theorem xsm.rf {M : MX} : xsm M M := ⟨rfl, rfl, fun _ _ _ => rfl⟩
theorem xsm.trans {M M' M'' : MX} (h : xsm M M') (h' : xsm M' M'') : xsm M M'' := ⟨h'.1.trans h.1, h'.2.1.trans h.2.1, fun d k hd => (h'.2.2 d k hd).trans (h.2.2 d k hd)⟩
theorem xsm.sG {M M' : MX} (h : xsm M M') (k : Nat) (v : Int32) : xsm M (sG M' 1 k v) := ⟨h.1, h.2.1, fun d k' hd => (if_neg (fun q => hd q.1)).trans (h.2.2 d k' hd)⟩
theorem xset.sm {M M' : MX} {Z Q : Nat → Nat → Nat} {rk rn : Nat → Nat} {c : Nat} (h : xset M Z Q rk rn c) (hs : xsm M M') : xset M' Z Q rk rn c := by
  obtain ⟨h1, h2, h3, h4, h5⟩ := h
  obtain ⟨e1, e2, e3⟩ := hs
  refine ⟨h1, (e3 0 2 (by decide)).trans h2, ?_, h4, ?_⟩
  · rw [show M'.2.2.1 = M.2.2.1 by rw [e2]]; exact h3
  · rw [e1]; exact h5
section X
variable {M : MX} {Z Q : Nat → Nat → Nat} {rk rn : Nat → Nat} {c : Nat}
theorem x_lg_L (hX : xset M Z Q rk rn c) (hZ : zset Z Q) (hR : zrdy Z) {x B n k : Nat} (hx : x < 8) (hu : Z 0 x = 1) (hB : B ≤ 10000) (hn : 9 ≤ n) (hk : k < znj Z x B) (a3 a4 : Int32) : ∀ (m b v f : Nat), zlt Z Q x B k - b ≤ m → m < f → b ≤ zlt Z Q x B k → v ≤ b →
    j_A_lastBegin_L24 n M (fin8 x) (nI B) a3 a4 (nI (B + sp_own (Z 5) Q (Z 4) x k)) f (nI b) (nI v) = some (nI (zlt Z Q x B k)) := by
  have hS := z_ak hZ hR hx hu
  have hlt := z_lt hS hk
  have hok : B + sp_own (Z 5) Q (Z 4) x k + ak_hw (Z 1) (Z 5) (zhi Z x) (zlt Z Q x B k) ≤ zlt Z Q x B k := sp_lb_ok hS hk
  intro m
  induction m with
  | zero =>
    intro b v f hm hf hb hv
    obtain ⟨f, rfl⟩ : ∃ g, f = g + 1 := ⟨f - 1, by omega⟩
    have e : b = zlt Z Q x B k := by omega
    subst e
    have hhw := z_hw hZ (x := x) (show zlt Z Q x B k ≤ 20000 by omega)
    unfold j_A_lastBegin_L24
    rw [if_neg (show ¬ 20000 < nI v from nI_nlt (a := 20000) (by omega) (by omega)), x_hw hX hZ hx hu (by omega) hn, Option.bind_some, nI_add, if_neg (nI_nlt hok (by omega))]
  | succ m ih =>
    intro b v f hm hf hb hv
    obtain ⟨f, rfl⟩ : ∃ g, f = g + 1 := ⟨f - 1, by omega⟩
    have hhw := z_hw hZ (x := x) (show b ≤ 20000 by omega)
    have hmono : ak_hw (Z 1) (Z 5) (zhi Z x) b ≤ ak_hw (Z 1) (Z 5) (zhi Z x) (zlt Z Q x B k) := ak_hw_mono hb
    unfold j_A_lastBegin_L24
    rw [if_neg (show ¬ 20000 < nI v from nI_nlt (a := 20000) (by omega) (by omega)), x_hw hX hZ hx hu (by omega) hn, Option.bind_some, nI_add, nI_1]
    by_cases h : B + sp_own (Z 5) Q (Z 4) x k + ak_hw (Z 1) (Z 5) (zhi Z x) b ≤ b
    · rw [if_neg (nI_nlt h (by omega))]
      have e : b = zlt Z Q x B k := by
        by_cases e2 : b = zlt Z Q x B k
        · exact e2
        · have := sp_lb_lt (D := Z 1) (W := Z 5) (hi := zhi Z x) (B := B) (own := sp_own (Z 5) Q (Z 4) x k) (t := b) (by show b < zlt Z Q x B k; omega)
          omega
      rw [← e]
    · rw [if_pos (nI_lt (by omega) (by omega))]
      exact ih _ (v + 1) f (by omega) (by omega) (by omega) (by omega)
theorem x_lg (hX : xset M Z Q rk rn c) (hZ : zset Z Q) (hR : zrdy Z) {x B n k b : Nat} (hx : x < 8) (hu : Z 0 x = 1) (hB : B ≤ 10000) (hn : 20002 ≤ n) (hk : k < znj Z x B) (hb : b ≤ zlt Z Q x B k) : j_A_lastBegin n M (fin8 x) (nI B) (nI k) (nI b) = some (nI (zlt Z Q x B k)) := by
  have hS := z_ak hZ hR hx hu
  have hlt := z_lt hS hk
  have ho := sp_own_eq hS k
  have hf := (hX.2.2.2.2 _ hx).2.2.2.2.2 hu
  unfold j_A_lastBegin
  rw [x_last hX hZ hR n hx hu, Option.bind_some, hf.2.2.2.2.1, nI_1, nI_mul, nI_add, nI_sub (by omega), show B + (k + 1) * Z 5 x - Q x (Z 4 x - 1) = B + sp_own (Z 5) Q (Z 4) x k by omega]
  exact x_lg_L hX hZ hR hx hu hB (by omega) hk _ _ 20000 b 0 n (by omega) (by omega) hb (Nat.zero_le b)
theorem x_gw_L (hX : xset M Z Q rk rn c) (hZ : zset Z Q) (hR : zrdy Z) {x B n : Nat} (hx : x < 8) (hu : Z 0 x = 1) (hB : B ≤ 10000) (hn : 20002 ≤ n) (z3 : Int32) : ∀ (m k b f : Nat) (N : MX), k + m = znj Z x B → m < f → (∀ j, k ≤ j → j < znj Z x B → b ≤ zlt Z Q x B j) → b ≤ 20000 → xsm M N → N.2.1 1 1 = nI (sp_w (zrs Z Q x B) k).2 → N.2.1 1 2 = nI (znj Z x B) →
    ∃ N', j_A_greatestWith_L43 n (fin8 x) (nI B) z3 f (nI (sp_w (zrs Z Q x B) k).1) (nI b) (nI k) N = some (nI (zgr Z Q x B), N') ∧ xsm M N' ∧ N'.2.1 1 1 = nI (zw Z Q x B).2 ∧ N'.2.1 1 2 = nI (znj Z x B) := by
  have hS := z_ak hZ hR hx hu
  have hnj := (z_nj hZ hx hu (B := B)).1
  intro m
  induction m with
  | zero =>
    intro k b f N hk hf hb hb2 hs h1 h2
    obtain ⟨f, rfl⟩ : ∃ g, f = g + 1 := ⟨f - 1, by omega⟩
    have e : k = znj Z x B := by omega
    subst e
    refine ⟨N, ?_, hs, h1, h2⟩
    unfold j_A_greatestWith_L43
    rw [h2, if_pos (nI_le (Nat.le_refl _) (by omega))]
    unfold zgr
    by_cases e0 : znj Z x B = 0
    · rw [if_pos (by rw [e0]; rfl), if_pos e0]
      rfl
    · rw [if_neg (nI_ne0 (by omega) (by omega)), if_neg e0]
      rfl
  | succ m ih =>
    intro k b f N hk hf hb hb2 hs h1 h2
    obtain ⟨f, rfl⟩ : ∃ g, f = g + 1 := ⟨f - 1, by omega⟩
    have hkn : k < znj Z x B := by omega
    have hXN := hX.sm hs
    have hfN := (hXN.2.2.2.2 _ hx).2.2.2.2.2 hu
    have hrs := z_rs hS hkn
    have hrsb := z_rsb hZ hR hx hu hkn
    have hwb := z_wb hZ hR hx hu (show k ≤ znj Z x B by omega)
    have hlt := z_lt hS hkn
    unfold j_A_greatestWith_L43
    rw [h2, if_neg (nI_ge (by omega) (by omega)), x_lg hXN hZ hR hx hu hB hn hkn (hb k (Nat.le_refl k) hkn), Option.bind_some, x_last hXN hZ hR n hx hu, Option.bind_some, hfN.1, nI_mul, nI_add, nI_sub hrs, ← zrs_eq, nI_1]
    have hb' : ∀ j, k + 1 ≤ j → j < znj Z x B → zlt Z Q x B k ≤ zlt Z Q x B j := fun j g1 g2 => sp_lb_mono hS (by omega) g2
    by_cases hle : zrs Z Q x B k ≤ (sp_w (zrs Z Q x B) k).1
    · have e : sp_w (zrs Z Q x B) (k + 1) = sp_w (zrs Z Q x B) k := by rw [sp_w_succ, if_neg (by omega)]
      rw [if_pos (nI_le hle (by omega))]
      have h := ih (k + 1) (zlt Z Q x B k) f N (by omega) (by omega) hb' (by omega) hs (by rw [e]; exact h1) h2
      rw [e] at h
      exact h
    · have e : sp_w (zrs Z Q x B) (k + 1) = (zrs Z Q x B k, k) := by rw [sp_w_succ, if_pos (by omega)]
      rw [if_neg (nI_ge (by omega) (by omega))]
      have h := ih (k + 1) (zlt Z Q x B k) f (sG N 1 1 (nI k)) (by omega) (by omega) hb' (by omega) (hs.sG 1 _) (by rw [e]; exact sG_at) ((sG_ne (by decide)).trans h2)
      rw [e] at h
      exact h
theorem x_gw (hX : xset M Z Q rk rn c) (hZ : zset Z Q) (hR : zrdy Z) {x B n : Nat} (hx : x < 8) (hu : Z 0 x = 1) (hB : B ≤ 10000) (hn : 20002 ≤ n) :
    ∃ N', j_A_greatestWith n M (fin8 x) (nI B) = some (nI (zgr Z Q x B), N') ∧ xsm M N' ∧ N'.2.1 1 1 = nI (zw Z Q x B).2 ∧ N'.2.1 1 2 = nI (znj Z x B) := by
  obtain ⟨n1, n2, n3⟩ := z_nj hZ hx hu (B := B)
  have hge : B + 1 ≤ zbz Z x B := sp_bz_ge
  have hbl : zbz Z x B ≤ 20001 := by
    rcases sp_bz_le (D := Z 1) (W := Z 5) (hi := zhi Z x) (x := x) (B := B) with h | h
    · exact h
    · unfold zbz; omega
  unfold j_A_greatestWith
  rw [x_busy hX hZ hx hu hB hn, Option.bind_some]
  show ∃ N', (if nI (zbz Z x B) ≤ 20000 then _ else _) = _ ∧ _
  by_cases h : zbz Z x B ≤ 20000
  · rw [if_pos (show nI (zbz Z x B) ≤ 20000 from nI_le (b := 20000) h (by omega)), show (1 : Int32) = nI 1 from rfl, nI_sub (by show 1 ≤ zbz Z x B; omega), x_arr (hX.sm (xsm.rf.sG 1 0)) hZ n hx hu (by show zbz Z x B - 1 < _; omega), Option.bind_some]
    show ∃ N', j_A_greatestWith_L43 n (fin8 x) (nI B) _ n 0 0 0 (sG (sG M 1 1 0) 1 2 (nI ((zbz Z x B - 1) / Z 1 x + 1))) = _ ∧ _
    rw [← n3 h]
    exact x_gw_L hX hZ hR hx hu hB hn _ (znj Z x B) 0 0 n _ (by omega) (by omega) (fun _ _ _ => Nat.zero_le _) (by omega) ((xsm.rf.sG 1 0).sG 2 _) ((sG_ne (by decide)).trans sG_at) sG_at
  · rw [if_neg (show ¬ nI (zbz Z x B) ≤ 20000 from nI_ge (a := 20000) (by omega) (by omega))]
    have e0 : znj Z x B = 0 := n2.mpr (by omega)
    exact x_gw_L hX hZ hR hx hu hB hn _ 0 0 0 n _ (by omega) (by omega) (fun _ _ _ => Nat.zero_le _) (by omega) ((xsm.rf.sG 1 0).sG 2 _) ((sG_ne (by decide)).trans sG_at) (by rw [e0]; exact sG_at)
end X
