/-! PURE: the reference's busy time, whole -/
def zan (r : Nat → Nat) (as : Int32) : Nat → Int32
  | 0 => -1
  | d + 1 => if nI d = as then nI (r d) else zan r as d
theorem zan_in {r : Nat → Nat} {k : Nat} (hk : k < 2 ^ 31) : ∀ d, d < 2 ^ 31 → k < d → zan r (nI k) d = nI (r k)
  | 0, _, h => absurd h (Nat.not_lt_zero k)
  | d + 1, hd, h => by
    unfold zan
    by_cases e : d = k
    · subst e; rw [if_pos rfl]
    · rw [if_neg (nI_ne e (by omega) hk)]
      exact zan_in hk d (by omega) (by omega)
theorem zan_out {r : Nat → Nat} {as : Int32} : ∀ d, (∀ k, k < d → as ≠ nI k) → zan r as d = -1
  | 0, _ => rfl
  | d + 1, h => by
    unfold zan
    rw [if_neg (fun q => h d (by omega) q.symm)]
    exact zan_out d (fun k hk => h k (by omega))
theorem zrs_b {Z Q : Nat → Nat → Nat} (hZ : zset Z Q) (hR : zrdy Z) {x B k : Nat} (hx : x < 8) (hu : Z 0 x = 1) : zrs Z Q x B k ≤ 28801 := by
  have h2 := z_seg hZ hx hu (show Z 4 x - 1 < Z 4 x by have := hR.2 x hx hu; omega)
  have h3 : zlt Z Q x B k ≤ 0 + 20001 := (ak_find_spec (F := fun t => B + sp_own (Z 5) Q (Z 4) x k + ak_hw (Z 1) (Z 5) (zhi Z x) t) 20001 0).2.1
  rw [zrs_eq]
  omega
theorem zrs_wb {Z Q : Nat → Nat → Nat} (hZ : zset Z Q) (hR : zrdy Z) {x B k : Nat} (hx : x < 8) (hu : Z 0 x = 1) : (sp_w (zrs Z Q x B) k).1 ≤ 28801 := (sp_w_le k).mpr (fun _ _ => zrs_b hZ hR hx hu)
def ygo (U : MY) (Z Q : Nat → Nat → Nat) (x B : Nat) (dn pc : Nat → Nat) (T : Nat) : Prop :=
  yset U Z Q ∧ (∀ i, i < 8 → U.1 7 (i + 1) = nI (dn i) ∧ U.1 8 (i + 1) = nI (pc i)) ∧ U.2 9 = nI T ∧ U.2 11 = nI (sp_w (zrs Z Q x B) (dn x)).1 ∧ U.2 12 = nI (sp_w (zrs Z Q x B) (dn x)).2 ∧ U.2 14 = zan (zrs Z Q x B) (U.2 13) (dn x) ∧ ak_inv (Z 1) (Z 5) Q (Z 4) (zhi Z x) x B dn pc T
theorem gV_read {N : MY} {C d : Nat} {rs : Nat → Nat} (hr : gr N C = nI (rs d)) (h7 : N.1 7 C = nI d) (h11 : N.2 11 = nI (sp_w rs d).1) (h12 : N.2 12 = nI (sp_w rs d).2) (h14 : N.2 14 = zan rs (N.2 13) d) (b1 : rs d < 2 ^ 31) (b2 : (sp_w rs d).1 < 2 ^ 31) :
    (gV N C).1 = N.1 ∧ (gV N C).2 9 = N.2 9 ∧ (gV N C).2 13 = N.2 13 ∧ (gV N C).2 11 = nI (sp_w rs (d + 1)).1 ∧ (gV N C).2 12 = nI (sp_w rs (d + 1)).2 ∧ (gV N C).2 14 = zan rs (N.2 13) (d + 1) ∧ ysm N (gV N C) := by
  unfold gV
  rw [hr, h11]
  by_cases c : rs d ≤ (sp_w rs d).1
  · rw [if_pos (nI_le c b2), sp_w_succ, if_neg (by omega)]
    unfold gX
    rw [h7]
    by_cases c2 : nI d = N.2 13
    · rw [if_pos c2]
      refine ⟨rfl, rfl, rfl, h11, h12, ?_, ysm.rf.sV _ (by omega)⟩
      show nI (rs d) = zan rs (N.2 13) (d + 1)
      unfold zan
      rw [if_pos c2]
    · rw [if_neg c2]
      refine ⟨rfl, rfl, rfl, h11, h12, ?_, ysm.rf⟩
      unfold zan
      rw [if_neg c2]
      exact h14
  · rw [if_neg (nI_ge (by omega) b1), sp_w_succ, if_pos (by omega)]
    unfold gX gW
    show _ ∧ _
    have e7 : (sV (sV N 11 (nI (rs d))) 12 (N.1 7 C)).1 7 C = nI d := h7
    have e13 : (sV (sV N 11 (nI (rs d))) 12 (N.1 7 C)).2 13 = N.2 13 := rfl
    rw [e7, e13]
    by_cases c2 : nI d = N.2 13
    · rw [if_pos c2]
      refine ⟨rfl, rfl, rfl, rfl, h7, ?_, ((ysm.rf.sV _ (by omega)).sV _ (by omega)).sV _ (by omega)⟩
      show nI (rs d) = zan rs (N.2 13) (d + 1)
      unfold zan
      rw [if_pos c2]
    · rw [if_neg c2]
      refine ⟨rfl, rfl, rfl, rfl, h7, ?_, (ysm.rf.sV _ (by omega)).sV _ (by omega)⟩
      unfold zan
      rw [if_neg c2]
      exact h14
/-- too long: no solution up to 20000 -/
theorem ygo_long {Z Q : Nat → Nat → Nat} {x B : Nat} {dn pc : Nat → Nat} {T : Nat} (hB : B ≤ 10000) (hI : ak_inv (Z 1) (Z 5) Q (Z 4) (zhi Z x) x B dn pc T) (hT : 20000 < T) : ¬ zbz Z x B ≤ 20000 := by
  have h := ak_find_none (F := ak_fb (Z 1) (Z 5) (zhi Z x) x B) (20000 - B) (B + 1) (fun u h1 h2 => hI.2.2.1 u h1 (by omega))
  unfold zbz sp_bz
  omega
/-- one turn keeps what is known -/
theorem go_turn {Z Q : Nat → Nat → Nat} (hZ : zset Z Q) (hR : zrdy Z) {x B n : Nat} (hx : x < 8) (hu : Z 0 x = 1) (hB : B ≤ 10000) (hn : 9 ≤ n) (a2 : Int32) (m f : Nat) (U : MY) (dn pc : Nat → Nat) (T : Nat) (v : Int32) (hm : 20001 - T ≤ m + 1) (hT : T ≤ 20000) (hg : ygo U Z Q x B dn pc T)
    (ih : ∀ (f : Nat) (U : MY) (dn pc : Nat → Nat) (T : Nat) (v : Int32), 20001 - T ≤ m → m < f → T ≤ 28800 → ygo U Z Q x B dn pc T → ∃ U', j_Y_go_L53 n (nI (x + 1)) a2 f v U = some U' ∧ ysm U U' ∧ (zbz Z x B ≤ 20000 → U'.2 10 = 0 ∧ U'.2 11 = nI (zw Z Q x B).1 ∧ U'.2 12 = nI (zw Z Q x B).2 ∧ U'.2 14 = zan (zrs Z Q x B) (U.2 13) (znj Z x B)) ∧ (¬ zbz Z x B ≤ 20000 → U'.2 10 = 1))
    (hover : j_Y_isOver_L2 n U (nI (x + 1)) n (nI (0 + 1)) = some 0) {k : Nat} (hk8 : k < 8) (hnx : j_Y_next n U (nI (x + 1)) = some (nI (k + 1))) (hck : zc Z x k) (hav : dn k * Z 1 k ≤ T) (hmax : ∀ i, i < 8 → zc Z x i → dn i * Z 1 i ≤ T → Z 3 i ≤ Z 3 k)
    (hnot : T = 0 ∨ ∃ i, i < 8 ∧ (zhi Z x i = true ∨ i = x) ∧ dn i * Z 1 i < T) (hf : m < f) :
    ∃ U', j_Y_go_L53 n (nI (x + 1)) a2 (f + 1) v U = some U' ∧ ysm U U' ∧ (zbz Z x B ≤ 20000 → U'.2 10 = 0 ∧ U'.2 11 = nI (zw Z Q x B).1 ∧ U'.2 12 = nI (zw Z Q x B).2 ∧ U'.2 14 = zan (zrs Z Q x B) (U.2 13) (znj Z x B)) ∧ (¬ zbz Z x B ≤ 20000 → U'.2 10 = 1) := by
  have hS := z_ak hZ hR hx hu
  obtain ⟨hY, hdp, h9, h11, h12, h14, hI⟩ := hg
  have hcc := (zc_iff hZ hx hu hk8).mp hck
  obtain ⟨hD, hnp, hsg, hW⟩ := hS.2.2 k hk8 hcc
  obtain ⟨hpk, hdk, hqk⟩ := hI.2.1 k hk8 hcc
  have hzk := (hZ k hk8).2 hck.1
  have hfk := (hY k hk8).2 hck.1
  have hL1 := hsg _ hpk
  have hL2 := z_seg hZ hk8 hck.1 hpk
  have hw : U.1 6 (8 * (k + 1) + pc k) = nI (Q k (pc k)) := hfk.2.2.2.2 _ hpk
  have hm' : 20001 - (T + Q k (pc k)) ≤ m := by clear hnot ih; omega
  have hT' : T + Q k (pc k) ≤ 28800 := by clear hnot ih; omega
  rw [go_step hover (by rw [h9]; exact nI_le (b := 20000) hT (by omega)) hnx hk8 (hdp k hk8).2 (by omega), hw]
  -- the memory after the segment
  have n9 : (g1 U (k + 1) (nI (Q k (pc k)))).2 9 = nI (T + Q k (pc k)) := by
    show U.2 9 + nI (Q k (pc k)) = _
    rw [h9, nI_add]
  have n8 : ∀ i, i < 8 → (g1 U (k + 1) (nI (Q k (pc k)))).1 8 (i + 1) = nI (updN pc k (pc k + 1) i) := by
    intro i hi
    by_cases e : i = k
    · subst e
      rw [updN_at]
      show (if 8 = 8 ∧ i + 1 = i + 1 then U.1 8 (i + 1) + 1 else _) = _
      rw [if_pos ⟨rfl, rfl⟩, (hdp i hi).2, nI_1]
    · rw [updN_ne e]
      show (if 8 = 8 ∧ i + 1 = k + 1 then _ else U.1 8 (i + 1)) = _
      rw [if_neg (fun q => e (by omega)), (hdp i hi).2]
  have n7 : ∀ i, i < 8 → (g1 U (k + 1) (nI (Q k (pc k)))).1 7 (i + 1) = nI (dn i) := by
    intro i hi
    exact (sA_ne (fun q => absurd q.1 (by decide))).trans (hdp i hi).1
  have ns : ysm U (g1 U (k + 1) (nI (Q k (pc k)))) := (ysm.rf.sV _ (by omega)).sA _ _ (by omega)
  have n5 : (g1 U (k + 1) (nI (Q k (pc k)))).1 5 (k + 1) = nI (Z 4 k) := (ns.1 5 _ (by decide) (by decide)).trans hfk.2.2.2.1
  have n2 : (g1 U (k + 1) (nI (Q k (pc k)))).1 2 (k + 1) = nI (Z 1 k) := (ns.1 2 _ (by decide) (by decide)).trans hfk.1
  have n13 : (g1 U (k + 1) (nI (Q k (pc k)))).2 13 = U.2 13 := rfl
  have n11 : (g1 U (k + 1) (nI (Q k (pc k)))).2 11 = U.2 11 := rfl
  have n12 : (g1 U (k + 1) (nI (Q k (pc k)))).2 12 = U.2 12 := rfl
  have n14 : (g1 U (k + 1) (nI (Q k (pc k)))).2 14 = U.2 14 := rfl
  generalize hN : g1 U (k + 1) (nI (Q k (pc k))) = N at n9 n8 n7 ns n5 n2 n13 n11 n12 n14 ⊢
  rw [n5, n8 k hk8, updN_at]
  by_cases hfin : Z 4 k ≤ pc k + 1
  · -- the job is finished
    have enp : Z 4 k = pc k + 1 := by omega
    rw [if_pos (nI_le hfin (by omega))]
    have hWk : Z 5 k = ks_sum (Q k) (pc k) + Q k (pc k) := by rw [hW, enp, ks_sum_succ]
    have hI' : ak_inv (Z 1) (Z 5) Q (Z 4) (zhi Z x) x B (updN dn k (dn k + 1)) (updN pc k 0) (T + Q k (pc k)) := by
      refine ak_step hS hI hk8 hcc hav hnot (fun i hi => ⟨updN_ne hi, updN_ne hi⟩) ?_ (by rw [updN_at]; exact hnp) (fun _ => by rw [updN_at]; exact hav) (fun h => by rw [updN_at] at h; omega)
      unfold ak_pr
      rw [updN_at, updN_at, hWk, Nat.succ_mul]
      show dn k * (ks_sum (Q k) (pc k) + Q k (pc k)) + (ks_sum (Q k) (pc k) + Q k (pc k)) + 0 = _
      omega
    have reE : ∀ V : MY, V.1 = N.1 → (∀ i, i < 8 → (gE V (k + 1)).1 7 (i + 1) = nI (updN dn k (dn k + 1) i) ∧ (gE V (k + 1)).1 8 (i + 1) = nI (updN pc k 0 i)) ∧ ysm V (gE V (k + 1)) := by
      intro V hV
      refine ⟨fun i hi => ?_, (ysm.rf.sA _ _ (by omega)).sA _ _ (by omega)⟩
      unfold gE
      by_cases e : i = k
      · subst e
        rw [updN_at, updN_at, sA_at, sA_ne (fun q => absurd q.1 (by decide)), sA_at, hV, n7 i hi, nI_1]
        exact ⟨rfl, rfl⟩
      · have ne : ∀ d, ¬ (d = 7 ∧ i + 1 = k + 1) := fun d q => e (by omega)
        have ne8 : ∀ d, ¬ (d = 8 ∧ i + 1 = k + 1) := fun d q => e (by omega)
        rw [updN_ne e, updN_ne e, sA_ne (ne 7), sA_ne (ne8 7), sA_ne (ne 8), sA_ne (ne8 8), hV, n7 i hi, n8 i hi, updN_ne e]
        exact ⟨rfl, rfl⟩
    by_cases hkx : k = x
    · -- of the task itself
      subst hkx
      rw [if_pos rfl]
      have hturn := ak_turn hS hI (fun i hi hh => by
        have hz := zhi_iff.mp hh
        by_cases e : dn i * Z 1 i ≤ T
        · have := hmax i hi ⟨hz.1, by omega⟩ e; omega
        · omega)
      have hown : ak_pr (Z 5) Q dn pc k = sp_own (Z 5) Q (Z 4) k (dn k) := by
        unfold ak_pr sp_own
        rw [enp, Nat.add_sub_cancel]
      rw [hown] at hturn
      have elt : zlt Z Q k B (dn k) = T := ak_find_eq (F := fun t => B + sp_own (Z 5) Q (Z 4) k (dn k) + ak_hw (Z 1) (Z 5) (zhi Z k) t) (by omega) 20001 0 (Nat.zero_le _) (by omega) (fun u _ h2 => by
        have := hI.2.2.2 u h2
        rw [hown] at this
        exact this)
      have ers : zrs Z Q k B (dn k) = T + Q k (pc k) - dn k * Z 1 k := by rw [zrs_eq, elt, enp, Nat.add_sub_cancel]
      have hgr : gr N (k + 1) = nI (zrs Z Q k B (dn k)) := by
        unfold gr
        rw [n9, n7 k hk8, n2, nI_mul, nI_sub (by omega), ers]
      have b1 := zrs_b hZ hR (B := B) (k := dn k) hx hu
      have b2 := zrs_wb hZ hR (B := B) (k := dn k) hx hu
      obtain ⟨v1, v9, v13, v11, v12, v14, vs⟩ := gV_read (rs := zrs Z Q k B) hgr (n7 k hk8) (n11.trans h11) (n12.trans h12) (by rw [n14, n13]; exact h14) (by omega) (by omega)
      obtain ⟨e78, es⟩ := reE (gV N (k + 1)) v1
      have sall : ysm U (gE (gV N (k + 1)) (k + 1)) := (ns.trans vs).trans es
      have dnx : updN dn k (dn k + 1) k = dn k + 1 := updN_at
      obtain ⟨U', g1', g2', g3', g4'⟩ := ih f (gE (gV N (k + 1)) (k + 1)) _ _ _ (nI (k + 1)) hm' hf hT' ⟨hY.sm sall, e78, v9.trans n9, by rw [dnx]; exact v11, by rw [dnx]; exact v12, by
        rw [dnx]
        show (gV N (k + 1)).2 14 = zan _ ((gV N (k + 1)).2 13) _
        rw [v14, v13], hI'⟩
      refine ⟨U', g1', sall.trans g2', fun q => ?_, g4'⟩
      obtain ⟨w1, w2, w3, w4⟩ := g3' q
      refine ⟨w1, w2, w3, w4.trans ?_⟩
      show zan _ ((gV N (k + 1)).2 13) _ = _
      rw [v13, n13]
    · rw [if_neg (nI_ne (by omega) (by omega) (by omega))]
      obtain ⟨e78, es⟩ := reE N rfl
      have sall : ysm U (gE N (k + 1)) := ns.trans es
      have dnx : updN dn k (dn k + 1) x = dn x := updN_ne (fun q => hkx q.symm)
      obtain ⟨U', g1', g2', g3', g4'⟩ := ih f (gE N (k + 1)) _ _ _ (nI (k + 1)) hm' hf hT' ⟨hY.sm sall, e78, n9, by rw [dnx]; exact n11.trans h11, by rw [dnx]; exact n12.trans h12, by
        rw [dnx]
        show N.2 14 = zan _ (N.2 13) _
        rw [n14, n13]; exact h14, hI'⟩
      refine ⟨U', g1', sall.trans g2', fun q => ?_, g4'⟩
      obtain ⟨w1, w2, w3, w4⟩ := g3' q
      refine ⟨w1, w2, w3, w4.trans ?_⟩
      show zan _ (N.2 13) _ = _
      rw [n13]
  · rw [if_neg (nI_ge (by omega) (by omega))]
    have hI' : ak_inv (Z 1) (Z 5) Q (Z 4) (zhi Z x) x B dn (updN pc k (pc k + 1)) (T + Q k (pc k)) := by
      refine ak_step hS hI hk8 hcc hav hnot (fun i hi => ⟨rfl, updN_ne hi⟩) ?_ (by rw [updN_at]; omega) (fun h => Nat.le_of_lt (hdk h)) (fun _ => hav)
      unfold ak_pr
      rw [updN_at, ks_sum_succ]
      omega
    obtain ⟨U', g1', g2', g3', g4'⟩ := ih f N _ _ _ (nI (k + 1)) hm' hf hT' ⟨hY.sm ns, fun i hi => ⟨n7 i hi, n8 i hi⟩, n9, n11.trans h11, n12.trans h12, by rw [n14, n13]; exact h14, hI'⟩
    refine ⟨U', g1', ns.trans g2', fun q => ?_, g4'⟩
    obtain ⟨w1, w2, w3, w4⟩ := g3' q
    exact ⟨w1, w2, w3, w4.trans (by rw [n13])⟩
theorem go_loop {Z Q : Nat → Nat → Nat} (hZ : zset Z Q) (hR : zrdy Z) {x B n : Nat} (hx : x < 8) (hu : Z 0 x = 1) (hB : B ≤ 10000) (hn : 9 ≤ n) (a2 : Int32) : ∀ (m f : Nat) (U : MY) (dn pc : Nat → Nat) (T : Nat) (v : Int32), 20001 - T ≤ m → m < f → T ≤ 28800 → ygo U Z Q x B dn pc T →
    ∃ U', j_Y_go_L53 n (nI (x + 1)) a2 f v U = some U' ∧ ysm U U' ∧ (zbz Z x B ≤ 20000 → U'.2 10 = 0 ∧ U'.2 11 = nI (zw Z Q x B).1 ∧ U'.2 12 = nI (zw Z Q x B).2 ∧ U'.2 14 = zan (zrs Z Q x B) (U.2 13) (znj Z x B)) ∧ (¬ zbz Z x B ≤ 20000 → U'.2 10 = 1) := by
  have hS := z_ak hZ hR hx hu
  intro m
  induction m with
  | zero =>
    intro f U dn pc T v hm hf hT hg
    obtain ⟨f, rfl⟩ : ∃ g, f = g + 1 := ⟨f - 1, by omega⟩
    obtain ⟨hY, hdp, h9, h11, h12, h14, hI⟩ := hg
    have hl := ygo_long hB hI (by omega)
    refine ⟨sV U 10 1, ?_, ysm.rf.sV _ (by omega), fun q => absurd q hl, fun _ => rfl⟩
    rw [j_Y_go_L53]
    have hb : ∀ i, i < 8 → zc Z x i → dn i * Z 1 i < 2 ^ 31 := by
      intro i hi hc
      have hd := (hI.2.1 i hi ((zc_iff hZ hx hu hi).mp hc)).2.1
      have hD := ((hZ i hi).2 hc.1).2.1
      by_cases e : dn i = 0
      · rw [e, Nat.zero_mul]; omega
      · obtain ⟨d, hd0⟩ : ∃ d, dn i = d + 1 := ⟨dn i - 1, by omega⟩
        rw [hd0] at hd ⊢
        have := hd (by omega)
        rw [Nat.add_sub_cancel] at this
        rw [Nat.succ_mul]
        omega
    obtain ⟨o0, o1⟩ := y_over_L hY hZ n hx hu (fun i hi => (hdp i hi).1) h9 (by omega) hb 8 0 n (by omega) (by omega)
    have hns : ¬ U.2 9 ≤ 20000 := by rw [h9]; exact nI_ge (a := 20000) (by omega) (by omega)
    by_cases hov : ∀ i, 0 ≤ i → i < 8 → zc Z x i → T ≤ dn i * Z 1 i
    · have e1 := o1 hov
      rw [if_neg (by omega)] at e1
      rw [show j_Y_isOver n U (nI (x + 1)) = some 1 from e1, Option.bind_some, if_neg (by decide), if_neg hns]
    · have e0 : j_Y_isOver n U (nI (x + 1)) = some 0 := o0 (by
        by_cases hex : ∃ i, 0 ≤ i ∧ i < 8 ∧ zc Z x i ∧ dn i * Z 1 i < T
        · exact hex
        · exact absurd (fun i g1 g2 g3 => Nat.not_lt.mp (fun q => hex ⟨i, g1, g2, g3, q⟩)) hov)
      rw [e0, Option.bind_some, if_pos rfl, if_neg hns]
  | succ m ih =>
    intro f U dn pc T v hm hf hT hg
    obtain ⟨f, rfl⟩ : ∃ g, f = g + 1 := ⟨f - 1, by omega⟩
    have hg0 := hg
    obtain ⟨hY, hdp, h9, h11, h12, h14, hI⟩ := hg
    have hb : ∀ i, i < 8 → zc Z x i → dn i * Z 1 i < 2 ^ 31 := by
      intro i hi hc
      have hd := (hI.2.1 i hi ((zc_iff hZ hx hu hi).mp hc)).2.1
      have hD := ((hZ i hi).2 hc.1).2.1
      by_cases e : dn i = 0
      · rw [e, Nat.zero_mul]; omega
      · obtain ⟨d, hd0⟩ : ∃ d, dn i = d + 1 := ⟨dn i - 1, by omega⟩
        rw [hd0] at hd ⊢
        have := hd (by omega)
        rw [Nat.add_sub_cancel] at this
        rw [Nat.succ_mul]
        omega
    obtain ⟨o0, o1⟩ := y_over_L hY hZ n hx hu (fun i hi => (hdp i hi).1) h9 (by omega) hb 8 0 n (by omega) (by omega)
    by_cases hov : ∀ i, 0 ≤ i → i < 8 → zc Z x i → T ≤ dn i * Z 1 i
    · by_cases hT0 : T = 0
      · -- time 0: the first segment
        subst hT0
        have e1 := o1 hov
        rw [if_pos rfl] at e1
        obtain ⟨k, hk8, hnx, hck, hav, hmax⟩ := y_next hY hZ hn hx hu (fun i hi => (hdp i hi).1) h9 (by omega) hb ⟨x, hx, ⟨hu, Nat.le_refl _⟩, by
          by_cases e : dn x = 0
          · rw [e, Nat.zero_mul]; omega
          · have := (hI.2.1 x hx (Or.inr rfl)).2.1 (by omega); omega⟩
        exact go_turn hZ hR hx hu hB hn a2 m f U dn pc 0 v hm (by omega) hg0 ih e1 hk8 hnx hck hav hmax (Or.inl rfl) (by omega)
      · have e1 := o1 hov
        rw [if_neg hT0] at e1
        obtain ⟨a1, a3, a4, a5⟩ := ak_over hS hI (by omega) (fun i hi hc => hov i (Nat.zero_le _) hi ((zc_iff hZ hx hu hi).mpr hc))
        rw [j_Y_go_L53, show j_Y_isOver n U (nI (x + 1)) = some 1 from e1, Option.bind_some, if_neg (by decide), h9]
        by_cases h20 : T ≤ 20000
        · have ebz : zbz Z x B = T := ak_find_eq (by omega) (20000 - B) (B + 1) a3 (by omega) (fun u g1 g2 => hI.2.2.1 u g1 g2)
          have enj : znj Z x B = dn x := by rw [(z_nj hZ hx hu).2.2 (by omega), ebz]; exact a4.symm
          rw [if_pos (show nI T ≤ 20000 from nI_le (b := 20000) h20 (by omega))]
          refine ⟨sV U 10 0, rfl, ysm.rf.sV _ (by omega), fun _ => ⟨rfl, ?_, ?_, ?_⟩, fun q => absurd (show zbz Z x B ≤ 20000 by omega) q⟩
          · unfold zw; rw [enj]; exact h11
          · unfold zw; rw [enj]; exact h12
          · rw [enj]; exact h14
        · have hl := ygo_long hB hI (by omega)
          rw [if_neg (show ¬ nI T ≤ 20000 from nI_ge (a := 20000) (by omega) (by omega))]
          exact ⟨sV U 10 1, rfl, ysm.rf.sV _ (by omega), fun q => absurd q hl, fun _ => rfl⟩
    · have hex : ∃ i, 0 ≤ i ∧ i < 8 ∧ zc Z x i ∧ dn i * Z 1 i < T := by
        by_cases hex : ∃ i, 0 ≤ i ∧ i < 8 ∧ zc Z x i ∧ dn i * Z 1 i < T
        · exact hex
        · exact absurd (fun i g1 g2 g3 => Nat.not_lt.mp (fun q => hex ⟨i, g1, g2, g3, q⟩)) hov
      have e0 := o0 hex
      obtain ⟨i, -, hi8, hci, hlt⟩ := hex
      by_cases h20 : T ≤ 20000
      · obtain ⟨k, hk8, hnx, hck, hav, hmax⟩ := y_next hY hZ hn hx hu (fun i hi => (hdp i hi).1) h9 (by omega) hb ⟨i, hi8, hci, by omega⟩
        exact go_turn hZ hR hx hu hB hn a2 m f U dn pc T v hm h20 hg0 ih e0 hk8 hnx hck hav hmax (Or.inr ⟨i, hi8, (zc_iff hZ hx hu hi8).mp hci, hlt⟩) (by omega)
      · have hl := ygo_long hB hI (by omega)
        rw [j_Y_go_L53, show j_Y_isOver n U (nI (x + 1)) = some 0 from e0, Option.bind_some, if_pos rfl, h9, if_neg (show ¬ nI T ≤ 20000 from nI_ge (a := 20000) (by omega) (by omega))]
        exact ⟨sV U 10 1, rfl, ysm.rf.sV _ (by omega), fun q => absurd q hl, fun _ => rfl⟩
