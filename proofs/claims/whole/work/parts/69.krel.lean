/-! PURE: the kernel's jobs, both sides; the relation between the two memories -/
/-- nothing, or a task -/
def zo : Nat → Option (Fin 8)
  | 0 => none
  | i + 1 => some (fin8 i)
/-- one task's jobs -/
def kt (M : MX) (U : MY) (i Ci Fi Pi Bi : Nat) : Prop :=
  (M.1 1 (fin8 i) 2 = nI Ci ∧ M.1 1 (fin8 i) 3 = nI Fi ∧ M.1 1 (fin8 i) 7 = nI Pi) ∧ (U.1 9 (i + 1) = nI Ci ∧ U.1 10 (i + 1) = nI Fi ∧ U.1 13 (i + 1) = nI Bi) ∧ (U.1 14 (i + 1) = M.1 1 (fin8 i) 4 ∧ U.1 15 (i + 1) = M.1 1 (fin8 i) 5 ∧ U.1 16 (i + 1) = M.1 1 (fin8 i) 6) ∧
  (∀ k, k < 9 → U.1 12 (9 * (i + 1) + k) = M.1 3 (fin8 i) k) ∧ (∀ k, k < 200 → U.1 17 (200 * (i + 1) + k) = M.1 4 (fin8 i) k) ∧ (0 < Ci → U.1 11 (i + 1) = M.1 3 (fin8 i) ((Ci - 1) % 9))
def kn (t : Nat) (Z : Nat → Nat → Nat) (i Ci Fi Pi : Nat) : Prop := Fi ≤ Ci ∧ Ci ≤ Fi + 9 ∧ Ci ≤ t ∧ (Z 0 i = 1 → Pi = 0 ∨ Pi < Z 4 i) ∧ (¬ Z 0 i = 1 → Ci = 0 ∧ Pi = 0)
def ku (M : MX) (Z : Nat → Nat → Nat) (i : Nat) : Prop := ¬ Z 0 i = 1 → M.1 1 (fin8 i) 4 = 0 ∧ M.1 1 (fin8 i) 5 = 0 ∧ M.1 1 (fin8 i) 6 = 0
def kg (M : MX) (U : MY) (hj L ru pa : Nat) : Prop := (M.2.1 2 1 = nI hj ∧ U.2 25 = nI hj) ∧ U.2 15 = M.2.1 2 2 ∧ (M.2.1 2 3 = nI L ∧ U.2 27 = nI L) ∧ (M.2.2.2.1 = zo ru ∧ U.2 26 = nI ru) ∧ (M.2.2.2.2 = zo pa ∧ U.2 28 = nI pa)
def km (Z : Nat → Nat → Nat) (C F P : Nat → Nat) (hj L ru pa : Nat) : Prop := hj ≤ 1 ∧ (hj = 0 → (∀ i, i < 8 → C i = 0 ∧ P i = 0) ∧ ru = 0 ∧ pa = 0) ∧ (hj = 1 → zrdy Z) ∧ ru ≤ 8 ∧ (pa ≤ 8 ∧ ∀ x, pa = x + 1 → Z 0 x = 1) ∧ ∀ x, ru = x + 1 → Z 0 x = 1 ∧ F x < C x ∧ P x < Z 4 x ∧ 1 ≤ L ∧ L ≤ 8800
def krl (t : Nat) (M : MX) (U : MY) (Z : Nat → Nat → Nat) (C F P : Nat → Nat) (hj L ru pa : Nat) : Prop :=
  (∀ i, i < 8 → kt M U i (C i) (F i) (P i) (if ru = i + 1 then P i + 1 else P i) ∧ kn t Z i (C i) (F i) (P i) ∧ ku M Z i) ∧ kg M U hj L ru pa ∧ km Z C F P hj L ru pa
theorem kt.of {M M' : MX} {U U' : MY} {i Ci Fi Pi Bi : Nat} (h : kt M U i Ci Fi Pi Bi) (hM : ∀ d k, d = 1 ∨ d = 3 ∨ d = 4 → M'.1 d (fin8 i) k = M.1 d (fin8 i) k) (hU : ∀ a, 9 ≤ a → a ≠ 12 → a ≠ 17 → U'.1 a (i + 1) = U.1 a (i + 1))
    (h12 : ∀ k, k < 9 → U'.1 12 (9 * (i + 1) + k) = U.1 12 (9 * (i + 1) + k)) (h17 : ∀ k, k < 200 → U'.1 17 (200 * (i + 1) + k) = U.1 17 (200 * (i + 1) + k)) : kt M' U' i Ci Fi Pi Bi := by
  obtain ⟨⟨a1, a2, a3⟩, ⟨b1, b2, b3⟩, ⟨c1, c2, c3⟩, d1, d2, d3⟩ := h
  have m := fun k => hM 1 k (Or.inl rfl)
  exact ⟨⟨(m 2).trans a1, (m 3).trans a2, (m 7).trans a3⟩, ⟨(hU 9 (by omega) (by omega) (by omega)).trans b1, (hU 10 (by omega) (by omega) (by omega)).trans b2, (hU 13 (by omega) (by omega) (by omega)).trans b3⟩,
    ⟨by rw [hU 14 (by omega) (by omega) (by omega), m 4]; exact c1, by rw [hU 15 (by omega) (by omega) (by omega), m 5]; exact c2, by rw [hU 16 (by omega) (by omega) (by omega), m 6]; exact c3⟩,
    fun k hk => by rw [h12 k hk, hM 3 k (by omega)]; exact d1 k hk, fun k hk => by rw [h17 k hk, hM 4 k (by omega)]; exact d2 k hk, fun hC => by rw [hU 11 (by omega) (by omega) (by omega), hM 3 _ (by omega)]; exact d3 hC⟩
/-- what a call that has nothing to do with jobs keeps, in the class -/
def xu (M M' : MX) : Prop := M'.2.2.2 = M.2.2.2 ∧ (∀ k, M'.2.1 2 k = M.2.1 2 k) ∧ ∀ d y k, d ≠ 0 → d ≠ 2 → M'.1 d y k = M.1 d y k
theorem xu.rf {M : MX} : xu M M := ⟨rfl, fun _ => rfl, fun _ _ _ _ _ => rfl⟩
theorem xu.trans {M M' M'' : MX} (h : xu M M') (h' : xu M' M'') : xu M M'' := ⟨h'.1.trans h.1, fun k => (h'.2.1 k).trans (h.2.1 k), fun d x k h1 h2 => (h'.2.2 d x k h1 h2).trans (h.2.2 d x k h1 h2)⟩
theorem xst.u {M M' : MX} (h : xst M M') : xu M M' := ⟨by rw [h.1], fun k => h.2.1 2 k (by decide), h.2.2⟩
section K
variable {t : Nat} {M M' : MX} {U U' : MY} {Z Z' Q : Nat → Nat → Nat} {rk rn C F P : Nat → Nat} {c hj L ru pa : Nat}
theorem kg.keep (h : kg M U hj L ru pa) (hM : xu M M') (hU : yu U U') : kg M' U' hj L ru pa := by
  obtain ⟨⟨g1, g2⟩, g3, ⟨g4, g5⟩, ⟨g6, g7⟩, ⟨g8, g9⟩⟩ := h
  exact ⟨⟨(hM.2.1 1).trans g1, (hU.2 25 (by omega)).trans g2⟩, by rw [hU.2 15 (by omega), hM.2.1 2]; exact g3, ⟨(hM.2.1 3).trans g4, (hU.2 27 (by omega)).trans g5⟩, ⟨by rw [hM.1]; exact g6, (hU.2 26 (by omega)).trans g7⟩, ⟨by rw [hM.1]; exact g8, (hU.2 28 (by omega)).trans g9⟩⟩
theorem kt.keep {i Ci Fi Pi Bi : Nat} (h : kt M U i Ci Fi Pi Bi) (hM : xu M M') (hU : yu U U') : kt M' U' i Ci Fi Pi Bi :=
  h.of (fun d k hd => hM.2.2 d _ k (by omega) (by omega)) (fun a ha _ _ => hU.1 a _ ha) (fun k _ => hU.1 12 _ (by omega)) (fun k _ => hU.1 17 _ (by omega))
theorem ku.keep {i : Nat} (h : ku M Z i) (hM : xu M M') : ku M' Z i := fun hz => by
  rw [hM.2.2 1 _ 4 (by decide) (by decide), hM.2.2 1 _ 5 (by decide) (by decide), hM.2.2 1 _ 6 (by decide) (by decide)]
  exact h hz
theorem krl.keep (h : krl t M U Z C F P hj L ru pa) (hM : xu M M') (hU : yu U U') : krl (t + 1) M' U' Z C F P hj L ru pa := by
  obtain ⟨h1, h2, h3⟩ := h
  refine ⟨fun i hi => ?_, h2.keep hM hU, h3⟩
  obtain ⟨k1, ⟨n1, n2, n3, n4, n5⟩, k3⟩ := h1 i hi
  exact ⟨k1.keep hM hU, ⟨n1, n2, by omega, n4, n5⟩, k3.keep hM⟩
/-- no job is there: the set may change -/
theorem krl.new (h : krl t M U Z C F P 0 L ru pa) (hM : xu M M') (hU : yu U U') (hz : ∀ i, i < 8 → Z 0 i = 1 → Z' 0 i = 1) : krl (t + 1) M' U' Z' C F P 0 L ru pa := by
  obtain ⟨h1, h2, ⟨m1, m2, m3, m4, m5, m6⟩⟩ := h
  obtain ⟨q1, q2, q3⟩ := m2 rfl
  refine ⟨fun i hi => ?_, h2.keep hM hU, ⟨m1, m2, fun q => absurd q (by decide), m4, ⟨m5.1, fun x hx => absurd hx (by omega)⟩, fun x hx => absurd hx (by omega)⟩⟩
  obtain ⟨k1, ⟨n1, n2, n3, n4, n5⟩, k3⟩ := h1 i hi
  exact ⟨k1.keep hM hU, ⟨n1, n2, by omega, fun _ => Or.inl (q1 i hi).2, fun _ => q1 i hi⟩, fun q => k3.keep hM (fun q2 => q (hz i hi q2))⟩
/-- the relation, after t calls -/
def kSim (t : Nat) (M : MX) (U : MY) : Prop := ∃ (Z Q : Nat → Nat → Nat) (rk rn : Nat → Nat) (c : Nat) (C F P : Nat → Nat) (hj L ru pa : Nat), zset Z Q ∧ xset M Z Q rk rn c ∧ yset U Z Q ∧ xch M Z Q ∧ krl t M U Z C F P hj L ru pa
theorem kSim.ask (hZ : zset Z Q) (hX : xset M Z Q rk rn c) (hK : krl t M U Z C F P hj L ru pa) (hM : xsk M M') (hC : xch M' Z Q) (hY : yset U' Z Q) (hU : yu U U') : kSim (t + 1) M' U' :=
  ⟨Z, Q, rk, rn, c, C, F, P, hj, L, ru, pa, hZ, hX.sk hM, hY, hC, hK.keep hM.st.u hU⟩
/-- a task is asked about: both sides alike -/
theorem asks_both (hZ : zset Z Q) (hX : xset M Z Q rk rn c) (hY : yset U Z Q) (hC : xch M Z Q) (v : Int32) {n : Nat} (hn : 60000 ≤ n) : ∃ M' U', xsk M M' ∧ xch M' Z Q ∧ yset U' Z Q ∧ yu U U' ∧
    ((∃ i, i < 8 ∧ v = nI (i + 1) ∧ Z 0 i = 1 ∧ zrdy Z ∧ zbz Z i (zbl Z Q i) ≤ 20000 ∧ j_O_surveyedTask n M v = some (Sum.inr (fin8 i, M')) ∧ j_Y_asks n U v = some (1, U') ∧ U'.2 0 = 0 ∧
        M'.1 0 (fin8 i) 9 = nI (zw Z Q i (zbl Z Q i)).1 ∧ M'.1 0 (fin8 i) 10 = nI (zw Z Q i (zbl Z Q i)).2 ∧ M'.1 0 (fin8 i) 11 = nI (znj Z i (zbl Z Q i)) ∧
        U'.2 11 = nI (zw Z Q i (zbl Z Q i)).1 ∧ U'.2 12 = nI (zw Z Q i (zbl Z Q i)).2 ∧ U'.2 14 = zan (zrs Z Q i (zbl Z Q i)) (U.2 13) (znj Z i (zbl Z Q i))) ∨
      ∃ E k, j_O_surveyedTask n M v = some (Sum.inl (E, M')) ∧ j_Y_asks n U v = some (0, U') ∧ ((E = "java/lang/IndexOutOfBoundsException" ∧ k = 1) ∨ (E = "java/lang/IllegalStateException" ∧ k = 2) ∨ (E = "java/lang/ArithmeticException" ∧ k = 3)) ∧ U'.2 0 = k) := by
  have hout : v < 1 ∨ 8 < v → ∃ M' U', xsk M M' ∧ xch M' Z Q ∧ yset U' Z Q ∧ yu U U' ∧ ∃ E k, j_O_surveyedTask n M v = some (Sum.inl (E, M')) ∧ j_Y_asks n U v = some (0, U') ∧ ((E = "java/lang/IndexOutOfBoundsException" ∧ k = 1) ∨ (E = "java/lang/IllegalStateException" ∧ k = 2) ∨ (E = "java/lang/ArithmeticException" ∧ k = 3)) ∧ U'.2 0 = k := fun h =>
    ⟨M, sV U 0 1, xsk.rf, hC, hY, yu.rf.sV 1 (Or.inl rfl), _, 1, x_svL (x_rt0 n h), y_asks0 n h, Or.inl ⟨rfl, rfl⟩, sV_at⟩
  rcases nI_id v with h | h | ⟨i, hi, rfl⟩
  · obtain ⟨M', U', h1, h2, h3, h4, h5⟩ := hout (Or.inl h)
    exact ⟨M', U', h1, h2, h3, h4, Or.inr h5⟩
  · obtain ⟨M', U', h1, h2, h3, h4, h5⟩ := hout (Or.inr h)
    exact ⟨M', U', h1, h2, h3, h4, Or.inr h5⟩
  · by_cases hu : Z 0 i = 1
    · by_cases hR : zrdy Z
      · obtain ⟨M', x1, x2, x3, x4, x5, x6, x7⟩ := x_sv hX hZ hC (show 20002 ≤ n by omega) hi hu hR
        obtain ⟨U', y1, y2, y3⟩ := y_asks3 hY hZ (show 20003 ≤ n by omega) hi hu hR
        have hyu : yu U U' := (yu.rf.sV 0 (Or.inl rfl)).trans y1.u
        have hys : yset U' Z Q := yset.sm (U := sV U 0 0) hY y1
        by_cases hb : zbz Z i (zbl Z Q i) ≤ 20000
        · obtain ⟨y4, y5, y6, y7⟩ := y2 hb
          rw [((z_gr hZ hR hi hu).2 (by omega)).1] at x3
          exact ⟨M', sV U' 0 0, x1, x2, hys, hyu.sV 0 (Or.inl rfl), Or.inl ⟨i, hi, rfl, hu, hR, hb, x6 hb, y4, sV_at, x3, x4, x5, y5, y6, y7⟩⟩
        · exact ⟨M', sV U' 0 3, x1, x2, hys, hyu.sV 3 (Or.inl rfl), Or.inr ⟨_, 3, x7 hb, y3 hb, Or.inr (Or.inr ⟨rfl, rfl⟩), sV_at⟩⟩
      · exact ⟨M, sV U 0 2, xsk.rf, hC, hY, yu.rf.sV 2 (Or.inl rfl), Or.inr ⟨_, 2, x_svL (x_rt2 hX hZ (by omega) hi hu hR), y_asks2 hY hZ (by omega) hi hu hR, Or.inr (Or.inl ⟨rfl, rfl⟩), sV_at⟩⟩
    · exact ⟨M, sV U 0 1, xsk.rf, hC, hY, yu.rf.sV 1 (Or.inl rfl), Or.inr ⟨_, 1, x_svL (x_rt1 hX n hi hu), y_asks1 hY hZ n hi hu, Or.inl ⟨rfl, rfl⟩, sV_at⟩⟩
end K
