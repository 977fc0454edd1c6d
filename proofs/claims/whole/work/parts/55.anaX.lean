/-! PURE: the analysis in the class -/
def zhi (Z : Nat → Nat → Nat) (x i : Nat) : Bool := decide (Z 0 i = 1 ∧ Z 3 x < Z 3 i)
theorem zhi_iff {Z : Nat → Nat → Nat} {x i : Nat} : zhi Z x i = true ↔ Z 0 i = 1 ∧ Z 3 x < Z 3 i := by unfold zhi; exact decide_eq_true_iff
theorem z_ak {Z Q : Nat → Nat → Nat} (hZ : zset Z Q) (hR : zrdy Z) {x : Nat} (hx : x < 8) (hu : Z 0 x = 1) : ak_set (Z 1) (Z 5) Q (Z 4) (zhi Z x) x := by
  refine ⟨hx, ?_, fun i hi hc => ?_⟩
  · cases h : zhi Z x x with
    | false => rfl
    | true => have := (zhi_iff.mp h).2; omega
  · have hui : Z 0 i = 1 := by
      rcases hc with h | h
      · exact (zhi_iff.mp h).1
      · rw [h]; exact hu
    obtain ⟨h1, -, -, -, -, -, h7, h8, -⟩ := (hZ i hi).2 hui
    have h4 := hR.2 i hi hui
    exact ⟨by omega, by omega, h7, h8⟩
theorem z_W {Z Q : Nat → Nat → Nat} (hZ : zset Z Q) {i : Nat} (hi : i < 8) (hu : Z 0 i = 1) : Z 5 i ≤ 8800 := by
  obtain ⟨-, -, -, -, -, h6, -, -, h9, -⟩ := (hZ i hi).2 hu
  omega
/-- what has come by a time fits -/
theorem z_hw {Z Q : Nat → Nat → Nat} (hZ : zset Z Q) {x t : Nat} (ht : t ≤ 20000) : ak_hw (Z 1) (Z 5) (zhi Z x) t ≤ 1408070400 := by
  have h : ∀ n, n ≤ 8 → ks_sum (fun i => if zhi Z x i = true then (t / Z 1 i + 1) * Z 5 i else 0) n ≤ n * 176008800 := by
    intro n
    induction n with
    | zero => intro _; exact Nat.le_refl _
    | succ n ih =>
      intro hn
      have h0 := ih (by omega)
      have h1 : (if zhi Z x n = true then (t / Z 1 n + 1) * Z 5 n else 0) ≤ 176008800 := by
        by_cases e : zhi Z x n = true
        · rw [if_pos e]
          have h2 : t / Z 1 n ≤ t := Nat.div_le_self _ _
          have h3 := z_W hZ (show n < 8 by omega) (zhi_iff.mp e).1
          exact Nat.le_trans (Nat.mul_le_mul (show t / Z 1 n + 1 ≤ 20001 by omega) h3) (by omega)
        · rw [if_neg e]; omega
      rw [ks_sum_succ]
      omega
  exact h 8 (Nat.le_refl 8)
theorem z_fb {Z Q : Nat → Nat → Nat} (hZ : zset Z Q) {x B t : Nat} (hx : x < 8) (hu : Z 0 x = 1) (hB : B ≤ 10000) (ht : t ≤ 20000) : ak_fb (Z 1) (Z 5) (zhi Z x) x B t ≤ 1600000000 := by
  unfold ak_fb
  have h1 := z_hw hZ (x := x) (show t - 1 ≤ 20000 by omega)
  have h2 : (t - 1) / Z 1 x ≤ t - 1 := Nat.div_le_self _ _
  have h3 := z_W hZ hx hu
  have h4 : ((t - 1) / Z 1 x + 1) * Z 5 x ≤ 20001 * 8800 := Nat.mul_le_mul (by omega) h3
  omega
section X
variable {M : MX} {Z Q : Nat → Nat → Nat} {rk rn : Nat → Nat} {c : Nat}
/-- a sum over the ranks is a sum over the tasks -/
theorem x_sum (hX : xset M Z Q rk rn c) (f : Nat → Nat) : ∀ R, R ≤ c → ks_sum (fun r => f (rn r)) R = ks_sum (fun i => if Z 0 i = 1 ∧ rk i < R then f i else 0) 8 := by
  intro R
  induction R with
  | zero =>
    intro _
    exact (ks_sum_zero 8 (fun i _ => if_neg (fun q => absurd q.2 (Nat.not_lt_zero _)))).symm
  | succ R ih =>
    intro hR
    obtain ⟨h1, h2, h3, -⟩ := x_rn hX (show R < c by omega)
    rw [ks_sum_succ, ih (by omega)]
    refine (ks_sum_add_eq (k := rn R) (d := f (rn R)) ?_ 8 h1 (fun i hi hne => ?_)).symm
    · rw [if_pos ⟨h2, by omega⟩, if_neg (fun q => by have := q.2; omega), Nat.zero_add]
    · have hne' : rk i ≠ R := fun q => hne (by rw [← q]; exact ((hX.2.2.2.2 i hi).2.2.2.1).symm)
      by_cases e : Z 0 i = 1 ∧ rk i < R
      · rw [if_pos e, if_pos ⟨e.1, by omega⟩]
      · rw [if_neg e, if_neg (fun q => e ⟨q.1, by have := q.2; omega⟩)]
theorem x_sumhi (hX : xset M Z Q rk rn c) (f : Nat → Nat) {x : Nat} (hx : x < 8) (hu : Z 0 x = 1) : ks_sum (fun r => f (rn r)) (rk x) = ks_sum (fun i => if zhi Z x i = true then f i else 0) 8 := by
  rw [x_sum hX f (rk x) (Nat.le_of_lt (x_use hX hx hu).1)]
  refine ks_sum_congr 8 (fun i hi => ?_)
  by_cases e : zhi Z x i = true
  · have h := zhi_iff.mp e
    rw [if_pos e, if_pos ⟨h.1, (x_hi hX hi hx h.1 hu).mp h.2⟩]
  · rw [if_neg e, if_neg (fun q => e (zhi_iff.mpr ⟨q.1, (x_hi hX hi hx q.1 hu).mpr q.2⟩))]
theorem x_arr (hX : xset M Z Q rk rn c) (hZ : zset Z Q) (n : Nat) {i t : Nat} (hi : i < 8) (hu : Z 0 i = 1) (ht : t < 2 ^ 31) : j_T_arrivalsBy n M (fin8 i) (nI t) = some (nI (t / Z 1 i + 1)) := by
  have hf := (hX.2.2.2.2 _ hi).2.2.2.2.2 hu
  have hb := (hZ _ hi).2 hu
  unfold j_T_arrivalsBy
  rw [if_neg (nI_pos ht), hf.1, if_pos (show 1 ≤ nI (Z 1 i) from nI_le (a := 1) hb.1 (by omega)), if_pos (nI_ne0 (by omega) (by omega)), nI_div ht (by omega), nI_1]
theorem x_arrN (n : Nat) (x0 : Fin 8) : j_T_arrivalsBy n M x0 (-1) = some 0 := by
  unfold j_T_arrivalsBy
  rw [if_pos (by decide)]
theorem x_hw_L (hX : xset M Z Q rk rn c) (hZ : zset Z Q) {x t : Nat} (hx : x < 8) (hu : Z 0 x = 1) (ht : t < 2 ^ 31) (n : Nat) : ∀ (k r f a : Nat), r + k = rk x → k < f → a = ks_sum (fun r => (t / Z 1 (rn r) + 1) * Z 5 (rn r)) r →
    j_A_higherWorkBy_L5 n M (fin8 x) (nI t) f (nI a) (nI r) = some (nI (ks_sum (fun r => (t / Z 1 (rn r) + 1) * Z 5 (rn r)) (rk x))) := by
  have hc8 := hX.1
  have hrx := (x_use hX hx hu).1
  intro k
  induction k with
  | zero =>
    intro r f a hr hf ha
    obtain ⟨f, rfl⟩ : ∃ g, f = g + 1 := ⟨f - 1, by omega⟩
    unfold j_A_higherWorkBy_L5
    rw [(hX.2.2.2.2 _ hx).2.1, if_pos (nI_le (by omega) (by omega)), ha, show r = rk x by omega]
  | succ k ih =>
    intro r f a hr hf ha
    obtain ⟨f, rfl⟩ : ∃ g, f = g + 1 := ⟨f - 1, by omega⟩
    obtain ⟨h1, h2, h3, h4⟩ := x_rn hX (show r < c by omega)
    have hf7 := (hX.2.2.2.2 _ h1).2.2.2.2.2 h2
    unfold j_A_higherWorkBy_L5
    rw [(hX.2.2.2.2 _ hx).2.1, if_neg (nI_ge (by omega) (by omega)), if_pos (nI_in (by omega) (by omega)), nI_clamp (by omega), h4, x_arr hX hZ n h1 h2 ht, Option.bind_some, hf7.2.2.2.2.1, nI_mul, nI_add, nI_1]
    exact ih (r + 1) f _ (by omega) (by omega) (by rw [ks_sum_succ, ha])
theorem x_hw (hX : xset M Z Q rk rn c) (hZ : zset Z Q) {x t n : Nat} (hx : x < 8) (hu : Z 0 x = 1) (ht : t < 2 ^ 31) (hn : 9 ≤ n) : j_A_higherWorkBy n M (fin8 x) (nI t) = some (nI (ak_hw (Z 1) (Z 5) (zhi Z x) t)) := by
  have hc8 := hX.1
  have hrx := (x_use hX hx hu).1
  have h := x_hw_L hX hZ hx hu ht n (rk x) 0 n 0 (by omega) (by omega) rfl
  have e : ks_sum (fun r => (t / Z 1 (rn r) + 1) * Z 5 (rn r)) (rk x) = ak_hw (Z 1) (Z 5) (zhi Z x) t := x_sumhi hX (fun i => (t / Z 1 i + 1) * Z 5 i) hx hu
  rw [e] at h
  exact h
theorem x_busy_L (hX : xset M Z Q rk rn c) (hZ : zset Z Q) {x B n : Nat} (hx : x < 8) (hu : Z 0 x = 1) (hB : B ≤ 10000) (hn : 9 ≤ n) : ∀ (k e v f : Nat), 20001 - e ≤ k → k < f → B + 1 + v ≤ e → (e ≤ sp_bz (Z 1) (Z 5) (zhi Z x) x B ∨ (20000 < e ∧ 20000 < sp_bz (Z 1) (Z 5) (zhi Z x) x B)) → e ≤ 1600000000 →
    j_A_busyWith_L7 n M (fin8 x) (nI B) f (nI e) (nI v) = some (nI (sp_bz (Z 1) (Z 5) (zhi Z x) x B)) := by
  have hbz : sp_bz (Z 1) (Z 5) (zhi Z x) x B ≤ 20001 := by
    rcases sp_bz_le (D := Z 1) (W := Z 5) (hi := zhi Z x) (x := x) (B := B) with h | h
    · exact h
    · omega
  have hf := (hX.2.2.2.2 _ hx).2.2.2.2.2 hu
  intro k
  induction k with
  | zero =>
    intro e v f hk hf1 hv he hb
    obtain ⟨f, rfl⟩ : ∃ g, f = g + 1 := ⟨f - 1, by omega⟩
    have h1 : sp_bz (Z 1) (Z 5) (zhi Z x) x B = 20001 := by omega
    rw [h1]
    unfold j_A_busyWith_L7
    rw [if_pos (show 20000 < nI e from nI_lt (a := 20000) (by omega) (by omega))]
    split <;> rfl
  | succ k ih =>
    intro e v f hk hf1 hv he hb
    obtain ⟨f, rfl⟩ : ∃ g, f = g + 1 := ⟨f - 1, by omega⟩
    by_cases h20 : 20000 < e
    · have h1 : sp_bz (Z 1) (Z 5) (zhi Z x) x B = 20001 := by omega
      rw [h1]
      unfold j_A_busyWith_L7
      rw [if_pos (show 20000 < nI e from nI_lt (a := 20000) (by omega) (by omega))]
      split <;> rfl
    · have hfb := z_fb hZ hx hu hB (show e ≤ 20000 by omega)
      unfold j_A_busyWith_L7
      rw [if_neg (show ¬ 20000 < nI v from nI_nlt (a := 20000) (by omega) (by omega)), if_neg (show ¬ 20000 < nI e from nI_nlt (a := 20000) (by omega) (by omega)), show (1 : Int32) = nI 1 from rfl, nI_sub (show 1 ≤ e by omega), x_arr hX hZ n hx hu (by omega), Option.bind_some, x_hw hX hZ hx hu (by omega) hn, Option.bind_some, hf.2.2.2.2.1, nI_mul, nI_add, nI_add, nI_add]
      have efb : B + ((e - 1) / Z 1 x + 1) * Z 5 x + ak_hw (Z 1) (Z 5) (zhi Z x) (e - 1) = ak_fb (Z 1) (Z 5) (zhi Z x) x B e := rfl
      rw [efb]
      have hle : e ≤ sp_bz (Z 1) (Z 5) (zhi Z x) x B := by omega
      by_cases h : ak_fb (Z 1) (Z 5) (zhi Z x) x B e ≤ e
      · rw [if_neg (nI_nlt h (by omega))]
        have : sp_bz (Z 1) (Z 5) (zhi Z x) x B = e := by
          by_cases e2 : e = sp_bz (Z 1) (Z 5) (zhi Z x) x B
          · exact e2.symm
          · have := sp_bz_lt (D := Z 1) (W := Z 5) (hi := zhi Z x) (x := x) (B := B) (t := e) (by omega) (by omega); omega
        rw [this]
      · rw [if_pos (nI_lt (by omega) (by omega))]
        refine ih _ (v + 1) f (by omega) (by omega) (by omega) ?_ hfb
        by_cases e3 : sp_bz (Z 1) (Z 5) (zhi Z x) x B ≤ 20000
        · left
          exact Nat.le_trans (ak_fb_mono hle) (sp_bz_ok e3)
        · by_cases e4 : ak_fb (Z 1) (Z 5) (zhi Z x) x B e ≤ 20000
          · left; omega
          · right; omega
theorem x_busy (hX : xset M Z Q rk rn c) (hZ : zset Z Q) {x B n : Nat} (hx : x < 8) (hu : Z 0 x = 1) (hB : B ≤ 10000) (hn : 20002 ≤ n) : j_A_busyWith n M (fin8 x) (nI B) = some (nI (sp_bz (Z 1) (Z 5) (zhi Z x) x B)) := by
  unfold j_A_busyWith
  rw [nI_1]
  exact x_busy_L hX hZ hx hu hB (by omega) 20001 (B + 1) 0 n (by omega) (by omega) (by omega) (Or.inl sp_bz_ge) (by omega)
theorem x_last (hX : xset M Z Q rk rn c) (hZ : zset Z Q) (hR : zrdy Z) (n : Nat) {x : Nat} (hx : x < 8) (hu : Z 0 x = 1) : j_T_lastSegment n M (fin8 x) = some (nI (Q x (Z 4 x - 1))) := by
  have hf := (hX.2.2.2.2 _ hx).2.2.2.2.2 hu
  have h4 := hR.2 x hx hu
  have hb := ((hZ _ hx).2 hu).2.2.2.2.2.1
  unfold j_T_lastSegment
  rw [hf.2.2.2.1, if_pos (show 1 ≤ nI (Z 4 x) from nI_le (a := 1) (by omega) (by omega)), show (1 : Int32) = nI 1 from rfl, nI_sub (by omega), if_pos (nI_in (by omega) (by omega)), nI_clamp (by omega), hf.2.2.2.2.2 _ (by omega)]
end X
