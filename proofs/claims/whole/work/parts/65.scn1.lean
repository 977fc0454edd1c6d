/-! PURE: the arrivals of the worst scenario, counted -/
/-- how many multiples of D lie below T -/
def zav (D T : Nat) : Nat := if T = 0 then 0 else (T - 1) / D + 1
theorem zav_p {D T : Nat} : zav D (T + 1) = T / D + 1 := by unfold zav; rw [if_neg (by omega), Nat.add_sub_cancel]
theorem zav_succ {D T : Nat} (hD : 0 < D) : zav D (T + 1) = zav D T + (if T % D = 0 then 1 else 0) ∧ (T % D = 0 → T / D = zav D T) := by
  rw [zav_p]
  cases T with
  | zero =>
    rw [Nat.zero_div, Nat.zero_mod, if_pos rfl]
    exact ⟨rfl, fun _ => rfl⟩
  | succ u =>
    rw [zav_p]
    have hu := Nat.div_add_mod u D
    have hm := Nat.mod_lt u hD
    have e : u + 1 = (u % D + 1) + D * (u / D) := by omega
    have e1 : (u + 1) / D = (u % D + 1) / D + u / D := by
      conv => lhs; rw [e]
      rw [Nat.add_mul_div_left _ _ hD]
    have e2 : (u + 1) % D = (u % D + 1) % D := by
      conv => lhs; rw [e]
      rw [Nat.add_mul_mod_self_left]
    rw [e1, e2]
    by_cases h : u % D + 1 = D
    · rw [h, Nat.div_self hD, Nat.mod_self, if_pos rfl]
      exact ⟨by omega, fun _ => by omega⟩
    · rw [Nat.div_eq_of_lt (by omega), Nat.mod_eq_of_lt (by omega), if_neg (by omega)]
      exact ⟨by omega, fun q => by omega⟩
theorem ks_sum_add (f g : Nat → Nat) : ∀ n, ks_sum (fun i => f i + g i) n = ks_sum f n + ks_sum g n
  | 0 => rfl
  | n + 1 => by
    rw [ks_sum_succ, ks_sum_succ, ks_sum_succ, ks_sum_add f g n]
    omega
/-- does the task at rank r arrive at T (the last rank, R, only cr + 1 times) -/
def zin (Z : Nat → Nat → Nat) (rn : Nat → Nat) (R cr T r : Nat) : Nat := if T % Z 1 (rn r) = 0 ∧ (r = R → T / Z 1 (rn r) ≤ cr) then 1 else 0
/-- how many arrivals lie below T -/
def zct (Z : Nat → Nat → Nat) (rn : Nat → Nat) (R cr T : Nat) : Nat := min (cr + 1) (zav (Z 1 (rn R)) T) + ks_sum (fun r => zav (Z 1 (rn r)) T) R
section C
variable {Z : Nat → Nat → Nat} {rn : Nat → Nat} {R cr : Nat}
theorem zct_succ (hD : ∀ r, r ≤ R → 0 < Z 1 (rn r)) (T : Nat) : zct Z rn R cr (T + 1) = zct Z rn R cr T + ks_sum (zin Z rn R cr T) (R + 1) := by
  have h1 : ks_sum (fun r => zav (Z 1 (rn r)) (T + 1)) R = ks_sum (fun r => zav (Z 1 (rn r)) T) R + ks_sum (zin Z rn R cr T) R := by
    rw [← ks_sum_add]
    refine ks_sum_congr R (fun r hr => ?_)
    rw [(zav_succ (hD r (by omega))).1]
    unfold zin
    by_cases e : T % Z 1 (rn r) = 0
    · rw [if_pos e, if_pos ⟨e, fun q => by omega⟩]
    · rw [if_neg e, if_neg (fun q => e q.1)]
  have h2 : min (cr + 1) (zav (Z 1 (rn R)) (T + 1)) = min (cr + 1) (zav (Z 1 (rn R)) T) + zin Z rn R cr T R := by
    obtain ⟨a1, a2⟩ := zav_succ (T := T) (hD R (Nat.le_refl R))
    rw [a1]
    unfold zin
    by_cases e : T % Z 1 (rn R) = 0
    · have e3 := a2 e
      rw [if_pos e]
      by_cases e2 : T / Z 1 (rn R) ≤ cr
      · rw [if_pos ⟨e, fun _ => e2⟩]; omega
      · rw [if_neg (fun q => e2 (q.2 rfl))]; omega
    · rw [if_neg e, if_neg (fun q => e q.1)]; omega
  unfold zct
  rw [h1, h2, ks_sum_succ]
  omega
theorem zct_0 : zct Z rn R cr 0 = 0 := by
  unfold zct
  rw [ks_sum_zero (f := fun r => zav (Z 1 (rn r)) 0) R (fun i _ => rfl)]
  show min (cr + 1) 0 + 0 = 0
  omega
theorem zct_mono (hD : ∀ r, r ≤ R → 0 < Z 1 (rn r)) {a b : Nat} (h : a ≤ b) : zct Z rn R cr a ≤ zct Z rn R cr b := by
  induction b with
  | zero => rw [Nat.le_zero.mp h]; exact Nat.le_refl _
  | succ b ih =>
    by_cases e : a = b + 1
    · rw [e]; exact Nat.le_refl _
    · rw [zct_succ hD]
      exact Nat.le_trans (ih (by omega)) (Nat.le_add_right _ _)
/-- number p of the arrivals is that of rank r at t -/
def zhit (Z : Nat → Nat → Nat) (rn : Nat → Nat) (R cr p t r : Nat) : Prop := r ≤ R ∧ zin Z rn R cr t r = 1 ∧ zct Z rn R cr t + ks_sum (zin Z rn R cr t) r = p
theorem zhit_t (hD : ∀ r, r ≤ R → 0 < Z 1 (rn r)) {p t r : Nat} (h : zhit Z rn R cr p t r) : zct Z rn R cr t ≤ p ∧ p < zct Z rn R cr (t + 1) := by
  obtain ⟨h1, h2, h3⟩ := h
  rw [zct_succ hD]
  have h4 : ks_sum (zin Z rn R cr t) (r + 1) ≤ ks_sum (zin Z rn R cr t) (R + 1) := ks_sum_mono (by omega)
  rw [ks_sum_succ, h2] at h4
  omega
theorem zin_le {t r : Nat} : zin Z rn R cr t r ≤ 1 := by unfold zin; split <;> omega
/-- in a sum of 0s and 1s every number is passed -/
theorem ks_pass {f : Nat → Nat} (hf : ∀ i, f i ≤ 1) {p : Nat} : ∀ n, p < ks_sum f n → ∃ r, r < n ∧ f r = 1 ∧ ks_sum f r = p
  | 0, h => absurd h (Nat.not_lt_zero p)
  | n + 1, h => by
    rw [ks_sum_succ] at h
    by_cases e : p < ks_sum f n
    · obtain ⟨r, h1, h2, h3⟩ := ks_pass hf n e
      exact ⟨r, by omega, h2, h3⟩
    · have := hf n
      exact ⟨n, by omega, by omega, by omega⟩
theorem zhit_ex (hD : ∀ r, r ≤ R → 0 < Z 1 (rn r)) {p : Nat} : ∀ S, p < zct Z rn R cr S → ∃ t r, t < S ∧ zhit Z rn R cr p t r
  | 0, h => by rw [zct_0] at h; omega
  | S + 1, h => by
    by_cases e : p < zct Z rn R cr S
    · obtain ⟨t, r, h1, h2⟩ := zhit_ex hD S e
      exact ⟨t, r, by omega, h2⟩
    · rw [zct_succ hD] at h
      obtain ⟨r, h1, h2, h3⟩ := ks_pass (f := zin Z rn R cr S) (fun _ => zin_le) (p := p - zct Z rn R cr S) (R + 1) (by omega)
      exact ⟨S, r, by omega, by omega, h2, by omega⟩
end C
section X
variable {M : MX} {Z Q : Nat → Nat → Nat} {rk rn : Nat → Nat} {c : Nat}
theorem x_arrM (hX : xset M Z Q rk rn c) (hZ : zset Z Q) (n : Nat) {i t : Nat} (hi : i < 8) (hu : Z 0 i = 1) (ht : t < 2 ^ 31) : j_T_arrivalsBy n M (fin8 i) (nI t - 1) = some (nI (zav (Z 1 i) t)) := by
  cases t with
  | zero =>
    rw [show nI 0 - 1 = -1 by decide +kernel, x_arrN]
    rfl
  | succ t => rw [nI_pred, x_arr hX hZ n hi hu (by omega), zav_p]
theorem x_sc_L (hX : xset M Z Q rk rn c) {x : Nat} (hx : x < 8) (hu : Z 0 x = 1) (n : Nat) {a2 : Int32} {g : Nat → Nat} (hg : ∀ i, i < 8 → Z 0 i = 1 → j_T_arrivalsBy n M (fin8 i) a2 = some (nI (g i))) : ∀ (k r f a : Nat), r + k = rk x → k < f →
    j_A_scenarioArrivalsBy_L10 n M (fin8 x) a2 f (nI (a + ks_sum (fun r => g (rn r)) r)) (nI r) = some (nI (a + ks_sum (fun r => g (rn r)) (rk x))) := by
  have hc8 := hX.1
  have hrx := (x_use hX hx hu).1
  intro k
  induction k with
  | zero =>
    intro r f a hr hf
    obtain ⟨f, rfl⟩ : ∃ g, f = g + 1 := ⟨f - 1, by omega⟩
    unfold j_A_scenarioArrivalsBy_L10
    rw [(hX.2.2.2.2 _ hx).2.1, if_pos (nI_le (by omega) (by omega)), show r = rk x by omega]
  | succ k ih =>
    intro r f a hr hf
    obtain ⟨f, rfl⟩ : ∃ g, f = g + 1 := ⟨f - 1, by omega⟩
    obtain ⟨h1, h2, h3, h4⟩ := x_rn hX (show r < c by omega)
    unfold j_A_scenarioArrivalsBy_L10
    rw [(hX.2.2.2.2 _ hx).2.1, if_neg (nI_ge (by omega) (by omega)), if_pos (nI_in (by omega) (by omega)), nI_clamp (by omega), h4, hg _ h1 h2, Option.bind_some, nI_add, nI_1]
    have h := ih (r + 1) f a (by omega) (by omega)
    rw [ks_sum_succ, ← Nat.add_assoc] at h
    exact h
/-- the arrivals below T; a2 is T - 1 -/
theorem x_sc (hX : xset M Z Q rk rn c) {x n cr T : Nat} (hx : x < 8) (hu : Z 0 x = 1) (hn : 9 ≤ n) (h10 : M.1 0 (fin8 x) 10 = nI cr) (hcr : cr < 2 ^ 30) {a2 : Int32} (hT : T < 2 ^ 30) (hZ : zset Z Q) (hg : ∀ i, i < 8 → Z 0 i = 1 → j_T_arrivalsBy n M (fin8 i) a2 = some (nI (zav (Z 1 i) T))) : j_A_scenarioArrivalsBy n M (fin8 x) a2 = some (nI (zct Z rn (rk x) cr T)) := by
  have hc8 := hX.1
  obtain ⟨hrx, hrn⟩ := x_use hX hx hu
  have hav : zav (Z 1 x) T ≤ T := by
    unfold zav
    by_cases e : T = 0
    · rw [if_pos e]; omega
    · rw [if_neg e]
      have := Nat.div_le_self (T - 1) (Z 1 x)
      omega
  unfold j_A_scenarioArrivalsBy j_A_ownArrivalsBy
  rw [hg x hx hu, Option.bind_some, Option.bind_some, h10, nI_1, nI_min (by omega) (by omega), Nat.min_comm]
  have h := x_sc_L hX hx hu n hg (rk x) 0 n (min (cr + 1) (zav (Z 1 x) T)) (by omega) (by omega)
  unfold zct
  rw [hrn]
  exact h
theorem z_ctb (hX : xset M Z Q rk rn c) {x cr T : Nat} (hx : x < 8) (hu : Z 0 x = 1) (hT : T ≤ 60000) : zct Z rn (rk x) cr T ≤ 600000 := by
  have hrx := (x_use hX hx hu).1
  have hc8 := hX.1
  have hav : ∀ D, zav D T ≤ 60000 := by
    intro D
    unfold zav
    by_cases e : T = 0
    · rw [if_pos e]; omega
    · rw [if_neg e]
      have := Nat.div_le_self (T - 1) D
      omega
  have hs : ∀ n, ks_sum (fun r => zav (Z 1 (rn r)) T) n ≤ n * 60000 := by
    intro n
    induction n with
    | zero => exact Nat.le_refl _
    | succ n ih =>
      rw [ks_sum_succ]
      have := hav (Z 1 (rn n))
      omega
  have h1 := hs (rk x)
  have h2 := hav (Z 1 (rn (rk x)))
  unfold zct
  omega
theorem x_time_L (hX : xset M Z Q rk rn c) (hZ : zset Z Q) {x n cr p t : Nat} (hx : x < 8) (hu : Z 0 x = 1) (hn : 9 ≤ n) (h10 : M.1 0 (fin8 x) 10 = nI cr) (hcr : cr < 2 ^ 30) (hp : p < 2 ^ 31) (hD : ∀ r, r ≤ rk x → 0 < Z 1 (rn r)) (h1 : zct Z rn (rk x) cr t ≤ p) (h2 : p < zct Z rn (rk x) cr (t + 1)) (a3 : Int32) : ∀ (k lo hi v f : Nat), hi - lo < 2 ^ k → v + k ≤ 64 → k < f → lo ≤ t → t ≤ hi → hi ≤ 50000 →
    j_A_timeOfArrival_L11 n M (fin8 x) (nI p) a3 f (nI lo) (nI hi) (nI v) = some (nI t) := by
  intro k
  induction k with
  | zero =>
    intro lo hi v f hk hv hf hlo hhi hb
    obtain ⟨f, rfl⟩ : ∃ g, f = g + 1 := ⟨f - 1, by omega⟩
    have e : lo = t := by omega
    unfold j_A_timeOfArrival_L11
    rw [if_pos (show nI hi ≤ nI lo from nI_le (by omega) (by omega)), e]
    split <;> rfl
  | succ k ih =>
    intro lo hi v f hk hv hf hlo hhi hb
    obtain ⟨f, rfl⟩ : ∃ g, f = g + 1 := ⟨f - 1, by omega⟩
    unfold j_A_timeOfArrival_L11
    rw [if_neg (show ¬ 64 ≤ nI v from nI_ge (b := 64) (by omega) (by omega))]
    by_cases e : hi ≤ lo
    · rw [if_pos (nI_le e (by omega)), show lo = t by omega]
    · have hpow : 2 ^ (k + 1) = 2 * 2 ^ k := by rw [Nat.pow_succ, Nat.mul_comm]
      have hcb := z_ctb hX (cr := cr) hx hu (show (lo + hi) / 2 + 1 ≤ 60000 by omega)
      rw [if_neg (nI_ge (by omega) (by omega)), nI_add, show (2 : Int32) = nI 2 from rfl, nI_div (by omega) (by omega), x_sc hX hx hu hn h10 hcr (T := (lo + hi) / 2 + 1) (by omega) hZ (fun i hi hui => by rw [zav_p]; exact x_arr hX hZ n hi hui (by omega)), Option.bind_some, nI_1, nI_1]
      by_cases h : zct Z rn (rk x) cr ((lo + hi) / 2 + 1) ≤ p
      · rw [if_pos (nI_le h hp)]
        refine ih _ hi (v + 1) f (by omega) (by omega) (by omega) ?_ hhi hb
        by_cases e2 : (lo + hi) / 2 + 1 ≤ t
        · exact e2
        · have := zct_mono (cr := cr) hD (show t + 1 ≤ (lo + hi) / 2 + 1 by omega); omega
      · rw [if_neg (nI_ge (by omega) (by omega))]
        refine ih lo _ (v + 1) f (by omega) (by omega) (by omega) hlo ?_ (by omega)
        by_cases e2 : t ≤ (lo + hi) / 2
        · exact e2
        · have := zct_mono (cr := cr) hD (show (lo + hi) / 2 + 1 ≤ t by omega); omega
theorem x_task_L (hX : xset M Z Q rk rn c) (hZ : zset Z Q) {x n cr p t r0 : Nat} (hx : x < 8) (hu : Z 0 x = 1) (hn : 9 ≤ n) (hp : p < 2 ^ 30) (ht : t < 2 ^ 30) (hh : zhit Z rn (rk x) cr p t r0) : ∀ (k r f : Nat), r + k = rk x → k < f → r ≤ r0 →
    j_A_taskOfArrival_L13 n M (fin8 x) (nI p) (nI t) f (nI (zct Z rn (rk x) cr t + ks_sum (zin Z rn (rk x) cr t) r)) (nI r) = some (nI (rn r0 + 1)) := by
  have hc8 := hX.1
  obtain ⟨hrx, hrn⟩ := x_use hX hx hu
  obtain ⟨g1, g2, g3⟩ := hh
  intro k
  induction k with
  | zero =>
    intro r f hr hf hle
    obtain ⟨f, rfl⟩ : ∃ g, f = g + 1 := ⟨f - 1, by omega⟩
    have e : r0 = rk x := by omega
    unfold j_A_taskOfArrival_L13
    rw [(hX.2.2.2.2 _ hx).2.1, if_pos (nI_le (by omega) (by omega)), (hX.2.2.2.2 _ hx).1, e, hrn]
  | succ k ih =>
    intro r f hr hf hle
    obtain ⟨f, rfl⟩ : ∃ g, f = g + 1 := ⟨f - 1, by omega⟩
    obtain ⟨h1, h2, h3, h4⟩ := x_rn hX (show r < c by omega)
    have hDr : 0 < Z 1 (rn r) := ((hZ _ h1).2 h2).1
    have hz : zav (Z 1 (rn r)) (t + 1) - zav (Z 1 (rn r)) t = zin Z rn (rk x) cr t r ∧ zav (Z 1 (rn r)) t ≤ zav (Z 1 (rn r)) (t + 1) := by
      rw [(zav_succ hDr).1]
      unfold zin
      by_cases e : t % Z 1 (rn r) = 0
      · rw [if_pos e, if_pos ⟨e, fun q => by omega⟩]; omega
      · rw [if_neg e, if_neg (fun q => e q.1)]; omega
    unfold j_A_taskOfArrival_L13
    rw [(hX.2.2.2.2 _ hx).2.1, if_neg (nI_ge (by omega) (by omega)), if_pos (nI_in (by omega) (by omega)), nI_clamp (by omega), h4, x_arr hX hZ n h1 h2 (by omega), Option.bind_some, x_arrM hX hZ n h1 h2 (by omega), Option.bind_some, ← zav_p, nI_sub hz.2, hz.1, nI_add, nI_1, Nat.add_assoc, ← ks_sum_succ]
    by_cases e : r = r0
    · subst e
      rw [ks_sum_succ, g2, if_neg (nI_ge (by omega) (by omega)), (hX.2.2.2.2 _ h1).1]
    · have hm : ks_sum (zin Z rn (rk x) cr t) (r + 1) ≤ ks_sum (zin Z rn (rk x) cr t) r0 := ks_sum_mono (by omega)
      rw [if_pos (nI_le (by omega) (by omega))]
      exact ih (r + 1) f (by omega) (by omega) (by omega)
end X
