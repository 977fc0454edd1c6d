/-! PURE MATH 1: sums, least solutions, the busy time's run (no machine here) -/
/-- the sum of f over the first n numbers -/
def ks_sum (f : Nat → Nat) : Nat → Nat
  | 0 => 0
  | n + 1 => ks_sum f n + f n
theorem ks_sum_succ (f : Nat → Nat) (n : Nat) : ks_sum f (n + 1) = ks_sum f n + f n := rfl
theorem ks_sum_le {f g : Nat → Nat} : ∀ (n : Nat), (∀ i, i < n → f i ≤ g i) → ks_sum f n ≤ ks_sum g n
  | 0, _ => Nat.le_refl _
  | n + 1, h => Nat.add_le_add (ks_sum_le n (fun i hi => h i (Nat.lt_succ_of_lt hi))) (h n (Nat.lt_succ_self n))
theorem ks_sum_congr {f g : Nat → Nat} : ∀ (n : Nat), (∀ i, i < n → f i = g i) → ks_sum f n = ks_sum g n
  | 0, _ => rfl
  | n + 1, h => by
    show ks_sum f n + f n = ks_sum g n + g n
    rw [ks_sum_congr n (fun i hi => h i (Nat.lt_succ_of_lt hi)), h n (Nat.lt_succ_self n)]
theorem ks_sum_le_add {f g : Nat → Nat} {k d : Nat} (hkd : f k + d ≤ g k) : ∀ (n : Nat), k < n → (∀ i, i < n → f i ≤ g i) → ks_sum f n + d ≤ ks_sum g n
  | 0, h, _ => absurd h (Nat.not_lt_zero k)
  | n + 1, hk, h => by
    show ks_sum f n + f n + d ≤ ks_sum g n + g n
    have h1 := h n (Nat.lt_succ_self n)
    by_cases e : k = n
    · subst e
      have h2 := ks_sum_le k (fun i hi => h i (Nat.lt_succ_of_lt hi))
      omega
    · have h2 := ks_sum_le_add hkd n (by omega) (fun i hi => h i (Nat.lt_succ_of_lt hi))
      omega
theorem ks_sum_add_eq {f g : Nat → Nat} {k d : Nat} (hkd : g k = f k + d) : ∀ (n : Nat), k < n → (∀ i, i < n → i ≠ k → g i = f i) → ks_sum g n = ks_sum f n + d
  | 0, h, _ => absurd h (Nat.not_lt_zero k)
  | n + 1, hk, h => by
    show ks_sum g n + g n = ks_sum f n + f n + d
    by_cases e : k = n
    · subst e
      have h2 := ks_sum_congr (f := g) (g := f) k (fun i hi => h i (Nat.lt_succ_of_lt hi) (Nat.ne_of_lt hi))
      omega
    · have h2 := ks_sum_add_eq hkd n (by omega) (fun i hi => h i (Nat.lt_succ_of_lt hi))
      have h3 := h n (Nat.lt_succ_self n) (fun q => e q.symm)
      omega
theorem ks_sum_zero {f : Nat → Nat} : ∀ (n : Nat), (∀ i, i < n → f i = 0) → ks_sum f n = 0
  | 0, _ => rfl
  | n + 1, h => by
    show ks_sum f n + f n = 0
    rw [ks_sum_zero n (fun i hi => h i (Nat.lt_succ_of_lt hi)), h n (Nat.lt_succ_self n)]
theorem ks_sum_mono {f : Nat → Nat} {a b : Nat} (h : a ≤ b) : ks_sum f a ≤ ks_sum f b := by
  induction b with
  | zero => rw [Nat.le_zero.mp h]; exact Nat.le_refl _
  | succ b ih =>
    by_cases e : a = b + 1
    · rw [e]; exact Nat.le_refl _
    · exact Nat.le_trans (ih (by omega)) (Nat.le_add_right _ _)
theorem ks_sum_ge {f : Nat → Nat} : ∀ (n : Nat), (∀ i, i < n → 1 ≤ f i) → n ≤ ks_sum f n
  | 0, _ => Nat.le_refl _
  | n + 1, h => Nat.add_le_add (ks_sum_ge n (fun i hi => h i (Nat.lt_succ_of_lt hi))) (h n (Nat.lt_succ_self n))
/-- arrivals up to a time -/
theorem ks_div_ge {d D t : Nat} (hD : 0 < D) (h : d * D ≤ t) : d ≤ t / D := (Nat.le_div_iff_mul_le hD).mpr h
theorem ks_div_lt {d D t : Nat} (hD : 0 < D) (h : t < d * D) : t / D < d := (Nat.div_lt_iff_lt_mul hD).mpr h

/-- the work of the higher tasks that has come up to t, t with it -/
def ak_hw (D W : Nat → Nat) (hi : Nat → Bool) (t : Nat) : Nat := ks_sum (fun i => if hi i = true then (t / D i + 1) * W i else 0) 8
/-- the blocking and the work that has come before t -/
def ak_fb (D W : Nat → Nat) (hi : Nat → Bool) (x B t : Nat) : Nat := B + ((t - 1) / D x + 1) * W x + ak_hw D W hi (t - 1)
/-- what of a task's work is done -/
def ak_pr (W : Nat → Nat) (sg : Nat → Nat → Nat) (dn pc : Nat → Nat) (i : Nat) : Nat := dn i * W i + ks_sum (sg i) (pc i)
def ak_hp (W : Nat → Nat) (sg : Nat → Nat → Nat) (hi : Nat → Bool) (dn pc : Nat → Nat) : Nat := ks_sum (fun i => if hi i = true then ak_pr W sg dn pc i else 0) 8
/-- what is known of the set -/
def ak_set (D W : Nat → Nat) (sg : Nat → Nat → Nat) (np : Nat → Nat) (hi : Nat → Bool) (x : Nat) : Prop :=
  x < 8 ∧ hi x = false ∧ ∀ i, i < 8 → (hi i = true ∨ i = x) → 0 < D i ∧ 0 < np i ∧ (∀ q, q < np i → 1 ≤ sg i q) ∧ W i = ks_sum (sg i) (np i)
/-- what holds whenever no segment is under way -/
def ak_inv (D W : Nat → Nat) (sg : Nat → Nat → Nat) (np : Nat → Nat) (hi : Nat → Bool) (x B : Nat) (dn pc : Nat → Nat) (T : Nat) : Prop :=
  T = B + ak_pr W sg dn pc x + ak_hp W sg hi dn pc ∧
  (∀ i, i < 8 → (hi i = true ∨ i = x) → pc i < np i ∧ (0 < dn i → (dn i - 1) * D i < T) ∧ (0 < pc i → dn i * D i < T)) ∧
  (∀ t, B + 1 ≤ t → t < T → t < ak_fb D W hi x B t) ∧
  (∀ t, t < T → t < B + ak_pr W sg dn pc x + ak_hw D W hi t)
section Run
variable {D W : Nat → Nat} {sg : Nat → Nat → Nat} {np : Nat → Nat} {hi : Nat → Bool} {x B : Nat} {dn pc : Nat → Nat} {T : Nat}
theorem ak_hw_mono {s t : Nat} (h : s ≤ t) : ak_hw D W hi s ≤ ak_hw D W hi t := by
  refine ks_sum_le 8 (fun i _ => ?_)
  by_cases e : hi i = true
  · simp only [e, if_true]
    exact Nat.mul_le_mul_right _ (Nat.add_le_add_right (Nat.div_le_div_right h) 1)
  · simp only [e, if_false]; exact Nat.le_refl _
theorem ak_fb_mono {s t : Nat} (h : s ≤ t) : ak_fb D W hi x B s ≤ ak_fb D W hi x B t := by
  unfold ak_fb
  have h1 : ((s - 1) / D x + 1) * W x ≤ ((t - 1) / D x + 1) * W x := Nat.mul_le_mul_right _ (Nat.add_le_add_right (Nat.div_le_div_right (by omega)) 1)
  have h2 := ak_hw_mono (D := D) (W := W) (hi := hi) (show s - 1 ≤ t - 1 by omega)
  omega
theorem ak_start (hS : ak_set D W sg np hi x) : ak_inv D W sg np hi x B (fun _ => 0) (fun _ => 0) B := by
  refine ⟨?_, fun i hi8 hc => ⟨(hS.2.2 i hi8 hc).2.1, fun h => absurd h (Nat.lt_irrefl 0), fun h => absurd h (Nat.lt_irrefl 0)⟩, fun t h1 h2 => by omega, fun t h => by omega⟩
  have h1 : ak_pr W sg (fun _ => 0) (fun _ => 0) x = 0 := by unfold ak_pr; simp [ks_sum]
  have h2 : ak_hp W sg hi (fun _ => 0) (fun _ => 0) = 0 := ks_sum_zero 8 (fun i _ => by
    have h3 : ak_pr W sg (fun _ => 0) (fun _ => 0) i = 0 := by unfold ak_pr; simp [ks_sum]
    rw [h3]; split <;> rfl)
  rw [h1, h2]
  rfl
/-- what of a task is done came before -/
theorem ak_pr_le (hS : ak_set D W sg np hi x) (hI : ak_inv D W sg np hi x B dn pc T) {i t : Nat} (hi8 : i < 8) (hc : hi i = true ∨ i = x) (ht : T ≤ t) : ak_pr W sg dn pc i ≤ ((t - 1) / D i + 1) * W i := by
  obtain ⟨hD, hnp, hsg, hW⟩ := hS.2.2 i hi8 hc
  obtain ⟨hp, hd, hq⟩ := hI.2.1 i hi8 hc
  unfold ak_pr
  by_cases e : pc i = 0
  · rw [e]
    show dn i * W i + 0 ≤ _
    rw [Nat.add_zero]
    refine Nat.mul_le_mul_right _ ?_
    by_cases e0 : dn i = 0
    · rw [e0]; exact Nat.zero_le _
    · have h1 := hd (by omega)
      have h2 := ks_div_ge (d := dn i - 1) (t := t - 1) hD (by omega)
      omega
  · have h1 := hq (by omega)
    have h2 := ks_div_ge (d := dn i) (t := t - 1) hD (by omega)
    have h3 : ks_sum (sg i) (pc i) ≤ W i := by rw [hW]; exact ks_sum_mono (by omega)
    have h4 : (dn i + 1) * W i ≤ ((t - 1) / D i + 1) * W i := Nat.mul_le_mul_right _ (by omega)
    rw [Nat.add_mul, Nat.one_mul] at h4
    omega
/-- .. and with the segment that is begun -/
theorem ak_pr_seg (hS : ak_set D W sg np hi x) (hI : ak_inv D W sg np hi x B dn pc T) {i t : Nat} (hi8 : i < 8) (hc : hi i = true ∨ i = x) (ht : dn i * D i ≤ t) : ak_pr W sg dn pc i + sg i (pc i) ≤ (t / D i + 1) * W i := by
  obtain ⟨hD, hnp, hsg, hW⟩ := hS.2.2 i hi8 hc
  obtain ⟨hp, hd, hq⟩ := hI.2.1 i hi8 hc
  have h2 := ks_div_ge hD ht
  have h3 : ks_sum (sg i) (pc i + 1) ≤ W i := by rw [hW]; exact ks_sum_mono (by omega)
  have h4 : (dn i + 1) * W i ≤ (t / D i + 1) * W i := Nat.mul_le_mul_right _ (by omega)
  rw [Nat.add_mul, Nat.one_mul] at h4
  rw [ks_sum_succ] at h3
  unfold ak_pr
  omega
theorem ak_hp_le (hS : ak_set D W sg np hi x) (hI : ak_inv D W sg np hi x B dn pc T) {t : Nat} (ht : T ≤ t + 1) (h0 : T ≤ t ∨ 1 ≤ T) : ak_hp W sg hi dn pc ≤ ak_hw D W hi t := by
  refine ks_sum_le 8 (fun i hi8 => ?_)
  by_cases e : hi i = true
  · simp only [e, if_true]
    have h1 := ak_pr_le hS hI (t := t + 1) hi8 (Or.inl e) (by omega)
    rw [Nat.add_sub_cancel] at h1
    exact h1
  · simp only [e, if_false]; exact Nat.le_refl _
/-- not over at T: more has come before T than T holds -/
theorem ak_more (hS : ak_set D W sg np hi x) (hI : ak_inv D W sg np hi x B dn pc T) {i : Nat} (hi8 : i < 8) (hc : hi i = true ∨ i = x) (hlt : dn i * D i < T) : T < ak_fb D W hi x B T := by
  have hx : x < 8 := hS.1
  have hT : T = B + ak_pr W sg dn pc x + ak_hp W sg hi dn pc := hI.1
  have hpx := ak_pr_le hS hI hx (Or.inr rfl) (Nat.le_refl T)
  have hseg := ak_pr_seg hS hI (t := T - 1) hi8 hc (by omega)
  have h1 : 1 ≤ sg i (pc i) := (hS.2.2 i hi8 hc).2.2.1 _ (hI.2.1 i hi8 hc).1
  unfold ak_fb
  rcases hc with hh | rfl
  · have h2 : ak_hp W sg hi dn pc + sg i (pc i) ≤ ak_hw D W hi (T - 1) := by
      refine ks_sum_le_add (k := i) ?_ 8 hi8 (fun j hj => ?_)
      · simp only [hh, if_true]; exact hseg
      · by_cases e : hi j = true
        · simp only [e, if_true]; exact ak_pr_le hS hI hj (Or.inl e) (Nat.le_refl T)
        · simp only [e, if_false]; exact Nat.le_refl _
    omega
  · have h2 : ak_hp W sg hi dn pc ≤ ak_hw D W hi (T - 1) := by
      refine ks_sum_le 8 (fun j hj => ?_)
      by_cases e : hi j = true
      · simp only [e, if_true]; exact ak_pr_le hS hI hj (Or.inl e) (Nat.le_refl T)
      · simp only [e, if_false]; exact Nat.le_refl _
    omega
/-- a segment runs -/
theorem ak_step (hS : ak_set D W sg np hi x) (hI : ak_inv D W sg np hi x B dn pc T) {k : Nat} (hk8 : k < 8) (hc : hi k = true ∨ k = x) (hav : dn k * D k ≤ T)
    (hnot : T = 0 ∨ ∃ i, i < 8 ∧ (hi i = true ∨ i = x) ∧ dn i * D i < T) {dn' pc' : Nat → Nat}
    (hoth : ∀ i, i ≠ k → dn' i = dn i ∧ pc' i = pc i) (hpr : ak_pr W sg dn' pc' k = ak_pr W sg dn pc k + sg k (pc k)) (hpc : pc' k < np k)
    (hd' : 0 < dn' k → (dn' k - 1) * D k ≤ T) (hq' : 0 < pc' k → dn' k * D k ≤ T) : ak_inv D W sg np hi x B dn' pc' (T + sg k (pc k)) := by
  have hx : x < 8 := hS.1
  have hL : 1 ≤ sg k (pc k) := (hS.2.2 k hk8 hc).2.2.1 _ (hI.2.1 k hk8 hc).1
  have hT : T = B + ak_pr W sg dn pc x + ak_hp W sg hi dn pc := hI.1
  have hoff : ∀ i, i ≠ k → ak_pr W sg dn' pc' i = ak_pr W sg dn pc i := fun i h => by
    unfold ak_pr; rw [(hoth i h).1, (hoth i h).2]
  have hsum : B + ak_pr W sg dn' pc' x + ak_hp W sg hi dn' pc' = T + sg k (pc k) ∧ ak_pr W sg dn pc x ≤ ak_pr W sg dn' pc' x := by
    rcases hc with hh | rfl
    · have hne : x ≠ k := fun q => by rw [q] at hS; have := hS.2.1; rw [hh] at this; cases this
      have h2 : ak_hp W sg hi dn' pc' = ak_hp W sg hi dn pc + sg k (pc k) := by
        refine ks_sum_add_eq (k := k) ?_ 8 hk8 (fun j _ hj => ?_)
        · simp only [hh, if_true]; exact hpr
        · simp only [hoff j hj]
      rw [hoff x hne, h2]
      exact ⟨by omega, Nat.le_refl _⟩
    · have h2 : ak_hp W sg hi dn' pc' = ak_hp W sg hi dn pc := by
        refine ks_sum_congr 8 (fun j _ => ?_)
        by_cases e : hi j = true
        · have hj : j ≠ k := fun q => by rw [q] at e; have := hS.2.1; rw [e] at this; cases this
          simp only [hoff j hj]
        · rw [if_neg e, if_neg e]
      rw [hpr, h2]
      exact ⟨by omega, by omega⟩
  refine ⟨hsum.1.symm, fun i hi8 hci => ?_, fun t h1 h2 => ?_, fun t h => ?_⟩
  · by_cases e : i = k
    · subst e
      exact ⟨hpc, fun h => Nat.lt_of_le_of_lt (hd' h) (by omega), fun h => Nat.lt_of_le_of_lt (hq' h) (by omega)⟩
    · obtain ⟨a, b, c⟩ := hI.2.1 i hi8 hci
      rw [(hoth i e).1, (hoth i e).2]
      exact ⟨a, fun h => Nat.lt_of_lt_of_le (b h) (Nat.le_add_right _ _), fun h => Nat.lt_of_lt_of_le (c h) (Nat.le_add_right _ _)⟩
  · by_cases e : t < T
    · exact hI.2.2.1 t h1 e
    · by_cases e2 : t = T
      · subst e2
        rcases hnot with h0 | ⟨i, hi8, hci, hlt⟩
        · omega
        · exact ak_more hS hI hi8 hci hlt
      · have hpx := ak_pr_le hS hI hx (Or.inr rfl) (show T ≤ t by omega)
        have hseg := ak_pr_seg hS hI (t := t - 1) hk8 hc (by omega)
        unfold ak_fb
        rcases hc with hh | rfl
        · have h3 : ak_hp W sg hi dn pc + sg k (pc k) ≤ ak_hw D W hi (t - 1) := by
            refine ks_sum_le_add (k := k) ?_ 8 hk8 (fun j hj => ?_)
            · simp only [hh, if_true]; exact hseg
            · by_cases e : hi j = true
              · simp only [e, if_true]; exact ak_pr_le hS hI hj (Or.inl e) (by omega)
              · simp only [e, if_false]; exact Nat.le_refl _
          omega
        · have h3 : ak_hp W sg hi dn pc ≤ ak_hw D W hi (t - 1) := by
            refine ks_sum_le 8 (fun j hj => ?_)
            by_cases e : hi j = true
            · simp only [e, if_true]; exact ak_pr_le hS hI hj (Or.inl e) (by omega)
            · simp only [e, if_false]; exact Nat.le_refl _
          omega
  · by_cases e : t < T
    · have := hI.2.2.2 t e
      have := hsum.2
      omega
    · rcases hc with hh | rfl
      · have hne : x ≠ k := fun q => by rw [q] at hS; have := hS.2.1; rw [hh] at this; cases this
        have h3 : ak_hp W sg hi dn pc + sg k (pc k) ≤ ak_hw D W hi t := by
          refine ks_sum_le_add (k := k) ?_ 8 hk8 (fun j hj => ?_)
          · simp only [hh, if_true]; exact ak_pr_seg hS hI hk8 (Or.inl hh) (by omega)
          · by_cases e : hi j = true
            · simp only [e, if_true]
              have h1 := ak_pr_le hS hI (t := t + 1) hj (Or.inl e) (by omega)
              rw [Nat.add_sub_cancel] at h1
              exact h1
            · simp only [e, if_false]; exact Nat.le_refl _
        rw [hoff x hne]
        omega
      · have h3 : ak_hp W sg hi dn pc ≤ ak_hw D W hi t := ak_hp_le hS hI (by omega) (Or.inl (by omega))
        rw [hpr]
        omega
/-- all that came before T is done: T is a solution -/
theorem ak_over (hS : ak_set D W sg np hi x) (hI : ak_inv D W sg np hi x B dn pc T) (h0 : 0 < T) (hov : ∀ i, i < 8 → (hi i = true ∨ i = x) → T ≤ dn i * D i) :
    ak_fb D W hi x B T = T ∧ B + 1 ≤ T ∧ dn x = (T - 1) / D x + 1 ∧ pc x = 0 := by
  have key : ∀ i, i < 8 → (hi i = true ∨ i = x) → dn i = (T - 1) / D i + 1 ∧ pc i = 0 := by
    intro i hi8 hc
    obtain ⟨hD, hnp, hsg, hW⟩ := hS.2.2 i hi8 hc
    obtain ⟨hp, hd, hq⟩ := hI.2.1 i hi8 hc
    have hv := hov i hi8 hc
    have h1 : (T - 1) / D i < dn i := ks_div_lt hD (by omega)
    have h2 := ks_div_ge (d := dn i - 1) (t := T - 1) hD (by have := hd (Nat.lt_of_le_of_lt (Nat.zero_le _) h1); omega)
    refine ⟨by omega, ?_⟩
    by_cases e : pc i = 0
    · exact e
    · have := hq (by omega)
      omega
  have hpr : ∀ i, i < 8 → (hi i = true ∨ i = x) → ak_pr W sg dn pc i = ((T - 1) / D i + 1) * W i := by
    intro i hi8 hc
    unfold ak_pr
    rw [(key i hi8 hc).1, (key i hi8 hc).2]
    rfl
  have hT : T = B + ak_pr W sg dn pc x + ak_hp W sg hi dn pc := hI.1
  have h2 : ak_hp W sg hi dn pc = ak_hw D W hi (T - 1) := by
    refine ks_sum_congr 8 (fun j hj => ?_)
    by_cases e : hi j = true
    · simp only [e, if_true]; exact hpr j hj (Or.inl e)
    · rw [if_neg e, if_neg e]
  have hx := hpr x hS.1 (Or.inr rfl)
  have hW1 : 1 ≤ W x := by
    obtain ⟨hD, hnp, hsg, hW⟩ := hS.2.2 x hS.1 (Or.inr rfl)
    have := ks_sum_ge (np x) hsg
    omega
  have h3 : W x ≤ ((T - 1) / D x + 1) * W x := Nat.le_mul_of_pos_left _ (Nat.succ_pos _)
  unfold ak_fb
  refine ⟨by omega, by omega, (key x hS.1 (Or.inr rfl)).1, (key x hS.1 (Or.inr rfl)).2⟩
/-- no higher task has a job: the higher work that has come is done -/
theorem ak_turn (hS : ak_set D W sg np hi x) (hI : ak_inv D W sg np hi x B dn pc T) (hno : ∀ i, i < 8 → hi i = true → T < dn i * D i) : B + ak_pr W sg dn pc x + ak_hw D W hi T = T := by
  have hT : T = B + ak_pr W sg dn pc x + ak_hp W sg hi dn pc := hI.1
  have h2 : ak_hp W sg hi dn pc = ak_hw D W hi T := by
    refine ks_sum_congr 8 (fun j hj => ?_)
    by_cases e : hi j = true
    · simp only [e, if_true]
      obtain ⟨hD, hnp, hsg, hW⟩ := hS.2.2 j hj (Or.inl e)
      obtain ⟨hp, hd, hq⟩ := hI.2.1 j hj (Or.inl e)
      have hv := hno j hj e
      have h1 : T / D j < dn j := ks_div_lt hD hv
      have h3 := ks_div_ge (d := dn j - 1) (t := T) hD (by have := hd (Nat.lt_of_le_of_lt (Nat.zero_le _) h1); omega)
      have h4 : pc j = 0 := by
        by_cases e4 : pc j = 0
        · exact e4
        · have := hq (by omega); omega
      unfold ak_pr
      rw [h4, show dn j = T / D j + 1 by omega]
      rfl
    · rw [if_neg e, if_neg e]
  omega
end Run
/-! least solutions -/
/-- the first t from t0 on, at most f steps away, with F t ≤ t -/
def ak_find (F : Nat → Nat) : Nat → Nat → Nat
  | 0, t => t
  | f + 1, t => if F t ≤ t then t else ak_find F f (t + 1)
theorem ak_find_eq {F : Nat → Nat} {T : Nat} (hT : F T ≤ T) : ∀ (f t : Nat), t ≤ T → T - t ≤ f → (∀ u, t ≤ u → u < T → u < F u) → ak_find F f t = T
  | 0, t, h1, h2, _ => by show t = T; omega
  | f + 1, t, h1, h2, h => by
    unfold ak_find
    by_cases e : t = T
    · subst e
      rw [if_pos hT]
    · have h3 := h t (Nat.le_refl t) (by omega)
      rw [if_neg (by omega)]
      exact ak_find_eq hT f (t + 1) (by omega) (by omega) (fun u h4 h5 => h u (by omega) h5)
theorem ak_find_none {F : Nat → Nat} : ∀ (f t : Nat), (∀ u, t ≤ u → u < t + f → u < F u) → ak_find F f t = t + f
  | 0, t, _ => rfl
  | f + 1, t, h => by
    unfold ak_find
    have h3 := h t (Nat.le_refl t) (by omega)
    rw [if_neg (by omega), ak_find_none f (t + 1) (fun u h4 h5 => h u (by omega) (by omega))]
    omega
theorem ak_find_spec {F : Nat → Nat} : ∀ (f t : Nat), t ≤ ak_find F f t ∧ ak_find F f t ≤ t + f ∧ (∀ u, t ≤ u → u < ak_find F f t → u < F u) ∧ (ak_find F f t < t + f → F (ak_find F f t) ≤ ak_find F f t)
  | 0, t => ⟨Nat.le_refl _, Nat.le_refl _, fun u h1 h2 => absurd h2 (by show ¬ u < t; omega), fun h => absurd h (by show ¬ t < t + 0; omega)⟩
  | f + 1, t => by
    unfold ak_find
    by_cases e : F t ≤ t
    · rw [if_pos e]
      exact ⟨Nat.le_refl _, by omega, fun u h1 h2 => by omega, fun _ => e⟩
    · rw [if_neg e]
      obtain ⟨a, b, c, d⟩ := ak_find_spec (F := F) f (t + 1)
      refine ⟨by omega, by omega, fun u h1 h2 => ?_, fun h => d (by omega)⟩
      by_cases e2 : u = t
      · subst e2; omega
      · exact c u (by omega) h2
