/-! PURE MATH 2: what the analysis is, as numbers; the class's iterations; blocking can only be lost -/
/-- the end of the busy time; above 20000: too long -/
def sp_bz (D W : Nat → Nat) (hi : Nat → Bool) (x B : Nat) : Nat := ak_find (ak_fb D W hi x B) (20000 - B) (B + 1)
/-- when work that waits for own own work and all higher work begins -/
def sp_lb (D W : Nat → Nat) (hi : Nat → Bool) (B own : Nat) : Nat := ak_find (fun t => B + own + ak_hw D W hi t) 20001 0
def sp_own (W : Nat → Nat) (sg : Nat → Nat → Nat) (np : Nat → Nat) (x k : Nat) : Nat := k * W x + ks_sum (sg x) (np x - 1)
def sp_nj (D W : Nat → Nat) (hi : Nat → Bool) (x B : Nat) : Nat := if 20000 < sp_bz D W hi x B then 0 else (sp_bz D W hi x B - 1) / D x + 1
def sp_rsp (D W : Nat → Nat) (sg : Nat → Nat → Nat) (np : Nat → Nat) (hi : Nat → Bool) (x B k : Nat) : Nat := sp_lb D W hi B (sp_own W sg np x k) + sg x (np x - 1) - k * D x
/-- the greatest of the first n, and which one has it first -/
def sp_w (r : Nat → Nat) : Nat → Nat × Nat
  | 0 => (0, 0)
  | n + 1 => if (sp_w r n).1 < r n then (r n, n) else sp_w r n
theorem sp_w_succ (r : Nat → Nat) (n : Nat) : sp_w r (n + 1) = if (sp_w r n).1 < r n then (r n, n) else sp_w r n := rfl
theorem sp_w_congr {r q : Nat → Nat} : ∀ n, (∀ k, k < n → r k = q k) → sp_w r n = sp_w q n
  | 0, _ => rfl
  | n + 1, h => by rw [sp_w_succ, sp_w_succ, sp_w_congr n (fun k hk => h k (Nat.lt_succ_of_lt hk)), h n (Nat.lt_succ_self n)]
theorem sp_w_le {r : Nat → Nat} {m : Nat} : ∀ n, (sp_w r n).1 ≤ m ↔ ∀ k, k < n → r k ≤ m
  | 0 => ⟨fun _ k h => absurd h (Nat.not_lt_zero k), fun _ => Nat.zero_le m⟩
  | n + 1 => by
    rw [sp_w_succ]
    have ih := sp_w_le (r := r) (m := m) n
    constructor
    · intro h k hk
      by_cases e : (sp_w r n).1 < r n
      · rw [if_pos e] at h
        by_cases e2 : k = n
        · subst e2; exact h
        · exact ih.mp (Nat.le_of_lt (Nat.lt_of_lt_of_le e h)) k (by omega)
      · rw [if_neg e] at h
        by_cases e2 : k = n
        · subst e2; omega
        · exact ih.mp h k (by omega)
    · intro h
      split
      · exact h n (Nat.lt_succ_self n)
      · exact ih.mpr (fun k hk => h k (Nat.lt_succ_of_lt hk))
theorem sp_w_lt {r : Nat → Nat} : ∀ n, 0 < n → (sp_w r n).2 < n
  | 0, h => absurd h (Nat.lt_irrefl 0)
  | n + 1, _ => by
    rw [sp_w_succ]
    split
    · exact Nat.lt_succ_self n
    · by_cases e : n = 0
      · subst e; exact Nat.lt_succ_self 0
      · exact Nat.lt_succ_of_lt (sp_w_lt n (by omega))
section Least
/-- a solution is at most as far as any other; F that only grows: there it is equal -/
theorem ak_least {F : Nat → Nat} {f t0 t : Nat} (h0 : t0 ≤ t) (h : F t ≤ t) : ak_find F f t0 ≤ t := by
  obtain ⟨-, -, c, -⟩ := ak_find_spec (F := F) f t0
  by_cases e : ak_find F f t0 ≤ t
  · exact e
  · have := c t h0 (by omega); omega
theorem ak_found {F : Nat → Nat} {f t0 t : Nat} (h0 : t0 ≤ t) (ht : t < t0 + f) (h : F t ≤ t) : F (ak_find F f t0) ≤ ak_find F f t0 := by
  have h1 := ak_least (f := f) h0 h
  exact (ak_find_spec (F := F) f t0).2.2.2 (by omega)
theorem ak_find_mono {F G : Nat → Nat} (hFG : ∀ t, F t ≤ G t) {f t0 u0 : Nat} (h0 : t0 ≤ u0) (hu : G (ak_find G f u0) ≤ ak_find G f u0) {f2 : Nat} : ak_find F f2 t0 ≤ ak_find G f u0 := by
  have h1 := (ak_find_spec (F := G) f u0).1
  exact ak_least (by omega) (Nat.le_trans (hFG _) hu)
end Least
section Set
variable {D W : Nat → Nat} {sg : Nat → Nat → Nat} {np : Nat → Nat} {hi : Nat → Bool} {x B : Nat}
theorem sp_bz_ge : B + 1 ≤ sp_bz D W hi x B := (ak_find_spec (F := ak_fb D W hi x B) (20000 - B) (B + 1)).1
theorem sp_bz_ok (h : sp_bz D W hi x B ≤ 20000) : ak_fb D W hi x B (sp_bz D W hi x B) ≤ sp_bz D W hi x B := by
  have h1 := sp_bz_ge (D := D) (W := W) (hi := hi) (x := x) (B := B)
  exact (ak_find_spec (F := ak_fb D W hi x B) (20000 - B) (B + 1)).2.2.2 (by unfold sp_bz at h h1; omega)
theorem sp_bz_lt {t : Nat} (h1 : B + 1 ≤ t) (h2 : t < sp_bz D W hi x B) : t < ak_fb D W hi x B t := (ak_find_spec (F := ak_fb D W hi x B) (20000 - B) (B + 1)).2.2.1 t h1 h2
theorem sp_bz_le : sp_bz D W hi x B ≤ 20001 ∨ sp_bz D W hi x B = B + 1 := by
  have h := (ak_find_spec (F := ak_fb D W hi x B) (20000 - B) (B + 1)).2.1
  have h1 := sp_bz_ge (D := D) (W := W) (hi := hi) (x := x) (B := B)
  unfold sp_bz at h1 ⊢
  omega
theorem sp_last (hS : ak_set D W sg np hi x) : 1 ≤ sg x (np x - 1) ∧ W x = ks_sum (sg x) (np x - 1) + sg x (np x - 1) := by
  obtain ⟨hD, hnp, hsg, hW⟩ := hS.2.2 x hS.1 (Or.inr rfl)
  refine ⟨hsg _ (by omega), ?_⟩
  rw [hW]
  have h : np x = (np x - 1) + 1 := by omega
  rw [h, ks_sum_succ, Nat.add_sub_cancel]
theorem sp_own_eq (hS : ak_set D W sg np hi x) (k : Nat) : sp_own W sg np x k + sg x (np x - 1) = (k + 1) * W x := by
  unfold sp_own
  have h := (sp_last hS).2
  rw [Nat.add_mul, Nat.one_mul]
  omega
theorem sp_own_mono {j k : Nat} (h : j ≤ k) : sp_own W sg np x j ≤ sp_own W sg np x k := Nat.add_le_add_right (Nat.mul_le_mul_right _ h) _
theorem sp_nj_lt (hS : ak_set D W sg np hi x) {k : Nat} (hk : k < sp_nj D W hi x B) : sp_bz D W hi x B ≤ 20000 ∧ k * D x < sp_bz D W hi x B ∧ (k + 1) * W x ≤ ((sp_bz D W hi x B - 1) / D x + 1) * W x := by
  unfold sp_nj at hk
  have h1 := sp_bz_ge (D := D) (W := W) (hi := hi) (x := x) (B := B)
  split at hk
  · exact absurd hk (Nat.not_lt_zero k)
  · refine ⟨by omega, ?_, Nat.mul_le_mul_right _ (by omega)⟩
    have h2 : k ≤ (sp_bz D W hi x B - 1) / D x := by omega
    have h3 := (Nat.le_div_iff_mul_le (hS.2.2 x hS.1 (Or.inr rfl)).1).mp h2
    omega
/-- there is a time at which the last segment of a job of the busy time begins, ahead of the end -/
theorem sp_lb_ex (hS : ak_set D W sg np hi x) {k : Nat} (hk : k < sp_nj D W hi x B) : B + sp_own W sg np x k + ak_hw D W hi (sp_bz D W hi x B - 1) ≤ sp_bz D W hi x B - 1 := by
  obtain ⟨h1, h2, h3⟩ := sp_nj_lt hS hk
  have h4 := sp_bz_ok h1
  have h5 := sp_own_eq hS k
  have h6 := (sp_last hS).1
  unfold ak_fb at h4
  omega
theorem sp_lb_le (hS : ak_set D W sg np hi x) {k : Nat} (hk : k < sp_nj D W hi x B) : sp_lb D W hi B (sp_own W sg np x k) ≤ sp_bz D W hi x B - 1 := ak_least (Nat.zero_le _) (sp_lb_ex hS hk)
theorem sp_lb_ok (hS : ak_set D W sg np hi x) {k : Nat} (hk : k < sp_nj D W hi x B) : B + sp_own W sg np x k + ak_hw D W hi (sp_lb D W hi B (sp_own W sg np x k)) ≤ sp_lb D W hi B (sp_own W sg np x k) :=
  ak_found (F := fun t => B + sp_own W sg np x k + ak_hw D W hi t) (t0 := 0) (f := 20001) (t := sp_bz D W hi x B - 1) (Nat.zero_le _) (by have := (sp_nj_lt hS hk).1; omega) (sp_lb_ex hS hk)
theorem sp_lb_lt {own t : Nat} (h : t < sp_lb D W hi B own) : t < B + own + ak_hw D W hi t := (ak_find_spec (F := fun t => B + own + ak_hw D W hi t) 20001 0).2.2.1 t (Nat.zero_le t) h
theorem sp_lb_mono (hS : ak_set D W sg np hi x) {j k : Nat} (hjk : j ≤ k) (hk : k < sp_nj D W hi x B) : sp_lb D W hi B (sp_own W sg np x j) ≤ sp_lb D W hi B (sp_own W sg np x k) :=
  ak_least (Nat.zero_le _) (Nat.le_trans (Nat.add_le_add_right (Nat.add_le_add_left (sp_own_mono hjk) B) _) (sp_lb_ok hS hk))
/-- a job's last segment begins behind its arrival -/
theorem sp_lb_gt (hS : ak_set D W sg np hi x) {k : Nat} (h1 : 1 ≤ k) (hk : k < sp_nj D W hi x B) : k * D x < sp_lb D W hi B (sp_own W sg np x k) := by
  by_cases e : k * D x < sp_lb D W hi B (sp_own W sg np x k)
  · exact e
  · obtain ⟨g1, g2, -⟩ := sp_nj_lt hS hk
    have hD := (hS.2.2 x hS.1 (Or.inr rfl)).1
    have h5 := sp_lb_ok hS hk
    generalize ht : sp_lb D W hi B (sp_own W sg np x k) = t at e h5
    have hW1 : 1 ≤ W x := by have := sp_last hS; omega
    have hkW : k * W x ≤ sp_own W sg np x k := Nat.le_add_right _ _
    have hkW1 : 1 ≤ k * W x := Nat.mul_pos h1 hW1
    have h6 : (t - 1) / D x < k := ks_div_lt hD (by omega)
    have h7 : ((t - 1) / D x + 1) * W x ≤ k * W x := Nat.mul_le_mul_right _ h6
    have h8 : ak_hw D W hi (t - 1) ≤ ak_hw D W hi t := ak_hw_mono (by omega)
    have h9 : ak_fb D W hi x B t ≤ t := by unfold ak_fb; omega
    have h10 : sp_bz D W hi x B ≤ t := ak_least (by omega) h9
    omega
/-- more blocking: a later end, later beginnings -/
theorem ak_fb_B {B2 : Nat} (h : B ≤ B2) (t : Nat) : ak_fb D W hi x B t ≤ ak_fb D W hi x B2 t := by unfold ak_fb; omega
theorem sp_bz_mono {B2 : Nat} (h : B ≤ B2) (h2 : sp_bz D W hi x B2 ≤ 20000) : sp_bz D W hi x B ≤ sp_bz D W hi x B2 :=
  ak_find_mono (ak_fb_B h) (Nat.add_le_add_right h 1) (sp_bz_ok h2)
theorem sp_nj_mono {B2 : Nat} (h : B ≤ B2) (h2 : sp_bz D W hi x B2 ≤ 20000) : sp_nj D W hi x B ≤ sp_nj D W hi x B2 := by
  have h3 := sp_bz_mono (D := D) (W := W) (hi := hi) (x := x) h h2
  unfold sp_nj
  rw [if_neg (by omega), if_neg (by omega)]
  exact Nat.add_le_add_right (Nat.div_le_div_right (by omega)) 1
theorem sp_rsp_mono (hS : ak_set D W sg np hi x) {B2 k : Nat} (h : B ≤ B2) (hk : k < sp_nj D W hi x B2) : sp_rsp D W sg np hi x B k ≤ sp_rsp D W sg np hi x B2 k := by
  have h1 : sp_lb D W hi B (sp_own W sg np x k) ≤ sp_lb D W hi B2 (sp_own W sg np x k) := ak_least (Nat.zero_le _) (Nat.le_trans (by omega) (sp_lb_ok hS hk))
  unfold sp_rsp
  omega
/-- x bears B -/
def sp_bears (D W : Nat → Nat) (sg : Nat → Nat → Nat) (np : Nat → Nat) (hi : Nat → Bool) (x L B : Nat) : Prop := sp_bz D W hi x B ≤ 20000 ∧ (sp_w (sp_rsp D W sg np hi x B) (sp_nj D W hi x B)).1 ≤ L
theorem sp_bears_mono (hS : ak_set D W sg np hi x) {L B2 : Nat} (h : B ≤ B2) (hb : sp_bears D W sg np hi x L B2) : sp_bears D W sg np hi x L B := by
  obtain ⟨h1, h2⟩ := hb
  refine ⟨Nat.le_trans (sp_bz_mono h h1) h1, (sp_w_le _).mpr (fun k hk => ?_)⟩
  have hk2 := Nat.lt_of_lt_of_le hk (sp_nj_mono h h1)
  exact Nat.le_trans (sp_rsp_mono hS h hk2) ((sp_w_le _).mp h2 k hk2)
/-- .. and never more than what is left of the deadline -/
theorem sp_bears_work (hS : ak_set D W sg np hi x) {L : Nat} (hb : sp_bears D W sg np hi x L B) : B + W x ≤ L := by
  obtain ⟨h1, h2⟩ := hb
  have h0 : 0 < sp_nj D W hi x B := by unfold sp_nj; rw [if_neg (by omega)]; exact Nat.succ_pos _
  have h3 := (sp_w_le _).mp h2 0 h0
  have h4 := sp_lb_ok hS h0
  have h5 := sp_own_eq hS 0
  unfold sp_rsp at h3
  omega
end Set
/-! the class's iterations -/
theorem ak_iter_le {F : Nat → Nat} (hF : ∀ s t, s ≤ t → F s ≤ F t) {T b : Nat} (hT : F T ≤ T) (hmin : ∀ u, u < T → b ≤ u → u < F u) (hb : b ≤ T) : (F b ≤ b → b = T) ∧ (b < F b → F b ≤ T) := by
  refine ⟨fun h => ?_, fun h => Nat.le_trans (hF b T hb) hT⟩
  by_cases e : b = T
  · exact e
  · have := hmin b (by omega) (Nat.le_refl b); omega
