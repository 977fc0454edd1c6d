/-! PART 02: what a state IS. Cells have NUMBERS; a function ad lays them at addresses; nothing is made after the constructors. -/
/-- a number below 8, of any number -/
def fin8 (k : Nat) : Fin 8 := ⟨k % 8, Nat.mod_lt k (by decide)⟩
theorem fin8_val (x : Fin 8) : fin8 x.val = x := Fin.ext (Nat.mod_eq_of_lt x.isLt)
theorem fin8_of {k : Nat} (h : k < 8) : (fin8 k).val = k := Nat.mod_eq_of_lt h
/-- the class's memory: (kind 0 Task, 1 Jobs, 2 segments, 3 arrivals, 4 noted; task; place), (0 TaskSet, 1 Analysis, 2 Kernel; place), ranked, running, paused -/
abbrev MX : Type := (Nat → Fin 8 → Nat → Int32) × (Nat → Nat → Int32) × (Nat → Fin 8) × Option (Fin 8) × Option (Fin 8)
def sF (M : MX) (d : Nat) (x : Fin 8) (k : Nat) (v : Int32) : MX := (fun a b c => if a = d ∧ b = x ∧ c = k then v else M.1 a b c, M.2)
def sG (M : MX) (d k : Nat) (v : Int32) : MX := (M.1, fun a c => if a = d ∧ c = k then v else M.2.1 a c, M.2.2)
def sR (M : MX) (k : Nat) (x : Fin 8) : MX := (M.1, M.2.1, fun j => if j = k then x else M.2.2.1 j, M.2.2.2)
def sU (M : MX) (o : Option (Fin 8)) : MX := (M.1, M.2.1, M.2.2.1, o, M.2.2.2.2)
def sP (M : MX) (o : Option (Fin 8)) : MX := (M.1, M.2.1, M.2.2.1, M.2.2.2.1, o)
/-- the reference's memory: (array; place), (field) -/
abbrev MY : Type := (Nat → Nat → Int32) × (Nat → Int32)
def sA (M : MY) (d k : Nat) (v : Int32) : MY := (fun a c => if a = d ∧ c = k then v else M.1 a c, M.2)
def sV (M : MY) (k : Nat) (v : Int32) : MY := (M.1, fun c => if c = k then v else M.2 c)
/-- cells by their numbers -/
def wl (ad : Nat → Nat) (N : Nat) (C : Nat → va_E) : va_W := (List.range N).map (fun c => (ad c, C c))
theorem wl_at {ad : Nat → Nat} {N : Nat} {C : Nat → va_E} {c : Nat} (h : c < N) : (wl ad N C)[c]? = some (ad c, C c) := by
  unfold wl
  rw [List.getElem?_map, List.getElem?_range h]
  rfl
theorem wl_in {ad : Nat → Nat} {N : Nat} {C : Nat → va_E} {k : Nat} {q : Nat × va_E} (h : (wl ad N C)[k]? = some q) : k < N ∧ q = (ad k, C k) := by
  have hk : k < N := by
    have := (List.getElem?_eq_some_iff.mp h).1
    simpa [wl] using this
  rw [wl_at hk] at h
  exact ⟨hk, (Option.some.inj h).symm⟩
theorem wl_set {ad : Nat → Nat} {N : Nat} {C C' : Nat → va_E} {c : Nat} {e : va_E} (he : C' c = e) (ho : ∀ j, j < N → j ≠ c → C' j = C j) : (wl ad N C).set c (ad c, e) = wl ad N C' := by
  refine List.ext_getElem? (fun k => ?_)
  by_cases hk : k < N
  · by_cases hc : k = c
    · subst hc
      rw [List.getElem?_set_self (by simpa [wl] using hk), wl_at hk, he]
    · rw [List.getElem?_set_ne (fun q => hc q.symm), wl_at hk, wl_at hk, ho k hk hc]
  · rw [List.getElem?_eq_none (by simpa [wl] using (Nat.not_lt.mp hk)), List.getElem?_eq_none (by simpa [wl] using (Nat.not_lt.mp hk))]
def fO (ad : Nat → Nat) (M : MX) : List Value := [.ref (ad 1), .ref (ad 4), .ref (ad 5)]
def fS (ad : Nat → Nat) (M : MX) : List Value := [.ref (ad 2), .ref (ad 3), .int (M.2.1 0 2)]
def fA (ad : Nat → Nat) (M : MX) : List Value := [.ref (ad 1), .int (M.2.1 1 1), .int (M.2.1 1 2)]
def fK (ad : Nat → Nat) (M : MX) : List Value := [.ref (ad 1), .int (M.2.1 2 1), .int (M.2.1 2 2), .int (M.2.1 2 3), va_rf (gw_oa ad M.2.2.2.1), va_rf (gw_oa ad M.2.2.2.2)]
def fT (ad : Nat → Nat) (M : MX) (x : Fin 8) : List Value := [.int (M.1 0 x 0), .ref (ad (14 + x.val)), .ref (ad (22 + x.val)), .int (M.1 0 x 3), .int (M.1 0 x 4), .int (M.1 0 x 5), .int (M.1 0 x 6), .int (M.1 0 x 7), .int (M.1 0 x 8), .int (M.1 0 x 9), .int (M.1 0 x 10), .int (M.1 0 x 11), .int (M.1 0 x 12)]
def fJ (ad : Nat → Nat) (M : MX) (x : Fin 8) : List Value := [.ref (ad (30 + x.val)), .ref (ad (38 + x.val)), .int (M.1 1 x 2), .int (M.1 1 x 3), .int (M.1 1 x 4), .int (M.1 1 x 5), .int (M.1 1 x 6), .int (M.1 1 x 7)]
def cX (cI cT : ClassId) (ad : Nat → Nat) (M : MX) (c : Nat) : va_E :=
  if c = 0 then .inr (5, fO ad M)
  else if c = 1 then .inr (4, fS ad M)
  else if c = 2 then .inl (cT, 8, .inr (.inr (.inr (.inr (fun k => some (ad (6 + (fin8 k).val)))))))
  else if c = 3 then .inl (cT, 8, .inr (.inr (.inr (.inr (fun k => some (ad (6 + (M.2.2.1 k).val)))))))
  else if c = 4 then .inr (0, fA ad M)
  else if c = 5 then .inr (2, fK ad M)
  else if c < 14 then .inr (3, fT ad M (fin8 (c - 6)))
  else if c < 22 then .inr (1, fJ ad M (fin8 (c - 14)))
  else if c < 30 then .inl (cI, 8, .inl (M.1 2 (fin8 (c - 22))))
  else if c < 38 then .inl (cI, 9, .inl (M.1 3 (fin8 (c - 30))))
  else .inl (cI, 200, .inl (M.1 4 (fin8 (c - 38))))
def wX (cI cT : ClassId) (ad : Nat → Nat) (M : MX) : va_W := wl ad 46 (cX cI cT ad M)
abbrev tyX (cI cT : ClassId) : List (ClassId × FieldType) := [(cI, .int), (cT, .object "SegmentKernel$Task")]
section AtX
variable {cI cT : ClassId} {ad : Nat → Nat} {M : MX}
theorem xa_O : (wX cI cT ad M)[0]? = some (ad 0, .inr (5, fO ad M)) := wl_at (by decide)
theorem xa_S : (wX cI cT ad M)[1]? = some (ad 1, .inr (4, fS ad M)) := wl_at (by decide)
theorem xa_A : (wX cI cT ad M)[4]? = some (ad 4, .inr (0, fA ad M)) := wl_at (by decide)
theorem xa_K : (wX cI cT ad M)[5]? = some (ad 5, .inr (2, fK ad M)) := wl_at (by decide)
theorem xa_by : (wX cI cT ad M)[2]? = some (ad 2, .inl (cT, 8, .inr (.inr (.inr (.inr (fun k => some (ad (6 + (fin8 k).val)))))))) := wl_at (by decide)
theorem xa_rk : (wX cI cT ad M)[3]? = some (ad 3, .inl (cT, 8, .inr (.inr (.inr (.inr (fun k => some (ad (6 + (M.2.2.1 k).val)))))))) := wl_at (by decide)
theorem xc_T (x : Fin 8) : cX cI cT ad M (6 + x.val) = .inr (3, fT ad M x) := by
  have h := x.isLt
  unfold cX
  rw [if_neg (by omega : ¬ 6 + x.val = 0), if_neg (by omega : ¬ 6 + x.val = 1), if_neg (by omega : ¬ 6 + x.val = 2), if_neg (by omega : ¬ 6 + x.val = 3), if_neg (by omega : ¬ 6 + x.val = 4), if_neg (by omega : ¬ 6 + x.val = 5), if_pos (by omega : 6 + x.val < 14), Nat.add_sub_cancel_left, fin8_val]
theorem xa_T (x : Fin 8) : (wX cI cT ad M)[6 + x.val]? = some (ad (6 + x.val), .inr (3, fT ad M x)) := by
  have h := x.isLt
  unfold wX
  rw [wl_at (by omega), xc_T]
theorem xc_J (x : Fin 8) : cX cI cT ad M (14 + x.val) = .inr (1, fJ ad M x) := by
  have h := x.isLt
  unfold cX
  rw [if_neg (by omega : ¬ 14 + x.val = 0), if_neg (by omega : ¬ 14 + x.val = 1), if_neg (by omega : ¬ 14 + x.val = 2), if_neg (by omega : ¬ 14 + x.val = 3), if_neg (by omega : ¬ 14 + x.val = 4), if_neg (by omega : ¬ 14 + x.val = 5), if_neg (by omega : ¬ 14 + x.val < 14), if_pos (by omega : 14 + x.val < 22), Nat.add_sub_cancel_left, fin8_val]
theorem xa_J (x : Fin 8) : (wX cI cT ad M)[14 + x.val]? = some (ad (14 + x.val), .inr (1, fJ ad M x)) := by
  have h := x.isLt
  unfold wX
  rw [wl_at (by omega), xc_J]
theorem xc_sg (x : Fin 8) : cX cI cT ad M (22 + x.val) = .inl (cI, 8, .inl (M.1 2 x)) := by
  have h := x.isLt
  unfold cX
  rw [if_neg (by omega : ¬ 22 + x.val = 0), if_neg (by omega : ¬ 22 + x.val = 1), if_neg (by omega : ¬ 22 + x.val = 2), if_neg (by omega : ¬ 22 + x.val = 3), if_neg (by omega : ¬ 22 + x.val = 4), if_neg (by omega : ¬ 22 + x.val = 5), if_neg (by omega : ¬ 22 + x.val < 14), if_neg (by omega : ¬ 22 + x.val < 22), if_pos (by omega : 22 + x.val < 30), Nat.add_sub_cancel_left, fin8_val]
theorem xa_sg (x : Fin 8) : (wX cI cT ad M)[22 + x.val]? = some (ad (22 + x.val), .inl (cI, 8, .inl (M.1 2 x))) := by
  have h := x.isLt
  unfold wX
  rw [wl_at (by omega), xc_sg]
theorem xc_ar (x : Fin 8) : cX cI cT ad M (30 + x.val) = .inl (cI, 9, .inl (M.1 3 x)) := by
  have h := x.isLt
  unfold cX
  rw [if_neg (by omega : ¬ 30 + x.val = 0), if_neg (by omega : ¬ 30 + x.val = 1), if_neg (by omega : ¬ 30 + x.val = 2), if_neg (by omega : ¬ 30 + x.val = 3), if_neg (by omega : ¬ 30 + x.val = 4), if_neg (by omega : ¬ 30 + x.val = 5), if_neg (by omega : ¬ 30 + x.val < 14), if_neg (by omega : ¬ 30 + x.val < 22), if_neg (by omega : ¬ 30 + x.val < 30), if_pos (by omega : 30 + x.val < 38), Nat.add_sub_cancel_left, fin8_val]
theorem xa_ar (x : Fin 8) : (wX cI cT ad M)[30 + x.val]? = some (ad (30 + x.val), .inl (cI, 9, .inl (M.1 3 x))) := by
  have h := x.isLt
  unfold wX
  rw [wl_at (by omega), xc_ar]
theorem xc_no (x : Fin 8) : cX cI cT ad M (38 + x.val) = .inl (cI, 200, .inl (M.1 4 x)) := by
  have h := x.isLt
  unfold cX
  rw [if_neg (by omega : ¬ 38 + x.val = 0), if_neg (by omega : ¬ 38 + x.val = 1), if_neg (by omega : ¬ 38 + x.val = 2), if_neg (by omega : ¬ 38 + x.val = 3), if_neg (by omega : ¬ 38 + x.val = 4), if_neg (by omega : ¬ 38 + x.val = 5), if_neg (by omega : ¬ 38 + x.val < 14), if_neg (by omega : ¬ 38 + x.val < 22), if_neg (by omega : ¬ 38 + x.val < 30), if_neg (by omega : ¬ 38 + x.val < 38), Nat.add_sub_cancel_left, fin8_val]
theorem xa_no (x : Fin 8) : (wX cI cT ad M)[38 + x.val]? = some (ad (38 + x.val), .inl (cI, 200, .inl (M.1 4 x))) := by
  have h := x.isLt
  unfold wX
  rw [wl_at (by omega), xc_no]
end AtX
section SetX
variable {cI cT : ClassId} {ad : Nat → Nat} {M M' : MX}
theorem xj_of {b j : Nat} (h1 : b ≤ j) (h2 : j < b + 8) : j = b + (fin8 (j - b)).val := by
  rw [fin8_of (by omega)]; omega
theorem xj_ne {b j : Nat} {x : Fin 8} (hne : j ≠ b + x.val) (h1 : b ≤ j) (h2 : j < b + 8) : ¬ fin8 (j - b) = x := fun q => hne (by rw [← q]; exact xj_of h1 h2)
theorem cX_of {j : Nat} (hj : j < 46) (hO : j = 0 → fO ad M = fO ad M') (hS : j = 1 → fS ad M = fS ad M') (hR : j = 3 → M.2.2.1 = M'.2.2.1) (hA : j = 4 → fA ad M = fA ad M') (hK : j = 5 → fK ad M = fK ad M')
    (hT : 6 ≤ j → j < 14 → fT ad M (fin8 (j - 6)) = fT ad M' (fin8 (j - 6))) (hJ : 14 ≤ j → j < 22 → fJ ad M (fin8 (j - 14)) = fJ ad M' (fin8 (j - 14)))
    (h2 : 22 ≤ j → j < 30 → M.1 2 (fin8 (j - 22)) = M'.1 2 (fin8 (j - 22))) (h3 : 30 ≤ j → j < 38 → M.1 3 (fin8 (j - 30)) = M'.1 3 (fin8 (j - 30))) (h4 : 38 ≤ j → j < 46 → M.1 4 (fin8 (j - 38)) = M'.1 4 (fin8 (j - 38))) : cX cI cT ad M j = cX cI cT ad M' j := by
  unfold cX
  by_cases c0 : j = 0
  · rw [if_pos c0, if_pos c0, hO c0]
  rw [if_neg c0, if_neg c0]
  by_cases c1 : j = 1
  · rw [if_pos c1, if_pos c1, hS c1]
  rw [if_neg c1, if_neg c1]
  by_cases c2 : j = 2
  · rw [if_pos c2, if_pos c2]
  rw [if_neg c2, if_neg c2]
  by_cases c3 : j = 3
  · rw [if_pos c3, if_pos c3, hR c3]
  rw [if_neg c3, if_neg c3]
  by_cases c4 : j = 4
  · rw [if_pos c4, if_pos c4, hA c4]
  rw [if_neg c4, if_neg c4]
  by_cases c5 : j = 5
  · rw [if_pos c5, if_pos c5, hK c5]
  rw [if_neg c5, if_neg c5]
  by_cases c6 : j < 14
  · rw [if_pos c6, if_pos c6, hT (by omega) c6]
  rw [if_neg c6, if_neg c6]
  by_cases c7 : j < 22
  · rw [if_pos c7, if_pos c7, hJ (by omega) c7]
  rw [if_neg c7, if_neg c7]
  by_cases c8 : j < 30
  · rw [if_pos c8, if_pos c8, h2 (by omega) c8]
  rw [if_neg c8, if_neg c8]
  by_cases c9 : j < 38
  · rw [if_pos c9, if_pos c9, h3 (by omega) c9]
  rw [if_neg c9, if_neg c9, h4 (by omega) hj]
theorem xs_T (x : Fin 8) (k : Nat) (v : Int32) (hk : k = 0 ∨ k = 3 ∨ k = 4 ∨ k = 5 ∨ k = 6 ∨ k = 7 ∨ k = 8 ∨ k = 9 ∨ k = 10 ∨ k = 11 ∨ k = 12) : (wX cI cT ad M).set (6 + x.val) (ad (6 + x.val), .inr (3, (fT ad M x).set k (.int v))) = wX cI cT ad (sF M 0 x k v) := by
  refine wl_set ?_ (fun j hj hne => ?_)
  · rw [xc_T]
    refine congrArg (fun z => Sum.inr (3, z)) ?_
    rcases hk with rfl | rfl | rfl | rfl | rfl | rfl | rfl | rfl | rfl | rfl | rfl <;> simp [fT, sF]
  · exact cX_of hj (fun _ => rfl) (fun _ => rfl) (fun _ => rfl) (fun _ => rfl) (fun _ => rfl) (fun h1 h2 => by simp [fT, sF, xj_ne hne h1 h2]) (fun _ _ => by simp [fJ, sF, sG, sR, sU, sP]) (fun _ _ => by funext a; simp [sF, sG, sR, sU, sP]) (fun _ _ => by funext a; simp [sF, sG, sR, sU, sP]) (fun _ _ => by funext a; simp [sF, sG, sR, sU, sP])
theorem xs_J (x : Fin 8) (k : Nat) (v : Int32) (hk : k = 2 ∨ k = 3 ∨ k = 4 ∨ k = 5 ∨ k = 6 ∨ k = 7) : (wX cI cT ad M).set (14 + x.val) (ad (14 + x.val), .inr (1, (fJ ad M x).set k (.int v))) = wX cI cT ad (sF M 1 x k v) := by
  refine wl_set ?_ (fun j hj hne => ?_)
  · rw [xc_J]
    refine congrArg (fun z => Sum.inr (1, z)) ?_
    rcases hk with rfl | rfl | rfl | rfl | rfl | rfl <;> simp [fJ, sF]
  · exact cX_of hj (fun _ => rfl) (fun _ => rfl) (fun _ => rfl) (fun _ => rfl) (fun _ => rfl) (fun _ _ => by simp [fT, sF, sG, sR, sU, sP]) (fun h1 h2 => by simp [fJ, sF, xj_ne hne h1 h2]) (fun _ _ => by funext a; simp [sF, sG, sR, sU, sP]) (fun _ _ => by funext a; simp [sF, sG, sR, sU, sP]) (fun _ _ => by funext a; simp [sF, sG, sR, sU, sP])
theorem xs_sg (x : Fin 8) (i : Nat) (v : Int32) : (wX cI cT ad M).set (22 + x.val) (ad (22 + x.val), .inl (cI, 8, .inl (upd (M.1 2 x) i v))) = wX cI cT ad (sF M 2 x i v) := by
  refine wl_set ?_ (fun j hj hne => ?_)
  · rw [xc_sg]
    refine congrArg (fun z => Sum.inl (cI, 8, Sum.inl z)) ?_
    funext a
    simp [sF, upd]
  · exact cX_of hj (fun _ => rfl) (fun _ => rfl) (fun _ => rfl) (fun _ => rfl) (fun _ => rfl) (fun _ _ => by simp [fT, sF, sG, sR, sU, sP]) (fun _ _ => by simp [fJ, sF, sG, sR, sU, sP]) (fun h1 h2 => by funext a; simp [sF, xj_ne hne h1 h2]) (fun _ _ => by funext a; simp [sF, sG, sR, sU, sP]) (fun _ _ => by funext a; simp [sF, sG, sR, sU, sP])
theorem xs_ar (x : Fin 8) (i : Nat) (v : Int32) : (wX cI cT ad M).set (30 + x.val) (ad (30 + x.val), .inl (cI, 9, .inl (upd (M.1 3 x) i v))) = wX cI cT ad (sF M 3 x i v) := by
  refine wl_set ?_ (fun j hj hne => ?_)
  · rw [xc_ar]
    refine congrArg (fun z => Sum.inl (cI, 9, Sum.inl z)) ?_
    funext a
    simp [sF, upd]
  · exact cX_of hj (fun _ => rfl) (fun _ => rfl) (fun _ => rfl) (fun _ => rfl) (fun _ => rfl) (fun _ _ => by simp [fT, sF, sG, sR, sU, sP]) (fun _ _ => by simp [fJ, sF, sG, sR, sU, sP]) (fun _ _ => by funext a; simp [sF, sG, sR, sU, sP]) (fun h1 h2 => by funext a; simp [sF, xj_ne hne h1 h2]) (fun _ _ => by funext a; simp [sF, sG, sR, sU, sP])
theorem xs_no (x : Fin 8) (i : Nat) (v : Int32) : (wX cI cT ad M).set (38 + x.val) (ad (38 + x.val), .inl (cI, 200, .inl (upd (M.1 4 x) i v))) = wX cI cT ad (sF M 4 x i v) := by
  refine wl_set ?_ (fun j hj hne => ?_)
  · rw [xc_no]
    refine congrArg (fun z => Sum.inl (cI, 200, Sum.inl z)) ?_
    funext a
    simp [sF, upd]
  · exact cX_of hj (fun _ => rfl) (fun _ => rfl) (fun _ => rfl) (fun _ => rfl) (fun _ => rfl) (fun _ _ => by simp [fT, sF, sG, sR, sU, sP]) (fun _ _ => by simp [fJ, sF, sG, sR, sU, sP]) (fun _ _ => by funext a; simp [sF, sG, sR, sU, sP]) (fun _ _ => by funext a; simp [sF, sG, sR, sU, sP]) (fun h1 h2 => by funext a; simp [sF, xj_ne hne h1 h2])
theorem xs_S (k : Nat) (v : Int32) (hk : k = 2) : (wX cI cT ad M).set 1 (ad 1, .inr (4, (fS ad M).set k (.int v))) = wX cI cT ad (sG M 0 k v) := by
  refine wl_set ?_ (fun j hj hne => ?_)
  · refine congrArg (fun z => Sum.inr (4, z)) ?_
    rcases hk with rfl <;> simp [fS, sG]
  · exact cX_of hj (fun _ => rfl) (fun q => absurd q hne) (fun _ => rfl) (fun _ => by simp [fA, sG]) (fun _ => by simp [fK, sG]) (fun _ _ => by simp [fT, sF, sG, sR, sU, sP]) (fun _ _ => by simp [fJ, sF, sG, sR, sU, sP]) (fun _ _ => by funext a; simp [sF, sG, sR, sU, sP]) (fun _ _ => by funext a; simp [sF, sG, sR, sU, sP]) (fun _ _ => by funext a; simp [sF, sG, sR, sU, sP])
theorem xs_A (k : Nat) (v : Int32) (hk : k = 1 ∨ k = 2) : (wX cI cT ad M).set 4 (ad 4, .inr (0, (fA ad M).set k (.int v))) = wX cI cT ad (sG M 1 k v) := by
  refine wl_set ?_ (fun j hj hne => ?_)
  · refine congrArg (fun z => Sum.inr (0, z)) ?_
    rcases hk with rfl | rfl <;> simp [fA, sG]
  · exact cX_of hj (fun _ => rfl) (fun _ => by simp [fS, sG]) (fun _ => rfl) (fun q => absurd q hne) (fun _ => by simp [fK, sG]) (fun _ _ => by simp [fT, sF, sG, sR, sU, sP]) (fun _ _ => by simp [fJ, sF, sG, sR, sU, sP]) (fun _ _ => by funext a; simp [sF, sG, sR, sU, sP]) (fun _ _ => by funext a; simp [sF, sG, sR, sU, sP]) (fun _ _ => by funext a; simp [sF, sG, sR, sU, sP])
theorem xs_K (k : Nat) (v : Int32) (hk : k = 1 ∨ k = 2 ∨ k = 3) : (wX cI cT ad M).set 5 (ad 5, .inr (2, (fK ad M).set k (.int v))) = wX cI cT ad (sG M 2 k v) := by
  refine wl_set ?_ (fun j hj hne => ?_)
  · refine congrArg (fun z => Sum.inr (2, z)) ?_
    rcases hk with rfl | rfl | rfl <;> simp [fK, sG]
  · exact cX_of hj (fun _ => rfl) (fun _ => by simp [fS, sG]) (fun _ => rfl) (fun _ => by simp [fA, sG]) (fun q => absurd q hne) (fun _ _ => by simp [fT, sF, sG, sR, sU, sP]) (fun _ _ => by simp [fJ, sF, sG, sR, sU, sP]) (fun _ _ => by funext a; simp [sF, sG, sR, sU, sP]) (fun _ _ => by funext a; simp [sF, sG, sR, sU, sP]) (fun _ _ => by funext a; simp [sF, sG, sR, sU, sP])
theorem xs_U (o : Option (Fin 8)) : (wX cI cT ad M).set 5 (ad 5, .inr (2, (fK ad M).set 4 (va_rf (gw_oa ad o)))) = wX cI cT ad (sU M o) := by
  refine wl_set ?_ (fun j hj hne => ?_)
  · rfl
  · exact cX_of hj (fun _ => rfl) (fun _ => rfl) (fun _ => rfl) (fun _ => rfl) (fun q => absurd q hne) (fun _ _ => by simp [fT, sF, sG, sR, sU, sP]) (fun _ _ => by simp [fJ, sF, sG, sR, sU, sP]) (fun _ _ => by funext a; simp [sF, sG, sR, sU, sP]) (fun _ _ => by funext a; simp [sF, sG, sR, sU, sP]) (fun _ _ => by funext a; simp [sF, sG, sR, sU, sP])
theorem xs_P (o : Option (Fin 8)) : (wX cI cT ad M).set 5 (ad 5, .inr (2, (fK ad M).set 5 (va_rf (gw_oa ad o)))) = wX cI cT ad (sP M o) := by
  refine wl_set ?_ (fun j hj hne => ?_)
  · rfl
  · exact cX_of hj (fun _ => rfl) (fun _ => rfl) (fun _ => rfl) (fun _ => rfl) (fun q => absurd q hne) (fun _ _ => by simp [fT, sF, sG, sR, sU, sP]) (fun _ _ => by simp [fJ, sF, sG, sR, sU, sP]) (fun _ _ => by funext a; simp [sF, sG, sR, sU, sP]) (fun _ _ => by funext a; simp [sF, sG, sR, sU, sP]) (fun _ _ => by funext a; simp [sF, sG, sR, sU, sP])
theorem xs_rk (i : Nat) (x : Fin 8) : (wX cI cT ad M).set 3 (ad 3, .inl (cT, 8, .inr (.inr (.inr (.inr (va_up (fun k => some (ad (6 + (M.2.2.1 k).val))) i (some (ad (6 + x.val))))))))) = wX cI cT ad (sR M i x) := by
  refine wl_set ?_ (fun j hj hne => ?_)
  · refine congrArg (fun z => Sum.inl (cT, 8, Sum.inr (Sum.inr (Sum.inr (Sum.inr z))))) ?_
    funext a
    by_cases h : a = i <;> simp [sR, va_up, h]
  · exact cX_of hj (fun _ => rfl) (fun _ => rfl) (fun q => absurd q hne) (fun _ => rfl) (fun _ => rfl) (fun _ _ => by simp [fT, sF, sG, sR, sU, sP]) (fun _ _ => by simp [fJ, sF, sG, sR, sU, sP]) (fun _ _ => by funext a; simp [sF, sG, sR, sU, sP]) (fun _ _ => by funext a; simp [sF, sG, sR, sU, sP]) (fun _ _ => by funext a; simp [sF, sG, sR, sU, sP])
theorem xi_inj {D : va_G} {tys : List (ClassId × FieldType)} {A : Nat → Prop} {s : State} {H : Heap} {locs : List Loc} (hw : gw_W D tys A (wX cI cT ad M) s H locs) : ∀ x y : Fin 8, ad (6 + x.val) = ad (6 + y.val) → x = y := by
  intro x y h
  have h1 := hw.2.2.1.1 (6 + x.val) (6 + y.val) _ _ (xa_T x) (xa_T y) h
  exact Fin.ext (by omega)
end SetX
def fY (ad : Nat → Nat) (M : MY) : List Value := [.int (M.2 0), .ref (ad 1), .ref (ad 2), .ref (ad 3), .ref (ad 4), .ref (ad 5), .ref (ad 6), .ref (ad 7), .ref (ad 8), .int (M.2 9), .int (M.2 10), .int (M.2 11), .int (M.2 12), .int (M.2 13), .int (M.2 14), .int (M.2 15), .ref (ad 9), .ref (ad 10), .ref (ad 11), .ref (ad 12), .ref (ad 13), .ref (ad 14), .ref (ad 15), .ref (ad 16), .ref (ad 17), .int (M.2 25), .int (M.2 26), .int (M.2 27), .int (M.2 28)]
def cY (cI cZ : ClassId) (ad : Nat → Nat) (M : MY) (c : Nat) : va_E :=
  if c = 0 then .inr (6, fY ad M)
  else if c = 1 then .inl (cZ, 9, .inl (M.1 1))
  else if c = 2 then .inl (cI, 9, .inl (M.1 2))
  else if c = 3 then .inl (cI, 9, .inl (M.1 3))
  else if c = 4 then .inl (cI, 9, .inl (M.1 4))
  else if c = 5 then .inl (cI, 9, .inl (M.1 5))
  else if c = 6 then .inl (cI, 72, .inl (M.1 6))
  else if c = 7 then .inl (cI, 9, .inl (M.1 7))
  else if c = 8 then .inl (cI, 9, .inl (M.1 8))
  else if c = 9 then .inl (cI, 9, .inl (M.1 9))
  else if c = 10 then .inl (cI, 9, .inl (M.1 10))
  else if c = 11 then .inl (cI, 9, .inl (M.1 11))
  else if c = 12 then .inl (cI, 81, .inl (M.1 12))
  else if c = 13 then .inl (cI, 9, .inl (M.1 13))
  else if c = 14 then .inl (cI, 9, .inl (M.1 14))
  else if c = 15 then .inl (cI, 9, .inl (M.1 15))
  else if c = 16 then .inl (cI, 9, .inl (M.1 16))
  else .inl (cI, 1800, .inl (M.1 17))
def wY (cI cZ : ClassId) (ad : Nat → Nat) (M : MY) : va_W := wl ad 18 (cY cI cZ ad M)
abbrev tyY (cI cZ : ClassId) : List (ClassId × FieldType) := [(cI, .int), (cZ, .boolean)]
section AtY
variable {cI cZ : ClassId} {ad : Nat → Nat} {M : MY}
theorem ya_R : (wY cI cZ ad M)[0]? = some (ad 0, .inr (6, fY ad M)) := wl_at (by decide)
theorem ya_a1 : (wY cI cZ ad M)[1]? = some (ad 1, .inl (cZ, 9, .inl (M.1 1))) := wl_at (by decide)
theorem ya_a2 : (wY cI cZ ad M)[2]? = some (ad 2, .inl (cI, 9, .inl (M.1 2))) := wl_at (by decide)
theorem ya_a3 : (wY cI cZ ad M)[3]? = some (ad 3, .inl (cI, 9, .inl (M.1 3))) := wl_at (by decide)
theorem ya_a4 : (wY cI cZ ad M)[4]? = some (ad 4, .inl (cI, 9, .inl (M.1 4))) := wl_at (by decide)
theorem ya_a5 : (wY cI cZ ad M)[5]? = some (ad 5, .inl (cI, 9, .inl (M.1 5))) := wl_at (by decide)
theorem ya_a6 : (wY cI cZ ad M)[6]? = some (ad 6, .inl (cI, 72, .inl (M.1 6))) := wl_at (by decide)
theorem ya_a7 : (wY cI cZ ad M)[7]? = some (ad 7, .inl (cI, 9, .inl (M.1 7))) := wl_at (by decide)
theorem ya_a8 : (wY cI cZ ad M)[8]? = some (ad 8, .inl (cI, 9, .inl (M.1 8))) := wl_at (by decide)
theorem ya_a9 : (wY cI cZ ad M)[9]? = some (ad 9, .inl (cI, 9, .inl (M.1 9))) := wl_at (by decide)
theorem ya_a10 : (wY cI cZ ad M)[10]? = some (ad 10, .inl (cI, 9, .inl (M.1 10))) := wl_at (by decide)
theorem ya_a11 : (wY cI cZ ad M)[11]? = some (ad 11, .inl (cI, 9, .inl (M.1 11))) := wl_at (by decide)
theorem ya_a12 : (wY cI cZ ad M)[12]? = some (ad 12, .inl (cI, 81, .inl (M.1 12))) := wl_at (by decide)
theorem ya_a13 : (wY cI cZ ad M)[13]? = some (ad 13, .inl (cI, 9, .inl (M.1 13))) := wl_at (by decide)
theorem ya_a14 : (wY cI cZ ad M)[14]? = some (ad 14, .inl (cI, 9, .inl (M.1 14))) := wl_at (by decide)
theorem ya_a15 : (wY cI cZ ad M)[15]? = some (ad 15, .inl (cI, 9, .inl (M.1 15))) := wl_at (by decide)
theorem ya_a16 : (wY cI cZ ad M)[16]? = some (ad 16, .inl (cI, 9, .inl (M.1 16))) := wl_at (by decide)
theorem ya_a17 : (wY cI cZ ad M)[17]? = some (ad 17, .inl (cI, 1800, .inl (M.1 17))) := wl_at (by decide)
theorem cY_of {M' : MY} {j : Nat} (hj : j < 18) (h0 : j = 0 → fY ad M = fY ad M') (h1 : j = 1 → M.1 1 = M'.1 1) (h2 : j = 2 → M.1 2 = M'.1 2) (h3 : j = 3 → M.1 3 = M'.1 3) (h4 : j = 4 → M.1 4 = M'.1 4) (h5 : j = 5 → M.1 5 = M'.1 5) (h6 : j = 6 → M.1 6 = M'.1 6) (h7 : j = 7 → M.1 7 = M'.1 7) (h8 : j = 8 → M.1 8 = M'.1 8) (h9 : j = 9 → M.1 9 = M'.1 9) (h10 : j = 10 → M.1 10 = M'.1 10) (h11 : j = 11 → M.1 11 = M'.1 11) (h12 : j = 12 → M.1 12 = M'.1 12) (h13 : j = 13 → M.1 13 = M'.1 13) (h14 : j = 14 → M.1 14 = M'.1 14) (h15 : j = 15 → M.1 15 = M'.1 15) (h16 : j = 16 → M.1 16 = M'.1 16) (h17 : j = 17 → M.1 17 = M'.1 17) : cY cI cZ ad M j = cY cI cZ ad M' j := by
  unfold cY
  by_cases c0 : j = 0
  · rw [if_pos c0, if_pos c0, h0 c0]
  rw [if_neg c0, if_neg c0]
  by_cases c1 : j = 1
  · rw [if_pos c1, if_pos c1, h1 c1]
  rw [if_neg c1, if_neg c1]
  by_cases c2 : j = 2
  · rw [if_pos c2, if_pos c2, h2 c2]
  rw [if_neg c2, if_neg c2]
  by_cases c3 : j = 3
  · rw [if_pos c3, if_pos c3, h3 c3]
  rw [if_neg c3, if_neg c3]
  by_cases c4 : j = 4
  · rw [if_pos c4, if_pos c4, h4 c4]
  rw [if_neg c4, if_neg c4]
  by_cases c5 : j = 5
  · rw [if_pos c5, if_pos c5, h5 c5]
  rw [if_neg c5, if_neg c5]
  by_cases c6 : j = 6
  · rw [if_pos c6, if_pos c6, h6 c6]
  rw [if_neg c6, if_neg c6]
  by_cases c7 : j = 7
  · rw [if_pos c7, if_pos c7, h7 c7]
  rw [if_neg c7, if_neg c7]
  by_cases c8 : j = 8
  · rw [if_pos c8, if_pos c8, h8 c8]
  rw [if_neg c8, if_neg c8]
  by_cases c9 : j = 9
  · rw [if_pos c9, if_pos c9, h9 c9]
  rw [if_neg c9, if_neg c9]
  by_cases c10 : j = 10
  · rw [if_pos c10, if_pos c10, h10 c10]
  rw [if_neg c10, if_neg c10]
  by_cases c11 : j = 11
  · rw [if_pos c11, if_pos c11, h11 c11]
  rw [if_neg c11, if_neg c11]
  by_cases c12 : j = 12
  · rw [if_pos c12, if_pos c12, h12 c12]
  rw [if_neg c12, if_neg c12]
  by_cases c13 : j = 13
  · rw [if_pos c13, if_pos c13, h13 c13]
  rw [if_neg c13, if_neg c13]
  by_cases c14 : j = 14
  · rw [if_pos c14, if_pos c14, h14 c14]
  rw [if_neg c14, if_neg c14]
  by_cases c15 : j = 15
  · rw [if_pos c15, if_pos c15, h15 c15]
  rw [if_neg c15, if_neg c15]
  by_cases c16 : j = 16
  · rw [if_pos c16, if_pos c16, h16 c16]
  rw [if_neg c16, if_neg c16]
  rw [h17 (by omega)]
theorem ys_R (k : Nat) (v : Int32) (hk : k = 0 ∨ k = 9 ∨ k = 10 ∨ k = 11 ∨ k = 12 ∨ k = 13 ∨ k = 14 ∨ k = 15 ∨ k = 25 ∨ k = 26 ∨ k = 27 ∨ k = 28) : (wY cI cZ ad M).set 0 (ad 0, .inr (6, (fY ad M).set k (.int v))) = wY cI cZ ad (sV M k v) := by
  refine wl_set ?_ (fun j hj hne => ?_)
  · refine congrArg (fun z => Sum.inr (6, z)) ?_
    rcases hk with rfl | rfl | rfl | rfl | rfl | rfl | rfl | rfl | rfl | rfl | rfl | rfl <;> simp [fY, sV]
  · exact cY_of hj (fun q => absurd q hne) (fun _ => rfl) (fun _ => rfl) (fun _ => rfl) (fun _ => rfl) (fun _ => rfl) (fun _ => rfl) (fun _ => rfl) (fun _ => rfl) (fun _ => rfl) (fun _ => rfl) (fun _ => rfl) (fun _ => rfl) (fun _ => rfl) (fun _ => rfl) (fun _ => rfl) (fun _ => rfl) (fun _ => rfl)
theorem ys_a1 (i : Nat) (v : Int32) : (wY cI cZ ad M).set 1 (ad 1, .inl (cZ, 9, .inl (upd (M.1 1) i v))) = wY cI cZ ad (sA M 1 i v) := by
  refine wl_set ?_ (fun j hj hne => ?_)
  · refine congrArg (fun z => Sum.inl (cZ, 9, Sum.inl z)) ?_
    funext a
    simp [sA, upd]
  · exact cY_of hj (fun _ => rfl) (fun q => absurd q hne) (fun _ => by funext a; simp [sA]) (fun _ => by funext a; simp [sA]) (fun _ => by funext a; simp [sA]) (fun _ => by funext a; simp [sA]) (fun _ => by funext a; simp [sA]) (fun _ => by funext a; simp [sA]) (fun _ => by funext a; simp [sA]) (fun _ => by funext a; simp [sA]) (fun _ => by funext a; simp [sA]) (fun _ => by funext a; simp [sA]) (fun _ => by funext a; simp [sA]) (fun _ => by funext a; simp [sA]) (fun _ => by funext a; simp [sA]) (fun _ => by funext a; simp [sA]) (fun _ => by funext a; simp [sA]) (fun _ => by funext a; simp [sA])
theorem ys_a2 (i : Nat) (v : Int32) : (wY cI cZ ad M).set 2 (ad 2, .inl (cI, 9, .inl (upd (M.1 2) i v))) = wY cI cZ ad (sA M 2 i v) := by
  refine wl_set ?_ (fun j hj hne => ?_)
  · refine congrArg (fun z => Sum.inl (cI, 9, Sum.inl z)) ?_
    funext a
    simp [sA, upd]
  · exact cY_of hj (fun _ => rfl) (fun _ => by funext a; simp [sA]) (fun q => absurd q hne) (fun _ => by funext a; simp [sA]) (fun _ => by funext a; simp [sA]) (fun _ => by funext a; simp [sA]) (fun _ => by funext a; simp [sA]) (fun _ => by funext a; simp [sA]) (fun _ => by funext a; simp [sA]) (fun _ => by funext a; simp [sA]) (fun _ => by funext a; simp [sA]) (fun _ => by funext a; simp [sA]) (fun _ => by funext a; simp [sA]) (fun _ => by funext a; simp [sA]) (fun _ => by funext a; simp [sA]) (fun _ => by funext a; simp [sA]) (fun _ => by funext a; simp [sA]) (fun _ => by funext a; simp [sA])
theorem ys_a3 (i : Nat) (v : Int32) : (wY cI cZ ad M).set 3 (ad 3, .inl (cI, 9, .inl (upd (M.1 3) i v))) = wY cI cZ ad (sA M 3 i v) := by
  refine wl_set ?_ (fun j hj hne => ?_)
  · refine congrArg (fun z => Sum.inl (cI, 9, Sum.inl z)) ?_
    funext a
    simp [sA, upd]
  · exact cY_of hj (fun _ => rfl) (fun _ => by funext a; simp [sA]) (fun _ => by funext a; simp [sA]) (fun q => absurd q hne) (fun _ => by funext a; simp [sA]) (fun _ => by funext a; simp [sA]) (fun _ => by funext a; simp [sA]) (fun _ => by funext a; simp [sA]) (fun _ => by funext a; simp [sA]) (fun _ => by funext a; simp [sA]) (fun _ => by funext a; simp [sA]) (fun _ => by funext a; simp [sA]) (fun _ => by funext a; simp [sA]) (fun _ => by funext a; simp [sA]) (fun _ => by funext a; simp [sA]) (fun _ => by funext a; simp [sA]) (fun _ => by funext a; simp [sA]) (fun _ => by funext a; simp [sA])
theorem ys_a4 (i : Nat) (v : Int32) : (wY cI cZ ad M).set 4 (ad 4, .inl (cI, 9, .inl (upd (M.1 4) i v))) = wY cI cZ ad (sA M 4 i v) := by
  refine wl_set ?_ (fun j hj hne => ?_)
  · refine congrArg (fun z => Sum.inl (cI, 9, Sum.inl z)) ?_
    funext a
    simp [sA, upd]
  · exact cY_of hj (fun _ => rfl) (fun _ => by funext a; simp [sA]) (fun _ => by funext a; simp [sA]) (fun _ => by funext a; simp [sA]) (fun q => absurd q hne) (fun _ => by funext a; simp [sA]) (fun _ => by funext a; simp [sA]) (fun _ => by funext a; simp [sA]) (fun _ => by funext a; simp [sA]) (fun _ => by funext a; simp [sA]) (fun _ => by funext a; simp [sA]) (fun _ => by funext a; simp [sA]) (fun _ => by funext a; simp [sA]) (fun _ => by funext a; simp [sA]) (fun _ => by funext a; simp [sA]) (fun _ => by funext a; simp [sA]) (fun _ => by funext a; simp [sA]) (fun _ => by funext a; simp [sA])
theorem ys_a5 (i : Nat) (v : Int32) : (wY cI cZ ad M).set 5 (ad 5, .inl (cI, 9, .inl (upd (M.1 5) i v))) = wY cI cZ ad (sA M 5 i v) := by
  refine wl_set ?_ (fun j hj hne => ?_)
  · refine congrArg (fun z => Sum.inl (cI, 9, Sum.inl z)) ?_
    funext a
    simp [sA, upd]
  · exact cY_of hj (fun _ => rfl) (fun _ => by funext a; simp [sA]) (fun _ => by funext a; simp [sA]) (fun _ => by funext a; simp [sA]) (fun _ => by funext a; simp [sA]) (fun q => absurd q hne) (fun _ => by funext a; simp [sA]) (fun _ => by funext a; simp [sA]) (fun _ => by funext a; simp [sA]) (fun _ => by funext a; simp [sA]) (fun _ => by funext a; simp [sA]) (fun _ => by funext a; simp [sA]) (fun _ => by funext a; simp [sA]) (fun _ => by funext a; simp [sA]) (fun _ => by funext a; simp [sA]) (fun _ => by funext a; simp [sA]) (fun _ => by funext a; simp [sA]) (fun _ => by funext a; simp [sA])
theorem ys_a6 (i : Nat) (v : Int32) : (wY cI cZ ad M).set 6 (ad 6, .inl (cI, 72, .inl (upd (M.1 6) i v))) = wY cI cZ ad (sA M 6 i v) := by
  refine wl_set ?_ (fun j hj hne => ?_)
  · refine congrArg (fun z => Sum.inl (cI, 72, Sum.inl z)) ?_
    funext a
    simp [sA, upd]
  · exact cY_of hj (fun _ => rfl) (fun _ => by funext a; simp [sA]) (fun _ => by funext a; simp [sA]) (fun _ => by funext a; simp [sA]) (fun _ => by funext a; simp [sA]) (fun _ => by funext a; simp [sA]) (fun q => absurd q hne) (fun _ => by funext a; simp [sA]) (fun _ => by funext a; simp [sA]) (fun _ => by funext a; simp [sA]) (fun _ => by funext a; simp [sA]) (fun _ => by funext a; simp [sA]) (fun _ => by funext a; simp [sA]) (fun _ => by funext a; simp [sA]) (fun _ => by funext a; simp [sA]) (fun _ => by funext a; simp [sA]) (fun _ => by funext a; simp [sA]) (fun _ => by funext a; simp [sA])
theorem ys_a7 (i : Nat) (v : Int32) : (wY cI cZ ad M).set 7 (ad 7, .inl (cI, 9, .inl (upd (M.1 7) i v))) = wY cI cZ ad (sA M 7 i v) := by
  refine wl_set ?_ (fun j hj hne => ?_)
  · refine congrArg (fun z => Sum.inl (cI, 9, Sum.inl z)) ?_
    funext a
    simp [sA, upd]
  · exact cY_of hj (fun _ => rfl) (fun _ => by funext a; simp [sA]) (fun _ => by funext a; simp [sA]) (fun _ => by funext a; simp [sA]) (fun _ => by funext a; simp [sA]) (fun _ => by funext a; simp [sA]) (fun _ => by funext a; simp [sA]) (fun q => absurd q hne) (fun _ => by funext a; simp [sA]) (fun _ => by funext a; simp [sA]) (fun _ => by funext a; simp [sA]) (fun _ => by funext a; simp [sA]) (fun _ => by funext a; simp [sA]) (fun _ => by funext a; simp [sA]) (fun _ => by funext a; simp [sA]) (fun _ => by funext a; simp [sA]) (fun _ => by funext a; simp [sA]) (fun _ => by funext a; simp [sA])
theorem ys_a8 (i : Nat) (v : Int32) : (wY cI cZ ad M).set 8 (ad 8, .inl (cI, 9, .inl (upd (M.1 8) i v))) = wY cI cZ ad (sA M 8 i v) := by
  refine wl_set ?_ (fun j hj hne => ?_)
  · refine congrArg (fun z => Sum.inl (cI, 9, Sum.inl z)) ?_
    funext a
    simp [sA, upd]
  · exact cY_of hj (fun _ => rfl) (fun _ => by funext a; simp [sA]) (fun _ => by funext a; simp [sA]) (fun _ => by funext a; simp [sA]) (fun _ => by funext a; simp [sA]) (fun _ => by funext a; simp [sA]) (fun _ => by funext a; simp [sA]) (fun _ => by funext a; simp [sA]) (fun q => absurd q hne) (fun _ => by funext a; simp [sA]) (fun _ => by funext a; simp [sA]) (fun _ => by funext a; simp [sA]) (fun _ => by funext a; simp [sA]) (fun _ => by funext a; simp [sA]) (fun _ => by funext a; simp [sA]) (fun _ => by funext a; simp [sA]) (fun _ => by funext a; simp [sA]) (fun _ => by funext a; simp [sA])
theorem ys_a9 (i : Nat) (v : Int32) : (wY cI cZ ad M).set 9 (ad 9, .inl (cI, 9, .inl (upd (M.1 9) i v))) = wY cI cZ ad (sA M 9 i v) := by
  refine wl_set ?_ (fun j hj hne => ?_)
  · refine congrArg (fun z => Sum.inl (cI, 9, Sum.inl z)) ?_
    funext a
    simp [sA, upd]
  · exact cY_of hj (fun _ => rfl) (fun _ => by funext a; simp [sA]) (fun _ => by funext a; simp [sA]) (fun _ => by funext a; simp [sA]) (fun _ => by funext a; simp [sA]) (fun _ => by funext a; simp [sA]) (fun _ => by funext a; simp [sA]) (fun _ => by funext a; simp [sA]) (fun _ => by funext a; simp [sA]) (fun q => absurd q hne) (fun _ => by funext a; simp [sA]) (fun _ => by funext a; simp [sA]) (fun _ => by funext a; simp [sA]) (fun _ => by funext a; simp [sA]) (fun _ => by funext a; simp [sA]) (fun _ => by funext a; simp [sA]) (fun _ => by funext a; simp [sA]) (fun _ => by funext a; simp [sA])
theorem ys_a10 (i : Nat) (v : Int32) : (wY cI cZ ad M).set 10 (ad 10, .inl (cI, 9, .inl (upd (M.1 10) i v))) = wY cI cZ ad (sA M 10 i v) := by
  refine wl_set ?_ (fun j hj hne => ?_)
  · refine congrArg (fun z => Sum.inl (cI, 9, Sum.inl z)) ?_
    funext a
    simp [sA, upd]
  · exact cY_of hj (fun _ => rfl) (fun _ => by funext a; simp [sA]) (fun _ => by funext a; simp [sA]) (fun _ => by funext a; simp [sA]) (fun _ => by funext a; simp [sA]) (fun _ => by funext a; simp [sA]) (fun _ => by funext a; simp [sA]) (fun _ => by funext a; simp [sA]) (fun _ => by funext a; simp [sA]) (fun _ => by funext a; simp [sA]) (fun q => absurd q hne) (fun _ => by funext a; simp [sA]) (fun _ => by funext a; simp [sA]) (fun _ => by funext a; simp [sA]) (fun _ => by funext a; simp [sA]) (fun _ => by funext a; simp [sA]) (fun _ => by funext a; simp [sA]) (fun _ => by funext a; simp [sA])
theorem ys_a11 (i : Nat) (v : Int32) : (wY cI cZ ad M).set 11 (ad 11, .inl (cI, 9, .inl (upd (M.1 11) i v))) = wY cI cZ ad (sA M 11 i v) := by
  refine wl_set ?_ (fun j hj hne => ?_)
  · refine congrArg (fun z => Sum.inl (cI, 9, Sum.inl z)) ?_
    funext a
    simp [sA, upd]
  · exact cY_of hj (fun _ => rfl) (fun _ => by funext a; simp [sA]) (fun _ => by funext a; simp [sA]) (fun _ => by funext a; simp [sA]) (fun _ => by funext a; simp [sA]) (fun _ => by funext a; simp [sA]) (fun _ => by funext a; simp [sA]) (fun _ => by funext a; simp [sA]) (fun _ => by funext a; simp [sA]) (fun _ => by funext a; simp [sA]) (fun _ => by funext a; simp [sA]) (fun q => absurd q hne) (fun _ => by funext a; simp [sA]) (fun _ => by funext a; simp [sA]) (fun _ => by funext a; simp [sA]) (fun _ => by funext a; simp [sA]) (fun _ => by funext a; simp [sA]) (fun _ => by funext a; simp [sA])
theorem ys_a12 (i : Nat) (v : Int32) : (wY cI cZ ad M).set 12 (ad 12, .inl (cI, 81, .inl (upd (M.1 12) i v))) = wY cI cZ ad (sA M 12 i v) := by
  refine wl_set ?_ (fun j hj hne => ?_)
  · refine congrArg (fun z => Sum.inl (cI, 81, Sum.inl z)) ?_
    funext a
    simp [sA, upd]
  · exact cY_of hj (fun _ => rfl) (fun _ => by funext a; simp [sA]) (fun _ => by funext a; simp [sA]) (fun _ => by funext a; simp [sA]) (fun _ => by funext a; simp [sA]) (fun _ => by funext a; simp [sA]) (fun _ => by funext a; simp [sA]) (fun _ => by funext a; simp [sA]) (fun _ => by funext a; simp [sA]) (fun _ => by funext a; simp [sA]) (fun _ => by funext a; simp [sA]) (fun _ => by funext a; simp [sA]) (fun q => absurd q hne) (fun _ => by funext a; simp [sA]) (fun _ => by funext a; simp [sA]) (fun _ => by funext a; simp [sA]) (fun _ => by funext a; simp [sA]) (fun _ => by funext a; simp [sA])
theorem ys_a13 (i : Nat) (v : Int32) : (wY cI cZ ad M).set 13 (ad 13, .inl (cI, 9, .inl (upd (M.1 13) i v))) = wY cI cZ ad (sA M 13 i v) := by
  refine wl_set ?_ (fun j hj hne => ?_)
  · refine congrArg (fun z => Sum.inl (cI, 9, Sum.inl z)) ?_
    funext a
    simp [sA, upd]
  · exact cY_of hj (fun _ => rfl) (fun _ => by funext a; simp [sA]) (fun _ => by funext a; simp [sA]) (fun _ => by funext a; simp [sA]) (fun _ => by funext a; simp [sA]) (fun _ => by funext a; simp [sA]) (fun _ => by funext a; simp [sA]) (fun _ => by funext a; simp [sA]) (fun _ => by funext a; simp [sA]) (fun _ => by funext a; simp [sA]) (fun _ => by funext a; simp [sA]) (fun _ => by funext a; simp [sA]) (fun _ => by funext a; simp [sA]) (fun q => absurd q hne) (fun _ => by funext a; simp [sA]) (fun _ => by funext a; simp [sA]) (fun _ => by funext a; simp [sA]) (fun _ => by funext a; simp [sA])
theorem ys_a14 (i : Nat) (v : Int32) : (wY cI cZ ad M).set 14 (ad 14, .inl (cI, 9, .inl (upd (M.1 14) i v))) = wY cI cZ ad (sA M 14 i v) := by
  refine wl_set ?_ (fun j hj hne => ?_)
  · refine congrArg (fun z => Sum.inl (cI, 9, Sum.inl z)) ?_
    funext a
    simp [sA, upd]
  · exact cY_of hj (fun _ => rfl) (fun _ => by funext a; simp [sA]) (fun _ => by funext a; simp [sA]) (fun _ => by funext a; simp [sA]) (fun _ => by funext a; simp [sA]) (fun _ => by funext a; simp [sA]) (fun _ => by funext a; simp [sA]) (fun _ => by funext a; simp [sA]) (fun _ => by funext a; simp [sA]) (fun _ => by funext a; simp [sA]) (fun _ => by funext a; simp [sA]) (fun _ => by funext a; simp [sA]) (fun _ => by funext a; simp [sA]) (fun _ => by funext a; simp [sA]) (fun q => absurd q hne) (fun _ => by funext a; simp [sA]) (fun _ => by funext a; simp [sA]) (fun _ => by funext a; simp [sA])
theorem ys_a15 (i : Nat) (v : Int32) : (wY cI cZ ad M).set 15 (ad 15, .inl (cI, 9, .inl (upd (M.1 15) i v))) = wY cI cZ ad (sA M 15 i v) := by
  refine wl_set ?_ (fun j hj hne => ?_)
  · refine congrArg (fun z => Sum.inl (cI, 9, Sum.inl z)) ?_
    funext a
    simp [sA, upd]
  · exact cY_of hj (fun _ => rfl) (fun _ => by funext a; simp [sA]) (fun _ => by funext a; simp [sA]) (fun _ => by funext a; simp [sA]) (fun _ => by funext a; simp [sA]) (fun _ => by funext a; simp [sA]) (fun _ => by funext a; simp [sA]) (fun _ => by funext a; simp [sA]) (fun _ => by funext a; simp [sA]) (fun _ => by funext a; simp [sA]) (fun _ => by funext a; simp [sA]) (fun _ => by funext a; simp [sA]) (fun _ => by funext a; simp [sA]) (fun _ => by funext a; simp [sA]) (fun _ => by funext a; simp [sA]) (fun q => absurd q hne) (fun _ => by funext a; simp [sA]) (fun _ => by funext a; simp [sA])
theorem ys_a16 (i : Nat) (v : Int32) : (wY cI cZ ad M).set 16 (ad 16, .inl (cI, 9, .inl (upd (M.1 16) i v))) = wY cI cZ ad (sA M 16 i v) := by
  refine wl_set ?_ (fun j hj hne => ?_)
  · refine congrArg (fun z => Sum.inl (cI, 9, Sum.inl z)) ?_
    funext a
    simp [sA, upd]
  · exact cY_of hj (fun _ => rfl) (fun _ => by funext a; simp [sA]) (fun _ => by funext a; simp [sA]) (fun _ => by funext a; simp [sA]) (fun _ => by funext a; simp [sA]) (fun _ => by funext a; simp [sA]) (fun _ => by funext a; simp [sA]) (fun _ => by funext a; simp [sA]) (fun _ => by funext a; simp [sA]) (fun _ => by funext a; simp [sA]) (fun _ => by funext a; simp [sA]) (fun _ => by funext a; simp [sA]) (fun _ => by funext a; simp [sA]) (fun _ => by funext a; simp [sA]) (fun _ => by funext a; simp [sA]) (fun _ => by funext a; simp [sA]) (fun q => absurd q hne) (fun _ => by funext a; simp [sA])
theorem ys_a17 (i : Nat) (v : Int32) : (wY cI cZ ad M).set 17 (ad 17, .inl (cI, 1800, .inl (upd (M.1 17) i v))) = wY cI cZ ad (sA M 17 i v) := by
  refine wl_set ?_ (fun j hj hne => ?_)
  · refine congrArg (fun z => Sum.inl (cI, 1800, Sum.inl z)) ?_
    funext a
    simp [sA, upd]
  · exact cY_of hj (fun _ => rfl) (fun _ => by funext a; simp [sA]) (fun _ => by funext a; simp [sA]) (fun _ => by funext a; simp [sA]) (fun _ => by funext a; simp [sA]) (fun _ => by funext a; simp [sA]) (fun _ => by funext a; simp [sA]) (fun _ => by funext a; simp [sA]) (fun _ => by funext a; simp [sA]) (fun _ => by funext a; simp [sA]) (fun _ => by funext a; simp [sA]) (fun _ => by funext a; simp [sA]) (fun _ => by funext a; simp [sA]) (fun _ => by funext a; simp [sA]) (fun _ => by funext a; simp [sA]) (fun _ => by funext a; simp [sA]) (fun _ => by funext a; simp [sA]) (fun q => absurd q hne)
end AtY
