/-! THE LAW: its start: what the constructors leave is the first pair of memories -/
def MX0 : MX := (fun d x k => if d = 0 then (if k = 0 then nI x.val + 1 else if k = 8 then nI x.val + 1 - 1 else if k = 9 then -2 else if k = 12 then -2 else 0) else 0, fun _ _ => 0, fun k => fin8 k, none, none)
def MY0 : MY := (fun _ _ => 0, fun _ => 0)
theorem fr_perm {D : va_G} {tys : List (ClassId × FieldType)} {A : Nat → Prop} {w1 w2 : va_W} {s : State} {H : Heap} {locs : List Loc} (σ : Nat → Nat) (hσ : ∀ (k : Nat) (q : Nat × va_E), w2[k]? = some q → ∃ q', w1[σ k]? = some q' ∧ q'.1 = q.1 ∧ (va_at D vwCl q' H → va_at D vwCl q H)) (inj : ∀ i j, i < w2.length → j < w2.length → σ i = σ j → i = j) (hw : gw_W D tys A w1 s H locs) : gw_W D tys A w2 s H locs := by
  obtain ⟨hK, hP, hD, hS, hA⟩ := hw
  refine ⟨hK, fun k q hk => ?_, ⟨fun i j p q hi hj e => ?_, fun k q hk => ?_⟩, hS, hA⟩
  · obtain ⟨q', h1, h2, h3⟩ := hσ k q hk
    exact h3 (hP _ q' h1)
  · obtain ⟨p', h1, h2, -⟩ := hσ i p hi
    obtain ⟨q', g1, g2, -⟩ := hσ j q hj
    exact inj i j (List.getElem?_eq_some_iff.mp hi).1 (List.getElem?_eq_some_iff.mp hj).1 (hD.1 _ _ p' q' h1 g1 (by rw [h2, g2]; exact e))
  · obtain ⟨q', h1, h2, -⟩ := hσ k q hk
    rw [← h2]
    exact hD.2 _ q' h1
theorem cv_arr {D : va_G} {cA : ClassId} {q : Nat} {f g : Nat → Option Nat} {H : Heap} (h : va_at D vwCl (q, .inl (cA, 8, .inr (.inr (.inr (.inr f))))) H) (hfg : ∀ j, j < 8 → f j = g j := by intro j hj; rcases (show j = 0 ∨ j = 1 ∨ j = 2 ∨ j = 3 ∨ j = 4 ∨ j = 5 ∨ j = 6 ∨ j = 7 by omega) with rfl | rfl | rfl | rfl | rfl | rfl | rfl | rfl <;> rfl) : va_at D vwCl (q, .inl (cA, 8, .inr (.inr (.inr (.inr g))))) H := by
  have h1 : H[q]? = some (arrV cA 8 (fun j => va_rf (f j))) := h
  show H[q]? = some (arrV cA 8 (fun j => va_rf (g j)))
  rw [h1]
  unfold arrV
  have e : (Array.ofFn (n := 8) fun j => va_rf (f j.val)) = (Array.ofFn (n := 8) fun j => va_rf (g j.val)) := by
    congr 1
    funext j
    rw [hfg j.val j.isLt]
  rw [e]
def adX (h0 qs qa qk qb qr : Nat) (a : Nat → Nat) (c : Nat) : Nat :=
  if c = 0 then h0 else if c = 1 then qs else if c = 2 then qb else if c = 3 then qr else if c = 4 then qa else if c = 5 then qk
  else if c < 14 then a (5 * (c - 6)) else if c < 22 then a (5 * (c - 14) + 1) else if c < 30 then a (5 * (c - 22) + 4) else if c < 38 then a (5 * (c - 30) + 2) else a (5 * (c - 38) + 3)
def sgX (c : Nat) : Nat := if c < 4 then c else if c = 4 then 44 else if c = 5 then 45 else if c < 14 then 4 + 5 * (c - 6) else if c < 22 then 5 + 5 * (c - 14) else if c < 30 then 8 + 5 * (c - 22) else if c < 38 then 6 + 5 * (c - 30) else 7 + 5 * (c - 38)
theorem sgX_inj : ∀ i, i < 46 → ∀ j, j < 46 → sgX i = sgX j → i = j := by decide +kernel
theorem wX_len {cI cT : ClassId} {ad : Nat → Nat} {M : MX} : (wX cI cT ad M).length = 46 := by simp [wX, wl]
theorem wY_len {cI cZ : ClassId} {ad : Nat → Nat} {M : MY} : (wY cI cZ ad M).length = 18 := by simp [wY, wl]
set_option maxHeartbeats 4000000 in
set_option maxRecDepth 100000 in
theorem cv_X {D : va_G} {tys : List (ClassId × FieldType)} {A : Nat → Prop} {cI cT : ClassId} {s : State} {H : Heap} {locs : List Loc} {h0 qs qa qk qb qr : Nat} {a : Nat → Nat} (hw : gw_W D tys A ((h0, .inr (5, [.ref qs, .ref qa, .ref qk])) :: (sw_S cI cT qs qb qr a (fK8 a 8) (fK8 a 8) 8 ++ [(qa, .inr (0, [.ref qs, .int 0, .int 0])), (qk, .inr (2, [.ref qs, .int 0, .int 0, .int 0, .null, .null]))])) s H locs) : gw_W D tys A (wX cI cT (adX h0 qs qa qk qb qr a) MX0) s H locs := by
  refine fr_perm sgX (fun k q hk => ?_) (fun i j hi hj => ?_) hw
  · obtain ⟨hlt, rfl⟩ := wl_in hk
    match k, hlt with
    | 0, _ => exact ⟨_, rfl, rfl, fun h => h⟩
    | 1, _ => exact ⟨_, rfl, rfl, fun h => h⟩
    | 2, _ => exact ⟨_, rfl, rfl, fun h => cv_arr h⟩
    | 3, _ => exact ⟨_, rfl, rfl, fun h => cv_arr h⟩
    | 4, _ => exact ⟨_, rfl, rfl, fun h => h⟩
    | 5, _ => exact ⟨_, rfl, rfl, fun h => h⟩
    | 6, _ => exact ⟨_, rfl, rfl, fun h => h⟩
    | 7, _ => exact ⟨_, rfl, rfl, fun h => h⟩
    | 8, _ => exact ⟨_, rfl, rfl, fun h => h⟩
    | 9, _ => exact ⟨_, rfl, rfl, fun h => h⟩
    | 10, _ => exact ⟨_, rfl, rfl, fun h => h⟩
    | 11, _ => exact ⟨_, rfl, rfl, fun h => h⟩
    | 12, _ => exact ⟨_, rfl, rfl, fun h => h⟩
    | 13, _ => exact ⟨_, rfl, rfl, fun h => h⟩
    | 14, _ => exact ⟨_, rfl, rfl, fun h => h⟩
    | 15, _ => exact ⟨_, rfl, rfl, fun h => h⟩
    | 16, _ => exact ⟨_, rfl, rfl, fun h => h⟩
    | 17, _ => exact ⟨_, rfl, rfl, fun h => h⟩
    | 18, _ => exact ⟨_, rfl, rfl, fun h => h⟩
    | 19, _ => exact ⟨_, rfl, rfl, fun h => h⟩
    | 20, _ => exact ⟨_, rfl, rfl, fun h => h⟩
    | 21, _ => exact ⟨_, rfl, rfl, fun h => h⟩
    | 22, _ => exact ⟨_, rfl, rfl, fun h => h⟩
    | 23, _ => exact ⟨_, rfl, rfl, fun h => h⟩
    | 24, _ => exact ⟨_, rfl, rfl, fun h => h⟩
    | 25, _ => exact ⟨_, rfl, rfl, fun h => h⟩
    | 26, _ => exact ⟨_, rfl, rfl, fun h => h⟩
    | 27, _ => exact ⟨_, rfl, rfl, fun h => h⟩
    | 28, _ => exact ⟨_, rfl, rfl, fun h => h⟩
    | 29, _ => exact ⟨_, rfl, rfl, fun h => h⟩
    | 30, _ => exact ⟨_, rfl, rfl, fun h => h⟩
    | 31, _ => exact ⟨_, rfl, rfl, fun h => h⟩
    | 32, _ => exact ⟨_, rfl, rfl, fun h => h⟩
    | 33, _ => exact ⟨_, rfl, rfl, fun h => h⟩
    | 34, _ => exact ⟨_, rfl, rfl, fun h => h⟩
    | 35, _ => exact ⟨_, rfl, rfl, fun h => h⟩
    | 36, _ => exact ⟨_, rfl, rfl, fun h => h⟩
    | 37, _ => exact ⟨_, rfl, rfl, fun h => h⟩
    | 38, _ => exact ⟨_, rfl, rfl, fun h => h⟩
    | 39, _ => exact ⟨_, rfl, rfl, fun h => h⟩
    | 40, _ => exact ⟨_, rfl, rfl, fun h => h⟩
    | 41, _ => exact ⟨_, rfl, rfl, fun h => h⟩
    | 42, _ => exact ⟨_, rfl, rfl, fun h => h⟩
    | 43, _ => exact ⟨_, rfl, rfl, fun h => h⟩
    | 44, _ => exact ⟨_, rfl, rfl, fun h => h⟩
    | 45, _ => exact ⟨_, rfl, rfl, fun h => h⟩
    | n + 46, h => exact absurd h (by omega)
  · rw [wX_len] at hi hj
    exact sgX_inj i hi j hj
def adY (h0 q1 q2 q3 q4 q5 q6 q7 q8 q9 q10 q11 q12 q13 q14 q15 q16 q17 : Nat) (c : Nat) : Nat := if c = 0 then h0 else if c = 1 then q1 else if c = 2 then q2 else if c = 3 then q3 else if c = 4 then q4 else if c = 5 then q5 else if c = 6 then q6 else if c = 7 then q7 else if c = 8 then q8 else if c = 9 then q9 else if c = 10 then q10 else if c = 11 then q11 else if c = 12 then q12 else if c = 13 then q13 else if c = 14 then q14 else if c = 15 then q15 else if c = 16 then q16 else q17
theorem cv_Y {D : va_G} {tys : List (ClassId × FieldType)} {A : Nat → Prop} {cI cT cZ : ClassId} {ad : Nat → Nat} {M : MX} {s : State} {H : Heap} {locs : List Loc} {h0 q1 q2 q3 q4 q5 q6 q7 q8 q9 q10 q11 q12 q13 q14 q15 q16 q17 : Nat} (hw : gw_W D tys A (wX cI cT ad M ++ [(h0, .inr (6, [.int 0, .ref q1, .ref q2, .ref q3, .ref q4, .ref q5, .ref q6, .ref q7, .ref q8, .int 0, .int 0, .int 0, .int 0, .int 0, .int 0, .int 0, .ref q9, .ref q10, .ref q11, .ref q12, .ref q13, .ref q14, .ref q15, .ref q16, .ref q17, .int 0, .int 0, .int 0, .int 0])), (q1, .inl (cZ, 9, .inl (fun _ => 0))), (q2, .inl (cI, 9, .inl (fun _ => 0))), (q3, .inl (cI, 9, .inl (fun _ => 0))), (q4, .inl (cI, 9, .inl (fun _ => 0))), (q5, .inl (cI, 9, .inl (fun _ => 0))), (q6, .inl (cI, 72, .inl (fun _ => 0))), (q7, .inl (cI, 9, .inl (fun _ => 0))), (q8, .inl (cI, 9, .inl (fun _ => 0))), (q9, .inl (cI, 9, .inl (fun _ => 0))), (q10, .inl (cI, 9, .inl (fun _ => 0))), (q11, .inl (cI, 9, .inl (fun _ => 0))), (q12, .inl (cI, 81, .inl (fun _ => 0))), (q13, .inl (cI, 9, .inl (fun _ => 0))), (q14, .inl (cI, 9, .inl (fun _ => 0))), (q15, .inl (cI, 9, .inl (fun _ => 0))), (q16, .inl (cI, 9, .inl (fun _ => 0))), (q17, .inl (cI, 1800, .inl (fun _ => 0)))]) s H locs) : gw_W D tys A (wY cI cZ (adY h0 q1 q2 q3 q4 q5 q6 q7 q8 q9 q10 q11 q12 q13 q14 q15 q16 q17) MY0 ++ wX cI cT ad M) s H locs := by
  refine fr_perm (fun k => if k < 18 then 46 + k else k - 18) (fun k q hk => ?_) (fun i j hi hj e => ?_) hw
  · have e : ∀ k : Nat, (wX cI cT ad M ++ [(h0, .inr (6, [.int 0, .ref q1, .ref q2, .ref q3, .ref q4, .ref q5, .ref q6, .ref q7, .ref q8, .int 0, .int 0, .int 0, .int 0, .int 0, .int 0, .int 0, .ref q9, .ref q10, .ref q11, .ref q12, .ref q13, .ref q14, .ref q15, .ref q16, .ref q17, .int 0, .int 0, .int 0, .int 0])), (q1, .inl (cZ, 9, .inl (fun _ => 0))), (q2, .inl (cI, 9, .inl (fun _ => 0))), (q3, .inl (cI, 9, .inl (fun _ => 0))), (q4, .inl (cI, 9, .inl (fun _ => 0))), (q5, .inl (cI, 9, .inl (fun _ => 0))), (q6, .inl (cI, 72, .inl (fun _ => 0))), (q7, .inl (cI, 9, .inl (fun _ => 0))), (q8, .inl (cI, 9, .inl (fun _ => 0))), (q9, .inl (cI, 9, .inl (fun _ => 0))), (q10, .inl (cI, 9, .inl (fun _ => 0))), (q11, .inl (cI, 9, .inl (fun _ => 0))), (q12, .inl (cI, 81, .inl (fun _ => 0))), (q13, .inl (cI, 9, .inl (fun _ => 0))), (q14, .inl (cI, 9, .inl (fun _ => 0))), (q15, .inl (cI, 9, .inl (fun _ => 0))), (q16, .inl (cI, 9, .inl (fun _ => 0))), (q17, .inl (cI, 1800, .inl (fun _ => 0)))])[46 + k]? = ([(h0, .inr (6, [.int 0, .ref q1, .ref q2, .ref q3, .ref q4, .ref q5, .ref q6, .ref q7, .ref q8, .int 0, .int 0, .int 0, .int 0, .int 0, .int 0, .int 0, .ref q9, .ref q10, .ref q11, .ref q12, .ref q13, .ref q14, .ref q15, .ref q16, .ref q17, .int 0, .int 0, .int 0, .int 0])), (q1, .inl (cZ, 9, .inl (fun _ => 0))), (q2, .inl (cI, 9, .inl (fun _ => 0))), (q3, .inl (cI, 9, .inl (fun _ => 0))), (q4, .inl (cI, 9, .inl (fun _ => 0))), (q5, .inl (cI, 9, .inl (fun _ => 0))), (q6, .inl (cI, 72, .inl (fun _ => 0))), (q7, .inl (cI, 9, .inl (fun _ => 0))), (q8, .inl (cI, 9, .inl (fun _ => 0))), (q9, .inl (cI, 9, .inl (fun _ => 0))), (q10, .inl (cI, 9, .inl (fun _ => 0))), (q11, .inl (cI, 9, .inl (fun _ => 0))), (q12, .inl (cI, 81, .inl (fun _ => 0))), (q13, .inl (cI, 9, .inl (fun _ => 0))), (q14, .inl (cI, 9, .inl (fun _ => 0))), (q15, .inl (cI, 9, .inl (fun _ => 0))), (q16, .inl (cI, 9, .inl (fun _ => 0))), (q17, .inl (cI, 1800, .inl (fun _ => 0)))] : va_W)[k]? := fun k => by rw [← wX_len (cI := cI) (cT := cT) (ad := ad) (M := M)]; exact ap_at k
    by_cases h18 : k < 18
    · rw [List.getElem?_append_left (by rw [wY_len]; exact h18)] at hk
      obtain ⟨-, rfl⟩ := wl_in hk
      show ∃ q', _[if k < 18 then 46 + k else k - 18]? = some q' ∧ _
      rw [if_pos h18]
      match k, h18 with
      | 0, _ => exact ⟨_, (e 0).trans rfl, rfl, fun h => h⟩
      | 1, _ => exact ⟨_, (e 1).trans rfl, rfl, fun h => h⟩
      | 2, _ => exact ⟨_, (e 2).trans rfl, rfl, fun h => h⟩
      | 3, _ => exact ⟨_, (e 3).trans rfl, rfl, fun h => h⟩
      | 4, _ => exact ⟨_, (e 4).trans rfl, rfl, fun h => h⟩
      | 5, _ => exact ⟨_, (e 5).trans rfl, rfl, fun h => h⟩
      | 6, _ => exact ⟨_, (e 6).trans rfl, rfl, fun h => h⟩
      | 7, _ => exact ⟨_, (e 7).trans rfl, rfl, fun h => h⟩
      | 8, _ => exact ⟨_, (e 8).trans rfl, rfl, fun h => h⟩
      | 9, _ => exact ⟨_, (e 9).trans rfl, rfl, fun h => h⟩
      | 10, _ => exact ⟨_, (e 10).trans rfl, rfl, fun h => h⟩
      | 11, _ => exact ⟨_, (e 11).trans rfl, rfl, fun h => h⟩
      | 12, _ => exact ⟨_, (e 12).trans rfl, rfl, fun h => h⟩
      | 13, _ => exact ⟨_, (e 13).trans rfl, rfl, fun h => h⟩
      | 14, _ => exact ⟨_, (e 14).trans rfl, rfl, fun h => h⟩
      | 15, _ => exact ⟨_, (e 15).trans rfl, rfl, fun h => h⟩
      | 16, _ => exact ⟨_, (e 16).trans rfl, rfl, fun h => h⟩
      | 17, _ => exact ⟨_, (e 17).trans rfl, rfl, fun h => h⟩
      | n + 18, h => exact absurd h (by omega)
    · rw [List.getElem?_append_right (by rw [wY_len]; omega), wY_len] at hk
      refine ⟨q, ?_, rfl, fun h => h⟩
      show _[if k < 18 then 46 + k else k - 18]? = some q
      rw [if_neg h18, List.getElem?_append_left (List.getElem?_eq_some_iff.mp hk).1]
      exact hk
  · rw [List.length_append, wX_len, wY_len] at hi hj
    have e : (if i < 18 then 46 + i else i - 18) = (if j < 18 then 46 + j else j - 18) := e
    by_cases h1 : i < 18 <;> by_cases h2 : j < 18 <;> simp only [h1, h2, if_true, if_false] at e <;> omega
section Rows
variable {p : Program} {l : Launch} {e : Env} {R : Room} {s : State} {m : MethodId} {args : Array Value} {below : List Frame} {meth : Method} {c : Code} {H : Heap} {locs : List Loc} {cells slots : Nat} {Q : State → Prop}
variable {cc : ByteArray} {nL : Nat} {Ts : List Cond} {own : String} {D : va_G} {tys : List (ClassId × FieldType)} {A : Nat → Prop} {wr tl : va_W} {pc : Nat} {ls : Array Slot} {rest : List Value}
theorem gn_newL (S : CallFix p m c cc nL s args Ts own) (harr : Cond.arrayClass .long ∈ Ts) (hw : gw_W D tys A (wr ++ tl) s H locs) {cL : ClassId} {t0 : Nat} (ht : tys[t0]? = some (cL, .long)) {n : Int32} {N' : Nat} (hn : ¬ n < 0) (hN : n.toNatClampNeg = N') (hb : N' * 8 ≤ 536870912) (hcells : cells + 1 ≤ R.cells) (hslots : slots + N' ≤ R.slots) (hdg : decode cc pc = .ok (.newarray .long, 2))
    (kk : ∀ (q : Nat) (H1 : Heap), gw_W D tys A (wr ++ (tl ++ [(q, .inl (cL, N', .inr (.inl (fun _ => 0))))])) s H1 locs → W p l e R s m args below meth c H1 locs (cells + 1) (slots + N') Q (F0 m (pc + 2) ls (.ref q :: rest))) : W p l e R s m args below meth c H locs cells slots Q (F0 m pc ls (.int n :: rest)) := by
  obtain ⟨hK, hP, hD, hS, hA⟩ := hw
  refine va_newa (atype := .long) (ty := .long) (a0 := (N', .inr (.inl (fun _ => 0)))) S.1 S.2.1 (S.2.2.2.2 _ harr) rfl hK hP hD hS hA (fun cA => rfl) hn hN hb hcells hslots hdg (fun q cA H1 hK1 hP1 hD1 hS1 => ?_)
  obtain rfl := gn_one hK ht hK1
  rw [List.append_assoc] at hP1 hD1
  exact kk q H1 ⟨hK, hP1, hD1, hS1, hA⟩
end Rows
theorem gl_arr {s : State} {args : Array Value} {ty : FieldType} (h : (Cond.arrayClass ty).before args s = true) (hty : ∀ C, ty ≠ .object C) : ∃ cA, ArrOfT s cA ty ∧ va_RA s cA ty := by
  obtain ⟨cA, kA, comp, h1, h2, h3⟩ := Cond.arrayClass_spec h
  refine ⟨cA, fun n z => ⟨fun k h => (by cases h), kA, h2, comp, h3⟩, ?_⟩
  cases ty with
  | object C => exact absurd rfl (hty C)
  | _ => exact h1
theorem gl_arrT {s : State} {C : String} (h : va_AO C s) : ∃ cA, ArrOfT s cA (.object C) ∧ va_RA s cA (.object C) := by
  obtain ⟨comp, cA, kA, h1, h2, h3, h4, h5⟩ := Cond.arrayOver_spec h
  exact ⟨cA, fun n z => ⟨fun k h => (by cases h), kA, h3, comp, h4⟩, kA, comp, h3, h4, h1, h5⟩
theorem gl_D {s : State} {args : Array Value} (hts : ∀ w ∈ lw_tbl, w.before args s = true) : ∃ D : va_G, ∀ (c : Nat) (q : vw_C), vwCl[c]? = some q → u_Kn s q.1 q.2.1 q.2.2 (D.1 c) (D.2 c) := by
  have h : ∀ c : Nat, ∃ d : ClassId × (Nat → Nat), ∀ q : vw_C, vwCl[c]? = some q → u_Kn s q.1 q.2.1 q.2.2 d.1 d.2 := by
    intro c
    match c with
    | 0 => obtain ⟨a, b, h⟩ := u_known hts (fun w h => wB_sub w (uT_A w h)) (hts _ (wB_sub _ xw_458)); exact ⟨(a, b), fun q hq => by cases hq; exact h⟩
    | 1 => obtain ⟨a, b, h⟩ := u_known hts (fun w h => wB_sub w (uT_J w h)) (hts _ (wB_sub _ xw_435)); exact ⟨(a, b), fun q hq => by cases hq; exact h⟩
    | 2 => obtain ⟨a, b, h⟩ := u_known hts (fun w h => wB_sub w (uT_K w h)) (hts _ (wB_sub _ xw_463)); exact ⟨(a, b), fun q hq => by cases hq; exact h⟩
    | 3 => obtain ⟨a, b, h⟩ := u_known hts (fun w h => wB_sub w (uT_T w h)) (hts _ (wB_sub _ xw_446)); exact ⟨(a, b), fun q hq => by cases hq; exact h⟩
    | 4 => obtain ⟨a, b, h⟩ := u_known hts (fun w h => wB_sub w (uT_S w h)) (hts _ (wB_sub _ xw_453)); exact ⟨(a, b), fun q hq => by cases hq; exact h⟩
    | 5 => obtain ⟨a, b, h⟩ := u_known hts (fun w h => wB_sub w (uT_O w h)) (hts _ (wB_sub _ xw_614)); exact ⟨(a, b), fun q hq => by cases hq; exact h⟩
    | 6 => obtain ⟨a, b, h⟩ := u_known hts (fun w h => wB_sub w (uT_Y w h)) (hts _ (wB_sub _ xw_615)); exact ⟨(a, b), fun q hq => by cases hq; exact h⟩
    | n + 7 => exact ⟨(0, fun _ => 0), fun q hq => by cases hq⟩
  exact ⟨(fun c => (Classical.choose (h c)).1, fun c => (Classical.choose (h c)).2), fun c q hq => Classical.choose_spec (h c) q hq⟩
set_option maxHeartbeats 8000000 in
set_option maxRecDepth 100000 in
theorem law_start {Sim : Nat → MX → MY → Prop} (hp : pu_All Sim) (hS0 : Sim 0 MX0 MY0) {p : Program} {e : Env} {s : State} {m : MethodId} {below : List Frame} {meth : Method} {c : Code} (l : Launch) (hlt : l.stackTraces = false) {b L : Nat} {xs : Nat → Int32} (hL : L ≤ 2560) (C0 : lw_At p s m meth c b L xs) : W p l e room_1 s m #[Value.ref b] below meth c s.heap [] 0 0 (lw_Z below #[Value.ref b] s) (entryFrame m ([Value.ref b] : List Value).toArray 7) := by
  obtain ⟨hx, hb, hr, hml, hown, hts, hX, hbl, hlk, hgv⟩ := C0
  have S : CallFix p m c b_L_law 7 s #[Value.ref b] lw_tbl R_L := ⟨hx, hb, hml, hown, hts⟩
  have fl := flat_of_before _ hgv
  have hNl : gl_N s := ⟨va_Nc.of (fl (Cond.not (.castable "java/lang/IllegalStateException" "java/lang/IndexOutOfBoundsException")) (by decide +kernel)), va_Nc.of (fl (Cond.not (.castable "java/lang/ArithmeticException" "java/lang/IndexOutOfBoundsException")) (by decide +kernel)), va_Nc.of (fl (Cond.not (.castable "java/lang/ArithmeticException" "java/lang/IllegalStateException")) (by decide +kernel))⟩
  have hA : ∀ a : Nat, a < s.heap.size → ¬ (s.heap.size ≤ a) := fun a h q => by omega
  have hZ : gx_Z (fun q => s.heap.size ≤ q) s s.heap := ⟨gx_S.of (hts _ (by decide +kernel)) (hts _ (by decide +kernel)) (fl _ (by decide +kernel)) hA, gx_S.of (hts _ (by decide +kernel)) (hts _ (by decide +kernel)) (fl _ (by decide +kernel)) hA⟩
  have hNn : gn_N s := ⟨va_Nw.of rfl (hts _ (by decide +kernel)), va_AO.of (hts _ (by decide +kernel))⟩
  obtain ⟨D, hD⟩ := gl_D hts
  obtain ⟨cI, hI⟩ := gl_arr (ty := .int) (hts _ (wB_sub _ xw_432)) (fun C h => by cases h)
  obtain ⟨cZ, hZa⟩ := gl_arr (ty := .boolean) (hts _ (wB_sub _ xw_444)) (fun C h => by cases h)
  obtain ⟨cL, hLa⟩ := gl_arr (ty := .long) (hts _ (wB_sub _ xw_616)) (fun C h => by cases h)
  obtain ⟨cT, hT⟩ := gl_arrT hNn.2
  have hK : va_K D vwCl (tyL cI cT cZ cL) s := ⟨hD, fun k q hk => by
    match k with
    | 0 => cases hk; exact hI
    | 1 => cases hk; exact hT
    | 2 => cases hk; exact hZa
    | 3 => cases hk; exact hLa
    | n + 4 => cases hk⟩
  have hKX : va_K D vwCl (tyX cI cT) s := hK.sub [0, 1] rfl
  have hKY : va_K D vwCl (tyY cI cZ) s := hK.sub [0, 2] rfl
  have hw : gw_W D (tyX cI cT) (fun q => s.heap.size ≤ q) ([] ++ []) s s.heap [] := ⟨hKX, fun k q h => by simp at h, ⟨fun i j p q h => by simp at h, fun k q h => by simp at h⟩, va_S.rf, fun q h => h⟩
  rw [show entryFrame m ([Value.ref b] : List Value).toArray 7 = F0 m 0 ((lg_sl [Value.ref b] ++ List.replicate (7 - (lg_sl [Value.ref b]).length) Slot.unset).toArray) [] from lg_entry_eq m [Value.ref b] 7]
  have hl := lv_entry [Value.ref b] (n := 7) (Nat.le_of_ble_eq_true rfl)
  generalize (lg_sl [Value.ref b] ++ List.replicate (7 - (lg_sl [Value.ref b]).length) Slot.unset).toArray = ls at hl ⊢
  have hl : lv_has ls 7 [(0, .ref b)] := hl
  refine gn_new (wr := []) (tl := []) (ci := 5) (fs := [.null, .null, .null]) S (fun w h => wB_sub w (uT_O w h)) tk_O (wB_sub _ xw_617) (wB_sub _ xw_614) (wB_sub _ xw_393) hw rfl (fun j hj => by rcases (show j = 0 ∨ j = 1 ∨ j = 2 by omega) with rfl | rfl | rfl <;> rfl) (by decide) (by decide) d_L_law_0 (fun h0 H hw => ?_)
  refine lv_dup hx hb d_L_law_3 rfl ?_
  refine gn_callI (As := []) (rest := [.ref h0]) S hNn hw (c_O_init l D [] h0) (cwI 0 hts (wB_call (fun w h => wB_sub w h) xw_618) rfl rfl rfl (hts _ (wB_sub _ xw_393)) (hts _ (wB_sub _ xw_619)) (hts _ (wB_sub _ xw_620)) rfl (by decide +kernel) ⟨Nat.le_of_ble_eq_true rfl, Nat.le_of_ble_eq_true rfl⟩) rfl hl.1 rfl (Nat.le_of_ble_eq_true rfl) d_L_law_4 ⟨by decide, by decide⟩ (fun u H locs hu hw => ?_)
  obtain ⟨qs, qa, qk, qb, qr, a, rfl⟩ := hu
  have hw := cv_X hw
  have hw : gw_W D (tyY cI cZ) (fun q => s.heap.size ≤ q) (wX cI cT (adX h0 qs qa qk qb qr a) MX0 ++ []) s H locs := by rw [List.append_nil]; exact ⟨hKY, hw.2⟩
  refine lv_astore_n (lv' := [(1, .ref h0), (0, .ref b)]) hx hb d_L_law_7 rfl hl (by decide) rfl (fun ls hl => ?_)
  refine gn_new (ci := 6) (fs := [.int 0, .null, .null, .null, .null, .null, .null, .null, .null, .int 0, .int 0, .int 0, .int 0, .int 0, .int 0, .int 0, .null, .null, .null, .null, .null, .null, .null, .null, .null, .int 0, .int 0, .int 0, .int 0]) S (fun w h => wB_sub w (uT_Y w h)) tk_Y (wB_sub _ xw_621) (wB_sub _ xw_615) (wB_sub _ xw_278) hw rfl (fun j hj => by rcases (show j = 0 ∨ j = 1 ∨ j = 2 ∨ j = 3 ∨ j = 4 ∨ j = 5 ∨ j = 6 ∨ j = 7 ∨ j = 8 ∨ j = 9 ∨ j = 10 ∨ j = 11 ∨ j = 12 ∨ j = 13 ∨ j = 14 ∨ j = 15 ∨ j = 16 ∨ j = 17 ∨ j = 18 ∨ j = 19 ∨ j = 20 ∨ j = 21 ∨ j = 22 ∨ j = 23 ∨ j = 24 ∨ j = 25 ∨ j = 26 ∨ j = 27 ∨ j = 28 by omega) with rfl | rfl | rfl | rfl | rfl | rfl | rfl | rfl | rfl | rfl | rfl | rfl | rfl | rfl | rfl | rfl | rfl | rfl | rfl | rfl | rfl | rfl | rfl | rfl | rfl | rfl | rfl | rfl | rfl <;> rfl) (by decide) (by decide) d_L_law_8 (fun g0 H hw => ?_)
  refine lv_dup hx hb d_L_law_11 rfl ?_
  refine gn_callI (As := []) (rest := [.ref g0]) S hNn hw (c_Y_init l D _ g0) (cwI 0 hts (wB_call (fun w h => wB_sub w h) xw_622) rfl rfl rfl (hts _ (wB_sub _ xw_278)) (hts _ (wB_sub _ xw_623)) (hts _ (wB_sub _ xw_624)) rfl (by decide +kernel) ⟨Nat.le_of_ble_eq_true rfl, Nat.le_of_ble_eq_true rfl⟩) rfl hl.1 rfl (Nat.le_of_ble_eq_true rfl) d_L_law_12 ⟨by decide, by decide⟩ (fun u H locs hu hw => ?_)
  obtain ⟨q1, q2, q3, q4, q5, q6, q7, q8, q9, q10, q11, q12, q13, q14, q15, q16, q17, rfl⟩ := hu
  have hw := cv_Y hw
  have hw : gw_W D (tyL cI cT cZ cL) (fun q => s.heap.size ≤ q) (wY cI cZ (adY g0 q1 q2 q3 q4 q5 q6 q7 q8 q9 q10 q11 q12 q13 q14 q15 q16 q17) MY0 ++ wX cI cT (adX h0 qs qa qk qb qr a) MX0) s H locs := ⟨hK, hw.2⟩
  refine lv_astore_n (lv' := [(2, .ref g0), (1, .ref h0), (0, .ref b)]) hx hb d_L_law_15 rfl hl (by decide) rfl (fun ls hl => ?_)
  refine lv_iconst (v := 1) hx hb d_L_law_16 (by decide) ?_
  refine gn_newL (t0 := 3) (cL := cL) (N' := 1) S (wB_sub _ xw_616) hw rfl (by decide) (by decide) (by decide) (by decide) (by decide) d_L_law_17 (fun oa H hw => ?_)
  refine lv_astore_n (lv' := [(3, .ref oa), (2, .ref g0), (1, .ref h0), (0, .ref b)]) hx hb d_L_law_19 rfl hl (by decide) rfl (fun ls hl => ?_)
  refine lv_iconst (v := 0) hx hb d_L_law_20 (by decide) ?_
  refine lv_istore (lv' := [(4, .int 0), (3, .ref oa), (2, .ref g0), (1, .ref h0), (0, .ref b)]) hx hb d_L_law_21 hl (by decide) rfl (fun ls hl => ?_)
  have kret : ∀ (H : Heap) (locs : List Loc) (ls : Array Slot) (cells slots : Nat), va_S (fun q => s.heap.size ≤ q) s.heap H locs → cells ≤ 600 → slots ≤ 8000 → W p l e room_1 s m #[Value.ref b] below meth c H locs cells slots (lw_Z below #[Value.ref b] s) (F0 m 795 ls []) := by
    intro H locs ls cells slots hS h1 h2
    refine W.widen (k := 601024) (n := 7293034) (by omega) (by omega) ?_
    refine lv_iconst (v := 1) hx hb d_L_law_795 (by decide) ?_
    exact W.forget (locs := []) hS.2.2 (lw_ret hx hb hr hlk d_L_law_796)
  exact W.cs rfl rfl (law_loop hp (A := fun q => s.heap.size ≤ q) (ad := adX h0 qs qa qk qb qr a) (bd := adY g0 q1 q2 q3 q4 q5 q6 q7 q8 q9 q10 q11 q12 q13 q14 q15 q16 q17) (oa := oa) ⟨S, hlt, hX, hbl, hA b hbl, hZ, hNl⟩ hL kret 512 0 MX0 MY0 (fun _ => 0) H locs ls (by decide) (by omega) hS0 hw (lv_sub hl [4, 3, 2, 1, 0] rfl))
