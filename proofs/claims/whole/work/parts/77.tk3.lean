/-! PURE: tick: a job ends, both sides -/
theorem sA_a {M : MY} {d k d' k' : Nat} {v : Int32} (h : d' ≠ d) : (sA M d k v).1 d' k' = M.1 d' k' := sA_ne (fun q => h q.1)
set_option maxHeartbeats 2000000 in
theorem x_fin {M : MX} {x : Fin 8} {Fx : Nat} (n : Nat) (a3 : M.1 1 x 3 = nI Fx) (hF : Fx < 2 ^ 31) (T dl : Int32) :
    ∃ M', j_J_finishOldest n M x T dl = some M' ∧ M'.2 = M.2 ∧ M'.1 1 x 3 = nI (Fx + 1) ∧ M'.1 1 x 7 = 0 ∧ M'.1 1 x 4 = (if M.1 1 x 4 < T - M.1 3 x (Fx % 9) then T - M.1 3 x (Fx % 9) else M.1 1 x 4) ∧
      M'.1 1 x 6 = (if T - M.1 3 x (Fx % 9) ≤ dl then M.1 1 x 6 else M.1 1 x 6 + 1) ∧ (∀ k, k < 200 → M'.1 4 x k = if k = Fx then T - M.1 3 x (Fx % 9) else M.1 4 x k) ∧
      ∀ d y k, ¬ (y = x ∧ (d = 1 ∧ (k = 3 ∨ k = 4 ∨ k = 6 ∨ k = 7) ∨ d = 4)) → M'.1 d y k = M.1 d y k := by
  have er : nI Fx - nI Fx / 9 * 9 = nI (Fx % 9) := nI_rem (b := 9) (by omega) (by omega)
  have hm : Fx % 9 < 9 := Nat.mod_lt _ (by omega)
  unfold j_J_finishOldest
  rw [a3, er, if_pos (nI_in (by omega) (by omega)), nI_clamp (n := Fx % 9) (by omega)]
  generalize T - M.1 3 x (Fx % 9) = R
  by_cases h200 : 200 ≤ Fx
  · rw [if_pos (show (200 : Int32) ≤ nI Fx from nI_le (a := 200) h200 hF)]
    by_cases hd : R ≤ dl
    · rw [if_pos hd, if_pos hd]
      simp (decide := true) only [sF_k, sF_d]
      rw [a3, nI_1]
      refine ⟨_, rfl, rfl, ?_, ?_, ?_, ?_, fun k hk => ?_, fun d y k hh => ?_⟩
      · simp (decide := true) only [sF_k, sF_at]
      · simp (decide := true) only [sF_k, sF_at]
      · simp (decide := true) only [sF_k, sF_at]
      · simp (decide := true) only [sF_k, sF_at]
      · rw [if_neg (show ¬ k = Fx by omega)]
        simp (decide := true) only [sF_d]
      · rw [sF_ne (fun q => hh ⟨q.2.1, by omega⟩), sF_ne (fun q => hh ⟨q.2.1, by omega⟩), sF_ne (fun q => hh ⟨q.2.1, by omega⟩)]
    · rw [if_neg hd, if_neg hd]
      simp (decide := true) only [sF_k, sF_d]
      rw [a3, nI_1]
      refine ⟨_, rfl, rfl, ?_, ?_, ?_, ?_, fun k hk => ?_, fun d y k hh => ?_⟩
      · simp (decide := true) only [sF_k, sF_at]
      · simp (decide := true) only [sF_k, sF_at]
      · simp (decide := true) only [sF_k, sF_at]
      · simp (decide := true) only [sF_k, sF_at]
      · rw [if_neg (show ¬ k = Fx by omega)]
        simp (decide := true) only [sF_d]
      · rw [sF_ne (fun q => hh ⟨q.2.1, by omega⟩), sF_ne (fun q => hh ⟨q.2.1, by omega⟩), sF_ne (fun q => hh ⟨q.2.1, by omega⟩), sF_ne (fun q => hh ⟨q.2.1, by omega⟩)]
  · rw [if_neg (show ¬ (200 : Int32) ≤ nI Fx from nI_ge (b := 200) (by omega) (by omega)), if_pos (nI_in (by omega) (by omega)), nI_clamp (n := Fx) (by omega)]
    by_cases hd : R ≤ dl
    · rw [if_pos hd, if_pos hd]
      simp (decide := true) only [sF_k, sF_d]
      rw [a3, nI_1]
      refine ⟨_, rfl, rfl, ?_, ?_, ?_, ?_, fun k hk => ?_, fun d y k hh => ?_⟩
      · simp (decide := true) only [sF_k, sF_at]
      · simp (decide := true) only [sF_k, sF_at]
      · simp (decide := true) only [sF_k, sF_at]
      · simp (decide := true) only [sF_k, sF_d, sF_at]
      · rw [sF_d (by decide), sF_d (by decide), sF_d (by decide)]
        by_cases e : k = Fx
        · rw [if_pos e, e]; exact sF_at
        · rw [if_neg e]; exact sF_k e
      · rw [sF_ne (fun q => hh ⟨q.2.1, by omega⟩), sF_ne (fun q => hh ⟨q.2.1, by omega⟩), sF_ne (fun q => hh ⟨q.2.1, by omega⟩), sF_ne (fun q => hh ⟨q.2.1, by omega⟩)]
    · rw [if_neg hd, if_neg hd]
      simp (decide := true) only [sF_k, sF_d]
      rw [a3, nI_1]
      refine ⟨_, rfl, rfl, ?_, ?_, ?_, ?_, fun k hk => ?_, fun d y k hh => ?_⟩
      · simp (decide := true) only [sF_k, sF_at]
      · simp (decide := true) only [sF_k, sF_at]
      · simp (decide := true) only [sF_k, sF_at]
      · simp (decide := true) only [sF_k, sF_at]
      · rw [sF_d (by decide), sF_d (by decide), sF_d (by decide), sF_d (by decide)]
        by_cases e : k = Fx
        · rw [if_pos e, e]; exact sF_at
        · rw [if_neg e]; exact sF_k e
      · rw [sF_ne (fun q => hh ⟨q.2.1, by omega⟩), sF_ne (fun q => hh ⟨q.2.1, by omega⟩), sF_ne (fun q => hh ⟨q.2.1, by omega⟩), sF_ne (fun q => hh ⟨q.2.1, by omega⟩), sF_ne (fun q => hh ⟨q.2.1, by omega⟩)]
set_option maxHeartbeats 4000000 in
theorem y_fin {U : MY} {x Fx : Nat} (n : Nat) (hx : x < 8) (b10 : U.1 10 (x + 1) = nI Fx) (hF : Fx < 2 ^ 31) {R : Int32} (hR : R = U.2 15 - U.1 12 (9 * (x + 1) + Fx % 9)) :
    ∃ U', j_Y_finish n U (nI (x + 1)) = some U' ∧ U'.2 = U.2 ∧ U'.1 10 (x + 1) = nI (Fx + 1) ∧ U'.1 13 (x + 1) = 0 ∧ U'.1 14 (x + 1) = (if R ≤ U.1 14 (x + 1) then U.1 14 (x + 1) else R) ∧
      U'.1 16 (x + 1) = (if R ≤ U.1 3 (x + 1) then U.1 16 (x + 1) else U.1 16 (x + 1) + 1) ∧ (∀ k, k < 200 → U'.1 17 (200 * (x + 1) + k) = if k = Fx then R else U.1 17 (200 * (x + 1) + k)) ∧
      ∀ a k, ¬ ((a = 10 ∨ a = 13 ∨ a = 14 ∨ a = 16) ∧ k = x + 1) → ¬ (a = 17 ∧ 200 * (x + 1) ≤ k ∧ k < 200 * (x + 1) + 200) → U'.1 a k = U.1 a k := by
  have er : nI Fx - nI Fx / 9 * 9 = nI (Fx % 9) := nI_rem (b := 9) (by omega) (by omega)
  have hm : Fx % 9 < 9 := Nat.mod_lt _ (by omega)
  have ei : 9 * nI (x + 1) + nI (Fx % 9) = nI (9 * (x + 1) + Fx % 9) := by rw [show (9 : Int32) = nI 9 from rfl, nI_mul, nI_add]
  have ej : 200 * nI (x + 1) + nI Fx = nI (200 * (x + 1) + Fx) := by rw [show (200 : Int32) = nI 200 from rfl, nI_mul, nI_add]
  unfold j_Y_finish
  simp only [if_pos (y_in hx)]
  rw [nI_clamp (show x + 1 < 2 ^ 31 by omega), b10, er, ei, if_pos (nI_in (by omega) (by omega)), nI_clamp (n := 9 * (x + 1) + Fx % 9) (by omega), ← hR]
  clear hR
  by_cases h200 : 200 ≤ Fx
  · rw [if_pos (show (200 : Int32) ≤ nI Fx from nI_le (a := 200) h200 hF)]
    simp (decide := true) only [sA_a]
    rw [nI_1]
    by_cases hg : R ≤ U.1 14 (x + 1)
    · rw [if_pos hg, if_pos hg]
      by_cases hd : R ≤ U.1 3 (x + 1)
      · rw [if_pos hd, if_pos hd]
        refine ⟨_, rfl, rfl, ?_, ?_, ?_, ?_, fun k hk => ?_, fun a k h1 h2 => ?_⟩
        · simp (decide := true) only [sA_a, sA_at]
        · simp (decide := true) only [sA_a, sA_at]
        · simp (decide := true) only [sA_a, sA_at]
        · simp (decide := true) only [sA_a, sA_at]
        · rw [if_neg (show ¬ k = Fx by omega)]
          simp (decide := true) only [sA_a]
        · rw [sA_ne (by omega), sA_ne (by omega)]
      · rw [if_neg hd, if_neg hd]
        refine ⟨_, rfl, rfl, ?_, ?_, ?_, ?_, fun k hk => ?_, fun a k h1 h2 => ?_⟩
        · simp (decide := true) only [sA_a, sA_at]
        · simp (decide := true) only [sA_a, sA_at]
        · simp (decide := true) only [sA_a, sA_at]
        · simp (decide := true) only [sA_a, sA_at]
        · rw [if_neg (show ¬ k = Fx by omega)]
          simp (decide := true) only [sA_a]
        · rw [sA_ne (by omega), sA_ne (by omega), sA_ne (by omega)]
    · rw [if_neg hg, if_neg hg]
      by_cases hd : R ≤ U.1 3 (x + 1)
      · rw [if_pos hd, if_pos hd]
        refine ⟨_, rfl, rfl, ?_, ?_, ?_, ?_, fun k hk => ?_, fun a k h1 h2 => ?_⟩
        · simp (decide := true) only [sA_a, sA_at]
        · simp (decide := true) only [sA_a, sA_at]
        · simp (decide := true) only [sA_a, sA_at]
        · simp (decide := true) only [sA_a, sA_at]
        · rw [if_neg (show ¬ k = Fx by omega)]
          simp (decide := true) only [sA_a]
        · rw [sA_ne (by omega), sA_ne (by omega), sA_ne (by omega)]
      · rw [if_neg hd, if_neg hd]
        refine ⟨_, rfl, rfl, ?_, ?_, ?_, ?_, fun k hk => ?_, fun a k h1 h2 => ?_⟩
        · simp (decide := true) only [sA_a, sA_at]
        · simp (decide := true) only [sA_a, sA_at]
        · simp (decide := true) only [sA_a, sA_at]
        · simp (decide := true) only [sA_a, sA_at]
        · rw [if_neg (show ¬ k = Fx by omega)]
          simp (decide := true) only [sA_a]
        · rw [sA_ne (by omega), sA_ne (by omega), sA_ne (by omega), sA_ne (by omega)]
  · rw [if_neg (show ¬ (200 : Int32) ≤ nI Fx from nI_ge (b := 200) (by omega) (by omega)), ej, if_pos (nI_in (by omega) (by omega)), nI_clamp (n := 200 * (x + 1) + Fx) (by omega)]
    simp (decide := true) only [sA_a]
    rw [b10, nI_1]
    have h17 : ∀ k, k < 200 → (sA U 17 (200 * (x + 1) + Fx) R).1 17 (200 * (x + 1) + k) = if k = Fx then R else U.1 17 (200 * (x + 1) + k) := fun k hk => by
      by_cases e : k = Fx
      · rw [if_pos e, e, sA_at]
      · rw [if_neg e, sA_ne (by omega)]
    by_cases hg : R ≤ U.1 14 (x + 1)
    · rw [if_pos hg, if_pos hg]
      by_cases hd : R ≤ U.1 3 (x + 1)
      · rw [if_pos hd, if_pos hd]
        refine ⟨_, rfl, rfl, ?_, ?_, ?_, ?_, fun k hk => ?_, fun a k h1 h2 => ?_⟩
        · simp (decide := true) only [sA_a, sA_at]
        · simp (decide := true) only [sA_a, sA_at]
        · simp (decide := true) only [sA_a, sA_at]
        · simp (decide := true) only [sA_a, sA_at]
        · rw [sA_a (by decide), sA_a (by decide)]; exact h17 k hk
        · rw [sA_ne (by omega), sA_ne (by omega), sA_ne (by omega)]
      · rw [if_neg hd, if_neg hd]
        refine ⟨_, rfl, rfl, ?_, ?_, ?_, ?_, fun k hk => ?_, fun a k h1 h2 => ?_⟩
        · simp (decide := true) only [sA_a, sA_at]
        · simp (decide := true) only [sA_a, sA_at]
        · simp (decide := true) only [sA_a, sA_at]
        · simp (decide := true) only [sA_a, sA_at]
        · rw [sA_a (by decide), sA_a (by decide), sA_a (by decide)]; exact h17 k hk
        · rw [sA_ne (by omega), sA_ne (by omega), sA_ne (by omega), sA_ne (by omega)]
    · rw [if_neg hg, if_neg hg]
      by_cases hd : R ≤ U.1 3 (x + 1)
      · rw [if_pos hd, if_pos hd]
        refine ⟨_, rfl, rfl, ?_, ?_, ?_, ?_, fun k hk => ?_, fun a k h1 h2 => ?_⟩
        · simp (decide := true) only [sA_a, sA_at]
        · simp (decide := true) only [sA_a, sA_at]
        · simp (decide := true) only [sA_a, sA_at]
        · simp (decide := true) only [sA_a, sA_at]
        · rw [sA_a (by decide), sA_a (by decide), sA_a (by decide)]; exact h17 k hk
        · rw [sA_ne (by omega), sA_ne (by omega), sA_ne (by omega), sA_ne (by omega)]
      · rw [if_neg hd, if_neg hd]
        refine ⟨_, rfl, rfl, ?_, ?_, ?_, ?_, fun k hk => ?_, fun a k h1 h2 => ?_⟩
        · simp (decide := true) only [sA_a, sA_at]
        · simp (decide := true) only [sA_a, sA_at]
        · simp (decide := true) only [sA_a, sA_at]
        · simp (decide := true) only [sA_a, sA_at]
        · rw [sA_a (by decide), sA_a (by decide), sA_a (by decide), sA_a (by decide)]; exact h17 k hk
        · rw [sA_ne (by omega), sA_ne (by omega), sA_ne (by omega), sA_ne (by omega), sA_ne (by omega)]
section E
variable {t : Nat} {N : MX} {V : MY} {Z Q : Nat → Nat → Nat} {rk rn C F P : Nat → Nat} {c hj L pa x : Nat}
/-- a segment of x has just ended -/
theorem seg_end (hZ : zset Z Q) (hX : xset N Z Q rk rn c) (hY : yset V Z Q) (hC : xch N Z Q) (hx : x < 8) (hT : ∀ i, i < 8 → kt N V i (C i) (F i) (P i) (if x + 1 = i + 1 then P i + 1 else P i) ∧ kn t Z i (C i) (F i) (P i) ∧ ku N Z i) (hm : km Z C F P hj L (x + 1) pa)
    (g1 : N.2.1 2 1 = nI hj ∧ V.2 25 = nI hj) (g2 : V.2 15 = N.2.1 2 2) (g3 : N.2.1 2 3 = nI 0 ∧ V.2 27 = nI 0) (g4 : V.2 26 = nI 0) (g5 : N.2.2.2.2 = zo pa ∧ V.2 28 = nI pa) (g0 : V.2 0 = 0) (ht : t ≤ 600) (n : Nat) :
    ∃ M2 U2 F' P' pa', j_K_endSegment n N (fin8 x) = some M2 ∧ (if V.1 13 (x + 1) = V.1 5 (x + 1) then (j_Y_finish n V (nI (x + 1))).bind (fun M_8 => some (nI (x + 1), M_8)) else some (nI (x + 1), sV V 28 (nI (x + 1)))) = some (nI (x + 1), U2) ∧ kst t M2 U2 Z Q rk rn c C F' P' hj 0 0 pa' := by
  obtain ⟨m1, m2, m3, m4, m5, m6⟩ := hm
  obtain ⟨hu, hlt, hP, -, -⟩ := m6 x rfl
  obtain ⟨⟨⟨a2, a3, a7⟩, ⟨b9, b10, b13⟩, ⟨c4, c5, c6⟩, d1, d2, d3⟩, ⟨n1, n2, n3, n4, n5⟩, -⟩ := hT x hx
  rw [if_pos rfl] at b13
  have fx := (hX.2.2.2.2 _ hx).2.2.2.2.2 hu
  have fy := (hY _ hx).2 hu
  have hp8 := ((hZ _ hx).2 hu).2.2.2.2.2.1
  have hj0 : hj ≠ 0 := fun q => by have := (m2 q).1 x hx; omega
  obtain ⟨N1, hN1⟩ : ∃ N1, N1 = sF (sU N none) 1 (fin8 x) 7 (nI (P x + 1)) := ⟨_, rfl⟩
  have nx : ∀ d y k, ¬ (d = 1 ∧ y = fin8 x ∧ k = 7) → N1.1 d y k = N.1 d y k := fun d y k h => by rw [hN1]; exact sF_ne h
  have n21 : N1.2.1 = N.2.1 := by rw [hN1]; rfl
  have n221 : N1.2.2.1 = N.2.2.1 := by rw [hN1]; rfl
  have n222 : N1.2.2.2 = (none, N.2.2.2.2) := by rw [hN1]; rfl
  have n7 : N1.1 1 (fin8 x) 7 = nI (P x + 1) := by rw [hN1]; exact sF_at
  have est : j_K_endSegment n N (fin8 x) = if nI (Z 4 x) ≤ nI (P x + 1) then (j_J_finishOldest n N1 (fin8 x) (N.2.1 2 2) (nI (Z 2 x))).bind fun M_3 => some M_3 else some (sP N1 (some (fin8 x))) := by
    unfold j_K_endSegment
    rw [show (sU N none).1 1 (fin8 x) 7 = nI (P x) from a7, nI_1, ← hN1, n7, nx 0 _ 6 (fun q => absurd q.1 (by decide)), nx 0 _ 4 (fun q => absurd q.1 (by decide)), fx.2.2.2.1, fx.2.1, n21]
  have e5 : V.1 5 (x + 1) = nI (Z 4 x) := fy.2.2.2.1
  by_cases e : P x + 1 = Z 4 x
  · obtain ⟨M2, f1, f2, f3, f4, f5, f6, f7, f8⟩ := x_fin n ((nx 1 _ 3 (fun q => absurd q.2.2 (by decide))).trans a3) (show F x < 2 ^ 31 by omega) (N.2.1 2 2) (nI (Z 2 x))
    rw [nx 3 _ _ (fun q => absurd q.1 (by decide)), nx 1 _ 4 (fun q => absurd q.2.2 (by decide))] at f5
    rw [nx 3 _ _ (fun q => absurd q.1 (by decide)), nx 1 _ 6 (fun q => absurd q.2.2 (by decide))] at f6
    rw [nx 3 _ _ (fun q => absurd q.1 (by decide))] at f7
    have hm9 : F x % 9 < 9 := Nat.mod_lt _ (by omega)
    obtain ⟨R, hRe⟩ : ∃ R, R = N.2.1 2 2 - N.1 3 (fin8 x) (F x % 9) := ⟨_, rfl⟩
    rw [← hRe] at f5 f6 f7
    have hR : R = V.2 15 - V.1 12 (9 * (x + 1) + F x % 9) := by rw [hRe, g2, d1 _ hm9]
    obtain ⟨U2, y1, y2, y3, y4, y5, y6, y7, y8⟩ := y_fin n hx b10 (show F x < 2 ^ 31 by omega) hR
    have hf : ∀ d y k, ¬ (y = fin8 x ∧ (d = 1 ∧ (k = 3 ∨ k = 4 ∨ k = 6 ∨ k = 7) ∨ d = 4)) → M2.1 d y k = N.1 d y k := fun d y k h => (f8 d y k h).trans (nx d y k (fun q => h ⟨q.2.1, by omega⟩))
    refine ⟨M2, U2, updN F x (F x + 1), updN P x 0, pa, ?_, ?_, hX.cg (fun d y k h => hf d y k (fun q => by omega)) (by rw [f2, n21]) (by rw [f2, n221]), hY.cg (fun a k q1 q2 => y8 a k (by omega) (by omega)), hC.cg (fun y k => hf 0 y k (fun q => by omega)),
      ⟨fun i hi => ?_, ⟨⟨by rw [f2, n21]; exact g1.1, by rw [y2]; exact g1.2⟩, by rw [y2, f2, n21]; exact g2, ⟨by rw [f2, n21]; exact g3.1, by rw [y2]; exact g3.2⟩, ⟨by rw [f2, n222]; rfl, by rw [y2]; exact g4⟩, ⟨by rw [f2, n222]; exact g5.1, by rw [y2]; exact g5.2⟩⟩, ⟨m1, fun q => absurd q hj0, m3, by omega, m5, fun y hy => absurd hy (by omega)⟩⟩, by rw [y2]; exact g0⟩
    · rw [est, if_pos (nI_le (by omega) (by omega)), f1, Option.bind_some]
    · rw [b13, e5, e, if_pos rfl, y1, Option.bind_some]
    · rw [if_neg (show ¬ 0 = i + 1 by omega)]
      by_cases ei : i = x
      · subst ei
        rw [updN_at, updN_at]
        refine ⟨⟨⟨(hf 1 _ 2 (fun q => by omega)).trans a2, f3, f4⟩, ⟨(y8 9 _ (by omega) (by omega)).trans b9, y3, y4⟩, ⟨?_, ?_, ?_⟩, fun k hk => ?_, fun k hk => ?_, fun q => ?_⟩, ⟨by omega, by omega, n3, fun _ => Or.inl rfl, fun q => absurd hu q⟩, fun q => absurd hu q⟩
        · rw [y5, f5, c4]
          by_cases q : R ≤ N.1 1 (fin8 i) 4
          · rw [if_pos q, if_neg (le_not32 q)]
          · rw [if_neg q, if_pos (not_le32 q)]
        · rw [y8 15 _ (by omega) (by omega), hf 1 _ 5 (fun q => by omega)]; exact c5
        · rw [y6, f6, c6, fy.2.1]
        · rw [y8 12 _ (by omega) (by omega), hf 3 _ k (fun q => by omega)]; exact d1 k hk
        · rw [y7 k hk, f7 k hk, nx 4 _ k (fun q => absurd q.1 (by decide)), d2 k hk]
        · rw [y8 11 _ (by omega) (by omega), hf 3 _ _ (fun q => by omega)]; exact d3 q
      · obtain ⟨kk, q2, q3⟩ := hT i hi
        rw [if_neg (show ¬ x + 1 = i + 1 by omega)] at kk
        have hne := fin8_ne hi hx ei
        rw [updN_ne ei, updN_ne ei]
        refine ⟨kk.of (fun d k _ => hf d _ k (fun q => hne q.1)) (fun a _ _ _ => y8 a _ (by omega) (by omega)) (fun j _ => y8 12 _ (by omega) (by omega)) (fun j _ => y8 17 _ (by omega) (by omega)), q2, fun w => ?_⟩
        rw [hf 1 _ 4 (fun q => hne q.1), hf 1 _ 5 (fun q => hne q.1), hf 1 _ 6 (fun q => hne q.1)]
        exact q3 w
  · refine ⟨sP N1 (some (fin8 x)), sV V 28 (nI (x + 1)), F, updN P x (P x + 1), x + 1, ?_, ?_, hX.cg (fun d y k h => nx d y k (fun q => by omega)) (by show N1.2.1 0 2 = _; rw [n21]) (by show N1.2.2.1 = _; rw [n221]), hY, hC.cg (fun y k => nx 0 y k (fun q => absurd q.1 (by decide))),
      ⟨fun i hi => ?_, ⟨⟨by show N1.2.1 2 1 = _; rw [n21]; exact g1.1, g1.2⟩, by show V.2 15 = N1.2.1 2 2; rw [n21]; exact g2, ⟨by show N1.2.1 2 3 = _; rw [n21]; exact g3.1, g3.2⟩, ⟨by show N1.2.2.2.1 = _; rw [n222]; rfl, g4⟩, ⟨rfl, sV_at⟩⟩, ⟨m1, fun q => absurd q hj0, m3, by omega, ⟨by omega, fun y hy => by rw [show y = x by omega]; exact hu⟩, fun y hy => absurd hy (by omega)⟩⟩, g0⟩
    · rw [est, if_neg (nI_ge (by omega) (by omega))]
    · rw [b13, e5, if_neg (nI_ne e (by omega) (by omega))]
    · rw [if_neg (show ¬ 0 = i + 1 by omega)]
      obtain ⟨kk, q2, q3⟩ := hT i hi
      by_cases ei : i = x
      · subst ei
        rw [updN_at]
        refine ⟨⟨⟨(nx 1 _ 2 (fun q => absurd q.2.2 (by decide))).trans a2, (nx 1 _ 3 (fun q => absurd q.2.2 (by decide))).trans a3, n7⟩, ⟨b9, b10, b13⟩, ⟨?_, ?_, ?_⟩, fun k hk => ?_, fun k hk => ?_, fun q => ?_⟩, ⟨n1, n2, n3, fun _ => Or.inr (by omega), fun q => absurd hu q⟩, fun q => absurd hu q⟩
        · show V.1 14 (i + 1) = N1.1 1 (fin8 i) 4
          rw [nx 1 _ 4 (fun q => absurd q.2.2 (by decide))]; exact c4
        · show V.1 15 (i + 1) = N1.1 1 (fin8 i) 5
          rw [nx 1 _ 5 (fun q => absurd q.2.2 (by decide))]; exact c5
        · show V.1 16 (i + 1) = N1.1 1 (fin8 i) 6
          rw [nx 1 _ 6 (fun q => absurd q.2.2 (by decide))]; exact c6
        · show V.1 12 _ = N1.1 3 (fin8 i) k
          rw [nx 3 _ _ (fun q => absurd q.1 (by decide))]; exact d1 k hk
        · show V.1 17 _ = N1.1 4 (fin8 i) k
          rw [nx 4 _ _ (fun q => absurd q.1 (by decide))]; exact d2 k hk
        · show V.1 11 _ = N1.1 3 (fin8 i) _
          rw [nx 3 _ _ (fun q => absurd q.1 (by decide))]; exact d3 q
      · rw [if_neg (show ¬ x + 1 = i + 1 by omega)] at kk
        have hne := fin8_ne hi hx ei
        rw [updN_ne ei]
        refine ⟨kk.of (M' := sP N1 (some (fin8 x))) (U' := sV V 28 (nI (x + 1))) (fun d k _ => nx d _ k (fun q => hne q.2.1)) (fun a _ _ _ => rfl) (fun j _ => rfl) (fun j _ => rfl), q2, fun w => ?_⟩
        show N1.1 1 (fin8 i) 4 = 0 ∧ N1.1 1 (fin8 i) 5 = 0 ∧ N1.1 1 (fin8 i) 6 = 0
        rw [nx 1 _ 4 (fun q => hne q.2.1), nx 1 _ 5 (fun q => hne q.2.1), nx 1 _ 6 (fun q => hne q.2.1)]
        exact q3 w
end E
