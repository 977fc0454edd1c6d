/-! PURE: small Int32 numbers as natural numbers -/
theorem nI_mul (a b : Nat) : nI a * nI b = nI (a * b) := (Int32.ofNat_mul a b).symm
theorem nI_sub {a b : Nat} (h : b ≤ a) : nI a - nI b = nI (a - b) := by
  have e : a = (a - b) + b := by omega
  calc nI a - nI b = nI ((a - b) + b) - nI b := by rw [← e]
    _ = nI (a - b) + nI b - nI b := by rw [nI_add]
    _ = nI (a - b) := Int32.add_sub_cancel _ _
theorem bmod_nat {q : Nat} (h : q < 2 ^ 31) : Int.bmod (q : Int) (2 ^ 32) = (q : Int) := Int.bmod_eq_of_le (by omega) (by omega)
theorem nI_div {a b : Nat} (ha : a < 2 ^ 31) (hb : b < 2 ^ 31) : nI a / nI b = nI (a / b) := by
  apply Int32.toInt_inj.mp
  have h1 : a / b ≤ a := Nat.div_le_self a b
  rw [Int32.toInt_div, nI_toInt ha, nI_toInt hb, nI_toInt (by omega), Int.tdiv_eq_ediv_of_nonneg (by omega)]
  have h2 : ((a : Int) / (b : Int)) = ((a / b : Nat) : Int) := rfl
  rw [h2]
  exact bmod_nat (Nat.lt_of_le_of_lt h1 ha)
theorem nI_mod {a b : Nat} (ha : a < 2 ^ 31) (hb : b < 2 ^ 31) (h0 : 0 < b) : nI a % nI b = nI (a % b) := by
  apply Int32.toInt_inj.mp
  have h1 : a % b < b := Nat.mod_lt a h0
  rw [Int32.toInt_mod, nI_toInt ha, nI_toInt hb, nI_toInt (by omega), Int.tmod_eq_emod_of_nonneg (by omega)]
  rfl
/-- x - x / b * b, as the bytecode's remainder -/
theorem nI_rem {a b : Nat} (ha : a < 2 ^ 31) (hb : b < 2 ^ 31) : nI a - nI a / nI b * nI b = nI (a % b) := by
  have h1 : a / b * b ≤ a := Nat.div_mul_le_self a b
  rw [nI_div ha hb, nI_mul, nI_sub h1]
  have h2 := Nat.div_add_mod a b
  rw [Nat.mul_comm] at h2
  congr 1
  omega
theorem nI_neg1 : (-1 : Int32).toInt = -1 := by decide +kernel
theorem nI_ne {a b : Nat} (h : a ≠ b) (ha : a < 2 ^ 31) (hb : b < 2 ^ 31) : ¬ nI a = nI b := fun q => h ((nI_eq ha hb).mp q)
/-- a number is below 1, above 8, or one of 1..8 -/
theorem nI_id (a : Int32) : a < 1 ∨ 8 < a ∨ ∃ i, i < 8 ∧ a = nI (i + 1) := by
  by_cases h1 : a < 1
  · exact Or.inl h1
  · by_cases h8 : 8 < a
    · exact Or.inr (Or.inl h8)
    · refine Or.inr (Or.inr ?_)
      have g1 : ¬ a.toInt < 1 := fun q => h1 (Int32.lt_iff_toInt_lt.mpr q)
      have g8 : ¬ 8 < a.toInt := fun q => h8 (Int32.lt_iff_toInt_lt.mpr q)
      refine ⟨(a.toInt - 1).toNat, by omega, Int32.toInt_inj.mp ?_⟩
      rw [nI_toInt (by omega)]
      omega
theorem nI_big {a : Int32} (h : 8 < a) : ¬ a < 1 ∧ ¬ a ≤ 8 := by
  have g8 : 8 < a.toInt := Int32.lt_iff_toInt_lt.mp h
  exact ⟨fun q => by have : a.toInt < 1 := Int32.lt_iff_toInt_lt.mp q; omega, fun q => by have : a.toInt ≤ 8 := Int32.le_iff_toInt_le.mp q; omega⟩
/-- a number between two bounds -/
theorem nI_btw {a : Int32} {k : Nat} (hk : k < 2 ^ 31) (h0 : ¬ a < 0) (h1 : ¬ nI k < a) : ∃ i, i ≤ k ∧ a = nI i := by
  have g0 : ¬ a.toInt < 0 := fun q => h0 (Int32.lt_iff_toInt_lt.mpr q)
  have g1 : ¬ (nI k).toInt < a.toInt := fun q => h1 (Int32.lt_iff_toInt_lt.mpr q)
  rw [nI_toInt hk] at g1
  refine ⟨a.toInt.toNat, by omega, Int32.toInt_inj.mp ?_⟩
  rw [nI_toInt (by omega)]
  omega
theorem not_lt32 {a b : Int32} (h : ¬ a < b) : b ≤ a := by
  rw [Int32.le_iff_toInt_le]
  have := fun q => h (Int32.lt_iff_toInt_lt.mpr q)
  exact Int.not_lt.mp this
theorem not_le32 {a b : Int32} (h : ¬ a ≤ b) : b < a := by
  rw [Int32.lt_iff_toInt_lt]
  have := fun q => h (Int32.le_iff_toInt_le.mpr q)
  exact Int.not_le.mp this
theorem lt_not32 {a b : Int32} (h : a < b) : ¬ b ≤ a := by
  rw [Int32.le_iff_toInt_le]
  have := Int32.lt_iff_toInt_lt.mp h
  omega
theorem le_not32 {a b : Int32} (h : a ≤ b) : ¬ b < a := by
  rw [Int32.lt_iff_toInt_lt]
  have := Int32.le_iff_toInt_le.mp h
  omega
/-! the setters, read -/
theorem sF_at {M : MX} {d : Nat} {x : Fin 8} {k : Nat} {v : Int32} : (sF M d x k v).1 d x k = v := if_pos ⟨rfl, rfl, rfl⟩
theorem sF_ne {M : MX} {d d' : Nat} {x x' : Fin 8} {k k' : Nat} {v : Int32} (h : ¬ (d' = d ∧ x' = x ∧ k' = k)) : (sF M d x k v).1 d' x' k' = M.1 d' x' k' := if_neg h
theorem sF_d {M : MX} {d d' : Nat} {x x' : Fin 8} {k k' : Nat} {v : Int32} (h : d' ≠ d) : (sF M d x k v).1 d' x' k' = M.1 d' x' k' := if_neg (fun q => h q.1)
theorem sF_x {M : MX} {d d' : Nat} {x x' : Fin 8} {k k' : Nat} {v : Int32} (h : x' ≠ x) : (sF M d x k v).1 d' x' k' = M.1 d' x' k' := if_neg (fun q => h q.2.1)
theorem sF_k {M : MX} {d d' : Nat} {x x' : Fin 8} {k k' : Nat} {v : Int32} (h : k' ≠ k) : (sF M d x k v).1 d' x' k' = M.1 d' x' k' := if_neg (fun q => h q.2.2)
theorem sF_2 {M : MX} {d : Nat} {x : Fin 8} {k : Nat} {v : Int32} : (sF M d x k v).2 = M.2 := rfl
theorem sG_1 {M : MX} {d k : Nat} {v : Int32} : (sG M d k v).1 = M.1 := rfl
theorem sG_22 {M : MX} {d k : Nat} {v : Int32} : (sG M d k v).2.2 = M.2.2 := rfl
theorem sG_at {M : MX} {d k : Nat} {v : Int32} : (sG M d k v).2.1 d k = v := if_pos ⟨rfl, rfl⟩
theorem sG_ne {M : MX} {d k d' k' : Nat} {v : Int32} (h : ¬ (d' = d ∧ k' = k)) : (sG M d k v).2.1 d' k' = M.2.1 d' k' := if_neg h
theorem sA_at {M : MY} {d k : Nat} {v : Int32} : (sA M d k v).1 d k = v := if_pos ⟨rfl, rfl⟩
theorem sA_ne {M : MY} {d k d' k' : Nat} {v : Int32} (h : ¬ (d' = d ∧ k' = k)) : (sA M d k v).1 d' k' = M.1 d' k' := if_neg h
theorem sA_2 {M : MY} {d k : Nat} {v : Int32} : (sA M d k v).2 = M.2 := rfl
theorem sV_1 {M : MY} {k : Nat} {v : Int32} : (sV M k v).1 = M.1 := rfl
theorem sV_at {M : MY} {k : Nat} {v : Int32} : (sV M k v).2 k = v := if_pos rfl
theorem sV_ne {M : MY} {k k' : Nat} {v : Int32} (h : k' ≠ k) : (sV M k v).2 k' = M.2 k' := if_neg h
theorem fin8_inj {i j : Nat} (hi : i < 8) (hj : j < 8) (h : fin8 i = fin8 j) : i = j := by
  have := congrArg Fin.val h
  rw [fin8_of hi, fin8_of hj] at this
  exact this
theorem fin8_ne {i j : Nat} (hi : i < 8) (hj : j < 8) (h : i ≠ j) : fin8 i ≠ fin8 j := fun q => h (fin8_inj hi hj q)
