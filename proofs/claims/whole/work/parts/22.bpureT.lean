/-! the methods that may throw, as pure functions: Sum.inl (the exception, the memory) or Sum.inr (the answer, the memory) -/
def j_O_admit (n : Nat) (M : MX) : Option ((String × MX) ⊕ (Int32 × MX)) :=
  (j_S_isReady n M).bind fun r_2 =>
    if r_2 = 0 then
      some (Sum.inl ("java/lang/IllegalStateException", M))
    else
      (j_A_verdict n M).bind fun q_5 =>
        some (Sum.inr (q_5.1, q_5.2))
def j_O_readyTask (n : Nat) (M : MX) (a1 : Int32) : Option ((String × MX) ⊕ ((Fin 8) × MX)) :=
  (j_S_find n M a1).bind fun r_2 =>
    gw_oc r_2
      (
        some (Sum.inl ("java/lang/IndexOutOfBoundsException", M))
      )
      (fun y_3 =>
        (j_S_isReady n M).bind fun r_5 =>
          if r_5 = 0 then
            some (Sum.inl ("java/lang/IllegalStateException", M))
          else
            some (Sum.inr (y_3, M))
      )
def j_O_surveyedTask (n : Nat) (M : MX) (a1 : Int32) : Option ((String × MX) ⊕ ((Fin 8) × MX)) :=
  (j_O_readyTask n M a1).bind (Sum.elim (fun z_5 => some (Sum.inl z_5)) (fun w_3 =>
    (j_A_survey n w_3.2 w_3.1).bind fun M_7 =>
      (j_T_isTooLong n M_7 w_3.1).bind fun r_9 =>
        if r_9 = 0 then
          some (Sum.inr (w_3.1, M_7))
        else
          some (Sum.inl ("java/lang/ArithmeticException", M_7))
  ))
def j_O_response (n : Nat) (M : MX) (a1 : Int32) : Option ((String × MX) ⊕ (Int32 × MX)) :=
  (j_O_surveyedTask n M a1).bind (Sum.elim (fun z_5 => some (Sum.inl z_5)) (fun w_3 =>
    some (Sum.inr ((w_3.2.1 0 w_3.1 9), w_3.2))
  ))
def j_O_job (n : Nat) (M : MX) (a1 : Int32) (a2 : Int32) : Option ((String × MX) ⊕ (Int32 × MX)) :=
  (j_O_surveyedTask n M a1).bind (Sum.elim (fun z_5 => some (Sum.inl z_5)) (fun w_3 =>
    (j_A_responseOfJob n w_3.2 w_3.1 a2).bind fun r_7 =>
      some (Sum.inr (r_7, w_3.2))
  ))
def j_O_tolerance (n : Nat) (M : MX) (a1 : Int32) : Option ((String × MX) ⊕ (Int32 × MX)) :=
  (j_O_readyTask n M a1).bind (Sum.elim (fun z_5 => some (Sum.inl z_5)) (fun w_3 =>
    (j_A_bearableBy n w_3.2 w_3.1).bind fun q_7 =>
      some (Sum.inr (q_7.1, q_7.2))
  ))
def j_O_stretch (n : Nat) (M : MX) : Option ((String × MX) ⊕ (Int32 × MX)) :=
  (j_S_isReady n M).bind fun r_2 =>
    if r_2 = 0 then
      some (Sum.inl ("java/lang/IllegalStateException", M))
    else
      if (M.2.1 2 1) = 0 then
        (j_A_verdict n M).bind fun q_6 =>
          if q_6.1 = 1 then
            (j_A_stretchTasks n q_6.2).bind fun q_9 =>
              some (Sum.inr (q_9.1, q_9.2))
          else
            some (Sum.inl ("java/lang/IllegalStateException", q_6.2))
      else
        some (Sum.inl ("java/lang/IllegalStateException", M))
def j_O_scenario (n : Nat) (M : MX) (a1 : Int32) (a2 : Int32) (a3 : Int32) : Option ((String × MX) ⊕ (Int32 × MX)) :=
  (j_O_surveyedTask n M a1).bind (Sum.elim (fun z_5 => some (Sum.inl z_5)) (fun w_3 =>
    if a2 < 0 then
      some (Sum.inr ((-1), w_3.2))
    else
      if a3 < 0 then
        some (Sum.inr ((-1), w_3.2))
      else
        if a3 ≤ 1 then
          if a3 = 0 then
            (j_A_scenarioItem n w_3.2 w_3.1 a2 1).bind fun r_13 =>
              some (Sum.inr (r_13, w_3.2))
          else
            (j_A_scenarioItem n w_3.2 w_3.1 a2 0).bind fun r_11 =>
              some (Sum.inr (r_11, w_3.2))
        else
          some (Sum.inr ((-1), w_3.2))
  ))
def j_O_tick (n : Nat) (M : MX) (a1 : Int32) : Option ((String × MX) ⊕ (Int32 × MX)) :=
  if a1 < 1 then
    some (Sum.inl ("java/lang/IllegalArgumentException", M))
  else
    if a1 ≤ 2000 then
      (j_K_advance n M a1).bind fun q_4 =>
        some (Sum.inr (q_4.1, q_4.2))
    else
      some (Sum.inl ("java/lang/IllegalArgumentException", M))
