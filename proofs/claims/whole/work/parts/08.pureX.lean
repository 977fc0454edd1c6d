/-! the class, as pure functions over its memory: written by program out of its bytecode (wip/gen) -/
def j_S_hasPriority_L2 (n : Nat) (M : MX) (a1 : Int32) : Nat → Int32 → Option Int32
  | 0, _ => none
  | f2 + 1, v2_2 =>
    if (M.2.1 0 2) ≤ v2_2 then
      some 0
    else
      if ¬ (v2_2 < 0 ∨ 8 ≤ v2_2.toNatClampNeg) then
        if (M.1 0 (M.2.2.1 v2_2.toNatClampNeg) 5) = a1 then
          some 1
        else
          j_S_hasPriority_L2 n M a1 f2 (v2_2 + 1)
      else none
def j_S_hasPriority (n : Nat) (M : MX) (a1 : Int32) : Option Int32 :=
  j_S_hasPriority_L2 n M a1 n 0
def j_S_find (n : Nat) (M : MX) (a1 : Int32) : Option (Option (Fin 8)) :=
  if a1 < 1 then
    some none
  else
    if a1 ≤ 8 then
      if ¬ ((a1 - 1) < 0 ∨ 8 ≤ (a1 - 1).toNatClampNeg) then
        if (M.2.1 0 2) ≤ (M.1 0 (fin8 (a1 - 1).toNatClampNeg) 8) then
          some none
        else
          some (some (fin8 (a1 - 1).toNatClampNeg))
      else none
    else
      some none
def j_T_become (n : Nat) (M : MX) (x0 : Fin 8) (a1 : Int32) (a2 : Int32) (a3 : Int32) : Option MX :=
  some (sF (sF (sF (sF (sF M 0 x0 3 a1) 0 x0 4 a2) 0 x0 5 a3) 0 x0 6 0) 0 x0 7 0)
def j_S_swap (n : Nat) (M : MX) (a1 : Int32) (a2 : Int32) : Option MX :=
  if ¬ (a1 < 0 ∨ 8 ≤ a1.toNatClampNeg) then
    if ¬ (a2 < 0 ∨ 8 ≤ a2.toNatClampNeg) then
      if ¬ (a1 < 0 ∨ 8 ≤ a1.toNatClampNeg) then
        if ¬ (a2 < 0 ∨ 8 ≤ a2.toNatClampNeg) then
          if ¬ (a1 < 0 ∨ 8 ≤ a1.toNatClampNeg) then
            if ¬ (a2 < 0 ∨ 8 ≤ a2.toNatClampNeg) then
              some (sF (sF (sR (sR M a1.toNatClampNeg (M.2.2.1 a2.toNatClampNeg)) a2.toNatClampNeg (M.2.2.1 a1.toNatClampNeg)) 0 ((sR (sR M a1.toNatClampNeg (M.2.2.1 a2.toNatClampNeg)) a2.toNatClampNeg (M.2.2.1 a1.toNatClampNeg)).2.2.1 a1.toNatClampNeg) 8 a1) 0 ((sF (sR (sR M a1.toNatClampNeg (M.2.2.1 a2.toNatClampNeg)) a2.toNatClampNeg (M.2.2.1 a1.toNatClampNeg)) 0 ((sR (sR M a1.toNatClampNeg (M.2.2.1 a2.toNatClampNeg)) a2.toNatClampNeg (M.2.2.1 a1.toNatClampNeg)).2.2.1 a1.toNatClampNeg) 8 a1).2.2.1 a2.toNatClampNeg) 8 a2)
            else none
          else none
        else none
      else none
    else none
  else none
def j_S_place_L17 (n : Nat) (x1 : Fin 8) : Nat → Int32 → MX → Option MX
  | 0, _, _ => none
  | f17 + 1, v2_17, M17 =>
    if v2_17 ≤ 0 then
      some (sG M17 0 2 ((M17.2.1 0 2) + 1))
    else
      if ¬ ((v2_17 - 1) < 0 ∨ 8 ≤ (v2_17 - 1).toNatClampNeg) then
        if ¬ (v2_17 < 0 ∨ 8 ≤ v2_17.toNatClampNeg) then
          if (M17.1 0 (M17.2.2.1 v2_17.toNatClampNeg) 5) ≤ (M17.1 0 (M17.2.2.1 (v2_17 - 1).toNatClampNeg) 5) then
            some (sG M17 0 2 ((M17.2.1 0 2) + 1))
          else
            (j_S_swap n M17 (v2_17 - 1) v2_17).bind fun M_8 =>
              j_S_place_L17 n x1 f17 (v2_17 + (-1)) M_8
        else none
      else none
def j_S_place (n : Nat) (M : MX) (x1 : Fin 8) : Option MX :=
  (j_S_swap n M (M.1 0 x1 8) (M.2.1 0 2)).bind fun M_2 =>
    j_S_place_L17 n x1 n (M_2.2.1 0 2) M_2
def j_T_forgetFindings (n : Nat) (M : MX) (x0 : Fin 8) : Option MX :=
  some (sF (sF M 0 x0 9 (-2)) 0 x0 12 (-2))
def j_S_forgetFindings_L2 (n : Nat) : Nat → Int32 → MX → Option MX
  | 0, _, _ => none
  | f2 + 1, v1_2, M2 =>
    if (M2.2.1 0 2) ≤ v1_2 then
      some M2
    else
      if ¬ (v1_2 < 0 ∨ 8 ≤ v1_2.toNatClampNeg) then
        (j_T_forgetFindings n M2 (M2.2.2.1 v1_2.toNatClampNeg)).bind fun M_4 =>
          j_S_forgetFindings_L2 n f2 (v1_2 + 1) M_4
      else none
def j_S_forgetFindings (n : Nat) (M : MX) : Option MX :=
  j_S_forgetFindings_L2 n n 0 M
def j_S_add (n : Nat) (M : MX) (a1 : Int32) (a2 : Int32) (a3 : Int32) (a4 : Int32) : Option (Int32 × MX) :=
  if a1 < 1 then
    some (0, M)
  else
    if 8 < a1 then
      some (0, M)
    else
      if a2 < 1 then
        some (0, M)
      else
        if a2 ≤ 1000 then
          if a3 < 1 then
            some (0, M)
          else
            if a3 ≤ (8 * a2) then
              if a4 < 0 then
                some (0, M)
              else
                if 99 < a4 then
                  some (0, M)
                else
                  (j_S_hasPriority n M a4).bind fun r_10 =>
                    if r_10 = 0 then
                      (j_S_find n M a1).bind fun r_13 =>
                        gw_oc r_13
                          (
                            if ¬ ((a1 - 1) < 0 ∨ 8 ≤ (a1 - 1).toNatClampNeg) then
                              (j_T_become n M (fin8 (a1 - 1).toNatClampNeg) a2 a3 a4).bind fun M_17 =>
                                if ¬ ((a1 - 1) < 0 ∨ 8 ≤ (a1 - 1).toNatClampNeg) then
                                  (j_S_place n M_17 (fin8 (a1 - 1).toNatClampNeg)).bind fun M_20 =>
                                    (j_S_forgetFindings n M_20).bind fun M_22 =>
                                      some (1, M_22)
                                else none
                            else none
                          )
                          (fun y_14 =>
                            some (0, M)
                          )
                    else
                      some (0, M)
            else
              some (0, M)
        else
          some (0, M)
def j_O_task (n : Nat) (M : MX) (a1 : Int32) (a2 : Int32) (a3 : Int32) (a4 : Int32) : Option (Int32 × MX) :=
  if (M.2.1 2 1) = 0 then
    (j_S_add n M a1 a2 a3 a4).bind fun q_3 =>
      if q_3.1 = 0 then
        some (0, q_3.2)
      else
        some (1, q_3.2)
  else
    some (0, M)
def j_T_append (n : Nat) (M : MX) (x0 : Fin 8) (a1 : Int32) : Option (Int32 × MX) :=
  if 8 ≤ (M.1 0 x0 6) then
    some (0, M)
  else
    if a1 < 1 then
      some (0, M)
    else
      if a1 ≤ 100 then
        if ¬ ((M.1 0 x0 6) < 0 ∨ 8 ≤ (M.1 0 x0 6).toNatClampNeg) then
          some (1, (sF (sF (sF M 2 x0 (M.1 0 x0 6).toNatClampNeg a1) 0 x0 6 (((sF M 2 x0 (M.1 0 x0 6).toNatClampNeg a1).1 0 x0 6) + 1)) 0 x0 7 (((sF (sF M 2 x0 (M.1 0 x0 6).toNatClampNeg a1) 0 x0 6 (((sF M 2 x0 (M.1 0 x0 6).toNatClampNeg a1).1 0 x0 6) + 1)).1 0 x0 7) + a1)))
        else none
      else
        some (0, M)
def j_S_addSegment (n : Nat) (M : MX) (a1 : Int32) (a2 : Int32) : Option (Int32 × MX) :=
  (j_S_find n M a1).bind fun r_2 =>
    gw_oc r_2
      (
        some (0, M)
      )
      (fun y_3 =>
        (j_T_append n M y_3 a2).bind fun q_5 =>
          if q_5.1 = 0 then
            some (0, q_5.2)
          else
            (j_S_forgetFindings n q_5.2).bind fun M_8 =>
              some (1, M_8)
      )
def j_O_segment (n : Nat) (M : MX) (a1 : Int32) (a2 : Int32) : Option (Int32 × MX) :=
  if (M.2.1 2 1) = 0 then
    (j_S_addSegment n M a1 a2).bind fun q_3 =>
      if q_3.1 = 0 then
        some (0, q_3.2)
      else
        some (1, q_3.2)
  else
    some (0, M)
def j_J_forget (n : Nat) (M : MX) (x0 : Fin 8) : Option MX :=
  some (sF (sF (sF (sF (sF (sF M 1 x0 2 0) 1 x0 3 0) 1 x0 4 0) 1 x0 5 0) 1 x0 6 0) 1 x0 7 0)
def j_K_forgetJobs_L2 (n : Nat) : Nat → Int32 → MX → Option MX
  | 0, _, _ => none
  | f2 + 1, v1_2, M2 =>
    if (M2.2.1 0 2) ≤ v1_2 then
      some (sP (sU (sG (sG (sG M2 2 1 0) 2 2 0) 2 3 0) none) none)
    else
      if ¬ (v1_2 < 0 ∨ 8 ≤ v1_2.toNatClampNeg) then
        (j_J_forget n M2 (M2.2.2.1 v1_2.toNatClampNeg)).bind fun M_4 =>
          j_K_forgetJobs_L2 n f2 (v1_2 + 1) M_4
      else none
def j_K_forgetJobs (n : Nat) (M : MX) : Option MX :=
  j_K_forgetJobs_L2 n n 0 M
def j_S_forgetTasks (n : Nat) (M : MX) : Option MX :=
  some (sG M 0 2 0)
def j_O_clear (n : Nat) (M : MX) : Option MX :=
  (j_K_forgetJobs n M).bind fun M_2 =>
    (j_S_forgetTasks n M_2).bind fun M_4 =>
      some M_4
def j_O_reset (n : Nat) (M : MX) : Option MX :=
  (j_K_forgetJobs n M).bind fun M_2 =>
    some M_2
def j_T_longestSegment_L4 (n : Nat) (M : MX) (x0 : Fin 8) : Nat → Int32 → Int32 → Option Int32
  | 0, _, _ => none
  | f4 + 1, v1_4, v2_4 =>
    if (M.1 0 x0 6) ≤ v2_4 then
      some v1_4
    else
      if ¬ (v2_4 < 0 ∨ 8 ≤ v2_4.toNatClampNeg) then
        j_T_longestSegment_L4 n M x0 f4 (if v1_4 < (M.1 2 x0 v2_4.toNatClampNeg) then (M.1 2 x0 v2_4.toNatClampNeg) else v1_4) (v2_4 + 1)
      else none
def j_T_longestSegment (n : Nat) (M : MX) (x0 : Fin 8) : Option Int32 :=
  j_T_longestSegment_L4 n M x0 n 0 0
def j_S_longestBelow_L9 (n : Nat) (M : MX) (x1 : Fin 8) : Nat → Int32 → Int32 → Option Int32
  | 0, _, _ => none
  | f9 + 1, v2_9, v3_9 =>
    if (M.2.1 0 2) ≤ v3_9 then
      some v2_9
    else
      if ¬ (v3_9 < 0 ∨ 8 ≤ v3_9.toNatClampNeg) then
        (j_T_longestSegment n M (M.2.2.1 v3_9.toNatClampNeg)).bind fun r_4 =>
          j_S_longestBelow_L9 n M x1 f9 (if v2_9 < r_4 then r_4 else v2_9) (v3_9 + 1)
      else none
def j_S_longestBelow (n : Nat) (M : MX) (x1 : Fin 8) : Option Int32 :=
  j_S_longestBelow_L9 n M x1 n 0 ((M.1 0 x1 8) + 1)
def j_S_blockingOf (n : Nat) (M : MX) (x1 : Fin 8) : Option Int32 :=
  (j_S_longestBelow n M x1).bind fun r_2 =>
    some (if 0 < (r_2 - 1) then (r_2 - 1) else 0)
def j_T_segmentAt (n : Nat) (M : MX) (x0 : Fin 8) (a1 : Int32) : Option Int32 :=
  if a1 < 0 then
    some (-1)
  else
    if a1 < (M.1 0 x0 6) then
      if ¬ (a1 < 0 ∨ 8 ≤ a1.toNatClampNeg) then
        some (M.1 2 x0 a1.toNatClampNeg)
      else none
    else
      some (-1)
def j_O_about (n : Nat) (M : MX) (a1 : Int32) (a2 : Int32) : Option Int32 :=
  (j_S_find n M a1).bind fun r_2 =>
    gw_oc r_2
      (
        some (-1)
      )
      (fun y_3 =>
        if a2 = 0 then
          some (M.1 0 y_3 3)
        else
        if a2 = 1 then
          some (M.1 0 y_3 4)
        else
        if a2 = 2 then
          some (M.1 0 y_3 5)
        else
        if a2 = 3 then
          some (M.1 0 y_3 6)
        else
        if a2 = 4 then
          some (M.1 0 y_3 7)
        else
        if a2 = 5 then
          (j_S_blockingOf n M y_3).bind fun r_10 =>
            some r_10
        else
          if 10 ≤ a2 then
            (j_T_segmentAt n M y_3 (a2 - 10)).bind fun r_14 =>
              some r_14
          else
            some (-1)
      )
def j_S_isReady_L2 (n : Nat) (M : MX) : Nat → Int32 → Option Int32
  | 0, _ => none
  | f2 + 1, v1_2 =>
    if (M.2.1 0 2) ≤ v1_2 then
      if (M.2.1 0 2) ≤ 0 then
        some 0
      else
        some 1
    else
      if ¬ (v1_2 < 0 ∨ 8 ≤ v1_2.toNatClampNeg) then
        if (M.1 0 (M.2.2.1 v1_2.toNatClampNeg) 6) = 0 then
          some 0
        else
          j_S_isReady_L2 n M f2 (v1_2 + 1)
      else none
def j_S_isReady (n : Nat) (M : MX) : Option Int32 :=
  j_S_isReady_L2 n M n 0
def j_T_arrivalsBy (n : Nat) (M : MX) (x0 : Fin 8) (a1 : Int32) : Option Int32 :=
  if a1 < 0 then
    some 0
  else
    if 1 ≤ (M.1 0 x0 3) then
      if ¬ (M.1 0 x0 3) = 0 then
        some ((a1 / (M.1 0 x0 3)) + 1)
      else none
    else
      some 0
def j_A_higherWorkBy_L5 (n : Nat) (M : MX) (x1 : Fin 8) (a2 : Int32) : Nat → Int32 → Int32 → Option Int32
  | 0, _, _ => none
  | f5 + 1, v3_5, v4_5 =>
    if (M.1 0 x1 8) ≤ v4_5 then
      some v3_5
    else
      if ¬ (v4_5 < 0 ∨ 8 ≤ v4_5.toNatClampNeg) then
        (j_T_arrivalsBy n M (M.2.2.1 v4_5.toNatClampNeg) a2).bind fun r_4 =>
          j_A_higherWorkBy_L5 n M x1 a2 f5 (v3_5 + (r_4 * (M.1 0 (M.2.2.1 v4_5.toNatClampNeg) 7))) (v4_5 + 1)
      else none
def j_A_higherWorkBy (n : Nat) (M : MX) (x1 : Fin 8) (a2 : Int32) : Option Int32 :=
  j_A_higherWorkBy_L5 n M x1 a2 n 0 0
def j_A_busyWith_L7 (n : Nat) (M : MX) (x1 : Fin 8) (a2 : Int32) : Nat → Int32 → Int32 → Option Int32
  | 0, _, _ => none
  | f7 + 1, v3_7, v4_7 =>
    if 20000 < v4_7 then
      some 20001
    else
      if 20000 < v3_7 then
        some 20001
      else
        (j_T_arrivalsBy n M x1 (v3_7 - 1)).bind fun r_4 =>
          (j_A_higherWorkBy n M x1 (v3_7 - 1)).bind fun r_6 =>
            if v3_7 < ((a2 + (r_4 * (M.1 0 x1 7))) + r_6) then
              j_A_busyWith_L7 n M x1 a2 f7 ((a2 + (r_4 * (M.1 0 x1 7))) + r_6) (v4_7 + 1)
            else
              some v3_7
def j_A_busyWith (n : Nat) (M : MX) (x1 : Fin 8) (a2 : Int32) : Option Int32 :=
  j_A_busyWith_L7 n M x1 a2 n (a2 + 1) 0
def j_T_lastSegment (n : Nat) (M : MX) (x0 : Fin 8) : Option Int32 :=
  if 1 ≤ (M.1 0 x0 6) then
    if ¬ (((M.1 0 x0 6) - 1) < 0 ∨ 8 ≤ ((M.1 0 x0 6) - 1).toNatClampNeg) then
      some (M.1 2 x0 ((M.1 0 x0 6) - 1).toNatClampNeg)
    else none
  else
    some 0
def j_A_lastBegin_L24 (n : Nat) (M : MX) (x1 : Fin 8) (a2 : Int32) (a3 : Int32) (a4 : Int32) (z5_24 : Int32) : Nat → Int32 → Int32 → Option Int32
  | 0, _, _ => none
  | f24 + 1, v6_24, v7_24 =>
    if 20000 < v7_24 then
      some v6_24
    else
      (j_A_higherWorkBy n M x1 v6_24).bind fun r_5 =>
        if v6_24 < (z5_24 + r_5) then
          j_A_lastBegin_L24 n M x1 a2 a3 a4 z5_24 f24 (z5_24 + r_5) (v7_24 + 1)
        else
          some v6_24
def j_A_lastBegin (n : Nat) (M : MX) (x1 : Fin 8) (a2 : Int32) (a3 : Int32) (a4 : Int32) : Option Int32 :=
  (j_T_lastSegment n M x1).bind fun r_2 =>
    j_A_lastBegin_L24 n M x1 a2 a3 a4 ((a2 + ((a3 + 1) * (M.1 0 x1 7))) - r_2) n a4 0
def j_A_greatestWith_L43 (n : Nat) (x1 : Fin 8) (a2 : Int32) (z3_43 : Int32) : Nat → Int32 → Int32 → Int32 → MX → Option (Int32 × MX)
  | 0, _, _, _, _ => none
  | f43 + 1, v4_43, v5_43, v6_43, M43 =>
    if (M43.2.1 1 2) ≤ v6_43 then
      if (M43.2.1 1 2) = 0 then
        some (1000000000, M43)
      else
        some (v4_43, M43)
    else
      (j_A_lastBegin n M43 x1 a2 v6_43 v5_43).bind fun r_9 =>
        (j_T_lastSegment n M43 x1).bind fun r_11 =>
          if ((r_9 + r_11) - (v6_43 * (M43.1 0 x1 3))) ≤ v4_43 then
            j_A_greatestWith_L43 n x1 a2 z3_43 f43 v4_43 r_9 (v6_43 + 1) M43
          else
            j_A_greatestWith_L43 n x1 a2 z3_43 f43 ((r_9 + r_11) - (v6_43 * (M43.1 0 x1 3))) r_9 (v6_43 + 1) (sG M43 1 1 v6_43)
def j_A_greatestWith (n : Nat) (M : MX) (x1 : Fin 8) (a2 : Int32) : Option (Int32 × MX) :=
  (j_A_busyWith n M x1 a2).bind fun r_2 =>
    if r_2 ≤ 20000 then
      (j_T_arrivalsBy n (sG M 1 1 0) x1 (r_2 - 1)).bind fun r_5 =>
        j_A_greatestWith_L43 n x1 a2 r_2 n 0 0 0 (sG (sG M 1 1 0) 1 2 r_5)
    else
      j_A_greatestWith_L43 n x1 a2 r_2 n 0 0 0 (sG (sG M 1 1 0) 1 2 0)
def j_A_survey (n : Nat) (M : MX) (x1 : Fin 8) : Option MX :=
  if (M.1 0 x1 9) = (-2) then
    (j_S_blockingOf n M x1).bind fun r_3 =>
      (j_A_greatestWith n M x1 r_3).bind fun q_5 =>
        some (sF (sF (sF q_5.2 0 x1 9 q_5.1) 0 x1 10 ((sF q_5.2 0 x1 9 q_5.1).2.1 1 1)) 0 x1 11 ((sF (sF q_5.2 0 x1 9 q_5.1) 0 x1 10 ((sF q_5.2 0 x1 9 q_5.1).2.1 1 1)).2.1 1 2))
  else
    some M
def j_T_isTooLong (n : Nat) (M : MX) (x0 : Fin 8) : Option Int32 :=
  if (M.1 0 x0 9) = 1000000000 then
    some 1
  else
    some 0
def j_A_verdict_L2 (n : Nat) : Nat → Int32 → MX → Option (Int32 × MX)
  | 0, _, _ => none
  | f2 + 1, v1_2, M2 =>
    if (M2.2.1 0 2) ≤ v1_2 then
      some (1, M2)
    else
      if ¬ (v1_2 < 0 ∨ 8 ≤ v1_2.toNatClampNeg) then
        (j_A_survey n M2 (M2.2.2.1 v1_2.toNatClampNeg)).bind fun M_4 =>
          (j_T_isTooLong n M_4 (M2.2.2.1 v1_2.toNatClampNeg)).bind fun r_6 =>
            if r_6 = 0 then
              if (M_4.1 0 (M2.2.2.1 v1_2.toNatClampNeg) 9) ≤ (M_4.1 0 (M2.2.2.1 v1_2.toNatClampNeg) 4) then
                j_A_verdict_L2 n f2 (v1_2 + 1) M_4
              else
                some ((-(M_4.1 0 (M2.2.2.1 v1_2.toNatClampNeg) 0)), M_4)
            else
              some (((-(M_4.1 0 (M2.2.2.1 v1_2.toNatClampNeg) 0)) - 100), M_4)
      else none
def j_A_verdict (n : Nat) (M : MX) : Option (Int32 × MX) :=
  j_A_verdict_L2 n n 0 M
def j_A_responseOfJob (n : Nat) (M : MX) (x1 : Fin 8) (a2 : Int32) : Option Int32 :=
  if a2 < 0 then
    some (-1)
  else
    if a2 < (M.1 0 x1 11) then
      (j_S_blockingOf n M x1).bind fun r_4 =>
        (j_A_lastBegin n M x1 r_4 a2 0).bind fun r_6 =>
          (j_T_lastSegment n M x1).bind fun r_8 =>
            some ((r_6 + r_8) - (a2 * (M.1 0 x1 3)))
    else
      some (-1)
def j_A_greatestBorne_L21 (n : Nat) (x1 : Fin 8) : Nat → Int32 → Int32 → Int32 → MX → Option (Int32 × MX)
  | 0, _, _, _, _ => none
  | f21 + 1, v2_21, v3_21, v4_21, M21 =>
    if 64 ≤ v4_21 then
      some (v2_21, M21)
    else
      if (v3_21 - v2_21) ≤ 1 then
        some (v2_21, M21)
      else
        (j_A_greatestWith n M21 x1 ((v2_21 + v3_21) / 2)).bind fun q_4 =>
          if (q_4.2.1 0 x1 4) < q_4.1 then
            j_A_greatestBorne_L21 n x1 f21 v2_21 ((v2_21 + v3_21) / 2) (v4_21 + 1) q_4.2
          else
            j_A_greatestBorne_L21 n x1 f21 ((v2_21 + v3_21) / 2) v3_21 (v4_21 + 1) q_4.2
def j_A_greatestBorne (n : Nat) (M : MX) (x1 : Fin 8) : Option (Int32 × MX) :=
  j_A_greatestBorne_L21 n x1 n (-1) (if 0 < (((M.1 0 x1 4) - (M.1 0 x1 7)) + 1) then (((M.1 0 x1 4) - (M.1 0 x1 7)) + 1) else 0) 0 M
def j_A_bearableBy (n : Nat) (M : MX) (x1 : Fin 8) : Option (Int32 × MX) :=
  if (M.1 0 x1 12) = (-2) then
    (j_A_greatestBorne n M x1).bind fun q_3 =>
      some (((sF q_3.2 0 x1 12 q_3.1).1 0 x1 12), (sF q_3.2 0 x1 12 q_3.1))
  else
    some ((M.1 0 x1 12), M)
def j_T_growLast_L15 (n : Nat) (x0 : Fin 8) (a1 : Int32) (z2_15 : Int32) : Nat → Int32 → Int32 → MX → Option (Int32 × MX)
  | 0, _, _, _ => none
  | f15 + 1, v3_15, v4_15, M15 =>
    if (z2_15 - 1) ≤ v4_15 then
      if v3_15 ≤ 0 then
        if ¬ (v4_15 < 0 ∨ 8 ≤ v4_15.toNatClampNeg) then
          some ((z2_15 - ((sF (sF M15 2 x0 v4_15.toNatClampNeg a1) 0 x0 6 (v4_15 + 1)).1 0 x0 6)), (sF (sF M15 2 x0 v4_15.toNatClampNeg a1) 0 x0 6 (v4_15 + 1)))
        else none
      else
        if (z2_15 - 1) ≤ v4_15 then
          if ¬ (v4_15 < 0 ∨ 8 ≤ v4_15.toNatClampNeg) then
            some ((z2_15 - ((sF (sF M15 2 x0 v4_15.toNatClampNeg a1) 0 x0 6 (v4_15 + 1)).1 0 x0 6)), (sF (sF M15 2 x0 v4_15.toNatClampNeg a1) 0 x0 6 (v4_15 + 1)))
          else none
        else
          if ¬ (v4_15 < 0 ∨ 8 ≤ v4_15.toNatClampNeg) then
            if ¬ ((v4_15 + 1) < 0 ∨ 8 ≤ (v4_15 + 1).toNatClampNeg) then
              some ((z2_15 - ((sF (sF (sF M15 2 x0 v4_15.toNatClampNeg v3_15) 2 x0 (v4_15 + 1).toNatClampNeg a1) 0 x0 6 ((v4_15 + 1) + 1)).1 0 x0 6)), (sF (sF (sF M15 2 x0 v4_15.toNatClampNeg v3_15) 2 x0 (v4_15 + 1).toNatClampNeg a1) 0 x0 6 ((v4_15 + 1) + 1)))
            else none
          else none
    else
      if ¬ (v4_15 < 0 ∨ 8 ≤ v4_15.toNatClampNeg) then
        if v3_15 < (M15.1 2 x0 v4_15.toNatClampNeg) then
          if v3_15 ≤ 0 then
            if ¬ (v4_15 < 0 ∨ 8 ≤ v4_15.toNatClampNeg) then
              some ((z2_15 - ((sF (sF M15 2 x0 v4_15.toNatClampNeg a1) 0 x0 6 (v4_15 + 1)).1 0 x0 6)), (sF (sF M15 2 x0 v4_15.toNatClampNeg a1) 0 x0 6 (v4_15 + 1)))
            else none
          else
            if (z2_15 - 1) ≤ v4_15 then
              if ¬ (v4_15 < 0 ∨ 8 ≤ v4_15.toNatClampNeg) then
                some ((z2_15 - ((sF (sF M15 2 x0 v4_15.toNatClampNeg a1) 0 x0 6 (v4_15 + 1)).1 0 x0 6)), (sF (sF M15 2 x0 v4_15.toNatClampNeg a1) 0 x0 6 (v4_15 + 1)))
              else none
            else
              if ¬ (v4_15 < 0 ∨ 8 ≤ v4_15.toNatClampNeg) then
                if ¬ ((v4_15 + 1) < 0 ∨ 8 ≤ (v4_15 + 1).toNatClampNeg) then
                  some ((z2_15 - ((sF (sF (sF M15 2 x0 v4_15.toNatClampNeg v3_15) 2 x0 (v4_15 + 1).toNatClampNeg a1) 0 x0 6 ((v4_15 + 1) + 1)).1 0 x0 6)), (sF (sF (sF M15 2 x0 v4_15.toNatClampNeg v3_15) 2 x0 (v4_15 + 1).toNatClampNeg a1) 0 x0 6 ((v4_15 + 1) + 1)))
                else none
              else none
        else
          if ¬ (v4_15 < 0 ∨ 8 ≤ v4_15.toNatClampNeg) then
            j_T_growLast_L15 n x0 a1 z2_15 f15 (v3_15 - (M15.1 2 x0 v4_15.toNatClampNeg)) (v4_15 + 1) M15
          else none
      else none
def j_T_growLast (n : Nat) (M : MX) (x0 : Fin 8) (a1 : Int32) : Option (Int32 × MX) :=
  j_T_growLast_L15 n x0 a1 (M.1 0 x0 6) n ((M.1 0 x0 7) - a1) 0 M
def j_A_stretchTasks_L7 (n : Nat) : Nat → Int32 → Int32 → Int32 → MX → Option (Int32 × MX)
  | 0, _, _, _, _ => none
  | f7 + 1, v1_7, v2_7, v3_7, M7 =>
    if (M7.2.1 0 2) ≤ v3_7 then
      (j_S_forgetFindings n M7).bind fun M_3 =>
        some (v1_7, M_3)
    else
      if ¬ (v3_7 < 0 ∨ 8 ≤ v3_7.toNatClampNeg) then
        (j_T_growLast n M7 (M7.2.2.1 v3_7.toNatClampNeg) (if v2_7 < (M7.1 0 (M7.2.2.1 v3_7.toNatClampNeg) 7) then v2_7 else (M7.1 0 (M7.2.2.1 v3_7.toNatClampNeg) 7))).bind fun q_6 =>
          (j_A_greatestBorne n q_6.2 (M7.2.2.1 v3_7.toNatClampNeg)).bind fun q_8 =>
            j_A_stretchTasks_L7 n f7 (v1_7 + q_6.1) (if (q_8.1 + 1) < v2_7 then (q_8.1 + 1) else v2_7) (v3_7 + 1) q_8.2
      else none
def j_A_stretchTasks (n : Nat) (M : MX) : Option (Int32 × MX) :=
  j_A_stretchTasks_L7 n n 0 1000000000 0 M
def j_A_highestBelowWith_L7 (n : Nat) (M : MX) (x1 : Fin 8) (a2 : Int32) : Nat → Int32 → Option (Fin 8)
  | 0, _ => none
  | f7 + 1, v3_7 =>
    if (M.2.1 0 2) ≤ v3_7 then
      some x1
    else
      if ¬ (v3_7 < 0 ∨ 8 ≤ v3_7.toNatClampNeg) then
        (j_T_longestSegment n M (M.2.2.1 v3_7.toNatClampNeg)).bind fun r_4 =>
          if r_4 = a2 then
            if ¬ (v3_7 < 0 ∨ 8 ≤ v3_7.toNatClampNeg) then
              some (M.2.2.1 v3_7.toNatClampNeg)
            else none
          else
            j_A_highestBelowWith_L7 n M x1 a2 f7 (v3_7 + 1)
      else none
def j_A_highestBelowWith (n : Nat) (M : MX) (x1 : Fin 8) (a2 : Int32) : Option (Fin 8) :=
  j_A_highestBelowWith_L7 n M x1 a2 n ((M.1 0 x1 8) + 1)
def j_T_workAheadOf_L4 (n : Nat) (M : MX) (x0 : Fin 8) (a1 : Int32) : Nat → Int32 → Int32 → Option Int32
  | 0, _, _ => none
  | f4 + 1, v2_4, v3_4 =>
    if (M.1 0 x0 6) ≤ v3_4 then
      some v2_4
    else
      if ¬ (v3_4 < 0 ∨ 8 ≤ v3_4.toNatClampNeg) then
        if (M.1 2 x0 v3_4.toNatClampNeg) = a1 then
          some v2_4
        else
          if ¬ (v3_4 < 0 ∨ 8 ≤ v3_4.toNatClampNeg) then
            j_T_workAheadOf_L4 n M x0 a1 f4 (v2_4 + (M.1 2 x0 v3_4.toNatClampNeg)) (v3_4 + 1)
          else none
      else none
def j_T_workAheadOf (n : Nat) (M : MX) (x0 : Fin 8) (a1 : Int32) : Option Int32 :=
  j_T_workAheadOf_L4 n M x0 a1 n 0 0
def j_A_ownArrivalsBy (n : Nat) (M : MX) (x1 : Fin 8) (a2 : Int32) : Option Int32 :=
  (j_T_arrivalsBy n M x1 a2).bind fun r_2 =>
    some (if r_2 < ((M.1 0 x1 10) + 1) then r_2 else ((M.1 0 x1 10) + 1))
def j_A_scenarioArrivalsBy_L10 (n : Nat) (M : MX) (x1 : Fin 8) (a2 : Int32) : Nat → Int32 → Int32 → Option Int32
  | 0, _, _ => none
  | f10 + 1, v3_10, v4_10 =>
    if (M.1 0 x1 8) ≤ v4_10 then
      some v3_10
    else
      if ¬ (v4_10 < 0 ∨ 8 ≤ v4_10.toNatClampNeg) then
        (j_T_arrivalsBy n M (M.2.2.1 v4_10.toNatClampNeg) a2).bind fun r_6 =>
          j_A_scenarioArrivalsBy_L10 n M x1 a2 f10 (v3_10 + r_6) (v4_10 + 1)
      else none
def j_A_scenarioArrivalsBy (n : Nat) (M : MX) (x1 : Fin 8) (a2 : Int32) : Option Int32 :=
  (j_A_ownArrivalsBy n M x1 a2).bind fun r_2 =>
    j_A_scenarioArrivalsBy_L10 n M x1 a2 n r_2 0
def j_A_timeOfArrival_L11 (n : Nat) (M : MX) (x1 : Fin 8) (a2 : Int32) (a3 : Int32) : Nat → Int32 → Int32 → Int32 → Option Int32
  | 0, _, _, _ => none
  | f11 + 1, v4_11, v5_11, v6_11 =>
    if 64 ≤ v6_11 then
      some v4_11
    else
      if v5_11 ≤ v4_11 then
        some v4_11
      else
        (j_A_scenarioArrivalsBy n M x1 ((v4_11 + v5_11) / 2)).bind fun r_4 =>
          if r_4 ≤ a2 then
            j_A_timeOfArrival_L11 n M x1 a2 a3 f11 (((v4_11 + v5_11) / 2) + 1) v5_11 (v6_11 + 1)
          else
            j_A_timeOfArrival_L11 n M x1 a2 a3 f11 v4_11 ((v4_11 + v5_11) / 2) (v6_11 + 1)
def j_A_timeOfArrival (n : Nat) (M : MX) (x1 : Fin 8) (a2 : Int32) (a3 : Int32) : Option Int32 :=
  j_A_timeOfArrival_L11 n M x1 a2 a3 n 0 (a3 - 1) 0
def j_A_taskOfArrival_L13 (n : Nat) (M : MX) (x1 : Fin 8) (a2 : Int32) (a3 : Int32) : Nat → Int32 → Int32 → Option Int32
  | 0, _, _ => none
  | f13 + 1, v4_13, v5_13 =>
    if (M.1 0 x1 8) ≤ v5_13 then
      some (M.1 0 x1 0)
    else
      if ¬ (v5_13 < 0 ∨ 8 ≤ v5_13.toNatClampNeg) then
        (j_T_arrivalsBy n M (M.2.2.1 v5_13.toNatClampNeg) a3).bind fun r_6 =>
          (j_T_arrivalsBy n M (M.2.2.1 v5_13.toNatClampNeg) (a3 - 1)).bind fun r_8 =>
            if (v4_13 + (r_6 - r_8)) ≤ a2 then
              j_A_taskOfArrival_L13 n M x1 a2 a3 f13 (v4_13 + (r_6 - r_8)) (v5_13 + 1)
            else
              some (M.1 0 (M.2.2.1 v5_13.toNatClampNeg) 0)
      else none
def j_A_taskOfArrival (n : Nat) (M : MX) (x1 : Fin 8) (a2 : Int32) (a3 : Int32) : Option Int32 :=
  (j_A_scenarioArrivalsBy n M x1 (a3 - 1)).bind fun r_2 =>
    j_A_taskOfArrival_L13 n M x1 a2 a3 n r_2 0
def j_A_scenarioItem (n : Nat) (M : MX) (x1 : Fin 8) (a2 : Int32) (a3 : Int32) : Option Int32 :=
  (j_S_blockingOf n M x1).bind fun r_2 =>
    if r_2 ≤ 0 then
      (j_A_scenarioArrivalsBy n M x1 ((((M.1 0 x1 10) * (M.1 0 x1 3)) + (M.1 0 x1 9)) - 1)).bind fun r_5 =>
        if a2 < r_5 then
          (j_A_timeOfArrival n M x1 a2 (((M.1 0 x1 10) * (M.1 0 x1 3)) + (M.1 0 x1 9))).bind fun r_8 =>
            if a3 = 0 then
              (j_A_taskOfArrival n M x1 a2 r_8).bind fun r_11 =>
                some r_11
            else
              some (0 + r_8)
        else
          some (-1)
    else
      (j_S_longestBelow n M x1).bind fun r_13 =>
        (j_A_highestBelowWith n M x1 r_13).bind fun r_15 =>
          if a2 = 0 then
            if a3 = 0 then
              some (M.1 0 r_15 0)
            else
              some 0
          else
            (j_T_workAheadOf n M r_15 r_13).bind fun r_18 =>
              (j_A_scenarioArrivalsBy n M x1 ((((M.1 0 x1 10) * (M.1 0 x1 3)) + (M.1 0 x1 9)) - 1)).bind fun r_20 =>
                if (a2 - 1) < r_20 then
                  (j_A_timeOfArrival n M x1 (a2 - 1) (((M.1 0 x1 10) * (M.1 0 x1 3)) + (M.1 0 x1 9))).bind fun r_23 =>
                    if a3 = 0 then
                      (j_A_taskOfArrival n M x1 (a2 - 1) r_23).bind fun r_26 =>
                        some r_26
                    else
                      some ((r_18 + 1) + r_23)
                else
                  some (-1)
def j_J_accept (n : Nat) (M : MX) (x0 : Fin 8) (a1 : Int32) (a2 : Int32) : Option (Int32 × MX) :=
  if ((M.1 1 x0 2) - (M.1 1 x0 3)) < 9 then
    if (M.1 1 x0 2) ≤ 0 then
      if ¬ (((M.1 1 x0 2) - (M.1 1 x0 2) / 9 * 9) < 0 ∨ 9 ≤ ((M.1 1 x0 2) - (M.1 1 x0 2) / 9 * 9).toNatClampNeg) then
        some (1, (sF (sF M 3 x0 ((M.1 1 x0 2) - (M.1 1 x0 2) / 9 * 9).toNatClampNeg a1) 1 x0 2 (((sF M 3 x0 ((M.1 1 x0 2) - (M.1 1 x0 2) / 9 * 9).toNatClampNeg a1).1 1 x0 2) + 1)))
      else none
    else
      if ¬ ((((M.1 1 x0 2) - 1) - ((M.1 1 x0 2) - 1) / 9 * 9) < 0 ∨ 9 ≤ (((M.1 1 x0 2) - 1) - ((M.1 1 x0 2) - 1) / 9 * 9).toNatClampNeg) then
        if a2 ≤ (a1 - (M.1 3 x0 (((M.1 1 x0 2) - 1) - ((M.1 1 x0 2) - 1) / 9 * 9).toNatClampNeg)) then
          if ¬ (((M.1 1 x0 2) - (M.1 1 x0 2) / 9 * 9) < 0 ∨ 9 ≤ ((M.1 1 x0 2) - (M.1 1 x0 2) / 9 * 9).toNatClampNeg) then
            some (1, (sF (sF M 3 x0 ((M.1 1 x0 2) - (M.1 1 x0 2) / 9 * 9).toNatClampNeg a1) 1 x0 2 (((sF M 3 x0 ((M.1 1 x0 2) - (M.1 1 x0 2) / 9 * 9).toNatClampNeg a1).1 1 x0 2) + 1)))
          else none
        else
          some (0, M)
      else none
  else
    some (0, M)
def j_K_accept (n : Nat) (M : MX) (x1 : Fin 8) : Option (Int32 × MX) :=
  (j_J_accept n M x1 (M.2.1 2 2) (M.1 0 x1 3)).bind fun q_2 =>
    if q_2.1 = 0 then
      some (0, q_2.2)
    else
      some (1, (sG q_2.2 2 1 1))
def j_O_arrive (n : Nat) (M : MX) (a1 : Int32) : Option (Int32 × MX) :=
  (j_S_find n M a1).bind fun r_2 =>
    gw_oc r_2
      (
        some (0, M)
      )
      (fun y_3 =>
        (j_S_isReady n M).bind fun r_5 =>
          if r_5 = 0 then
            some (0, M)
          else
            (j_K_accept n M y_3).bind fun q_8 =>
              if q_8.1 = 0 then
                some (0, q_8.2)
              else
                some (1, q_8.2)
      )
def j_J_hasOpen (n : Nat) (M : MX) (x0 : Fin 8) : Option Int32 :=
  if (M.1 1 x0 2) ≤ (M.1 1 x0 3) then
    some 0
  else
    some 1
def j_K_highestWithJob_L2 (n : Nat) (M : MX) : Nat → Int32 → Option (Option (Fin 8))
  | 0, _ => none
  | f2 + 1, v1_2 =>
    if (M.2.1 0 2) ≤ v1_2 then
      some none
    else
      if ¬ (v1_2 < 0 ∨ 8 ≤ v1_2.toNatClampNeg) then
        (j_J_hasOpen n M (M.2.2.1 v1_2.toNatClampNeg)).bind fun r_4 =>
          if r_4 = 0 then
            j_K_highestWithJob_L2 n M f2 (v1_2 + 1)
          else
            if ¬ (v1_2 < 0 ∨ 8 ≤ v1_2.toNatClampNeg) then
              some (some (M.2.2.1 v1_2.toNatClampNeg))
            else none
      else none
def j_K_highestWithJob (n : Nat) (M : MX) : Option (Option (Fin 8)) :=
  j_K_highestWithJob_L2 n M n 0
def j_K_beginSegment (n : Nat) (M : MX) : Option MX :=
  (j_K_highestWithJob n M).bind fun r_2 =>
    gw_oc r_2
      (
        some M
      )
      (fun y_3 =>
        gw_oc M.2.2.2.2
          (
            (j_T_segmentAt n (sU (sP M none) (some y_3)) y_3 ((sU (sP M none) (some y_3)).1 1 y_3 7)).bind fun r_6 =>
              some (sG (sU (sP M none) (some y_3)) 2 3 r_6)
          )
          (fun y_4 =>
            if M.2.2.2.2 = (some y_3) then
              (j_T_segmentAt n (sU (sP M none) (some y_3)) y_3 ((sU (sP M none) (some y_3)).1 1 y_3 7)).bind fun r_9 =>
                some (sG (sU (sP M none) (some y_3)) 2 3 r_9)
            else
              (M.2.2.2.2).bind fun y_10 =>
                (j_T_segmentAt n (sU (sP (sF M 1 y_10 5 ((M.1 1 y_10 5) + 1)) none) (some y_3)) y_3 ((sU (sP (sF M 1 y_10 5 ((M.1 1 y_10 5) + 1)) none) (some y_3)).1 1 y_3 7)).bind fun r_13 =>
                  some (sG (sU (sP (sF M 1 y_10 5 ((M.1 1 y_10 5) + 1)) none) (some y_3)) 2 3 r_13)
          )
      )
def j_J_finishOldest (n : Nat) (M : MX) (x0 : Fin 8) (a1 : Int32) (a2 : Int32) : Option MX :=
  if ¬ (((M.1 1 x0 3) - (M.1 1 x0 3) / 9 * 9) < 0 ∨ 9 ≤ ((M.1 1 x0 3) - (M.1 1 x0 3) / 9 * 9).toNatClampNeg) then
    if 200 ≤ (M.1 1 x0 3) then
      if (a1 - (M.1 3 x0 ((M.1 1 x0 3) - (M.1 1 x0 3) / 9 * 9).toNatClampNeg)) ≤ a2 then
        some (sF (sF (sF M 1 x0 4 (if (M.1 1 x0 4) < (a1 - (M.1 3 x0 ((M.1 1 x0 3) - (M.1 1 x0 3) / 9 * 9).toNatClampNeg)) then (a1 - (M.1 3 x0 ((M.1 1 x0 3) - (M.1 1 x0 3) / 9 * 9).toNatClampNeg)) else (M.1 1 x0 4))) 1 x0 3 (((sF M 1 x0 4 (if (M.1 1 x0 4) < (a1 - (M.1 3 x0 ((M.1 1 x0 3) - (M.1 1 x0 3) / 9 * 9).toNatClampNeg)) then (a1 - (M.1 3 x0 ((M.1 1 x0 3) - (M.1 1 x0 3) / 9 * 9).toNatClampNeg)) else (M.1 1 x0 4))).1 1 x0 3) + 1)) 1 x0 7 0)
      else
        some (sF (sF (sF (sF M 1 x0 4 (if (M.1 1 x0 4) < (a1 - (M.1 3 x0 ((M.1 1 x0 3) - (M.1 1 x0 3) / 9 * 9).toNatClampNeg)) then (a1 - (M.1 3 x0 ((M.1 1 x0 3) - (M.1 1 x0 3) / 9 * 9).toNatClampNeg)) else (M.1 1 x0 4))) 1 x0 6 (((sF M 1 x0 4 (if (M.1 1 x0 4) < (a1 - (M.1 3 x0 ((M.1 1 x0 3) - (M.1 1 x0 3) / 9 * 9).toNatClampNeg)) then (a1 - (M.1 3 x0 ((M.1 1 x0 3) - (M.1 1 x0 3) / 9 * 9).toNatClampNeg)) else (M.1 1 x0 4))).1 1 x0 6) + 1)) 1 x0 3 (((sF (sF M 1 x0 4 (if (M.1 1 x0 4) < (a1 - (M.1 3 x0 ((M.1 1 x0 3) - (M.1 1 x0 3) / 9 * 9).toNatClampNeg)) then (a1 - (M.1 3 x0 ((M.1 1 x0 3) - (M.1 1 x0 3) / 9 * 9).toNatClampNeg)) else (M.1 1 x0 4))) 1 x0 6 (((sF M 1 x0 4 (if (M.1 1 x0 4) < (a1 - (M.1 3 x0 ((M.1 1 x0 3) - (M.1 1 x0 3) / 9 * 9).toNatClampNeg)) then (a1 - (M.1 3 x0 ((M.1 1 x0 3) - (M.1 1 x0 3) / 9 * 9).toNatClampNeg)) else (M.1 1 x0 4))).1 1 x0 6) + 1)).1 1 x0 3) + 1)) 1 x0 7 0)
    else
      if ¬ ((M.1 1 x0 3) < 0 ∨ 200 ≤ (M.1 1 x0 3).toNatClampNeg) then
        if (a1 - (M.1 3 x0 ((M.1 1 x0 3) - (M.1 1 x0 3) / 9 * 9).toNatClampNeg)) ≤ a2 then
          some (sF (sF (sF (sF M 4 x0 (M.1 1 x0 3).toNatClampNeg (a1 - (M.1 3 x0 ((M.1 1 x0 3) - (M.1 1 x0 3) / 9 * 9).toNatClampNeg))) 1 x0 4 (if ((sF M 4 x0 (M.1 1 x0 3).toNatClampNeg (a1 - (M.1 3 x0 ((M.1 1 x0 3) - (M.1 1 x0 3) / 9 * 9).toNatClampNeg))).1 1 x0 4) < (a1 - (M.1 3 x0 ((M.1 1 x0 3) - (M.1 1 x0 3) / 9 * 9).toNatClampNeg)) then (a1 - (M.1 3 x0 ((M.1 1 x0 3) - (M.1 1 x0 3) / 9 * 9).toNatClampNeg)) else ((sF M 4 x0 (M.1 1 x0 3).toNatClampNeg (a1 - (M.1 3 x0 ((M.1 1 x0 3) - (M.1 1 x0 3) / 9 * 9).toNatClampNeg))).1 1 x0 4))) 1 x0 3 (((sF (sF M 4 x0 (M.1 1 x0 3).toNatClampNeg (a1 - (M.1 3 x0 ((M.1 1 x0 3) - (M.1 1 x0 3) / 9 * 9).toNatClampNeg))) 1 x0 4 (if ((sF M 4 x0 (M.1 1 x0 3).toNatClampNeg (a1 - (M.1 3 x0 ((M.1 1 x0 3) - (M.1 1 x0 3) / 9 * 9).toNatClampNeg))).1 1 x0 4) < (a1 - (M.1 3 x0 ((M.1 1 x0 3) - (M.1 1 x0 3) / 9 * 9).toNatClampNeg)) then (a1 - (M.1 3 x0 ((M.1 1 x0 3) - (M.1 1 x0 3) / 9 * 9).toNatClampNeg)) else ((sF M 4 x0 (M.1 1 x0 3).toNatClampNeg (a1 - (M.1 3 x0 ((M.1 1 x0 3) - (M.1 1 x0 3) / 9 * 9).toNatClampNeg))).1 1 x0 4))).1 1 x0 3) + 1)) 1 x0 7 0)
        else
          some (sF (sF (sF (sF (sF M 4 x0 (M.1 1 x0 3).toNatClampNeg (a1 - (M.1 3 x0 ((M.1 1 x0 3) - (M.1 1 x0 3) / 9 * 9).toNatClampNeg))) 1 x0 4 (if ((sF M 4 x0 (M.1 1 x0 3).toNatClampNeg (a1 - (M.1 3 x0 ((M.1 1 x0 3) - (M.1 1 x0 3) / 9 * 9).toNatClampNeg))).1 1 x0 4) < (a1 - (M.1 3 x0 ((M.1 1 x0 3) - (M.1 1 x0 3) / 9 * 9).toNatClampNeg)) then (a1 - (M.1 3 x0 ((M.1 1 x0 3) - (M.1 1 x0 3) / 9 * 9).toNatClampNeg)) else ((sF M 4 x0 (M.1 1 x0 3).toNatClampNeg (a1 - (M.1 3 x0 ((M.1 1 x0 3) - (M.1 1 x0 3) / 9 * 9).toNatClampNeg))).1 1 x0 4))) 1 x0 6 (((sF (sF M 4 x0 (M.1 1 x0 3).toNatClampNeg (a1 - (M.1 3 x0 ((M.1 1 x0 3) - (M.1 1 x0 3) / 9 * 9).toNatClampNeg))) 1 x0 4 (if ((sF M 4 x0 (M.1 1 x0 3).toNatClampNeg (a1 - (M.1 3 x0 ((M.1 1 x0 3) - (M.1 1 x0 3) / 9 * 9).toNatClampNeg))).1 1 x0 4) < (a1 - (M.1 3 x0 ((M.1 1 x0 3) - (M.1 1 x0 3) / 9 * 9).toNatClampNeg)) then (a1 - (M.1 3 x0 ((M.1 1 x0 3) - (M.1 1 x0 3) / 9 * 9).toNatClampNeg)) else ((sF M 4 x0 (M.1 1 x0 3).toNatClampNeg (a1 - (M.1 3 x0 ((M.1 1 x0 3) - (M.1 1 x0 3) / 9 * 9).toNatClampNeg))).1 1 x0 4))).1 1 x0 6) + 1)) 1 x0 3 (((sF (sF (sF M 4 x0 (M.1 1 x0 3).toNatClampNeg (a1 - (M.1 3 x0 ((M.1 1 x0 3) - (M.1 1 x0 3) / 9 * 9).toNatClampNeg))) 1 x0 4 (if ((sF M 4 x0 (M.1 1 x0 3).toNatClampNeg (a1 - (M.1 3 x0 ((M.1 1 x0 3) - (M.1 1 x0 3) / 9 * 9).toNatClampNeg))).1 1 x0 4) < (a1 - (M.1 3 x0 ((M.1 1 x0 3) - (M.1 1 x0 3) / 9 * 9).toNatClampNeg)) then (a1 - (M.1 3 x0 ((M.1 1 x0 3) - (M.1 1 x0 3) / 9 * 9).toNatClampNeg)) else ((sF M 4 x0 (M.1 1 x0 3).toNatClampNeg (a1 - (M.1 3 x0 ((M.1 1 x0 3) - (M.1 1 x0 3) / 9 * 9).toNatClampNeg))).1 1 x0 4))) 1 x0 6 (((sF (sF M 4 x0 (M.1 1 x0 3).toNatClampNeg (a1 - (M.1 3 x0 ((M.1 1 x0 3) - (M.1 1 x0 3) / 9 * 9).toNatClampNeg))) 1 x0 4 (if ((sF M 4 x0 (M.1 1 x0 3).toNatClampNeg (a1 - (M.1 3 x0 ((M.1 1 x0 3) - (M.1 1 x0 3) / 9 * 9).toNatClampNeg))).1 1 x0 4) < (a1 - (M.1 3 x0 ((M.1 1 x0 3) - (M.1 1 x0 3) / 9 * 9).toNatClampNeg)) then (a1 - (M.1 3 x0 ((M.1 1 x0 3) - (M.1 1 x0 3) / 9 * 9).toNatClampNeg)) else ((sF M 4 x0 (M.1 1 x0 3).toNatClampNeg (a1 - (M.1 3 x0 ((M.1 1 x0 3) - (M.1 1 x0 3) / 9 * 9).toNatClampNeg))).1 1 x0 4))).1 1 x0 6) + 1)).1 1 x0 3) + 1)) 1 x0 7 0)
      else none
  else none
def j_K_endSegment (n : Nat) (M : MX) (x1 : Fin 8) : Option MX :=
  if ((sF (sU M none) 1 x1 7 (((sU M none).1 1 x1 7) + 1)).1 0 x1 6) ≤ ((sF (sU M none) 1 x1 7 (((sU M none).1 1 x1 7) + 1)).1 1 x1 7) then
    (j_J_finishOldest n (sF (sU M none) 1 x1 7 (((sU M none).1 1 x1 7) + 1)) x1 ((sF (sU M none) 1 x1 7 (((sU M none).1 1 x1 7) + 1)).2.1 2 2) ((sF (sU M none) 1 x1 7 (((sU M none).1 1 x1 7) + 1)).1 0 x1 4)).bind fun M_3 =>
      some M_3
  else
    some (sP (sF (sU M none) 1 x1 7 (((sU M none).1 1 x1 7) + 1)) (some x1))
def j_K_run (n : Nat) (M : MX) (x1 : Fin 8) (a2 : Int32) : Option MX :=
  if ((sG (sG M 2 2 ((M.2.1 2 2) + a2)) 2 3 (((sG M 2 2 ((M.2.1 2 2) + a2)).2.1 2 3) - a2)).2.1 2 3) = 0 then
    (j_K_endSegment n (sG (sG M 2 2 ((M.2.1 2 2) + a2)) 2 3 (((sG M 2 2 ((M.2.1 2 2) + a2)).2.1 2 3) - a2)) x1).bind fun M_3 =>
      some M_3
  else
    some (sG (sG M 2 2 ((M.2.1 2 2) + a2)) 2 3 (((sG M 2 2 ((M.2.1 2 2) + a2)).2.1 2 3) - a2))
def j_K_advance_L7 (n : Nat) (a1 : Int32) : Nat → Int32 → Int32 → Int32 → MX → Option (Int32 × MX)
  | 0, _, _, _, _ => none
  | f7 + 1, v2_7, v3_7, v4_7, M7 =>
    if a1 ≤ v4_7 then
      some (v2_7, M7)
    else
      if v3_7 ≤ 0 then
        some (v2_7, M7)
      else
        gw_oc M7.2.2.2.1
          (
            (j_K_beginSegment n M7).bind fun M_5 =>
              gw_oc M_5.2.2.2.1
                (
                  some (0, (sG M_5 2 2 ((M_5.2.1 2 2) + v3_7)))
                )
                (fun y_6 =>
                  (M_5.2.2.2.1).bind fun y_7 =>
                    (M_5.2.2.2.1).bind fun y_9 =>
                      (j_K_run n M_5 y_9 (if v3_7 < (M_5.2.1 2 3) then v3_7 else (M_5.2.1 2 3))).bind fun M_12 =>
                        j_K_advance_L7 n a1 f7 (M_5.1 0 y_7 0) (v3_7 - (if v3_7 < (M_5.2.1 2 3) then v3_7 else (M_5.2.1 2 3))) (v4_7 + 1) M_12
                )
          )
          (fun y_3 =>
            gw_oc M7.2.2.2.1
              (
                some (0, (sG M7 2 2 ((M7.2.1 2 2) + v3_7)))
              )
              (fun y_14 =>
                (M7.2.2.2.1).bind fun y_15 =>
                  (M7.2.2.2.1).bind fun y_17 =>
                    (j_K_run n M7 y_17 (if v3_7 < (M7.2.1 2 3) then v3_7 else (M7.2.1 2 3))).bind fun M_20 =>
                      j_K_advance_L7 n a1 f7 (M7.1 0 y_15 0) (v3_7 - (if v3_7 < (M7.2.1 2 3) then v3_7 else (M7.2.1 2 3))) (v4_7 + 1) M_20
              )
          )
def j_K_advance (n : Nat) (M : MX) (a1 : Int32) : Option (Int32 × MX) :=
  j_K_advance_L7 n a1 n 0 a1 0 M
def j_O_now (n : Nat) (M : MX) : Option Int32 :=
  some (M.2.1 2 2)
def j_J_notedResponse (n : Nat) (M : MX) (x0 : Fin 8) (a1 : Int32) : Option Int32 :=
  if a1 < 0 then
    some (-1)
  else
    if (M.1 1 x0 3) ≤ a1 then
      some (-1)
    else
      if a1 < 200 then
        if ¬ (a1 < 0 ∨ 200 ≤ a1.toNatClampNeg) then
          some (M.1 4 x0 a1.toNatClampNeg)
        else none
      else
        some (-1)
def j_O_ended (n : Nat) (M : MX) (a1 : Int32) (a2 : Int32) : Option Int32 :=
  (j_S_find n M a1).bind fun r_2 =>
    gw_oc r_2
      (
        some (-1)
      )
      (fun y_3 =>
        (j_J_notedResponse n M y_3 a2).bind fun r_5 =>
          some r_5
      )
def j_K_leftOf (n : Nat) (M : MX) (x1 : Fin 8) : Option Int32 :=
  if (some x1) = M.2.2.2.1 then
    some (M.2.1 2 3)
  else
    some 0
def j_O_seen (n : Nat) (M : MX) (a1 : Int32) (a2 : Int32) : Option Int32 :=
  (j_S_find n M a1).bind fun r_2 =>
    gw_oc r_2
      (
        some (-1)
      )
      (fun y_3 =>
        if a2 = 0 then
          some (M.1 1 y_3 2)
        else
        if a2 = 1 then
          some (M.1 1 y_3 3)
        else
        if a2 = 2 then
          some (M.1 1 y_3 4)
        else
        if a2 = 3 then
          some (M.1 1 y_3 5)
        else
        if a2 = 4 then
          some (M.1 1 y_3 6)
        else
        if a2 = 5 then
          (j_K_leftOf n M y_3).bind fun r_10 =>
            some r_10
        else
          some (-1)
      )
