/-! the reference, as pure functions -/
def j_Y_thrown (n : Nat) (M : MY) : Option Int32 :=
  some (M.2 0)
def j_Y_raise (n : Nat) (M : MY) (a1 : Int32) : Option (Int32 × MY) :=
  some (0, (sV M 0 a1))
def j_Y_isTask (n : Nat) (M : MY) (a1 : Int32) : Option Int32 :=
  if a1 < 1 then
    some 0
  else
    if 8 < a1 then
      some 0
    else
      if ¬ (a1 < 0 ∨ 9 ≤ a1.toNatClampNeg) then
        if (M.1 1 a1.toNatClampNeg) = 0 then
          some 0
        else
          some 1
      else none
def j_Y_task_L74 (n : Nat) (a1 : Int32) (a2 : Int32) (a3 : Int32) (a4 : Int32) : Nat → Int32 → MY → Option (Int32 × MY)
  | 0, _, _ => none
  | f74 + 1, v5_74, M74 =>
    if 8 < v5_74 then
      if ¬ (a1 < 0 ∨ 9 ≤ a1.toNatClampNeg) then
        if ¬ (a1 < 0 ∨ 9 ≤ a1.toNatClampNeg) then
          if ¬ (a1 < 0 ∨ 9 ≤ a1.toNatClampNeg) then
            if ¬ (a1 < 0 ∨ 9 ≤ a1.toNatClampNeg) then
              if ¬ (a1 < 0 ∨ 9 ≤ a1.toNatClampNeg) then
                some (1, (sA (sA (sA (sA (sA M74 1 a1.toNatClampNeg 1) 2 a1.toNatClampNeg a2) 3 a1.toNatClampNeg a3) 4 a1.toNatClampNeg a4) 5 a1.toNatClampNeg 0))
              else none
            else none
          else none
        else none
      else none
    else
      if ¬ (v5_74 < 0 ∨ 9 ≤ v5_74.toNatClampNeg) then
        if (M74.1 1 v5_74.toNatClampNeg) = 0 then
          j_Y_task_L74 n a1 a2 a3 a4 f74 (v5_74 + 1) M74
        else
          if ¬ (v5_74 < 0 ∨ 9 ≤ v5_74.toNatClampNeg) then
            if (M74.1 4 v5_74.toNatClampNeg) = a4 then
              some (0, M74)
            else
              j_Y_task_L74 n a1 a2 a3 a4 f74 (v5_74 + 1) M74
          else none
      else none
def j_Y_task (n : Nat) (M : MY) (a1 : Int32) (a2 : Int32) (a3 : Int32) (a4 : Int32) : Option (Int32 × MY) :=
  if ((sV M 0 0).2 25) = 0 then
    if a1 < 1 then
      some (0, (sV M 0 0))
    else
      if 8 < a1 then
        some (0, (sV M 0 0))
      else
        if ¬ (a1 < 0 ∨ 9 ≤ a1.toNatClampNeg) then
          if ((sV M 0 0).1 1 a1.toNatClampNeg) = 0 then
            if a2 < 1 then
              some (0, (sV M 0 0))
            else
              if 1000 < a2 then
                some (0, (sV M 0 0))
              else
                if a3 < 1 then
                  some (0, (sV M 0 0))
                else
                  if (8 * a2) < a3 then
                    some (0, (sV M 0 0))
                  else
                    if a4 < 0 then
                      some (0, (sV M 0 0))
                    else
                      if a4 ≤ 99 then
                        j_Y_task_L74 n a1 a2 a3 a4 n 1 (sV M 0 0)
                      else
                        some (0, (sV M 0 0))
          else
            some (0, (sV M 0 0))
        else none
  else
    some (0, (sV M 0 0))
def j_Y_segment (n : Nat) (M : MY) (a1 : Int32) (a2 : Int32) : Option (Int32 × MY) :=
  if ((sV M 0 0).2 25) = 0 then
    (j_Y_isTask n (sV M 0 0) a1).bind fun r_3 =>
      if r_3 = 0 then
        some (0, (sV M 0 0))
      else
        if ¬ (a1 < 0 ∨ 9 ≤ a1.toNatClampNeg) then
          if ((sV M 0 0).1 5 a1.toNatClampNeg) = 8 then
            some (0, (sV M 0 0))
          else
            if a2 < 1 then
              some (0, (sV M 0 0))
            else
              if a2 ≤ 100 then
                if ¬ (a1 < 0 ∨ 9 ≤ a1.toNatClampNeg) then
                  if ¬ (((8 * a1) + ((sV M 0 0).1 5 a1.toNatClampNeg)) < 0 ∨ 72 ≤ ((8 * a1) + ((sV M 0 0).1 5 a1.toNatClampNeg)).toNatClampNeg) then
                    if ¬ (a1 < 0 ∨ 9 ≤ a1.toNatClampNeg) then
                      if ¬ (a1 < 0 ∨ 9 ≤ a1.toNatClampNeg) then
                        some (1, (sA (sA (sV M 0 0) 6 ((8 * a1) + ((sV M 0 0).1 5 a1.toNatClampNeg)).toNatClampNeg a2) 5 a1.toNatClampNeg (((sA (sV M 0 0) 6 ((8 * a1) + ((sV M 0 0).1 5 a1.toNatClampNeg)).toNatClampNeg a2).1 5 a1.toNatClampNeg) + 1)))
                      else none
                    else none
                  else none
                else none
              else
                some (0, (sV M 0 0))
        else none
  else
    some (0, (sV M 0 0))
def j_Y_forgetJobs_L27 (n : Nat) : Nat → Int32 → MY → Option MY
  | 0, _, _ => none
  | f27 + 1, v1_27, M27 =>
    if 9 ≤ v1_27 then
      some M27
    else
      if ¬ (v1_27 < 0 ∨ 9 ≤ v1_27.toNatClampNeg) then
        if ¬ (v1_27 < 0 ∨ 9 ≤ v1_27.toNatClampNeg) then
          if ¬ (v1_27 < 0 ∨ 9 ≤ v1_27.toNatClampNeg) then
            if ¬ (v1_27 < 0 ∨ 9 ≤ v1_27.toNatClampNeg) then
              if ¬ (v1_27 < 0 ∨ 9 ≤ v1_27.toNatClampNeg) then
                if ¬ (v1_27 < 0 ∨ 9 ≤ v1_27.toNatClampNeg) then
                  j_Y_forgetJobs_L27 n f27 (v1_27 + 1) (sA (sA (sA (sA (sA (sA M27 9 v1_27.toNatClampNeg 0) 10 v1_27.toNatClampNeg 0) 13 v1_27.toNatClampNeg 0) 14 v1_27.toNatClampNeg 0) 15 v1_27.toNatClampNeg 0) 16 v1_27.toNatClampNeg 0)
                else none
              else none
            else none
          else none
        else none
      else none
def j_Y_forgetJobs (n : Nat) (M : MY) : Option MY :=
  j_Y_forgetJobs_L27 n n 0 (sV (sV (sV (sV (sV M 15 0) 25 0) 26 0) 27 0) 28 0)
def j_Y_clear_L7 (n : Nat) : Nat → Int32 → MY → Option MY
  | 0, _, _ => none
  | f7 + 1, v1_7, M7 =>
    if 9 ≤ v1_7 then
      (j_Y_forgetJobs n M7).bind fun M_3 =>
        some M_3
    else
      if ¬ (v1_7 < 0 ∨ 9 ≤ v1_7.toNatClampNeg) then
        j_Y_clear_L7 n f7 (v1_7 + 1) (sA M7 1 v1_7.toNatClampNeg 0)
      else none
def j_Y_clear (n : Nat) (M : MY) : Option MY :=
  j_Y_clear_L7 n n 0 (sV M 0 0)
def j_Y_reset (n : Nat) (M : MY) : Option MY :=
  (j_Y_forgetJobs n (sV M 0 0)).bind fun M_2 =>
    some M_2
def j_Y_isReady_L4 (n : Nat) (M : MY) : Nat → Int32 → Int32 → Option Int32
  | 0, _, _ => none
  | f4 + 1, v1_4, v2_4 =>
    if 8 < v2_4 then
      if v1_4 = 0 ∨ v1_4 = 1 then some v1_4 else none
    else
      if ¬ (v2_4 < 0 ∨ 9 ≤ v2_4.toNatClampNeg) then
        if (M.1 1 v2_4.toNatClampNeg) = 0 then
          if v1_4 = 0 then
            if ¬ (v2_4 < 0 ∨ 9 ≤ v2_4.toNatClampNeg) then
              if (M.1 1 v2_4.toNatClampNeg) = 0 then
                j_Y_isReady_L4 n M f4 0 (v2_4 + 1)
              else
                j_Y_isReady_L4 n M f4 1 (v2_4 + 1)
            else none
          else
            j_Y_isReady_L4 n M f4 1 (v2_4 + 1)
        else
          if ¬ (v2_4 < 0 ∨ 9 ≤ v2_4.toNatClampNeg) then
            if (M.1 5 v2_4.toNatClampNeg) = 0 then
              some 0
            else
              if v1_4 = 0 then
                if ¬ (v2_4 < 0 ∨ 9 ≤ v2_4.toNatClampNeg) then
                  if (M.1 1 v2_4.toNatClampNeg) = 0 then
                    j_Y_isReady_L4 n M f4 0 (v2_4 + 1)
                  else
                    j_Y_isReady_L4 n M f4 1 (v2_4 + 1)
                else none
              else
                j_Y_isReady_L4 n M f4 1 (v2_4 + 1)
          else none
      else none
def j_Y_isReady (n : Nat) (M : MY) : Option Int32 :=
  j_Y_isReady_L4 n M n 0 1
def j_Y_workBefore_L5 (n : Nat) (M : MY) (a1 : Int32) (a2 : Int32) : Nat → Int32 → Int32 → Option Int32
  | 0, _, _ => none
  | f5 + 1, v3_5, v4_5 =>
    if a2 ≤ v4_5 then
      some v3_5
    else
      if ¬ (((8 * a1) + v4_5) < 0 ∨ 72 ≤ ((8 * a1) + v4_5).toNatClampNeg) then
        j_Y_workBefore_L5 n M a1 a2 f5 (v3_5 + (M.1 6 ((8 * a1) + v4_5).toNatClampNeg)) (v4_5 + 1)
      else none
def j_Y_workBefore (n : Nat) (M : MY) (a1 : Int32) (a2 : Int32) : Option Int32 :=
  j_Y_workBefore_L5 n M a1 a2 n 0 0
def j_Y_work (n : Nat) (M : MY) (a1 : Int32) : Option Int32 :=
  if ¬ (a1 < 0 ∨ 9 ≤ a1.toNatClampNeg) then
    (j_Y_workBefore n M a1 (M.1 5 a1.toNatClampNeg)).bind fun r_3 =>
      some r_3
  else none
def j_Y_longestOf_L4 (n : Nat) (M : MY) (a1 : Int32) : Nat → Int32 → Int32 → Option Int32
  | 0, _, _ => none
  | f4 + 1, v2_4, v3_4 =>
    if ¬ (a1 < 0 ∨ 9 ≤ a1.toNatClampNeg) then
      if (M.1 5 a1.toNatClampNeg) ≤ v3_4 then
        some v2_4
      else
        if ¬ (((8 * a1) + v3_4) < 0 ∨ 72 ≤ ((8 * a1) + v3_4).toNatClampNeg) then
          if (M.1 6 ((8 * a1) + v3_4).toNatClampNeg) ≤ v2_4 then
            j_Y_longestOf_L4 n M a1 f4 v2_4 (v3_4 + 1)
          else
            if ¬ (((8 * a1) + v3_4) < 0 ∨ 72 ≤ ((8 * a1) + v3_4).toNatClampNeg) then
              j_Y_longestOf_L4 n M a1 f4 (M.1 6 ((8 * a1) + v3_4).toNatClampNeg) (v3_4 + 1)
            else none
        else none
    else none
def j_Y_longestOf (n : Nat) (M : MY) (a1 : Int32) : Option Int32 :=
  j_Y_longestOf_L4 n M a1 n 0 0
def j_Y_longestBelow_L4 (n : Nat) (M : MY) (a1 : Int32) : Nat → Int32 → Int32 → Option Int32
  | 0, _, _ => none
  | f4 + 1, v2_4, v3_4 =>
    if 8 < v3_4 then
      some v2_4
    else
      if ¬ (v3_4 < 0 ∨ 9 ≤ v3_4.toNatClampNeg) then
        if (M.1 1 v3_4.toNatClampNeg) = 0 then
          j_Y_longestBelow_L4 n M a1 f4 v2_4 (v3_4 + 1)
        else
          if ¬ (v3_4 < 0 ∨ 9 ≤ v3_4.toNatClampNeg) then
            if ¬ (a1 < 0 ∨ 9 ≤ a1.toNatClampNeg) then
              if (M.1 4 a1.toNatClampNeg) ≤ (M.1 4 v3_4.toNatClampNeg) then
                j_Y_longestBelow_L4 n M a1 f4 v2_4 (v3_4 + 1)
              else
                (j_Y_longestOf n M v3_4).bind fun r_8 =>
                  if r_8 ≤ v2_4 then
                    j_Y_longestBelow_L4 n M a1 f4 v2_4 (v3_4 + 1)
                  else
                    (j_Y_longestOf n M v3_4).bind fun r_11 =>
                      j_Y_longestBelow_L4 n M a1 f4 r_11 (v3_4 + 1)
            else none
          else none
      else none
def j_Y_longestBelow (n : Nat) (M : MY) (a1 : Int32) : Option Int32 :=
  j_Y_longestBelow_L4 n M a1 n 0 1
def j_Y_blocking (n : Nat) (M : MY) (a1 : Int32) : Option Int32 :=
  (j_Y_longestBelow n M a1).bind fun r_2 =>
    if r_2 = 0 then
      some 0
    else
      (j_Y_longestBelow n M a1).bind fun r_5 =>
        some (r_5 - 1)
def j_Y_about (n : Nat) (M : MY) (a1 : Int32) (a2 : Int32) : Option (Int32 × MY) :=
  (j_Y_isTask n (sV M 0 0) a1).bind fun r_2 =>
    if r_2 = 0 then
      some ((-1), (sV M 0 0))
    else
      if a2 = 0 then
        if ¬ (a1 < 0 ∨ 9 ≤ a1.toNatClampNeg) then
          some (((sV M 0 0).1 2 a1.toNatClampNeg), (sV M 0 0))
        else none
      else
      if a2 = 1 then
        if ¬ (a1 < 0 ∨ 9 ≤ a1.toNatClampNeg) then
          some (((sV M 0 0).1 3 a1.toNatClampNeg), (sV M 0 0))
        else none
      else
      if a2 = 2 then
        if ¬ (a1 < 0 ∨ 9 ≤ a1.toNatClampNeg) then
          some (((sV M 0 0).1 4 a1.toNatClampNeg), (sV M 0 0))
        else none
      else
      if a2 = 3 then
        if ¬ (a1 < 0 ∨ 9 ≤ a1.toNatClampNeg) then
          some (((sV M 0 0).1 5 a1.toNatClampNeg), (sV M 0 0))
        else none
      else
      if a2 = 4 then
        (j_Y_work n (sV M 0 0) a1).bind fun r_13 =>
          some (r_13, (sV M 0 0))
      else
      if a2 = 5 then
        (j_Y_blocking n (sV M 0 0) a1).bind fun r_16 =>
          some (r_16, (sV M 0 0))
      else
        if a2 < 10 then
          some ((-1), (sV M 0 0))
        else
          if ¬ (a1 < 0 ∨ 9 ≤ a1.toNatClampNeg) then
            if a2 < (10 + ((sV M 0 0).1 5 a1.toNatClampNeg)) then
              if ¬ ((((8 * a1) + a2) - 10) < 0 ∨ 72 ≤ (((8 * a1) + a2) - 10).toNatClampNeg) then
                some (((sV M 0 0).1 6 (((8 * a1) + a2) - 10).toNatClampNeg), (sV M 0 0))
              else none
            else
              some ((-1), (sV M 0 0))
          else none
def j_Y_counts (n : Nat) (M : MY) (a1 : Int32) (a2 : Int32) : Option Int32 :=
  if ¬ (a1 < 0 ∨ 9 ≤ a1.toNatClampNeg) then
    if (M.1 1 a1.toNatClampNeg) = 0 then
      some 0
    else
      if ¬ (a1 < 0 ∨ 9 ≤ a1.toNatClampNeg) then
        if ¬ (a2 < 0 ∨ 9 ≤ a2.toNatClampNeg) then
          if (M.1 4 a1.toNatClampNeg) < (M.1 4 a2.toNatClampNeg) then
            some 0
          else
            some 1
        else none
      else none
  else none
def j_Y_next_L4 (n : Nat) (M : MY) (a1 : Int32) : Nat → Int32 → Int32 → Option Int32
  | 0, _, _ => none
  | f4 + 1, v2_4, v3_4 =>
    if 8 < v3_4 then
      some v2_4
    else
      (j_Y_counts n M v3_4 a1).bind fun r_3 =>
        if r_3 = 0 then
          j_Y_next_L4 n M a1 f4 v2_4 (v3_4 + 1)
        else
          if ¬ (v3_4 < 0 ∨ 9 ≤ v3_4.toNatClampNeg) then
            if ¬ (v3_4 < 0 ∨ 9 ≤ v3_4.toNatClampNeg) then
              if (M.2 9) < ((M.1 7 v3_4.toNatClampNeg) * (M.1 2 v3_4.toNatClampNeg)) then
                j_Y_next_L4 n M a1 f4 v2_4 (v3_4 + 1)
              else
                if v2_4 = 0 then
                  j_Y_next_L4 n M a1 f4 v3_4 (v3_4 + 1)
                else
                  if ¬ (v3_4 < 0 ∨ 9 ≤ v3_4.toNatClampNeg) then
                    if ¬ (v2_4 < 0 ∨ 9 ≤ v2_4.toNatClampNeg) then
                      if (M.1 4 v3_4.toNatClampNeg) ≤ (M.1 4 v2_4.toNatClampNeg) then
                        j_Y_next_L4 n M a1 f4 v2_4 (v3_4 + 1)
                      else
                        j_Y_next_L4 n M a1 f4 v3_4 (v3_4 + 1)
                    else none
                  else none
            else none
          else none
def j_Y_next (n : Nat) (M : MY) (a1 : Int32) : Option Int32 :=
  j_Y_next_L4 n M a1 n 0 1
def j_Y_isOver_L2 (n : Nat) (M : MY) (a1 : Int32) : Nat → Int32 → Option Int32
  | 0, _ => none
  | f2 + 1, v2_2 =>
    if 8 < v2_2 then
      if (M.2 9) ≤ 0 then
        some 0
      else
        some 1
    else
      (j_Y_counts n M v2_2 a1).bind fun r_4 =>
        if r_4 = 0 then
          j_Y_isOver_L2 n M a1 f2 (v2_2 + 1)
        else
          if ¬ (v2_2 < 0 ∨ 9 ≤ v2_2.toNatClampNeg) then
            if ¬ (v2_2 < 0 ∨ 9 ≤ v2_2.toNatClampNeg) then
              if (M.2 9) ≤ ((M.1 7 v2_2.toNatClampNeg) * (M.1 2 v2_2.toNatClampNeg)) then
                j_Y_isOver_L2 n M a1 f2 (v2_2 + 1)
              else
                some 0
            else none
          else none
def j_Y_isOver (n : Nat) (M : MY) (a1 : Int32) : Option Int32 :=
  j_Y_isOver_L2 n M a1 n 1
def j_Y_go_L53 (n : Nat) (a1 : Int32) (a2 : Int32) : Nat → Int32 → MY → Option MY
  | 0, _, _ => none
  | f53 + 1, v3_53, M53 =>
    (j_Y_isOver n M53 a1).bind fun r_3 =>
      if r_3 = 0 then
        if (M53.2 9) ≤ 20000 then
          (j_Y_next n M53 a1).bind fun r_8 =>
            if ¬ (r_8 < 0 ∨ 9 ≤ r_8.toNatClampNeg) then
              if ¬ (((8 * r_8) + (M53.1 8 r_8.toNatClampNeg)) < 0 ∨ 72 ≤ ((8 * r_8) + (M53.1 8 r_8.toNatClampNeg)).toNatClampNeg) then
                if ¬ (r_8 < 0 ∨ 9 ≤ r_8.toNatClampNeg) then
                  if ¬ (r_8 < 0 ∨ 9 ≤ r_8.toNatClampNeg) then
                    if ¬ (r_8 < 0 ∨ 9 ≤ r_8.toNatClampNeg) then
                      if ¬ (r_8 < 0 ∨ 9 ≤ r_8.toNatClampNeg) then
                        if ((sA (sV M53 9 ((M53.2 9) + (M53.1 6 ((8 * r_8) + (M53.1 8 r_8.toNatClampNeg)).toNatClampNeg))) 8 r_8.toNatClampNeg (((sV M53 9 ((M53.2 9) + (M53.1 6 ((8 * r_8) + (M53.1 8 r_8.toNatClampNeg)).toNatClampNeg))).1 8 r_8.toNatClampNeg) + 1)).1 5 r_8.toNatClampNeg) ≤ ((sA (sV M53 9 ((M53.2 9) + (M53.1 6 ((8 * r_8) + (M53.1 8 r_8.toNatClampNeg)).toNatClampNeg))) 8 r_8.toNatClampNeg (((sV M53 9 ((M53.2 9) + (M53.1 6 ((8 * r_8) + (M53.1 8 r_8.toNatClampNeg)).toNatClampNeg))).1 8 r_8.toNatClampNeg) + 1)).1 8 r_8.toNatClampNeg) then
                          if ¬ (r_8 < 0 ∨ 9 ≤ r_8.toNatClampNeg) then
                            if ¬ (r_8 < 0 ∨ 9 ≤ r_8.toNatClampNeg) then
                              if r_8 = a1 then
                                if (((sA (sV M53 9 ((M53.2 9) + (M53.1 6 ((8 * r_8) + (M53.1 8 r_8.toNatClampNeg)).toNatClampNeg))) 8 r_8.toNatClampNeg (((sV M53 9 ((M53.2 9) + (M53.1 6 ((8 * r_8) + (M53.1 8 r_8.toNatClampNeg)).toNatClampNeg))).1 8 r_8.toNatClampNeg) + 1)).2 9) - (((sA (sV M53 9 ((M53.2 9) + (M53.1 6 ((8 * r_8) + (M53.1 8 r_8.toNatClampNeg)).toNatClampNeg))) 8 r_8.toNatClampNeg (((sV M53 9 ((M53.2 9) + (M53.1 6 ((8 * r_8) + (M53.1 8 r_8.toNatClampNeg)).toNatClampNeg))).1 8 r_8.toNatClampNeg) + 1)).1 7 r_8.toNatClampNeg) * ((sA (sV M53 9 ((M53.2 9) + (M53.1 6 ((8 * r_8) + (M53.1 8 r_8.toNatClampNeg)).toNatClampNeg))) 8 r_8.toNatClampNeg (((sV M53 9 ((M53.2 9) + (M53.1 6 ((8 * r_8) + (M53.1 8 r_8.toNatClampNeg)).toNatClampNeg))).1 8 r_8.toNatClampNeg) + 1)).1 2 r_8.toNatClampNeg))) ≤ ((sA (sV M53 9 ((M53.2 9) + (M53.1 6 ((8 * r_8) + (M53.1 8 r_8.toNatClampNeg)).toNatClampNeg))) 8 r_8.toNatClampNeg (((sV M53 9 ((M53.2 9) + (M53.1 6 ((8 * r_8) + (M53.1 8 r_8.toNatClampNeg)).toNatClampNeg))).1 8 r_8.toNatClampNeg) + 1)).2 11) then
                                  if r_8 = a1 then
                                    if ¬ (r_8 < 0 ∨ 9 ≤ r_8.toNatClampNeg) then
                                      if ((sA (sV M53 9 ((M53.2 9) + (M53.1 6 ((8 * r_8) + (M53.1 8 r_8.toNatClampNeg)).toNatClampNeg))) 8 r_8.toNatClampNeg (((sV M53 9 ((M53.2 9) + (M53.1 6 ((8 * r_8) + (M53.1 8 r_8.toNatClampNeg)).toNatClampNeg))).1 8 r_8.toNatClampNeg) + 1)).1 7 r_8.toNatClampNeg) = ((sA (sV M53 9 ((M53.2 9) + (M53.1 6 ((8 * r_8) + (M53.1 8 r_8.toNatClampNeg)).toNatClampNeg))) 8 r_8.toNatClampNeg (((sV M53 9 ((M53.2 9) + (M53.1 6 ((8 * r_8) + (M53.1 8 r_8.toNatClampNeg)).toNatClampNeg))).1 8 r_8.toNatClampNeg) + 1)).2 13) then
                                        if ¬ (r_8 < 0 ∨ 9 ≤ r_8.toNatClampNeg) then
                                          if ¬ (r_8 < 0 ∨ 9 ≤ r_8.toNatClampNeg) then
                                            if ¬ (r_8 < 0 ∨ 9 ≤ r_8.toNatClampNeg) then
                                              j_Y_go_L53 n a1 a2 f53 r_8 (sA (sA (sV (sA (sV M53 9 ((M53.2 9) + (M53.1 6 ((8 * r_8) + (M53.1 8 r_8.toNatClampNeg)).toNatClampNeg))) 8 r_8.toNatClampNeg (((sV M53 9 ((M53.2 9) + (M53.1 6 ((8 * r_8) + (M53.1 8 r_8.toNatClampNeg)).toNatClampNeg))).1 8 r_8.toNatClampNeg) + 1)) 14 (((sA (sV M53 9 ((M53.2 9) + (M53.1 6 ((8 * r_8) + (M53.1 8 r_8.toNatClampNeg)).toNatClampNeg))) 8 r_8.toNatClampNeg (((sV M53 9 ((M53.2 9) + (M53.1 6 ((8 * r_8) + (M53.1 8 r_8.toNatClampNeg)).toNatClampNeg))).1 8 r_8.toNatClampNeg) + 1)).2 9) - (((sA (sV M53 9 ((M53.2 9) + (M53.1 6 ((8 * r_8) + (M53.1 8 r_8.toNatClampNeg)).toNatClampNeg))) 8 r_8.toNatClampNeg (((sV M53 9 ((M53.2 9) + (M53.1 6 ((8 * r_8) + (M53.1 8 r_8.toNatClampNeg)).toNatClampNeg))).1 8 r_8.toNatClampNeg) + 1)).1 7 r_8.toNatClampNeg) * ((sA (sV M53 9 ((M53.2 9) + (M53.1 6 ((8 * r_8) + (M53.1 8 r_8.toNatClampNeg)).toNatClampNeg))) 8 r_8.toNatClampNeg (((sV M53 9 ((M53.2 9) + (M53.1 6 ((8 * r_8) + (M53.1 8 r_8.toNatClampNeg)).toNatClampNeg))).1 8 r_8.toNatClampNeg) + 1)).1 2 r_8.toNatClampNeg)))) 8 r_8.toNatClampNeg 0) 7 r_8.toNatClampNeg (((sA (sV (sA (sV M53 9 ((M53.2 9) + (M53.1 6 ((8 * r_8) + (M53.1 8 r_8.toNatClampNeg)).toNatClampNeg))) 8 r_8.toNatClampNeg (((sV M53 9 ((M53.2 9) + (M53.1 6 ((8 * r_8) + (M53.1 8 r_8.toNatClampNeg)).toNatClampNeg))).1 8 r_8.toNatClampNeg) + 1)) 14 (((sA (sV M53 9 ((M53.2 9) + (M53.1 6 ((8 * r_8) + (M53.1 8 r_8.toNatClampNeg)).toNatClampNeg))) 8 r_8.toNatClampNeg (((sV M53 9 ((M53.2 9) + (M53.1 6 ((8 * r_8) + (M53.1 8 r_8.toNatClampNeg)).toNatClampNeg))).1 8 r_8.toNatClampNeg) + 1)).2 9) - (((sA (sV M53 9 ((M53.2 9) + (M53.1 6 ((8 * r_8) + (M53.1 8 r_8.toNatClampNeg)).toNatClampNeg))) 8 r_8.toNatClampNeg (((sV M53 9 ((M53.2 9) + (M53.1 6 ((8 * r_8) + (M53.1 8 r_8.toNatClampNeg)).toNatClampNeg))).1 8 r_8.toNatClampNeg) + 1)).1 7 r_8.toNatClampNeg) * ((sA (sV M53 9 ((M53.2 9) + (M53.1 6 ((8 * r_8) + (M53.1 8 r_8.toNatClampNeg)).toNatClampNeg))) 8 r_8.toNatClampNeg (((sV M53 9 ((M53.2 9) + (M53.1 6 ((8 * r_8) + (M53.1 8 r_8.toNatClampNeg)).toNatClampNeg))).1 8 r_8.toNatClampNeg) + 1)).1 2 r_8.toNatClampNeg)))) 8 r_8.toNatClampNeg 0).1 7 r_8.toNatClampNeg) + 1))
                                            else none
                                          else none
                                        else none
                                      else
                                        if ¬ (r_8 < 0 ∨ 9 ≤ r_8.toNatClampNeg) then
                                          if ¬ (r_8 < 0 ∨ 9 ≤ r_8.toNatClampNeg) then
                                            if ¬ (r_8 < 0 ∨ 9 ≤ r_8.toNatClampNeg) then
                                              j_Y_go_L53 n a1 a2 f53 r_8 (sA (sA (sA (sV M53 9 ((M53.2 9) + (M53.1 6 ((8 * r_8) + (M53.1 8 r_8.toNatClampNeg)).toNatClampNeg))) 8 r_8.toNatClampNeg (((sV M53 9 ((M53.2 9) + (M53.1 6 ((8 * r_8) + (M53.1 8 r_8.toNatClampNeg)).toNatClampNeg))).1 8 r_8.toNatClampNeg) + 1)) 8 r_8.toNatClampNeg 0) 7 r_8.toNatClampNeg (((sA (sA (sV M53 9 ((M53.2 9) + (M53.1 6 ((8 * r_8) + (M53.1 8 r_8.toNatClampNeg)).toNatClampNeg))) 8 r_8.toNatClampNeg (((sV M53 9 ((M53.2 9) + (M53.1 6 ((8 * r_8) + (M53.1 8 r_8.toNatClampNeg)).toNatClampNeg))).1 8 r_8.toNatClampNeg) + 1)) 8 r_8.toNatClampNeg 0).1 7 r_8.toNatClampNeg) + 1))
                                            else none
                                          else none
                                        else none
                                    else none
                                  else
                                    if ¬ (r_8 < 0 ∨ 9 ≤ r_8.toNatClampNeg) then
                                      if ¬ (r_8 < 0 ∨ 9 ≤ r_8.toNatClampNeg) then
                                        if ¬ (r_8 < 0 ∨ 9 ≤ r_8.toNatClampNeg) then
                                          j_Y_go_L53 n a1 a2 f53 r_8 (sA (sA (sA (sV M53 9 ((M53.2 9) + (M53.1 6 ((8 * r_8) + (M53.1 8 r_8.toNatClampNeg)).toNatClampNeg))) 8 r_8.toNatClampNeg (((sV M53 9 ((M53.2 9) + (M53.1 6 ((8 * r_8) + (M53.1 8 r_8.toNatClampNeg)).toNatClampNeg))).1 8 r_8.toNatClampNeg) + 1)) 8 r_8.toNatClampNeg 0) 7 r_8.toNatClampNeg (((sA (sA (sV M53 9 ((M53.2 9) + (M53.1 6 ((8 * r_8) + (M53.1 8 r_8.toNatClampNeg)).toNatClampNeg))) 8 r_8.toNatClampNeg (((sV M53 9 ((M53.2 9) + (M53.1 6 ((8 * r_8) + (M53.1 8 r_8.toNatClampNeg)).toNatClampNeg))).1 8 r_8.toNatClampNeg) + 1)) 8 r_8.toNatClampNeg 0).1 7 r_8.toNatClampNeg) + 1))
                                        else none
                                      else none
                                    else none
                                else
                                  if ¬ (r_8 < 0 ∨ 9 ≤ r_8.toNatClampNeg) then
                                    if r_8 = a1 then
                                      if ¬ (r_8 < 0 ∨ 9 ≤ r_8.toNatClampNeg) then
                                        if ((sV (sV (sA (sV M53 9 ((M53.2 9) + (M53.1 6 ((8 * r_8) + (M53.1 8 r_8.toNatClampNeg)).toNatClampNeg))) 8 r_8.toNatClampNeg (((sV M53 9 ((M53.2 9) + (M53.1 6 ((8 * r_8) + (M53.1 8 r_8.toNatClampNeg)).toNatClampNeg))).1 8 r_8.toNatClampNeg) + 1)) 11 (((sA (sV M53 9 ((M53.2 9) + (M53.1 6 ((8 * r_8) + (M53.1 8 r_8.toNatClampNeg)).toNatClampNeg))) 8 r_8.toNatClampNeg (((sV M53 9 ((M53.2 9) + (M53.1 6 ((8 * r_8) + (M53.1 8 r_8.toNatClampNeg)).toNatClampNeg))).1 8 r_8.toNatClampNeg) + 1)).2 9) - (((sA (sV M53 9 ((M53.2 9) + (M53.1 6 ((8 * r_8) + (M53.1 8 r_8.toNatClampNeg)).toNatClampNeg))) 8 r_8.toNatClampNeg (((sV M53 9 ((M53.2 9) + (M53.1 6 ((8 * r_8) + (M53.1 8 r_8.toNatClampNeg)).toNatClampNeg))).1 8 r_8.toNatClampNeg) + 1)).1 7 r_8.toNatClampNeg) * ((sA (sV M53 9 ((M53.2 9) + (M53.1 6 ((8 * r_8) + (M53.1 8 r_8.toNatClampNeg)).toNatClampNeg))) 8 r_8.toNatClampNeg (((sV M53 9 ((M53.2 9) + (M53.1 6 ((8 * r_8) + (M53.1 8 r_8.toNatClampNeg)).toNatClampNeg))).1 8 r_8.toNatClampNeg) + 1)).1 2 r_8.toNatClampNeg)))) 12 ((sV (sA (sV M53 9 ((M53.2 9) + (M53.1 6 ((8 * r_8) + (M53.1 8 r_8.toNatClampNeg)).toNatClampNeg))) 8 r_8.toNatClampNeg (((sV M53 9 ((M53.2 9) + (M53.1 6 ((8 * r_8) + (M53.1 8 r_8.toNatClampNeg)).toNatClampNeg))).1 8 r_8.toNatClampNeg) + 1)) 11 (((sA (sV M53 9 ((M53.2 9) + (M53.1 6 ((8 * r_8) + (M53.1 8 r_8.toNatClampNeg)).toNatClampNeg))) 8 r_8.toNatClampNeg (((sV M53 9 ((M53.2 9) + (M53.1 6 ((8 * r_8) + (M53.1 8 r_8.toNatClampNeg)).toNatClampNeg))).1 8 r_8.toNatClampNeg) + 1)).2 9) - (((sA (sV M53 9 ((M53.2 9) + (M53.1 6 ((8 * r_8) + (M53.1 8 r_8.toNatClampNeg)).toNatClampNeg))) 8 r_8.toNatClampNeg (((sV M53 9 ((M53.2 9) + (M53.1 6 ((8 * r_8) + (M53.1 8 r_8.toNatClampNeg)).toNatClampNeg))).1 8 r_8.toNatClampNeg) + 1)).1 7 r_8.toNatClampNeg) * ((sA (sV M53 9 ((M53.2 9) + (M53.1 6 ((8 * r_8) + (M53.1 8 r_8.toNatClampNeg)).toNatClampNeg))) 8 r_8.toNatClampNeg (((sV M53 9 ((M53.2 9) + (M53.1 6 ((8 * r_8) + (M53.1 8 r_8.toNatClampNeg)).toNatClampNeg))).1 8 r_8.toNatClampNeg) + 1)).1 2 r_8.toNatClampNeg)))).1 7 r_8.toNatClampNeg)).1 7 r_8.toNatClampNeg) = ((sV (sV (sA (sV M53 9 ((M53.2 9) + (M53.1 6 ((8 * r_8) + (M53.1 8 r_8.toNatClampNeg)).toNatClampNeg))) 8 r_8.toNatClampNeg (((sV M53 9 ((M53.2 9) + (M53.1 6 ((8 * r_8) + (M53.1 8 r_8.toNatClampNeg)).toNatClampNeg))).1 8 r_8.toNatClampNeg) + 1)) 11 (((sA (sV M53 9 ((M53.2 9) + (M53.1 6 ((8 * r_8) + (M53.1 8 r_8.toNatClampNeg)).toNatClampNeg))) 8 r_8.toNatClampNeg (((sV M53 9 ((M53.2 9) + (M53.1 6 ((8 * r_8) + (M53.1 8 r_8.toNatClampNeg)).toNatClampNeg))).1 8 r_8.toNatClampNeg) + 1)).2 9) - (((sA (sV M53 9 ((M53.2 9) + (M53.1 6 ((8 * r_8) + (M53.1 8 r_8.toNatClampNeg)).toNatClampNeg))) 8 r_8.toNatClampNeg (((sV M53 9 ((M53.2 9) + (M53.1 6 ((8 * r_8) + (M53.1 8 r_8.toNatClampNeg)).toNatClampNeg))).1 8 r_8.toNatClampNeg) + 1)).1 7 r_8.toNatClampNeg) * ((sA (sV M53 9 ((M53.2 9) + (M53.1 6 ((8 * r_8) + (M53.1 8 r_8.toNatClampNeg)).toNatClampNeg))) 8 r_8.toNatClampNeg (((sV M53 9 ((M53.2 9) + (M53.1 6 ((8 * r_8) + (M53.1 8 r_8.toNatClampNeg)).toNatClampNeg))).1 8 r_8.toNatClampNeg) + 1)).1 2 r_8.toNatClampNeg)))) 12 ((sV (sA (sV M53 9 ((M53.2 9) + (M53.1 6 ((8 * r_8) + (M53.1 8 r_8.toNatClampNeg)).toNatClampNeg))) 8 r_8.toNatClampNeg (((sV M53 9 ((M53.2 9) + (M53.1 6 ((8 * r_8) + (M53.1 8 r_8.toNatClampNeg)).toNatClampNeg))).1 8 r_8.toNatClampNeg) + 1)) 11 (((sA (sV M53 9 ((M53.2 9) + (M53.1 6 ((8 * r_8) + (M53.1 8 r_8.toNatClampNeg)).toNatClampNeg))) 8 r_8.toNatClampNeg (((sV M53 9 ((M53.2 9) + (M53.1 6 ((8 * r_8) + (M53.1 8 r_8.toNatClampNeg)).toNatClampNeg))).1 8 r_8.toNatClampNeg) + 1)).2 9) - (((sA (sV M53 9 ((M53.2 9) + (M53.1 6 ((8 * r_8) + (M53.1 8 r_8.toNatClampNeg)).toNatClampNeg))) 8 r_8.toNatClampNeg (((sV M53 9 ((M53.2 9) + (M53.1 6 ((8 * r_8) + (M53.1 8 r_8.toNatClampNeg)).toNatClampNeg))).1 8 r_8.toNatClampNeg) + 1)).1 7 r_8.toNatClampNeg) * ((sA (sV M53 9 ((M53.2 9) + (M53.1 6 ((8 * r_8) + (M53.1 8 r_8.toNatClampNeg)).toNatClampNeg))) 8 r_8.toNatClampNeg (((sV M53 9 ((M53.2 9) + (M53.1 6 ((8 * r_8) + (M53.1 8 r_8.toNatClampNeg)).toNatClampNeg))).1 8 r_8.toNatClampNeg) + 1)).1 2 r_8.toNatClampNeg)))).1 7 r_8.toNatClampNeg)).2 13) then
                                          if ¬ (r_8 < 0 ∨ 9 ≤ r_8.toNatClampNeg) then
                                            if ¬ (r_8 < 0 ∨ 9 ≤ r_8.toNatClampNeg) then
                                              if ¬ (r_8 < 0 ∨ 9 ≤ r_8.toNatClampNeg) then
                                                j_Y_go_L53 n a1 a2 f53 r_8 (sA (sA (sV (sV (sV (sA (sV M53 9 ((M53.2 9) + (M53.1 6 ((8 * r_8) + (M53.1 8 r_8.toNatClampNeg)).toNatClampNeg))) 8 r_8.toNatClampNeg (((sV M53 9 ((M53.2 9) + (M53.1 6 ((8 * r_8) + (M53.1 8 r_8.toNatClampNeg)).toNatClampNeg))).1 8 r_8.toNatClampNeg) + 1)) 11 (((sA (sV M53 9 ((M53.2 9) + (M53.1 6 ((8 * r_8) + (M53.1 8 r_8.toNatClampNeg)).toNatClampNeg))) 8 r_8.toNatClampNeg (((sV M53 9 ((M53.2 9) + (M53.1 6 ((8 * r_8) + (M53.1 8 r_8.toNatClampNeg)).toNatClampNeg))).1 8 r_8.toNatClampNeg) + 1)).2 9) - (((sA (sV M53 9 ((M53.2 9) + (M53.1 6 ((8 * r_8) + (M53.1 8 r_8.toNatClampNeg)).toNatClampNeg))) 8 r_8.toNatClampNeg (((sV M53 9 ((M53.2 9) + (M53.1 6 ((8 * r_8) + (M53.1 8 r_8.toNatClampNeg)).toNatClampNeg))).1 8 r_8.toNatClampNeg) + 1)).1 7 r_8.toNatClampNeg) * ((sA (sV M53 9 ((M53.2 9) + (M53.1 6 ((8 * r_8) + (M53.1 8 r_8.toNatClampNeg)).toNatClampNeg))) 8 r_8.toNatClampNeg (((sV M53 9 ((M53.2 9) + (M53.1 6 ((8 * r_8) + (M53.1 8 r_8.toNatClampNeg)).toNatClampNeg))).1 8 r_8.toNatClampNeg) + 1)).1 2 r_8.toNatClampNeg)))) 12 ((sV (sA (sV M53 9 ((M53.2 9) + (M53.1 6 ((8 * r_8) + (M53.1 8 r_8.toNatClampNeg)).toNatClampNeg))) 8 r_8.toNatClampNeg (((sV M53 9 ((M53.2 9) + (M53.1 6 ((8 * r_8) + (M53.1 8 r_8.toNatClampNeg)).toNatClampNeg))).1 8 r_8.toNatClampNeg) + 1)) 11 (((sA (sV M53 9 ((M53.2 9) + (M53.1 6 ((8 * r_8) + (M53.1 8 r_8.toNatClampNeg)).toNatClampNeg))) 8 r_8.toNatClampNeg (((sV M53 9 ((M53.2 9) + (M53.1 6 ((8 * r_8) + (M53.1 8 r_8.toNatClampNeg)).toNatClampNeg))).1 8 r_8.toNatClampNeg) + 1)).2 9) - (((sA (sV M53 9 ((M53.2 9) + (M53.1 6 ((8 * r_8) + (M53.1 8 r_8.toNatClampNeg)).toNatClampNeg))) 8 r_8.toNatClampNeg (((sV M53 9 ((M53.2 9) + (M53.1 6 ((8 * r_8) + (M53.1 8 r_8.toNatClampNeg)).toNatClampNeg))).1 8 r_8.toNatClampNeg) + 1)).1 7 r_8.toNatClampNeg) * ((sA (sV M53 9 ((M53.2 9) + (M53.1 6 ((8 * r_8) + (M53.1 8 r_8.toNatClampNeg)).toNatClampNeg))) 8 r_8.toNatClampNeg (((sV M53 9 ((M53.2 9) + (M53.1 6 ((8 * r_8) + (M53.1 8 r_8.toNatClampNeg)).toNatClampNeg))).1 8 r_8.toNatClampNeg) + 1)).1 2 r_8.toNatClampNeg)))).1 7 r_8.toNatClampNeg)) 14 (((sA (sV M53 9 ((M53.2 9) + (M53.1 6 ((8 * r_8) + (M53.1 8 r_8.toNatClampNeg)).toNatClampNeg))) 8 r_8.toNatClampNeg (((sV M53 9 ((M53.2 9) + (M53.1 6 ((8 * r_8) + (M53.1 8 r_8.toNatClampNeg)).toNatClampNeg))).1 8 r_8.toNatClampNeg) + 1)).2 9) - (((sA (sV M53 9 ((M53.2 9) + (M53.1 6 ((8 * r_8) + (M53.1 8 r_8.toNatClampNeg)).toNatClampNeg))) 8 r_8.toNatClampNeg (((sV M53 9 ((M53.2 9) + (M53.1 6 ((8 * r_8) + (M53.1 8 r_8.toNatClampNeg)).toNatClampNeg))).1 8 r_8.toNatClampNeg) + 1)).1 7 r_8.toNatClampNeg) * ((sA (sV M53 9 ((M53.2 9) + (M53.1 6 ((8 * r_8) + (M53.1 8 r_8.toNatClampNeg)).toNatClampNeg))) 8 r_8.toNatClampNeg (((sV M53 9 ((M53.2 9) + (M53.1 6 ((8 * r_8) + (M53.1 8 r_8.toNatClampNeg)).toNatClampNeg))).1 8 r_8.toNatClampNeg) + 1)).1 2 r_8.toNatClampNeg)))) 8 r_8.toNatClampNeg 0) 7 r_8.toNatClampNeg (((sA (sV (sV (sV (sA (sV M53 9 ((M53.2 9) + (M53.1 6 ((8 * r_8) + (M53.1 8 r_8.toNatClampNeg)).toNatClampNeg))) 8 r_8.toNatClampNeg (((sV M53 9 ((M53.2 9) + (M53.1 6 ((8 * r_8) + (M53.1 8 r_8.toNatClampNeg)).toNatClampNeg))).1 8 r_8.toNatClampNeg) + 1)) 11 (((sA (sV M53 9 ((M53.2 9) + (M53.1 6 ((8 * r_8) + (M53.1 8 r_8.toNatClampNeg)).toNatClampNeg))) 8 r_8.toNatClampNeg (((sV M53 9 ((M53.2 9) + (M53.1 6 ((8 * r_8) + (M53.1 8 r_8.toNatClampNeg)).toNatClampNeg))).1 8 r_8.toNatClampNeg) + 1)).2 9) - (((sA (sV M53 9 ((M53.2 9) + (M53.1 6 ((8 * r_8) + (M53.1 8 r_8.toNatClampNeg)).toNatClampNeg))) 8 r_8.toNatClampNeg (((sV M53 9 ((M53.2 9) + (M53.1 6 ((8 * r_8) + (M53.1 8 r_8.toNatClampNeg)).toNatClampNeg))).1 8 r_8.toNatClampNeg) + 1)).1 7 r_8.toNatClampNeg) * ((sA (sV M53 9 ((M53.2 9) + (M53.1 6 ((8 * r_8) + (M53.1 8 r_8.toNatClampNeg)).toNatClampNeg))) 8 r_8.toNatClampNeg (((sV M53 9 ((M53.2 9) + (M53.1 6 ((8 * r_8) + (M53.1 8 r_8.toNatClampNeg)).toNatClampNeg))).1 8 r_8.toNatClampNeg) + 1)).1 2 r_8.toNatClampNeg)))) 12 ((sV (sA (sV M53 9 ((M53.2 9) + (M53.1 6 ((8 * r_8) + (M53.1 8 r_8.toNatClampNeg)).toNatClampNeg))) 8 r_8.toNatClampNeg (((sV M53 9 ((M53.2 9) + (M53.1 6 ((8 * r_8) + (M53.1 8 r_8.toNatClampNeg)).toNatClampNeg))).1 8 r_8.toNatClampNeg) + 1)) 11 (((sA (sV M53 9 ((M53.2 9) + (M53.1 6 ((8 * r_8) + (M53.1 8 r_8.toNatClampNeg)).toNatClampNeg))) 8 r_8.toNatClampNeg (((sV M53 9 ((M53.2 9) + (M53.1 6 ((8 * r_8) + (M53.1 8 r_8.toNatClampNeg)).toNatClampNeg))).1 8 r_8.toNatClampNeg) + 1)).2 9) - (((sA (sV M53 9 ((M53.2 9) + (M53.1 6 ((8 * r_8) + (M53.1 8 r_8.toNatClampNeg)).toNatClampNeg))) 8 r_8.toNatClampNeg (((sV M53 9 ((M53.2 9) + (M53.1 6 ((8 * r_8) + (M53.1 8 r_8.toNatClampNeg)).toNatClampNeg))).1 8 r_8.toNatClampNeg) + 1)).1 7 r_8.toNatClampNeg) * ((sA (sV M53 9 ((M53.2 9) + (M53.1 6 ((8 * r_8) + (M53.1 8 r_8.toNatClampNeg)).toNatClampNeg))) 8 r_8.toNatClampNeg (((sV M53 9 ((M53.2 9) + (M53.1 6 ((8 * r_8) + (M53.1 8 r_8.toNatClampNeg)).toNatClampNeg))).1 8 r_8.toNatClampNeg) + 1)).1 2 r_8.toNatClampNeg)))).1 7 r_8.toNatClampNeg)) 14 (((sA (sV M53 9 ((M53.2 9) + (M53.1 6 ((8 * r_8) + (M53.1 8 r_8.toNatClampNeg)).toNatClampNeg))) 8 r_8.toNatClampNeg (((sV M53 9 ((M53.2 9) + (M53.1 6 ((8 * r_8) + (M53.1 8 r_8.toNatClampNeg)).toNatClampNeg))).1 8 r_8.toNatClampNeg) + 1)).2 9) - (((sA (sV M53 9 ((M53.2 9) + (M53.1 6 ((8 * r_8) + (M53.1 8 r_8.toNatClampNeg)).toNatClampNeg))) 8 r_8.toNatClampNeg (((sV M53 9 ((M53.2 9) + (M53.1 6 ((8 * r_8) + (M53.1 8 r_8.toNatClampNeg)).toNatClampNeg))).1 8 r_8.toNatClampNeg) + 1)).1 7 r_8.toNatClampNeg) * ((sA (sV M53 9 ((M53.2 9) + (M53.1 6 ((8 * r_8) + (M53.1 8 r_8.toNatClampNeg)).toNatClampNeg))) 8 r_8.toNatClampNeg (((sV M53 9 ((M53.2 9) + (M53.1 6 ((8 * r_8) + (M53.1 8 r_8.toNatClampNeg)).toNatClampNeg))).1 8 r_8.toNatClampNeg) + 1)).1 2 r_8.toNatClampNeg)))) 8 r_8.toNatClampNeg 0).1 7 r_8.toNatClampNeg) + 1))
                                              else none
                                            else none
                                          else none
                                        else
                                          if ¬ (r_8 < 0 ∨ 9 ≤ r_8.toNatClampNeg) then
                                            if ¬ (r_8 < 0 ∨ 9 ≤ r_8.toNatClampNeg) then
                                              if ¬ (r_8 < 0 ∨ 9 ≤ r_8.toNatClampNeg) then
                                                j_Y_go_L53 n a1 a2 f53 r_8 (sA (sA (sV (sV (sA (sV M53 9 ((M53.2 9) + (M53.1 6 ((8 * r_8) + (M53.1 8 r_8.toNatClampNeg)).toNatClampNeg))) 8 r_8.toNatClampNeg (((sV M53 9 ((M53.2 9) + (M53.1 6 ((8 * r_8) + (M53.1 8 r_8.toNatClampNeg)).toNatClampNeg))).1 8 r_8.toNatClampNeg) + 1)) 11 (((sA (sV M53 9 ((M53.2 9) + (M53.1 6 ((8 * r_8) + (M53.1 8 r_8.toNatClampNeg)).toNatClampNeg))) 8 r_8.toNatClampNeg (((sV M53 9 ((M53.2 9) + (M53.1 6 ((8 * r_8) + (M53.1 8 r_8.toNatClampNeg)).toNatClampNeg))).1 8 r_8.toNatClampNeg) + 1)).2 9) - (((sA (sV M53 9 ((M53.2 9) + (M53.1 6 ((8 * r_8) + (M53.1 8 r_8.toNatClampNeg)).toNatClampNeg))) 8 r_8.toNatClampNeg (((sV M53 9 ((M53.2 9) + (M53.1 6 ((8 * r_8) + (M53.1 8 r_8.toNatClampNeg)).toNatClampNeg))).1 8 r_8.toNatClampNeg) + 1)).1 7 r_8.toNatClampNeg) * ((sA (sV M53 9 ((M53.2 9) + (M53.1 6 ((8 * r_8) + (M53.1 8 r_8.toNatClampNeg)).toNatClampNeg))) 8 r_8.toNatClampNeg (((sV M53 9 ((M53.2 9) + (M53.1 6 ((8 * r_8) + (M53.1 8 r_8.toNatClampNeg)).toNatClampNeg))).1 8 r_8.toNatClampNeg) + 1)).1 2 r_8.toNatClampNeg)))) 12 ((sV (sA (sV M53 9 ((M53.2 9) + (M53.1 6 ((8 * r_8) + (M53.1 8 r_8.toNatClampNeg)).toNatClampNeg))) 8 r_8.toNatClampNeg (((sV M53 9 ((M53.2 9) + (M53.1 6 ((8 * r_8) + (M53.1 8 r_8.toNatClampNeg)).toNatClampNeg))).1 8 r_8.toNatClampNeg) + 1)) 11 (((sA (sV M53 9 ((M53.2 9) + (M53.1 6 ((8 * r_8) + (M53.1 8 r_8.toNatClampNeg)).toNatClampNeg))) 8 r_8.toNatClampNeg (((sV M53 9 ((M53.2 9) + (M53.1 6 ((8 * r_8) + (M53.1 8 r_8.toNatClampNeg)).toNatClampNeg))).1 8 r_8.toNatClampNeg) + 1)).2 9) - (((sA (sV M53 9 ((M53.2 9) + (M53.1 6 ((8 * r_8) + (M53.1 8 r_8.toNatClampNeg)).toNatClampNeg))) 8 r_8.toNatClampNeg (((sV M53 9 ((M53.2 9) + (M53.1 6 ((8 * r_8) + (M53.1 8 r_8.toNatClampNeg)).toNatClampNeg))).1 8 r_8.toNatClampNeg) + 1)).1 7 r_8.toNatClampNeg) * ((sA (sV M53 9 ((M53.2 9) + (M53.1 6 ((8 * r_8) + (M53.1 8 r_8.toNatClampNeg)).toNatClampNeg))) 8 r_8.toNatClampNeg (((sV M53 9 ((M53.2 9) + (M53.1 6 ((8 * r_8) + (M53.1 8 r_8.toNatClampNeg)).toNatClampNeg))).1 8 r_8.toNatClampNeg) + 1)).1 2 r_8.toNatClampNeg)))).1 7 r_8.toNatClampNeg)) 8 r_8.toNatClampNeg 0) 7 r_8.toNatClampNeg (((sA (sV (sV (sA (sV M53 9 ((M53.2 9) + (M53.1 6 ((8 * r_8) + (M53.1 8 r_8.toNatClampNeg)).toNatClampNeg))) 8 r_8.toNatClampNeg (((sV M53 9 ((M53.2 9) + (M53.1 6 ((8 * r_8) + (M53.1 8 r_8.toNatClampNeg)).toNatClampNeg))).1 8 r_8.toNatClampNeg) + 1)) 11 (((sA (sV M53 9 ((M53.2 9) + (M53.1 6 ((8 * r_8) + (M53.1 8 r_8.toNatClampNeg)).toNatClampNeg))) 8 r_8.toNatClampNeg (((sV M53 9 ((M53.2 9) + (M53.1 6 ((8 * r_8) + (M53.1 8 r_8.toNatClampNeg)).toNatClampNeg))).1 8 r_8.toNatClampNeg) + 1)).2 9) - (((sA (sV M53 9 ((M53.2 9) + (M53.1 6 ((8 * r_8) + (M53.1 8 r_8.toNatClampNeg)).toNatClampNeg))) 8 r_8.toNatClampNeg (((sV M53 9 ((M53.2 9) + (M53.1 6 ((8 * r_8) + (M53.1 8 r_8.toNatClampNeg)).toNatClampNeg))).1 8 r_8.toNatClampNeg) + 1)).1 7 r_8.toNatClampNeg) * ((sA (sV M53 9 ((M53.2 9) + (M53.1 6 ((8 * r_8) + (M53.1 8 r_8.toNatClampNeg)).toNatClampNeg))) 8 r_8.toNatClampNeg (((sV M53 9 ((M53.2 9) + (M53.1 6 ((8 * r_8) + (M53.1 8 r_8.toNatClampNeg)).toNatClampNeg))).1 8 r_8.toNatClampNeg) + 1)).1 2 r_8.toNatClampNeg)))) 12 ((sV (sA (sV M53 9 ((M53.2 9) + (M53.1 6 ((8 * r_8) + (M53.1 8 r_8.toNatClampNeg)).toNatClampNeg))) 8 r_8.toNatClampNeg (((sV M53 9 ((M53.2 9) + (M53.1 6 ((8 * r_8) + (M53.1 8 r_8.toNatClampNeg)).toNatClampNeg))).1 8 r_8.toNatClampNeg) + 1)) 11 (((sA (sV M53 9 ((M53.2 9) + (M53.1 6 ((8 * r_8) + (M53.1 8 r_8.toNatClampNeg)).toNatClampNeg))) 8 r_8.toNatClampNeg (((sV M53 9 ((M53.2 9) + (M53.1 6 ((8 * r_8) + (M53.1 8 r_8.toNatClampNeg)).toNatClampNeg))).1 8 r_8.toNatClampNeg) + 1)).2 9) - (((sA (sV M53 9 ((M53.2 9) + (M53.1 6 ((8 * r_8) + (M53.1 8 r_8.toNatClampNeg)).toNatClampNeg))) 8 r_8.toNatClampNeg (((sV M53 9 ((M53.2 9) + (M53.1 6 ((8 * r_8) + (M53.1 8 r_8.toNatClampNeg)).toNatClampNeg))).1 8 r_8.toNatClampNeg) + 1)).1 7 r_8.toNatClampNeg) * ((sA (sV M53 9 ((M53.2 9) + (M53.1 6 ((8 * r_8) + (M53.1 8 r_8.toNatClampNeg)).toNatClampNeg))) 8 r_8.toNatClampNeg (((sV M53 9 ((M53.2 9) + (M53.1 6 ((8 * r_8) + (M53.1 8 r_8.toNatClampNeg)).toNatClampNeg))).1 8 r_8.toNatClampNeg) + 1)).1 2 r_8.toNatClampNeg)))).1 7 r_8.toNatClampNeg)) 8 r_8.toNatClampNeg 0).1 7 r_8.toNatClampNeg) + 1))
                                              else none
                                            else none
                                          else none
                                      else none
                                    else
                                      if ¬ (r_8 < 0 ∨ 9 ≤ r_8.toNatClampNeg) then
                                        if ¬ (r_8 < 0 ∨ 9 ≤ r_8.toNatClampNeg) then
                                          if ¬ (r_8 < 0 ∨ 9 ≤ r_8.toNatClampNeg) then
                                            j_Y_go_L53 n a1 a2 f53 r_8 (sA (sA (sV (sV (sA (sV M53 9 ((M53.2 9) + (M53.1 6 ((8 * r_8) + (M53.1 8 r_8.toNatClampNeg)).toNatClampNeg))) 8 r_8.toNatClampNeg (((sV M53 9 ((M53.2 9) + (M53.1 6 ((8 * r_8) + (M53.1 8 r_8.toNatClampNeg)).toNatClampNeg))).1 8 r_8.toNatClampNeg) + 1)) 11 (((sA (sV M53 9 ((M53.2 9) + (M53.1 6 ((8 * r_8) + (M53.1 8 r_8.toNatClampNeg)).toNatClampNeg))) 8 r_8.toNatClampNeg (((sV M53 9 ((M53.2 9) + (M53.1 6 ((8 * r_8) + (M53.1 8 r_8.toNatClampNeg)).toNatClampNeg))).1 8 r_8.toNatClampNeg) + 1)).2 9) - (((sA (sV M53 9 ((M53.2 9) + (M53.1 6 ((8 * r_8) + (M53.1 8 r_8.toNatClampNeg)).toNatClampNeg))) 8 r_8.toNatClampNeg (((sV M53 9 ((M53.2 9) + (M53.1 6 ((8 * r_8) + (M53.1 8 r_8.toNatClampNeg)).toNatClampNeg))).1 8 r_8.toNatClampNeg) + 1)).1 7 r_8.toNatClampNeg) * ((sA (sV M53 9 ((M53.2 9) + (M53.1 6 ((8 * r_8) + (M53.1 8 r_8.toNatClampNeg)).toNatClampNeg))) 8 r_8.toNatClampNeg (((sV M53 9 ((M53.2 9) + (M53.1 6 ((8 * r_8) + (M53.1 8 r_8.toNatClampNeg)).toNatClampNeg))).1 8 r_8.toNatClampNeg) + 1)).1 2 r_8.toNatClampNeg)))) 12 ((sV (sA (sV M53 9 ((M53.2 9) + (M53.1 6 ((8 * r_8) + (M53.1 8 r_8.toNatClampNeg)).toNatClampNeg))) 8 r_8.toNatClampNeg (((sV M53 9 ((M53.2 9) + (M53.1 6 ((8 * r_8) + (M53.1 8 r_8.toNatClampNeg)).toNatClampNeg))).1 8 r_8.toNatClampNeg) + 1)) 11 (((sA (sV M53 9 ((M53.2 9) + (M53.1 6 ((8 * r_8) + (M53.1 8 r_8.toNatClampNeg)).toNatClampNeg))) 8 r_8.toNatClampNeg (((sV M53 9 ((M53.2 9) + (M53.1 6 ((8 * r_8) + (M53.1 8 r_8.toNatClampNeg)).toNatClampNeg))).1 8 r_8.toNatClampNeg) + 1)).2 9) - (((sA (sV M53 9 ((M53.2 9) + (M53.1 6 ((8 * r_8) + (M53.1 8 r_8.toNatClampNeg)).toNatClampNeg))) 8 r_8.toNatClampNeg (((sV M53 9 ((M53.2 9) + (M53.1 6 ((8 * r_8) + (M53.1 8 r_8.toNatClampNeg)).toNatClampNeg))).1 8 r_8.toNatClampNeg) + 1)).1 7 r_8.toNatClampNeg) * ((sA (sV M53 9 ((M53.2 9) + (M53.1 6 ((8 * r_8) + (M53.1 8 r_8.toNatClampNeg)).toNatClampNeg))) 8 r_8.toNatClampNeg (((sV M53 9 ((M53.2 9) + (M53.1 6 ((8 * r_8) + (M53.1 8 r_8.toNatClampNeg)).toNatClampNeg))).1 8 r_8.toNatClampNeg) + 1)).1 2 r_8.toNatClampNeg)))).1 7 r_8.toNatClampNeg)) 8 r_8.toNatClampNeg 0) 7 r_8.toNatClampNeg (((sA (sV (sV (sA (sV M53 9 ((M53.2 9) + (M53.1 6 ((8 * r_8) + (M53.1 8 r_8.toNatClampNeg)).toNatClampNeg))) 8 r_8.toNatClampNeg (((sV M53 9 ((M53.2 9) + (M53.1 6 ((8 * r_8) + (M53.1 8 r_8.toNatClampNeg)).toNatClampNeg))).1 8 r_8.toNatClampNeg) + 1)) 11 (((sA (sV M53 9 ((M53.2 9) + (M53.1 6 ((8 * r_8) + (M53.1 8 r_8.toNatClampNeg)).toNatClampNeg))) 8 r_8.toNatClampNeg (((sV M53 9 ((M53.2 9) + (M53.1 6 ((8 * r_8) + (M53.1 8 r_8.toNatClampNeg)).toNatClampNeg))).1 8 r_8.toNatClampNeg) + 1)).2 9) - (((sA (sV M53 9 ((M53.2 9) + (M53.1 6 ((8 * r_8) + (M53.1 8 r_8.toNatClampNeg)).toNatClampNeg))) 8 r_8.toNatClampNeg (((sV M53 9 ((M53.2 9) + (M53.1 6 ((8 * r_8) + (M53.1 8 r_8.toNatClampNeg)).toNatClampNeg))).1 8 r_8.toNatClampNeg) + 1)).1 7 r_8.toNatClampNeg) * ((sA (sV M53 9 ((M53.2 9) + (M53.1 6 ((8 * r_8) + (M53.1 8 r_8.toNatClampNeg)).toNatClampNeg))) 8 r_8.toNatClampNeg (((sV M53 9 ((M53.2 9) + (M53.1 6 ((8 * r_8) + (M53.1 8 r_8.toNatClampNeg)).toNatClampNeg))).1 8 r_8.toNatClampNeg) + 1)).1 2 r_8.toNatClampNeg)))) 12 ((sV (sA (sV M53 9 ((M53.2 9) + (M53.1 6 ((8 * r_8) + (M53.1 8 r_8.toNatClampNeg)).toNatClampNeg))) 8 r_8.toNatClampNeg (((sV M53 9 ((M53.2 9) + (M53.1 6 ((8 * r_8) + (M53.1 8 r_8.toNatClampNeg)).toNatClampNeg))).1 8 r_8.toNatClampNeg) + 1)) 11 (((sA (sV M53 9 ((M53.2 9) + (M53.1 6 ((8 * r_8) + (M53.1 8 r_8.toNatClampNeg)).toNatClampNeg))) 8 r_8.toNatClampNeg (((sV M53 9 ((M53.2 9) + (M53.1 6 ((8 * r_8) + (M53.1 8 r_8.toNatClampNeg)).toNatClampNeg))).1 8 r_8.toNatClampNeg) + 1)).2 9) - (((sA (sV M53 9 ((M53.2 9) + (M53.1 6 ((8 * r_8) + (M53.1 8 r_8.toNatClampNeg)).toNatClampNeg))) 8 r_8.toNatClampNeg (((sV M53 9 ((M53.2 9) + (M53.1 6 ((8 * r_8) + (M53.1 8 r_8.toNatClampNeg)).toNatClampNeg))).1 8 r_8.toNatClampNeg) + 1)).1 7 r_8.toNatClampNeg) * ((sA (sV M53 9 ((M53.2 9) + (M53.1 6 ((8 * r_8) + (M53.1 8 r_8.toNatClampNeg)).toNatClampNeg))) 8 r_8.toNatClampNeg (((sV M53 9 ((M53.2 9) + (M53.1 6 ((8 * r_8) + (M53.1 8 r_8.toNatClampNeg)).toNatClampNeg))).1 8 r_8.toNatClampNeg) + 1)).1 2 r_8.toNatClampNeg)))).1 7 r_8.toNatClampNeg)) 8 r_8.toNatClampNeg 0).1 7 r_8.toNatClampNeg) + 1))
                                          else none
                                        else none
                                      else none
                                  else none
                              else
                                if r_8 = a1 then
                                  if ¬ (r_8 < 0 ∨ 9 ≤ r_8.toNatClampNeg) then
                                    if ((sA (sV M53 9 ((M53.2 9) + (M53.1 6 ((8 * r_8) + (M53.1 8 r_8.toNatClampNeg)).toNatClampNeg))) 8 r_8.toNatClampNeg (((sV M53 9 ((M53.2 9) + (M53.1 6 ((8 * r_8) + (M53.1 8 r_8.toNatClampNeg)).toNatClampNeg))).1 8 r_8.toNatClampNeg) + 1)).1 7 r_8.toNatClampNeg) = ((sA (sV M53 9 ((M53.2 9) + (M53.1 6 ((8 * r_8) + (M53.1 8 r_8.toNatClampNeg)).toNatClampNeg))) 8 r_8.toNatClampNeg (((sV M53 9 ((M53.2 9) + (M53.1 6 ((8 * r_8) + (M53.1 8 r_8.toNatClampNeg)).toNatClampNeg))).1 8 r_8.toNatClampNeg) + 1)).2 13) then
                                      if ¬ (r_8 < 0 ∨ 9 ≤ r_8.toNatClampNeg) then
                                        if ¬ (r_8 < 0 ∨ 9 ≤ r_8.toNatClampNeg) then
                                          if ¬ (r_8 < 0 ∨ 9 ≤ r_8.toNatClampNeg) then
                                            j_Y_go_L53 n a1 a2 f53 r_8 (sA (sA (sV (sA (sV M53 9 ((M53.2 9) + (M53.1 6 ((8 * r_8) + (M53.1 8 r_8.toNatClampNeg)).toNatClampNeg))) 8 r_8.toNatClampNeg (((sV M53 9 ((M53.2 9) + (M53.1 6 ((8 * r_8) + (M53.1 8 r_8.toNatClampNeg)).toNatClampNeg))).1 8 r_8.toNatClampNeg) + 1)) 14 (((sA (sV M53 9 ((M53.2 9) + (M53.1 6 ((8 * r_8) + (M53.1 8 r_8.toNatClampNeg)).toNatClampNeg))) 8 r_8.toNatClampNeg (((sV M53 9 ((M53.2 9) + (M53.1 6 ((8 * r_8) + (M53.1 8 r_8.toNatClampNeg)).toNatClampNeg))).1 8 r_8.toNatClampNeg) + 1)).2 9) - (((sA (sV M53 9 ((M53.2 9) + (M53.1 6 ((8 * r_8) + (M53.1 8 r_8.toNatClampNeg)).toNatClampNeg))) 8 r_8.toNatClampNeg (((sV M53 9 ((M53.2 9) + (M53.1 6 ((8 * r_8) + (M53.1 8 r_8.toNatClampNeg)).toNatClampNeg))).1 8 r_8.toNatClampNeg) + 1)).1 7 r_8.toNatClampNeg) * ((sA (sV M53 9 ((M53.2 9) + (M53.1 6 ((8 * r_8) + (M53.1 8 r_8.toNatClampNeg)).toNatClampNeg))) 8 r_8.toNatClampNeg (((sV M53 9 ((M53.2 9) + (M53.1 6 ((8 * r_8) + (M53.1 8 r_8.toNatClampNeg)).toNatClampNeg))).1 8 r_8.toNatClampNeg) + 1)).1 2 r_8.toNatClampNeg)))) 8 r_8.toNatClampNeg 0) 7 r_8.toNatClampNeg (((sA (sV (sA (sV M53 9 ((M53.2 9) + (M53.1 6 ((8 * r_8) + (M53.1 8 r_8.toNatClampNeg)).toNatClampNeg))) 8 r_8.toNatClampNeg (((sV M53 9 ((M53.2 9) + (M53.1 6 ((8 * r_8) + (M53.1 8 r_8.toNatClampNeg)).toNatClampNeg))).1 8 r_8.toNatClampNeg) + 1)) 14 (((sA (sV M53 9 ((M53.2 9) + (M53.1 6 ((8 * r_8) + (M53.1 8 r_8.toNatClampNeg)).toNatClampNeg))) 8 r_8.toNatClampNeg (((sV M53 9 ((M53.2 9) + (M53.1 6 ((8 * r_8) + (M53.1 8 r_8.toNatClampNeg)).toNatClampNeg))).1 8 r_8.toNatClampNeg) + 1)).2 9) - (((sA (sV M53 9 ((M53.2 9) + (M53.1 6 ((8 * r_8) + (M53.1 8 r_8.toNatClampNeg)).toNatClampNeg))) 8 r_8.toNatClampNeg (((sV M53 9 ((M53.2 9) + (M53.1 6 ((8 * r_8) + (M53.1 8 r_8.toNatClampNeg)).toNatClampNeg))).1 8 r_8.toNatClampNeg) + 1)).1 7 r_8.toNatClampNeg) * ((sA (sV M53 9 ((M53.2 9) + (M53.1 6 ((8 * r_8) + (M53.1 8 r_8.toNatClampNeg)).toNatClampNeg))) 8 r_8.toNatClampNeg (((sV M53 9 ((M53.2 9) + (M53.1 6 ((8 * r_8) + (M53.1 8 r_8.toNatClampNeg)).toNatClampNeg))).1 8 r_8.toNatClampNeg) + 1)).1 2 r_8.toNatClampNeg)))) 8 r_8.toNatClampNeg 0).1 7 r_8.toNatClampNeg) + 1))
                                          else none
                                        else none
                                      else none
                                    else
                                      if ¬ (r_8 < 0 ∨ 9 ≤ r_8.toNatClampNeg) then
                                        if ¬ (r_8 < 0 ∨ 9 ≤ r_8.toNatClampNeg) then
                                          if ¬ (r_8 < 0 ∨ 9 ≤ r_8.toNatClampNeg) then
                                            j_Y_go_L53 n a1 a2 f53 r_8 (sA (sA (sA (sV M53 9 ((M53.2 9) + (M53.1 6 ((8 * r_8) + (M53.1 8 r_8.toNatClampNeg)).toNatClampNeg))) 8 r_8.toNatClampNeg (((sV M53 9 ((M53.2 9) + (M53.1 6 ((8 * r_8) + (M53.1 8 r_8.toNatClampNeg)).toNatClampNeg))).1 8 r_8.toNatClampNeg) + 1)) 8 r_8.toNatClampNeg 0) 7 r_8.toNatClampNeg (((sA (sA (sV M53 9 ((M53.2 9) + (M53.1 6 ((8 * r_8) + (M53.1 8 r_8.toNatClampNeg)).toNatClampNeg))) 8 r_8.toNatClampNeg (((sV M53 9 ((M53.2 9) + (M53.1 6 ((8 * r_8) + (M53.1 8 r_8.toNatClampNeg)).toNatClampNeg))).1 8 r_8.toNatClampNeg) + 1)) 8 r_8.toNatClampNeg 0).1 7 r_8.toNatClampNeg) + 1))
                                          else none
                                        else none
                                      else none
                                  else none
                                else
                                  if ¬ (r_8 < 0 ∨ 9 ≤ r_8.toNatClampNeg) then
                                    if ¬ (r_8 < 0 ∨ 9 ≤ r_8.toNatClampNeg) then
                                      if ¬ (r_8 < 0 ∨ 9 ≤ r_8.toNatClampNeg) then
                                        j_Y_go_L53 n a1 a2 f53 r_8 (sA (sA (sA (sV M53 9 ((M53.2 9) + (M53.1 6 ((8 * r_8) + (M53.1 8 r_8.toNatClampNeg)).toNatClampNeg))) 8 r_8.toNatClampNeg (((sV M53 9 ((M53.2 9) + (M53.1 6 ((8 * r_8) + (M53.1 8 r_8.toNatClampNeg)).toNatClampNeg))).1 8 r_8.toNatClampNeg) + 1)) 8 r_8.toNatClampNeg 0) 7 r_8.toNatClampNeg (((sA (sA (sV M53 9 ((M53.2 9) + (M53.1 6 ((8 * r_8) + (M53.1 8 r_8.toNatClampNeg)).toNatClampNeg))) 8 r_8.toNatClampNeg (((sV M53 9 ((M53.2 9) + (M53.1 6 ((8 * r_8) + (M53.1 8 r_8.toNatClampNeg)).toNatClampNeg))).1 8 r_8.toNatClampNeg) + 1)) 8 r_8.toNatClampNeg 0).1 7 r_8.toNatClampNeg) + 1))
                                      else none
                                    else none
                                  else none
                            else none
                          else none
                        else
                          j_Y_go_L53 n a1 a2 f53 r_8 (sA (sV M53 9 ((M53.2 9) + (M53.1 6 ((8 * r_8) + (M53.1 8 r_8.toNatClampNeg)).toNatClampNeg))) 8 r_8.toNatClampNeg (((sV M53 9 ((M53.2 9) + (M53.1 6 ((8 * r_8) + (M53.1 8 r_8.toNatClampNeg)).toNatClampNeg))).1 8 r_8.toNatClampNeg) + 1))
                      else none
                    else none
                  else none
                else none
              else none
            else none
        else
          some (sV M53 10 1)
      else
        if (M53.2 9) ≤ 20000 then
          some (sV M53 10 0)
        else
          some (sV M53 10 1)
def j_Y_go_L2 (n : Nat) (a1 : Int32) (a2 : Int32) : Nat → Int32 → MY → Option MY
  | 0, _, _ => none
  | f2 + 1, v3_2, M2 =>
    if 8 < v3_2 then
      j_Y_go_L53 n a1 a2 n v3_2 (sV (sV (sV (sV (sV M2 9 a2) 11 0) 12 0) 14 (-1)) 10 0)
    else
      if ¬ (v3_2 < 0 ∨ 9 ≤ v3_2.toNatClampNeg) then
        if ¬ (v3_2 < 0 ∨ 9 ≤ v3_2.toNatClampNeg) then
          j_Y_go_L2 n a1 a2 f2 (v3_2 + 1) (sA (sA M2 7 v3_2.toNatClampNeg 0) 8 v3_2.toNatClampNeg 0)
        else none
      else none
def j_Y_go (n : Nat) (M : MY) (a1 : Int32) (a2 : Int32) : Option MY :=
  j_Y_go_L2 n a1 a2 n 1 M
def j_Y_highest_L4 (n : Nat) (M : MY) (a1 : Int32) : Nat → Int32 → Int32 → Option Int32
  | 0, _, _ => none
  | f4 + 1, v2_4, v3_4 =>
    if 8 < v3_4 then
      some v2_4
    else
      if ¬ (v3_4 < 0 ∨ 9 ≤ v3_4.toNatClampNeg) then
        if (M.1 1 v3_4.toNatClampNeg) = 0 then
          j_Y_highest_L4 n M a1 f4 v2_4 (v3_4 + 1)
        else
          if ¬ (v3_4 < 0 ∨ 9 ≤ v3_4.toNatClampNeg) then
            if a1 ≤ (M.1 4 v3_4.toNatClampNeg) then
              j_Y_highest_L4 n M a1 f4 v2_4 (v3_4 + 1)
            else
              if v2_4 = 0 then
                j_Y_highest_L4 n M a1 f4 v3_4 (v3_4 + 1)
              else
                if ¬ (v3_4 < 0 ∨ 9 ≤ v3_4.toNatClampNeg) then
                  if ¬ (v2_4 < 0 ∨ 9 ≤ v2_4.toNatClampNeg) then
                    if (M.1 4 v3_4.toNatClampNeg) ≤ (M.1 4 v2_4.toNatClampNeg) then
                      j_Y_highest_L4 n M a1 f4 v2_4 (v3_4 + 1)
                    else
                      j_Y_highest_L4 n M a1 f4 v3_4 (v3_4 + 1)
                  else none
                else none
          else none
      else none
def j_Y_highest (n : Nat) (M : MY) (a1 : Int32) : Option Int32 :=
  j_Y_highest_L4 n M a1 n 0 1
def j_Y_admitted_L7 (n : Nat) : Nat → Int32 → MY → Option (Int32 × MY)
  | 0, _, _ => none
  | f7 + 1, v1_7, M7 =>
    if v1_7 = 0 then
      some (1, M7)
    else
      (j_Y_blocking n M7 v1_7).bind fun r_5 =>
        (j_Y_go n M7 v1_7 r_5).bind fun M_7 =>
          if (M_7.2 10) = 0 then
            if ¬ (v1_7 < 0 ∨ 9 ≤ v1_7.toNatClampNeg) then
              if (M_7.2 11) ≤ (M_7.1 3 v1_7.toNatClampNeg) then
                if ¬ (v1_7 < 0 ∨ 9 ≤ v1_7.toNatClampNeg) then
                  (j_Y_highest n M_7 (M_7.1 4 v1_7.toNatClampNeg)).bind fun r_13 =>
                    j_Y_admitted_L7 n f7 r_13 M_7
                else none
              else
                some ((-v1_7), M_7)
            else none
          else
            some (((-v1_7) - 100), M_7)
def j_Y_admitted (n : Nat) (M : MY) : Option (Int32 × MY) :=
  (j_Y_highest n M 100).bind fun r_2 =>
    j_Y_admitted_L7 n n r_2 M
def j_Y_admit (n : Nat) (M : MY) : Option (Int32 × MY) :=
  (j_Y_isReady n M).bind fun r_2 =>
    if r_2 = 0 then
      (j_Y_raise n M 1).bind fun q_7 =>
        some (q_7.1, q_7.2)
    else
      (j_Y_admitted n (sV M 0 0)).bind fun q_5 =>
        some (q_5.1, q_5.2)
def j_Y_asks (n : Nat) (M : MY) (a1 : Int32) : Option (Int32 × MY) :=
  (j_Y_isTask n M a1).bind fun r_2 =>
    if r_2 = 0 then
      if ((sV M 0 1).2 0) = 0 then
        (j_Y_blocking n (sV M 0 1) a1).bind fun r_25 =>
          (j_Y_go n (sV M 0 1) a1 r_25).bind fun M_27 =>
            if (M_27.2 10) = 0 then
              if ((sV M_27 0 0).2 10) = 0 then
                some (1, (sV M_27 0 0))
              else
                some (0, (sV M_27 0 0))
            else
              if ((sV M_27 0 3).2 10) = 0 then
                some (1, (sV M_27 0 3))
              else
                some (0, (sV M_27 0 3))
      else
        some (0, (sV M 0 1))
    else
      (j_Y_isReady n M).bind fun r_5 =>
        if r_5 = 0 then
          if ((sV M 0 2).2 0) = 0 then
            (j_Y_blocking n (sV M 0 2) a1).bind fun r_17 =>
              (j_Y_go n (sV M 0 2) a1 r_17).bind fun M_19 =>
                if (M_19.2 10) = 0 then
                  if ((sV M_19 0 0).2 10) = 0 then
                    some (1, (sV M_19 0 0))
                  else
                    some (0, (sV M_19 0 0))
                else
                  if ((sV M_19 0 3).2 10) = 0 then
                    some (1, (sV M_19 0 3))
                  else
                    some (0, (sV M_19 0 3))
          else
            some (0, (sV M 0 2))
        else
          if ((sV M 0 0).2 0) = 0 then
            (j_Y_blocking n (sV M 0 0) a1).bind fun r_9 =>
              (j_Y_go n (sV M 0 0) a1 r_9).bind fun M_11 =>
                if (M_11.2 10) = 0 then
                  if ((sV M_11 0 0).2 10) = 0 then
                    some (1, (sV M_11 0 0))
                  else
                    some (0, (sV M_11 0 0))
                else
                  if ((sV M_11 0 3).2 10) = 0 then
                    some (1, (sV M_11 0 3))
                  else
                    some (0, (sV M_11 0 3))
          else
            some (0, (sV M 0 0))
def j_Y_response (n : Nat) (M : MY) (a1 : Int32) : Option (Int32 × MY) :=
  (j_Y_asks n M a1).bind fun q_2 =>
    if q_2.1 = 0 then
      some (0, q_2.2)
    else
      some ((q_2.2.2 11), q_2.2)
def j_Y_job (n : Nat) (M : MY) (a1 : Int32) (a2 : Int32) : Option (Int32 × MY) :=
  (j_Y_asks n (sV M 13 a2) a1).bind fun q_2 =>
    if q_2.1 = 0 then
      some (0, (sV q_2.2 13 (-1)))
    else
      some ((q_2.2.2 14), (sV q_2.2 13 (-1)))
def j_Y_tolerates_L4 (n : Nat) (a1 : Int32) : Nat → Int32 → Int32 → MY → Option (Int32 × MY)
  | 0, _, _, _ => none
  | f4 + 1, v2_4, v3_4, M4 =>
    if v3_4 = 0 then
      some ((v2_4 - 1), M4)
    else
      if ¬ (a1 < 0 ∨ 9 ≤ a1.toNatClampNeg) then
        if (M4.1 3 a1.toNatClampNeg) < v2_4 then
          some ((v2_4 - 1), M4)
        else
          (j_Y_go n M4 a1 v2_4).bind fun M_5 =>
            if (M_5.2 10) = 0 then
              if ¬ (a1 < 0 ∨ 9 ≤ a1.toNatClampNeg) then
                if (M_5.1 3 a1.toNatClampNeg) < (M_5.2 11) then
                  j_Y_tolerates_L4 n a1 f4 v2_4 0 M_5
                else
                  j_Y_tolerates_L4 n a1 f4 (v2_4 + 1) 1 M_5
              else none
            else
              j_Y_tolerates_L4 n a1 f4 v2_4 0 M_5
      else none
def j_Y_tolerates (n : Nat) (M : MY) (a1 : Int32) : Option (Int32 × MY) :=
  j_Y_tolerates_L4 n a1 n 0 1 M
def j_Y_tolerance (n : Nat) (M : MY) (a1 : Int32) : Option (Int32 × MY) :=
  (j_Y_isTask n M a1).bind fun r_2 =>
    if r_2 = 0 then
      if ((sV M 0 1).2 0) = 0 then
        (j_Y_tolerates n (sV M 0 1) a1).bind fun q_15 =>
          some (q_15.1, q_15.2)
      else
        some (0, (sV M 0 1))
    else
      (j_Y_isReady n M).bind fun r_5 =>
        if r_5 = 0 then
          if ((sV M 0 2).2 0) = 0 then
            (j_Y_tolerates n (sV M 0 2) a1).bind fun q_12 =>
              some (q_12.1, q_12.2)
          else
            some (0, (sV M 0 2))
        else
          if ((sV M 0 0).2 0) = 0 then
            (j_Y_tolerates n (sV M 0 0) a1).bind fun q_9 =>
              some (q_9.1, q_9.2)
          else
            some (0, (sV M 0 0))
def j_Y_stretchOne_L14 (n : Nat) (a1 : Int32) (a2 : Int32) (z3_14 : Int32) : Nat → Int32 → Int32 → MY → Option MY
  | 0, _, _, _ => none
  | f14 + 1, v4_14, v5_14, M14 =>
    if z3_14 ≤ v5_14 then
      if ¬ (((8 * a1) + v4_14) < 0 ∨ 72 ≤ ((8 * a1) + v4_14).toNatClampNeg) then
        if ¬ (a1 < 0 ∨ 9 ≤ a1.toNatClampNeg) then
          some (sA (sA M14 6 ((8 * a1) + v4_14).toNatClampNeg a2) 5 a1.toNatClampNeg (v4_14 + 1))
        else none
      else none
    else
      if ¬ (((8 * a1) + v4_14) < 0 ∨ 72 ≤ ((8 * a1) + v4_14).toNatClampNeg) then
        if (v5_14 + (M14.1 6 ((8 * a1) + v4_14).toNatClampNeg)) ≤ z3_14 then
          if ¬ (((8 * a1) + v4_14) < 0 ∨ 72 ≤ ((8 * a1) + v4_14).toNatClampNeg) then
            j_Y_stretchOne_L14 n a1 a2 z3_14 f14 (v4_14 + 1) (v5_14 + (M14.1 6 ((8 * a1) + v4_14).toNatClampNeg)) M14
          else none
        else
          if ¬ (((8 * a1) + v4_14) < 0 ∨ 72 ≤ ((8 * a1) + v4_14).toNatClampNeg) then
            if ¬ (((8 * a1) + v4_14) < 0 ∨ 72 ≤ ((8 * a1) + v4_14).toNatClampNeg) then
              j_Y_stretchOne_L14 n a1 a2 z3_14 f14 (v4_14 + 1) (v5_14 + ((sA M14 6 ((8 * a1) + v4_14).toNatClampNeg (z3_14 - v5_14)).1 6 ((8 * a1) + v4_14).toNatClampNeg)) (sA M14 6 ((8 * a1) + v4_14).toNatClampNeg (z3_14 - v5_14))
            else none
          else none
      else none
def j_Y_stretchOne (n : Nat) (M : MY) (a1 : Int32) (a2 : Int32) : Option MY :=
  (j_Y_work n M a1).bind fun r_2 =>
    j_Y_stretchOne_L14 n a1 a2 (r_2 - a2) n 0 0 M
def j_Y_stretch_L47 (n : Nat) : Nat → Int32 → Int32 → Int32 → Int32 → MY → Option (Int32 × MY)
  | 0, _, _, _, _, _ => none
  | f47 + 1, v1_47, v2_47, v3_47, v4_47, M47 =>
    if v4_47 = 0 then
      some ((v1_47 - v2_47), M47)
    else
      (j_Y_work n M47 v4_47).bind fun r_16 =>
        if ¬ (v4_47 < 0 ∨ 9 ≤ v4_47.toNatClampNeg) then
          if v3_47 = (-1) then
            (j_Y_stretchOne n M47 v4_47 r_16).bind fun M_20 =>
              if ¬ (v4_47 < 0 ∨ 9 ≤ v4_47.toNatClampNeg) then
                (j_Y_tolerates n M_20 v4_47).bind fun q_23 =>
                  if v3_47 = (-1) then
                    if ¬ (v4_47 < 0 ∨ 9 ≤ v4_47.toNatClampNeg) then
                      (j_Y_highest n q_23.2 (q_23.2.1 4 v4_47.toNatClampNeg)).bind fun r_27 =>
                        j_Y_stretch_L47 n f47 (v1_47 + (M47.1 5 v4_47.toNatClampNeg)) (v2_47 + (M_20.1 5 v4_47.toNatClampNeg)) (q_23.1 + 1) r_27 q_23.2
                    else none
                  else
                    if v3_47 ≤ (q_23.1 + 1) then
                      if ¬ (v4_47 < 0 ∨ 9 ≤ v4_47.toNatClampNeg) then
                        (j_Y_highest n q_23.2 (q_23.2.1 4 v4_47.toNatClampNeg)).bind fun r_31 =>
                          j_Y_stretch_L47 n f47 (v1_47 + (M47.1 5 v4_47.toNatClampNeg)) (v2_47 + (M_20.1 5 v4_47.toNatClampNeg)) v3_47 r_31 q_23.2
                      else none
                    else
                      if ¬ (v4_47 < 0 ∨ 9 ≤ v4_47.toNatClampNeg) then
                        (j_Y_highest n q_23.2 (q_23.2.1 4 v4_47.toNatClampNeg)).bind fun r_34 =>
                          j_Y_stretch_L47 n f47 (v1_47 + (M47.1 5 v4_47.toNatClampNeg)) (v2_47 + (M_20.1 5 v4_47.toNatClampNeg)) (q_23.1 + 1) r_34 q_23.2
                      else none
              else none
          else
            if v3_47 ≤ r_16 then
              (j_Y_stretchOne n M47 v4_47 v3_47).bind fun M_37 =>
                if ¬ (v4_47 < 0 ∨ 9 ≤ v4_47.toNatClampNeg) then
                  (j_Y_tolerates n M_37 v4_47).bind fun q_40 =>
                    if v3_47 = (-1) then
                      if ¬ (v4_47 < 0 ∨ 9 ≤ v4_47.toNatClampNeg) then
                        (j_Y_highest n q_40.2 (q_40.2.1 4 v4_47.toNatClampNeg)).bind fun r_44 =>
                          j_Y_stretch_L47 n f47 (v1_47 + (M47.1 5 v4_47.toNatClampNeg)) (v2_47 + (M_37.1 5 v4_47.toNatClampNeg)) (q_40.1 + 1) r_44 q_40.2
                      else none
                    else
                      if v3_47 ≤ (q_40.1 + 1) then
                        if ¬ (v4_47 < 0 ∨ 9 ≤ v4_47.toNatClampNeg) then
                          (j_Y_highest n q_40.2 (q_40.2.1 4 v4_47.toNatClampNeg)).bind fun r_48 =>
                            j_Y_stretch_L47 n f47 (v1_47 + (M47.1 5 v4_47.toNatClampNeg)) (v2_47 + (M_37.1 5 v4_47.toNatClampNeg)) v3_47 r_48 q_40.2
                        else none
                      else
                        if ¬ (v4_47 < 0 ∨ 9 ≤ v4_47.toNatClampNeg) then
                          (j_Y_highest n q_40.2 (q_40.2.1 4 v4_47.toNatClampNeg)).bind fun r_51 =>
                            j_Y_stretch_L47 n f47 (v1_47 + (M47.1 5 v4_47.toNatClampNeg)) (v2_47 + (M_37.1 5 v4_47.toNatClampNeg)) (q_40.1 + 1) r_51 q_40.2
                        else none
                else none
            else
              (j_Y_stretchOne n M47 v4_47 r_16).bind fun M_53 =>
                if ¬ (v4_47 < 0 ∨ 9 ≤ v4_47.toNatClampNeg) then
                  (j_Y_tolerates n M_53 v4_47).bind fun q_56 =>
                    if v3_47 = (-1) then
                      if ¬ (v4_47 < 0 ∨ 9 ≤ v4_47.toNatClampNeg) then
                        (j_Y_highest n q_56.2 (q_56.2.1 4 v4_47.toNatClampNeg)).bind fun r_60 =>
                          j_Y_stretch_L47 n f47 (v1_47 + (M47.1 5 v4_47.toNatClampNeg)) (v2_47 + (M_53.1 5 v4_47.toNatClampNeg)) (q_56.1 + 1) r_60 q_56.2
                      else none
                    else
                      if v3_47 ≤ (q_56.1 + 1) then
                        if ¬ (v4_47 < 0 ∨ 9 ≤ v4_47.toNatClampNeg) then
                          (j_Y_highest n q_56.2 (q_56.2.1 4 v4_47.toNatClampNeg)).bind fun r_64 =>
                            j_Y_stretch_L47 n f47 (v1_47 + (M47.1 5 v4_47.toNatClampNeg)) (v2_47 + (M_53.1 5 v4_47.toNatClampNeg)) v3_47 r_64 q_56.2
                        else none
                      else
                        if ¬ (v4_47 < 0 ∨ 9 ≤ v4_47.toNatClampNeg) then
                          (j_Y_highest n q_56.2 (q_56.2.1 4 v4_47.toNatClampNeg)).bind fun r_67 =>
                            j_Y_stretch_L47 n f47 (v1_47 + (M47.1 5 v4_47.toNatClampNeg)) (v2_47 + (M_53.1 5 v4_47.toNatClampNeg)) (q_56.1 + 1) r_67 q_56.2
                        else none
                else none
        else none
def j_Y_stretch (n : Nat) (M : MY) : Option (Int32 × MY) :=
  (j_Y_isReady n M).bind fun r_2 =>
    if r_2 = 0 then
      (j_Y_raise n M 1).bind fun q_5 =>
        some (q_5.1, q_5.2)
    else
      if (M.2 25) = 0 then
        (j_Y_admitted n M).bind fun q_10 =>
          if q_10.1 = 1 then
            (j_Y_highest n (sV q_10.2 0 0) 100).bind fun r_13 =>
              j_Y_stretch_L47 n n 0 0 (-1) r_13 (sV q_10.2 0 0)
          else
            (j_Y_raise n q_10.2 1).bind fun q_69 =>
              some (q_69.1, q_69.2)
      else
        (j_Y_raise n M 1).bind fun q_8 =>
          some (q_8.1, q_8.2)
def j_Y_scenario_L193 (n : Nat) (a1 : Int32) (a2 : Int32) (a3 : Int32) (z4_193 : Int32) (z5_193 : Int32) (z6_193 : Int32) (z8_193 : Int32) (z9_193 : Int32) (kk178 : Int32 → Int32 → MY → Option (Int32 × MY)) : Nat → Int32 → Int32 → MY → Option (Int32 × MY)
  | 0, _, _, _ => none
  | f193 + 1, v7_193, v10_193, M193 =>
    if v10_193 = 0 then
      kk178 v7_193 (z9_193 + 1) M193
    else
      if ¬ (v10_193 < 0 ∨ 9 ≤ v10_193.toNatClampNeg) then
        if ¬ (a1 < 0 ∨ 9 ≤ a1.toNatClampNeg) then
          if (M193.1 4 v10_193.toNatClampNeg) < (M193.1 4 a1.toNatClampNeg) then
            kk178 v7_193 (z9_193 + 1) M193
          else
            if ¬ (v10_193 < 0 ∨ 9 ≤ v10_193.toNatClampNeg) then
              if ¬ (M193.1 2 v10_193.toNatClampNeg) = 0 then
                if (z9_193 - z9_193 / (M193.1 2 v10_193.toNatClampNeg) * (M193.1 2 v10_193.toNatClampNeg)) = 0 then
                  if v10_193 = a1 then
                    if ¬ (v10_193 < 0 ∨ 9 ≤ v10_193.toNatClampNeg) then
                      if ¬ (M193.1 2 v10_193.toNatClampNeg) = 0 then
                        if (z9_193 / (M193.1 2 v10_193.toNatClampNeg)) ≤ (M193.2 12) then
                          if v7_193 = a2 then
                            if a3 = 0 then
                              some ((z5_193 + z9_193), M193)
                            else
                              some (v10_193, M193)
                          else
                            if ¬ (v10_193 < 0 ∨ 9 ≤ v10_193.toNatClampNeg) then
                              (j_Y_highest n M193 (M193.1 4 v10_193.toNatClampNeg)).bind fun r_38 =>
                                j_Y_scenario_L193 n a1 a2 a3 z4_193 z5_193 z6_193 z8_193 z9_193 kk178 f193 (v7_193 + 1) r_38 M193
                            else none
                        else
                          if ¬ (v10_193 < 0 ∨ 9 ≤ v10_193.toNatClampNeg) then
                            (j_Y_highest n M193 (M193.1 4 v10_193.toNatClampNeg)).bind fun r_42 =>
                              j_Y_scenario_L193 n a1 a2 a3 z4_193 z5_193 z6_193 z8_193 z9_193 kk178 f193 v7_193 r_42 M193
                          else none
                      else none
                    else none
                  else
                    if v7_193 = a2 then
                      if a3 = 0 then
                        some ((z5_193 + z9_193), M193)
                      else
                        some (v10_193, M193)
                    else
                      if ¬ (v10_193 < 0 ∨ 9 ≤ v10_193.toNatClampNeg) then
                        (j_Y_highest n M193 (M193.1 4 v10_193.toNatClampNeg)).bind fun r_30 =>
                          j_Y_scenario_L193 n a1 a2 a3 z4_193 z5_193 z6_193 z8_193 z9_193 kk178 f193 (v7_193 + 1) r_30 M193
                      else none
                else
                  if ¬ (v10_193 < 0 ∨ 9 ≤ v10_193.toNatClampNeg) then
                    (j_Y_highest n M193 (M193.1 4 v10_193.toNatClampNeg)).bind fun r_25 =>
                      j_Y_scenario_L193 n a1 a2 a3 z4_193 z5_193 z6_193 z8_193 z9_193 kk178 f193 v7_193 r_25 M193
                  else none
              else none
            else none
        else none
      else none
def j_Y_scenario_L178 (n : Nat) (a1 : Int32) (a2 : Int32) (a3 : Int32) (z4_178 : Int32) (z5_178 : Int32) (z6_178 : Int32) (z8_178 : Int32) : Nat → Int32 → Int32 → MY → Option (Int32 × MY)
  | 0, _, _, _ => none
  | f178 + 1, v7_178, v9_178, M178 =>
    if z8_178 ≤ v9_178 then
      some ((-1), M178)
    else
      (j_Y_highest n M178 100).bind fun r_15 =>
        j_Y_scenario_L193 n a1 a2 a3 z4_178 z5_178 z6_178 z8_178 v9_178 (fun k0 k1 k2 => j_Y_scenario_L178 n a1 a2 a3 z4_178 z5_178 z6_178 z8_178 f178 k0 k1 k2) n v7_178 r_15 M178
def j_Y_scenario_L87 (n : Nat) (a1 : Int32) (a2 : Int32) (a3 : Int32) (z4_87 : Int32) (z5_87 : Int32) (z6_87 : Int32) : Nat → Int32 → MY → Option (Int32 × MY)
  | 0, _, _ => none
  | f87 + 1, v7_87, M87 =>
    if ¬ (((8 * z6_87) + v7_87) < 0 ∨ 72 ≤ ((8 * z6_87) + v7_87).toNatClampNeg) then
      if (M87.1 6 ((8 * z6_87) + v7_87).toNatClampNeg) = (z4_87 + 1) then
        (j_Y_workBefore n M87 z6_87 v7_87).bind fun r_58 =>
          if z4_87 ≤ 0 then
            if z4_87 ≤ 0 then
              if ¬ (a1 < 0 ∨ 9 ≤ a1.toNatClampNeg) then
                j_Y_scenario_L178 n a1 a2 a3 z4_87 (1 + r_58) z6_87 (((M87.2 12) * (M87.1 2 a1.toNatClampNeg)) + (M87.2 11)) n 0 0 M87
              else none
            else
              if ¬ (a1 < 0 ∨ 9 ≤ a1.toNatClampNeg) then
                j_Y_scenario_L178 n a1 a2 a3 z4_87 (1 + r_58) z6_87 (((M87.2 12) * (M87.1 2 a1.toNatClampNeg)) + (M87.2 11)) n 1 0 M87
              else none
          else
            if a2 = 0 then
              if a3 = 0 then
                some (0, M87)
              else
                some (z6_87, M87)
            else
              if z4_87 ≤ 0 then
                if ¬ (a1 < 0 ∨ 9 ≤ a1.toNatClampNeg) then
                  j_Y_scenario_L178 n a1 a2 a3 z4_87 (1 + r_58) z6_87 (((M87.2 12) * (M87.1 2 a1.toNatClampNeg)) + (M87.2 11)) n 0 0 M87
                else none
              else
                if ¬ (a1 < 0 ∨ 9 ≤ a1.toNatClampNeg) then
                  j_Y_scenario_L178 n a1 a2 a3 z4_87 (1 + r_58) z6_87 (((M87.2 12) * (M87.1 2 a1.toNatClampNeg)) + (M87.2 11)) n 1 0 M87
                else none
      else
        j_Y_scenario_L87 n a1 a2 a3 z4_87 z5_87 z6_87 f87 (v7_87 + 1) M87
    else none
def j_Y_scenario_L55 (n : Nat) (a1 : Int32) (a2 : Int32) (a3 : Int32) (z4_55 : Int32) (z5_55 : Int32) : Nat → Int32 → MY → Option (Int32 × MY)
  | 0, _, _ => none
  | f55 + 1, v6_55, M55 =>
    (j_Y_longestOf n M55 v6_55).bind fun r_53 =>
      if r_53 = (z4_55 + 1) then
        j_Y_scenario_L87 n a1 a2 a3 z4_55 z5_55 v6_55 n 0 M55
      else
        if ¬ (v6_55 < 0 ∨ 9 ≤ v6_55.toNatClampNeg) then
          (j_Y_highest n M55 (M55.1 4 v6_55.toNatClampNeg)).bind fun r_70 =>
            j_Y_scenario_L55 n a1 a2 a3 z4_55 z5_55 f55 r_70 M55
        else none
def j_Y_scenario (n : Nat) (M : MY) (a1 : Int32) (a2 : Int32) (a3 : Int32) : Option (Int32 × MY) :=
  (j_Y_asks n M a1).bind fun q_2 =>
    if q_2.1 = 0 then
      some (0, q_2.2)
    else
      if a2 < 0 then
        some ((-1), q_2.2)
      else
        if a3 < 0 then
          some ((-1), q_2.2)
        else
          if a3 ≤ 1 then
            (j_Y_blocking n q_2.2 a1).bind fun r_8 =>
              if r_8 ≤ 0 then
                if r_8 ≤ 0 then
                  if r_8 ≤ 0 then
                    if ¬ (a1 < 0 ∨ 9 ≤ a1.toNatClampNeg) then
                      j_Y_scenario_L178 n a1 a2 a3 r_8 0 0 (((q_2.2.2 12) * (q_2.2.1 2 a1.toNatClampNeg)) + (q_2.2.2 11)) n 0 0 q_2.2
                    else none
                  else
                    if ¬ (a1 < 0 ∨ 9 ≤ a1.toNatClampNeg) then
                      j_Y_scenario_L178 n a1 a2 a3 r_8 0 0 (((q_2.2.2 12) * (q_2.2.1 2 a1.toNatClampNeg)) + (q_2.2.2 11)) n 1 0 q_2.2
                    else none
                else
                  if a2 = 0 then
                    if a3 = 0 then
                      some (0, q_2.2)
                    else
                      some (0, q_2.2)
                  else
                    if r_8 ≤ 0 then
                      if ¬ (a1 < 0 ∨ 9 ≤ a1.toNatClampNeg) then
                        j_Y_scenario_L178 n a1 a2 a3 r_8 0 0 (((q_2.2.2 12) * (q_2.2.1 2 a1.toNatClampNeg)) + (q_2.2.2 11)) n 0 0 q_2.2
                      else none
                    else
                      if ¬ (a1 < 0 ∨ 9 ≤ a1.toNatClampNeg) then
                        j_Y_scenario_L178 n a1 a2 a3 r_8 0 0 (((q_2.2.2 12) * (q_2.2.1 2 a1.toNatClampNeg)) + (q_2.2.2 11)) n 1 0 q_2.2
                      else none
              else
                if ¬ (a1 < 0 ∨ 9 ≤ a1.toNatClampNeg) then
                  (j_Y_highest n q_2.2 (q_2.2.1 4 a1.toNatClampNeg)).bind fun r_51 =>
                    j_Y_scenario_L55 n a1 a2 a3 r_8 0 n r_51 q_2.2
                else none
          else
            some ((-1), q_2.2)
def j_Y_arrive (n : Nat) (M : MY) (a1 : Int32) : Option (Int32 × MY) :=
  (j_Y_isTask n (sV M 0 0) a1).bind fun r_2 =>
    if r_2 = 0 then
      some (0, (sV M 0 0))
    else
      (j_Y_isReady n (sV M 0 0)).bind fun r_5 =>
        if r_5 = 0 then
          some (0, (sV M 0 0))
        else
          if ¬ (a1 < 0 ∨ 9 ≤ a1.toNatClampNeg) then
            if ((sV M 0 0).1 9 a1.toNatClampNeg) ≤ 0 then
              if ¬ (a1 < 0 ∨ 9 ≤ a1.toNatClampNeg) then
                if ¬ (a1 < 0 ∨ 9 ≤ a1.toNatClampNeg) then
                  if (((sV M 0 0).1 9 a1.toNatClampNeg) - ((sV M 0 0).1 10 a1.toNatClampNeg)) = 9 then
                    some (0, (sV M 0 0))
                  else
                    if ¬ (a1 < 0 ∨ 9 ≤ a1.toNatClampNeg) then
                      if ¬ (((9 * a1) + (((sV M 0 0).1 9 a1.toNatClampNeg) - ((sV M 0 0).1 9 a1.toNatClampNeg) / 9 * 9)) < 0 ∨ 81 ≤ ((9 * a1) + (((sV M 0 0).1 9 a1.toNatClampNeg) - ((sV M 0 0).1 9 a1.toNatClampNeg) / 9 * 9)).toNatClampNeg) then
                        if ¬ (a1 < 0 ∨ 9 ≤ a1.toNatClampNeg) then
                          if ¬ (a1 < 0 ∨ 9 ≤ a1.toNatClampNeg) then
                            if ¬ (a1 < 0 ∨ 9 ≤ a1.toNatClampNeg) then
                              some (1, (sV (sA (sA (sA (sV M 0 0) 12 ((9 * a1) + (((sV M 0 0).1 9 a1.toNatClampNeg) - ((sV M 0 0).1 9 a1.toNatClampNeg) / 9 * 9)).toNatClampNeg ((sV M 0 0).2 15)) 11 a1.toNatClampNeg ((sA (sV M 0 0) 12 ((9 * a1) + (((sV M 0 0).1 9 a1.toNatClampNeg) - ((sV M 0 0).1 9 a1.toNatClampNeg) / 9 * 9)).toNatClampNeg ((sV M 0 0).2 15)).2 15)) 9 a1.toNatClampNeg (((sA (sA (sV M 0 0) 12 ((9 * a1) + (((sV M 0 0).1 9 a1.toNatClampNeg) - ((sV M 0 0).1 9 a1.toNatClampNeg) / 9 * 9)).toNatClampNeg ((sV M 0 0).2 15)) 11 a1.toNatClampNeg ((sA (sV M 0 0) 12 ((9 * a1) + (((sV M 0 0).1 9 a1.toNatClampNeg) - ((sV M 0 0).1 9 a1.toNatClampNeg) / 9 * 9)).toNatClampNeg ((sV M 0 0).2 15)).2 15)).1 9 a1.toNatClampNeg) + 1)) 25 1))
                            else none
                          else none
                        else none
                      else none
                    else none
                else none
              else none
            else
              if ¬ (a1 < 0 ∨ 9 ≤ a1.toNatClampNeg) then
                if ¬ (a1 < 0 ∨ 9 ≤ a1.toNatClampNeg) then
                  if (((sV M 0 0).2 15) - ((sV M 0 0).1 11 a1.toNatClampNeg)) < ((sV M 0 0).1 2 a1.toNatClampNeg) then
                    some (0, (sV M 0 0))
                  else
                    if ¬ (a1 < 0 ∨ 9 ≤ a1.toNatClampNeg) then
                      if ¬ (a1 < 0 ∨ 9 ≤ a1.toNatClampNeg) then
                        if (((sV M 0 0).1 9 a1.toNatClampNeg) - ((sV M 0 0).1 10 a1.toNatClampNeg)) = 9 then
                          some (0, (sV M 0 0))
                        else
                          if ¬ (a1 < 0 ∨ 9 ≤ a1.toNatClampNeg) then
                            if ¬ (((9 * a1) + (((sV M 0 0).1 9 a1.toNatClampNeg) - ((sV M 0 0).1 9 a1.toNatClampNeg) / 9 * 9)) < 0 ∨ 81 ≤ ((9 * a1) + (((sV M 0 0).1 9 a1.toNatClampNeg) - ((sV M 0 0).1 9 a1.toNatClampNeg) / 9 * 9)).toNatClampNeg) then
                              if ¬ (a1 < 0 ∨ 9 ≤ a1.toNatClampNeg) then
                                if ¬ (a1 < 0 ∨ 9 ≤ a1.toNatClampNeg) then
                                  if ¬ (a1 < 0 ∨ 9 ≤ a1.toNatClampNeg) then
                                    some (1, (sV (sA (sA (sA (sV M 0 0) 12 ((9 * a1) + (((sV M 0 0).1 9 a1.toNatClampNeg) - ((sV M 0 0).1 9 a1.toNatClampNeg) / 9 * 9)).toNatClampNeg ((sV M 0 0).2 15)) 11 a1.toNatClampNeg ((sA (sV M 0 0) 12 ((9 * a1) + (((sV M 0 0).1 9 a1.toNatClampNeg) - ((sV M 0 0).1 9 a1.toNatClampNeg) / 9 * 9)).toNatClampNeg ((sV M 0 0).2 15)).2 15)) 9 a1.toNatClampNeg (((sA (sA (sV M 0 0) 12 ((9 * a1) + (((sV M 0 0).1 9 a1.toNatClampNeg) - ((sV M 0 0).1 9 a1.toNatClampNeg) / 9 * 9)).toNatClampNeg ((sV M 0 0).2 15)) 11 a1.toNatClampNeg ((sA (sV M 0 0) 12 ((9 * a1) + (((sV M 0 0).1 9 a1.toNatClampNeg) - ((sV M 0 0).1 9 a1.toNatClampNeg) / 9 * 9)).toNatClampNeg ((sV M 0 0).2 15)).2 15)).1 9 a1.toNatClampNeg) + 1)) 25 1))
                                  else none
                                else none
                              else none
                            else none
                          else none
                      else none
                    else none
                else none
              else none
          else none
def j_Y_waiting_L4 (n : Nat) (M : MY) : Nat → Int32 → Int32 → Option Int32
  | 0, _, _ => none
  | f4 + 1, v1_4, v2_4 =>
    if 8 < v2_4 then
      some v1_4
    else
      if ¬ (v2_4 < 0 ∨ 9 ≤ v2_4.toNatClampNeg) then
        if (M.1 1 v2_4.toNatClampNeg) = 0 then
          j_Y_waiting_L4 n M f4 v1_4 (v2_4 + 1)
        else
          if ¬ (v2_4 < 0 ∨ 9 ≤ v2_4.toNatClampNeg) then
            if ¬ (v2_4 < 0 ∨ 9 ≤ v2_4.toNatClampNeg) then
              if (M.1 9 v2_4.toNatClampNeg) ≤ (M.1 10 v2_4.toNatClampNeg) then
                j_Y_waiting_L4 n M f4 v1_4 (v2_4 + 1)
              else
                if v1_4 = 0 then
                  j_Y_waiting_L4 n M f4 v2_4 (v2_4 + 1)
                else
                  if ¬ (v2_4 < 0 ∨ 9 ≤ v2_4.toNatClampNeg) then
                    if ¬ (v1_4 < 0 ∨ 9 ≤ v1_4.toNatClampNeg) then
                      if (M.1 4 v2_4.toNatClampNeg) ≤ (M.1 4 v1_4.toNatClampNeg) then
                        j_Y_waiting_L4 n M f4 v1_4 (v2_4 + 1)
                      else
                        j_Y_waiting_L4 n M f4 v2_4 (v2_4 + 1)
                    else none
                  else none
            else none
          else none
      else none
def j_Y_waiting (n : Nat) (M : MY) : Option Int32 :=
  j_Y_waiting_L4 n M n 0 1
def j_Y_begin (n : Nat) (M : MY) : Option MY :=
  (j_Y_waiting n M).bind fun r_2 =>
    if r_2 = 0 then
      some M
    else
      if (M.2 28) = 0 then
        if ¬ (r_2 < 0 ∨ 9 ≤ r_2.toNatClampNeg) then
          if ¬ (((8 * r_2) + ((sV (sV M 28 0) 26 r_2).1 13 r_2.toNatClampNeg)) < 0 ∨ 72 ≤ ((8 * r_2) + ((sV (sV M 28 0) 26 r_2).1 13 r_2.toNatClampNeg)).toNatClampNeg) then
            if ¬ (r_2 < 0 ∨ 9 ≤ r_2.toNatClampNeg) then
              if ¬ (r_2 < 0 ∨ 9 ≤ r_2.toNatClampNeg) then
                some (sA (sV (sV (sV M 28 0) 26 r_2) 27 ((sV (sV M 28 0) 26 r_2).1 6 ((8 * r_2) + ((sV (sV M 28 0) 26 r_2).1 13 r_2.toNatClampNeg)).toNatClampNeg)) 13 r_2.toNatClampNeg (((sV (sV (sV M 28 0) 26 r_2) 27 ((sV (sV M 28 0) 26 r_2).1 6 ((8 * r_2) + ((sV (sV M 28 0) 26 r_2).1 13 r_2.toNatClampNeg)).toNatClampNeg)).1 13 r_2.toNatClampNeg) + 1))
              else none
            else none
          else none
        else none
      else
        if (M.2 28) = r_2 then
          if ¬ (r_2 < 0 ∨ 9 ≤ r_2.toNatClampNeg) then
            if ¬ (((8 * r_2) + ((sV (sV M 28 0) 26 r_2).1 13 r_2.toNatClampNeg)) < 0 ∨ 72 ≤ ((8 * r_2) + ((sV (sV M 28 0) 26 r_2).1 13 r_2.toNatClampNeg)).toNatClampNeg) then
              if ¬ (r_2 < 0 ∨ 9 ≤ r_2.toNatClampNeg) then
                if ¬ (r_2 < 0 ∨ 9 ≤ r_2.toNatClampNeg) then
                  some (sA (sV (sV (sV M 28 0) 26 r_2) 27 ((sV (sV M 28 0) 26 r_2).1 6 ((8 * r_2) + ((sV (sV M 28 0) 26 r_2).1 13 r_2.toNatClampNeg)).toNatClampNeg)) 13 r_2.toNatClampNeg (((sV (sV (sV M 28 0) 26 r_2) 27 ((sV (sV M 28 0) 26 r_2).1 6 ((8 * r_2) + ((sV (sV M 28 0) 26 r_2).1 13 r_2.toNatClampNeg)).toNatClampNeg)).1 13 r_2.toNatClampNeg) + 1))
                else none
              else none
            else none
          else none
        else
          if ¬ ((M.2 28) < 0 ∨ 9 ≤ (M.2 28).toNatClampNeg) then
            if ¬ ((M.2 28) < 0 ∨ 9 ≤ (M.2 28).toNatClampNeg) then
              if ¬ (r_2 < 0 ∨ 9 ≤ r_2.toNatClampNeg) then
                if ¬ (((8 * r_2) + ((sV (sV (sA M 15 (M.2 28).toNatClampNeg ((M.1 15 (M.2 28).toNatClampNeg) + 1)) 28 0) 26 r_2).1 13 r_2.toNatClampNeg)) < 0 ∨ 72 ≤ ((8 * r_2) + ((sV (sV (sA M 15 (M.2 28).toNatClampNeg ((M.1 15 (M.2 28).toNatClampNeg) + 1)) 28 0) 26 r_2).1 13 r_2.toNatClampNeg)).toNatClampNeg) then
                  if ¬ (r_2 < 0 ∨ 9 ≤ r_2.toNatClampNeg) then
                    if ¬ (r_2 < 0 ∨ 9 ≤ r_2.toNatClampNeg) then
                      some (sA (sV (sV (sV (sA M 15 (M.2 28).toNatClampNeg ((M.1 15 (M.2 28).toNatClampNeg) + 1)) 28 0) 26 r_2) 27 ((sV (sV (sA M 15 (M.2 28).toNatClampNeg ((M.1 15 (M.2 28).toNatClampNeg) + 1)) 28 0) 26 r_2).1 6 ((8 * r_2) + ((sV (sV (sA M 15 (M.2 28).toNatClampNeg ((M.1 15 (M.2 28).toNatClampNeg) + 1)) 28 0) 26 r_2).1 13 r_2.toNatClampNeg)).toNatClampNeg)) 13 r_2.toNatClampNeg (((sV (sV (sV (sA M 15 (M.2 28).toNatClampNeg ((M.1 15 (M.2 28).toNatClampNeg) + 1)) 28 0) 26 r_2) 27 ((sV (sV (sA M 15 (M.2 28).toNatClampNeg ((M.1 15 (M.2 28).toNatClampNeg) + 1)) 28 0) 26 r_2).1 6 ((8 * r_2) + ((sV (sV (sA M 15 (M.2 28).toNatClampNeg ((M.1 15 (M.2 28).toNatClampNeg) + 1)) 28 0) 26 r_2).1 13 r_2.toNatClampNeg)).toNatClampNeg)).1 13 r_2.toNatClampNeg) + 1))
                    else none
                  else none
                else none
              else none
            else none
          else none
def j_Y_finish (n : Nat) (M : MY) (a1 : Int32) : Option MY :=
  if ¬ (a1 < 0 ∨ 9 ≤ a1.toNatClampNeg) then
    if ¬ (((9 * a1) + ((M.1 10 a1.toNatClampNeg) - (M.1 10 a1.toNatClampNeg) / 9 * 9)) < 0 ∨ 81 ≤ ((9 * a1) + ((M.1 10 a1.toNatClampNeg) - (M.1 10 a1.toNatClampNeg) / 9 * 9)).toNatClampNeg) then
      if ¬ (a1 < 0 ∨ 9 ≤ a1.toNatClampNeg) then
        if 200 ≤ (M.1 10 a1.toNatClampNeg) then
          if ¬ (a1 < 0 ∨ 9 ≤ a1.toNatClampNeg) then
            if ¬ (a1 < 0 ∨ 9 ≤ a1.toNatClampNeg) then
              if ¬ (a1 < 0 ∨ 9 ≤ a1.toNatClampNeg) then
                if ¬ (a1 < 0 ∨ 9 ≤ a1.toNatClampNeg) then
                  if ((M.2 15) - (M.1 12 ((9 * a1) + ((M.1 10 a1.toNatClampNeg) - (M.1 10 a1.toNatClampNeg) / 9 * 9)).toNatClampNeg)) ≤ ((sA (sA M 10 a1.toNatClampNeg ((M.1 10 a1.toNatClampNeg) + 1)) 13 a1.toNatClampNeg 0).1 14 a1.toNatClampNeg) then
                    if ¬ (a1 < 0 ∨ 9 ≤ a1.toNatClampNeg) then
                      if ((M.2 15) - (M.1 12 ((9 * a1) + ((M.1 10 a1.toNatClampNeg) - (M.1 10 a1.toNatClampNeg) / 9 * 9)).toNatClampNeg)) ≤ ((sA (sA M 10 a1.toNatClampNeg ((M.1 10 a1.toNatClampNeg) + 1)) 13 a1.toNatClampNeg 0).1 3 a1.toNatClampNeg) then
                        some (sA (sA M 10 a1.toNatClampNeg ((M.1 10 a1.toNatClampNeg) + 1)) 13 a1.toNatClampNeg 0)
                      else
                        if ¬ (a1 < 0 ∨ 9 ≤ a1.toNatClampNeg) then
                          if ¬ (a1 < 0 ∨ 9 ≤ a1.toNatClampNeg) then
                            some (sA (sA (sA M 10 a1.toNatClampNeg ((M.1 10 a1.toNatClampNeg) + 1)) 13 a1.toNatClampNeg 0) 16 a1.toNatClampNeg (((sA (sA M 10 a1.toNatClampNeg ((M.1 10 a1.toNatClampNeg) + 1)) 13 a1.toNatClampNeg 0).1 16 a1.toNatClampNeg) + 1))
                          else none
                        else none
                    else none
                  else
                    if ¬ (a1 < 0 ∨ 9 ≤ a1.toNatClampNeg) then
                      if ¬ (a1 < 0 ∨ 9 ≤ a1.toNatClampNeg) then
                        if ((M.2 15) - (M.1 12 ((9 * a1) + ((M.1 10 a1.toNatClampNeg) - (M.1 10 a1.toNatClampNeg) / 9 * 9)).toNatClampNeg)) ≤ ((sA (sA (sA M 10 a1.toNatClampNeg ((M.1 10 a1.toNatClampNeg) + 1)) 13 a1.toNatClampNeg 0) 14 a1.toNatClampNeg ((M.2 15) - (M.1 12 ((9 * a1) + ((M.1 10 a1.toNatClampNeg) - (M.1 10 a1.toNatClampNeg) / 9 * 9)).toNatClampNeg))).1 3 a1.toNatClampNeg) then
                          some (sA (sA (sA M 10 a1.toNatClampNeg ((M.1 10 a1.toNatClampNeg) + 1)) 13 a1.toNatClampNeg 0) 14 a1.toNatClampNeg ((M.2 15) - (M.1 12 ((9 * a1) + ((M.1 10 a1.toNatClampNeg) - (M.1 10 a1.toNatClampNeg) / 9 * 9)).toNatClampNeg)))
                        else
                          if ¬ (a1 < 0 ∨ 9 ≤ a1.toNatClampNeg) then
                            if ¬ (a1 < 0 ∨ 9 ≤ a1.toNatClampNeg) then
                              some (sA (sA (sA (sA M 10 a1.toNatClampNeg ((M.1 10 a1.toNatClampNeg) + 1)) 13 a1.toNatClampNeg 0) 14 a1.toNatClampNeg ((M.2 15) - (M.1 12 ((9 * a1) + ((M.1 10 a1.toNatClampNeg) - (M.1 10 a1.toNatClampNeg) / 9 * 9)).toNatClampNeg))) 16 a1.toNatClampNeg (((sA (sA (sA M 10 a1.toNatClampNeg ((M.1 10 a1.toNatClampNeg) + 1)) 13 a1.toNatClampNeg 0) 14 a1.toNatClampNeg ((M.2 15) - (M.1 12 ((9 * a1) + ((M.1 10 a1.toNatClampNeg) - (M.1 10 a1.toNatClampNeg) / 9 * 9)).toNatClampNeg))).1 16 a1.toNatClampNeg) + 1))
                            else none
                          else none
                      else none
                    else none
                else none
              else none
            else none
          else none
        else
          if ¬ (a1 < 0 ∨ 9 ≤ a1.toNatClampNeg) then
            if ¬ (((200 * a1) + (M.1 10 a1.toNatClampNeg)) < 0 ∨ 1800 ≤ ((200 * a1) + (M.1 10 a1.toNatClampNeg)).toNatClampNeg) then
              if ¬ (a1 < 0 ∨ 9 ≤ a1.toNatClampNeg) then
                if ¬ (a1 < 0 ∨ 9 ≤ a1.toNatClampNeg) then
                  if ¬ (a1 < 0 ∨ 9 ≤ a1.toNatClampNeg) then
                    if ¬ (a1 < 0 ∨ 9 ≤ a1.toNatClampNeg) then
                      if ((M.2 15) - (M.1 12 ((9 * a1) + ((M.1 10 a1.toNatClampNeg) - (M.1 10 a1.toNatClampNeg) / 9 * 9)).toNatClampNeg)) ≤ ((sA (sA (sA M 17 ((200 * a1) + (M.1 10 a1.toNatClampNeg)).toNatClampNeg ((M.2 15) - (M.1 12 ((9 * a1) + ((M.1 10 a1.toNatClampNeg) - (M.1 10 a1.toNatClampNeg) / 9 * 9)).toNatClampNeg))) 10 a1.toNatClampNeg (((sA M 17 ((200 * a1) + (M.1 10 a1.toNatClampNeg)).toNatClampNeg ((M.2 15) - (M.1 12 ((9 * a1) + ((M.1 10 a1.toNatClampNeg) - (M.1 10 a1.toNatClampNeg) / 9 * 9)).toNatClampNeg))).1 10 a1.toNatClampNeg) + 1)) 13 a1.toNatClampNeg 0).1 14 a1.toNatClampNeg) then
                        if ¬ (a1 < 0 ∨ 9 ≤ a1.toNatClampNeg) then
                          if ((M.2 15) - (M.1 12 ((9 * a1) + ((M.1 10 a1.toNatClampNeg) - (M.1 10 a1.toNatClampNeg) / 9 * 9)).toNatClampNeg)) ≤ ((sA (sA (sA M 17 ((200 * a1) + (M.1 10 a1.toNatClampNeg)).toNatClampNeg ((M.2 15) - (M.1 12 ((9 * a1) + ((M.1 10 a1.toNatClampNeg) - (M.1 10 a1.toNatClampNeg) / 9 * 9)).toNatClampNeg))) 10 a1.toNatClampNeg (((sA M 17 ((200 * a1) + (M.1 10 a1.toNatClampNeg)).toNatClampNeg ((M.2 15) - (M.1 12 ((9 * a1) + ((M.1 10 a1.toNatClampNeg) - (M.1 10 a1.toNatClampNeg) / 9 * 9)).toNatClampNeg))).1 10 a1.toNatClampNeg) + 1)) 13 a1.toNatClampNeg 0).1 3 a1.toNatClampNeg) then
                            some (sA (sA (sA M 17 ((200 * a1) + (M.1 10 a1.toNatClampNeg)).toNatClampNeg ((M.2 15) - (M.1 12 ((9 * a1) + ((M.1 10 a1.toNatClampNeg) - (M.1 10 a1.toNatClampNeg) / 9 * 9)).toNatClampNeg))) 10 a1.toNatClampNeg (((sA M 17 ((200 * a1) + (M.1 10 a1.toNatClampNeg)).toNatClampNeg ((M.2 15) - (M.1 12 ((9 * a1) + ((M.1 10 a1.toNatClampNeg) - (M.1 10 a1.toNatClampNeg) / 9 * 9)).toNatClampNeg))).1 10 a1.toNatClampNeg) + 1)) 13 a1.toNatClampNeg 0)
                          else
                            if ¬ (a1 < 0 ∨ 9 ≤ a1.toNatClampNeg) then
                              if ¬ (a1 < 0 ∨ 9 ≤ a1.toNatClampNeg) then
                                some (sA (sA (sA (sA M 17 ((200 * a1) + (M.1 10 a1.toNatClampNeg)).toNatClampNeg ((M.2 15) - (M.1 12 ((9 * a1) + ((M.1 10 a1.toNatClampNeg) - (M.1 10 a1.toNatClampNeg) / 9 * 9)).toNatClampNeg))) 10 a1.toNatClampNeg (((sA M 17 ((200 * a1) + (M.1 10 a1.toNatClampNeg)).toNatClampNeg ((M.2 15) - (M.1 12 ((9 * a1) + ((M.1 10 a1.toNatClampNeg) - (M.1 10 a1.toNatClampNeg) / 9 * 9)).toNatClampNeg))).1 10 a1.toNatClampNeg) + 1)) 13 a1.toNatClampNeg 0) 16 a1.toNatClampNeg (((sA (sA (sA M 17 ((200 * a1) + (M.1 10 a1.toNatClampNeg)).toNatClampNeg ((M.2 15) - (M.1 12 ((9 * a1) + ((M.1 10 a1.toNatClampNeg) - (M.1 10 a1.toNatClampNeg) / 9 * 9)).toNatClampNeg))) 10 a1.toNatClampNeg (((sA M 17 ((200 * a1) + (M.1 10 a1.toNatClampNeg)).toNatClampNeg ((M.2 15) - (M.1 12 ((9 * a1) + ((M.1 10 a1.toNatClampNeg) - (M.1 10 a1.toNatClampNeg) / 9 * 9)).toNatClampNeg))).1 10 a1.toNatClampNeg) + 1)) 13 a1.toNatClampNeg 0).1 16 a1.toNatClampNeg) + 1))
                              else none
                            else none
                        else none
                      else
                        if ¬ (a1 < 0 ∨ 9 ≤ a1.toNatClampNeg) then
                          if ¬ (a1 < 0 ∨ 9 ≤ a1.toNatClampNeg) then
                            if ((M.2 15) - (M.1 12 ((9 * a1) + ((M.1 10 a1.toNatClampNeg) - (M.1 10 a1.toNatClampNeg) / 9 * 9)).toNatClampNeg)) ≤ ((sA (sA (sA (sA M 17 ((200 * a1) + (M.1 10 a1.toNatClampNeg)).toNatClampNeg ((M.2 15) - (M.1 12 ((9 * a1) + ((M.1 10 a1.toNatClampNeg) - (M.1 10 a1.toNatClampNeg) / 9 * 9)).toNatClampNeg))) 10 a1.toNatClampNeg (((sA M 17 ((200 * a1) + (M.1 10 a1.toNatClampNeg)).toNatClampNeg ((M.2 15) - (M.1 12 ((9 * a1) + ((M.1 10 a1.toNatClampNeg) - (M.1 10 a1.toNatClampNeg) / 9 * 9)).toNatClampNeg))).1 10 a1.toNatClampNeg) + 1)) 13 a1.toNatClampNeg 0) 14 a1.toNatClampNeg ((M.2 15) - (M.1 12 ((9 * a1) + ((M.1 10 a1.toNatClampNeg) - (M.1 10 a1.toNatClampNeg) / 9 * 9)).toNatClampNeg))).1 3 a1.toNatClampNeg) then
                              some (sA (sA (sA (sA M 17 ((200 * a1) + (M.1 10 a1.toNatClampNeg)).toNatClampNeg ((M.2 15) - (M.1 12 ((9 * a1) + ((M.1 10 a1.toNatClampNeg) - (M.1 10 a1.toNatClampNeg) / 9 * 9)).toNatClampNeg))) 10 a1.toNatClampNeg (((sA M 17 ((200 * a1) + (M.1 10 a1.toNatClampNeg)).toNatClampNeg ((M.2 15) - (M.1 12 ((9 * a1) + ((M.1 10 a1.toNatClampNeg) - (M.1 10 a1.toNatClampNeg) / 9 * 9)).toNatClampNeg))).1 10 a1.toNatClampNeg) + 1)) 13 a1.toNatClampNeg 0) 14 a1.toNatClampNeg ((M.2 15) - (M.1 12 ((9 * a1) + ((M.1 10 a1.toNatClampNeg) - (M.1 10 a1.toNatClampNeg) / 9 * 9)).toNatClampNeg)))
                            else
                              if ¬ (a1 < 0 ∨ 9 ≤ a1.toNatClampNeg) then
                                if ¬ (a1 < 0 ∨ 9 ≤ a1.toNatClampNeg) then
                                  some (sA (sA (sA (sA (sA M 17 ((200 * a1) + (M.1 10 a1.toNatClampNeg)).toNatClampNeg ((M.2 15) - (M.1 12 ((9 * a1) + ((M.1 10 a1.toNatClampNeg) - (M.1 10 a1.toNatClampNeg) / 9 * 9)).toNatClampNeg))) 10 a1.toNatClampNeg (((sA M 17 ((200 * a1) + (M.1 10 a1.toNatClampNeg)).toNatClampNeg ((M.2 15) - (M.1 12 ((9 * a1) + ((M.1 10 a1.toNatClampNeg) - (M.1 10 a1.toNatClampNeg) / 9 * 9)).toNatClampNeg))).1 10 a1.toNatClampNeg) + 1)) 13 a1.toNatClampNeg 0) 14 a1.toNatClampNeg ((M.2 15) - (M.1 12 ((9 * a1) + ((M.1 10 a1.toNatClampNeg) - (M.1 10 a1.toNatClampNeg) / 9 * 9)).toNatClampNeg))) 16 a1.toNatClampNeg (((sA (sA (sA (sA M 17 ((200 * a1) + (M.1 10 a1.toNatClampNeg)).toNatClampNeg ((M.2 15) - (M.1 12 ((9 * a1) + ((M.1 10 a1.toNatClampNeg) - (M.1 10 a1.toNatClampNeg) / 9 * 9)).toNatClampNeg))) 10 a1.toNatClampNeg (((sA M 17 ((200 * a1) + (M.1 10 a1.toNatClampNeg)).toNatClampNeg ((M.2 15) - (M.1 12 ((9 * a1) + ((M.1 10 a1.toNatClampNeg) - (M.1 10 a1.toNatClampNeg) / 9 * 9)).toNatClampNeg))).1 10 a1.toNatClampNeg) + 1)) 13 a1.toNatClampNeg 0) 14 a1.toNatClampNeg ((M.2 15) - (M.1 12 ((9 * a1) + ((M.1 10 a1.toNatClampNeg) - (M.1 10 a1.toNatClampNeg) / 9 * 9)).toNatClampNeg))).1 16 a1.toNatClampNeg) + 1))
                                else none
                              else none
                          else none
                        else none
                    else none
                  else none
                else none
              else none
            else none
          else none
      else none
    else none
  else none
def j_Y_step (n : Nat) (M : MY) : Option (Int32 × MY) :=
  if (M.2 26) = 0 then
    (j_Y_begin n M).bind fun M_10 =>
      if ((sV M_10 15 ((M_10.2 15) + 1)).2 26) = 0 then
        some (0, (sV M_10 15 ((M_10.2 15) + 1)))
      else
        if ((sV (sV M_10 15 ((M_10.2 15) + 1)) 27 (((sV M_10 15 ((M_10.2 15) + 1)).2 27) - 1)).2 27) ≤ 0 then
          if ¬ (((sV M_10 15 ((M_10.2 15) + 1)).2 26) < 0 ∨ 9 ≤ ((sV M_10 15 ((M_10.2 15) + 1)).2 26).toNatClampNeg) then
            if ¬ (((sV M_10 15 ((M_10.2 15) + 1)).2 26) < 0 ∨ 9 ≤ ((sV M_10 15 ((M_10.2 15) + 1)).2 26).toNatClampNeg) then
              if ((sV (sV (sV M_10 15 ((M_10.2 15) + 1)) 27 (((sV M_10 15 ((M_10.2 15) + 1)).2 27) - 1)) 26 0).1 13 ((sV M_10 15 ((M_10.2 15) + 1)).2 26).toNatClampNeg) = ((sV (sV (sV M_10 15 ((M_10.2 15) + 1)) 27 (((sV M_10 15 ((M_10.2 15) + 1)).2 27) - 1)) 26 0).1 5 ((sV M_10 15 ((M_10.2 15) + 1)).2 26).toNatClampNeg) then
                (j_Y_finish n (sV (sV (sV M_10 15 ((M_10.2 15) + 1)) 27 (((sV M_10 15 ((M_10.2 15) + 1)).2 27) - 1)) 26 0) ((sV M_10 15 ((M_10.2 15) + 1)).2 26)).bind fun M_17 =>
                  some (((sV M_10 15 ((M_10.2 15) + 1)).2 26), M_17)
              else
                some (((sV M_10 15 ((M_10.2 15) + 1)).2 26), (sV (sV (sV (sV M_10 15 ((M_10.2 15) + 1)) 27 (((sV M_10 15 ((M_10.2 15) + 1)).2 27) - 1)) 26 0) 28 ((sV M_10 15 ((M_10.2 15) + 1)).2 26)))
            else none
          else none
        else
          some (((sV M_10 15 ((M_10.2 15) + 1)).2 26), (sV (sV M_10 15 ((M_10.2 15) + 1)) 27 (((sV M_10 15 ((M_10.2 15) + 1)).2 27) - 1)))
  else
    if ((sV M 15 ((M.2 15) + 1)).2 26) = 0 then
      some (0, (sV M 15 ((M.2 15) + 1)))
    else
      if ((sV (sV M 15 ((M.2 15) + 1)) 27 (((sV M 15 ((M.2 15) + 1)).2 27) - 1)).2 27) ≤ 0 then
        if ¬ (((sV M 15 ((M.2 15) + 1)).2 26) < 0 ∨ 9 ≤ ((sV M 15 ((M.2 15) + 1)).2 26).toNatClampNeg) then
          if ¬ (((sV M 15 ((M.2 15) + 1)).2 26) < 0 ∨ 9 ≤ ((sV M 15 ((M.2 15) + 1)).2 26).toNatClampNeg) then
            if ((sV (sV (sV M 15 ((M.2 15) + 1)) 27 (((sV M 15 ((M.2 15) + 1)).2 27) - 1)) 26 0).1 13 ((sV M 15 ((M.2 15) + 1)).2 26).toNatClampNeg) = ((sV (sV (sV M 15 ((M.2 15) + 1)) 27 (((sV M 15 ((M.2 15) + 1)).2 27) - 1)) 26 0).1 5 ((sV M 15 ((M.2 15) + 1)).2 26).toNatClampNeg) then
              (j_Y_finish n (sV (sV (sV M 15 ((M.2 15) + 1)) 27 (((sV M 15 ((M.2 15) + 1)).2 27) - 1)) 26 0) ((sV M 15 ((M.2 15) + 1)).2 26)).bind fun M_8 =>
                some (((sV M 15 ((M.2 15) + 1)).2 26), M_8)
            else
              some (((sV M 15 ((M.2 15) + 1)).2 26), (sV (sV (sV (sV M 15 ((M.2 15) + 1)) 27 (((sV M 15 ((M.2 15) + 1)).2 27) - 1)) 26 0) 28 ((sV M 15 ((M.2 15) + 1)).2 26)))
          else none
        else none
      else
        some (((sV M 15 ((M.2 15) + 1)).2 26), (sV (sV M 15 ((M.2 15) + 1)) 27 (((sV M 15 ((M.2 15) + 1)).2 27) - 1)))
def j_Y_tick_L27 (n : Nat) (a1 : Int32) : Nat → Int32 → Int32 → MY → Option (Int32 × MY)
  | 0, _, _, _ => none
  | f27 + 1, v2_27, v3_27, M27 =>
    if a1 ≤ v3_27 then
      some (v2_27, M27)
    else
      (j_Y_step n M27).bind fun q_7 =>
        j_Y_tick_L27 n a1 f27 q_7.1 (v3_27 + 1) q_7.2
def j_Y_tick (n : Nat) (M : MY) (a1 : Int32) : Option (Int32 × MY) :=
  if a1 < 1 then
    (j_Y_raise n M 1).bind fun q_3 =>
      some (q_3.1, q_3.2)
  else
    if a1 ≤ 2000 then
      j_Y_tick_L27 n a1 n 0 0 (sV M 0 0)
    else
      (j_Y_raise n M 1).bind fun q_9 =>
        some (q_9.1, q_9.2)
def j_Y_now (n : Nat) (M : MY) : Option (Int32 × MY) :=
  some (((sV M 0 0).2 15), (sV M 0 0))
def j_Y_ended (n : Nat) (M : MY) (a1 : Int32) (a2 : Int32) : Option (Int32 × MY) :=
  (j_Y_isTask n (sV M 0 0) a1).bind fun r_2 =>
    if r_2 = 0 then
      some ((-1), (sV M 0 0))
    else
      if a2 < 0 then
        some ((-1), (sV M 0 0))
      else
        if ¬ (a1 < 0 ∨ 9 ≤ a1.toNatClampNeg) then
          if ((sV M 0 0).1 10 a1.toNatClampNeg) ≤ a2 then
            some ((-1), (sV M 0 0))
          else
            if a2 < 200 then
              if ¬ (((200 * a1) + a2) < 0 ∨ 1800 ≤ ((200 * a1) + a2).toNatClampNeg) then
                some (((sV M 0 0).1 17 ((200 * a1) + a2).toNatClampNeg), (sV M 0 0))
              else none
            else
              some ((-1), (sV M 0 0))
        else none
def j_Y_seen (n : Nat) (M : MY) (a1 : Int32) (a2 : Int32) : Option (Int32 × MY) :=
  (j_Y_isTask n (sV M 0 0) a1).bind fun r_2 =>
    if r_2 = 0 then
      some ((-1), (sV M 0 0))
    else
      if a2 = 0 then
        if ¬ (a1 < 0 ∨ 9 ≤ a1.toNatClampNeg) then
          some (((sV M 0 0).1 9 a1.toNatClampNeg), (sV M 0 0))
        else none
      else
      if a2 = 1 then
        if ¬ (a1 < 0 ∨ 9 ≤ a1.toNatClampNeg) then
          some (((sV M 0 0).1 10 a1.toNatClampNeg), (sV M 0 0))
        else none
      else
      if a2 = 2 then
        if ¬ (a1 < 0 ∨ 9 ≤ a1.toNatClampNeg) then
          some (((sV M 0 0).1 14 a1.toNatClampNeg), (sV M 0 0))
        else none
      else
      if a2 = 3 then
        if ¬ (a1 < 0 ∨ 9 ≤ a1.toNatClampNeg) then
          some (((sV M 0 0).1 15 a1.toNatClampNeg), (sV M 0 0))
        else none
      else
      if a2 = 4 then
        if ¬ (a1 < 0 ∨ 9 ≤ a1.toNatClampNeg) then
          some (((sV M 0 0).1 16 a1.toNatClampNeg), (sV M 0 0))
        else none
      else
      if a2 = 5 then
        if ((sV M 0 0).2 26) = a1 then
          some (((sV M 0 0).2 27), (sV M 0 0))
        else
          some (0, (sV M 0 0))
      else
        some ((-1), (sV M 0 0))
