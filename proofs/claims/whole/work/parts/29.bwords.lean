/-! words of the constructors -/
theorem xw_429 : Cond.methodLink R_J 3 Lib.objectInit ∈ wB := wB_in (by decide +kernel) rfl
theorem xw_430 : Cond.instanceMethod Lib.objectInit ∈ wB := wB_in (by decide +kernel) rfl
theorem xw_431 : Cond.code Lib.objectInit ⟨#[0xb1]⟩ 1 none ∈ wB := wB_in (by decide +kernel) rfl
theorem xw_432 : Cond.arrayClass .int ∈ wB := wB_in (by decide +kernel) rfl
theorem xw_433 : Cond.methodLink R_T 3 Lib.objectInit ∈ wB := wB_in (by decide +kernel) rfl
theorem xw_434 : Cond.classLink R_T 9 R_J ∈ wB := wB_in (by decide +kernel) rfl
theorem xw_435 : Cond.instantiable R_J 8 ∈ wB := wB_in (by decide +kernel) rfl
theorem xw_436 : Cond.code y_J_init b_J_init 1 none ∈ wB := wB_in (by decide +kernel) rfl
theorem xw_437 : Cond.instanceMethod y_J_init ∈ wB := wB_in (by decide +kernel) rfl
theorem xw_438 : Cond.fieldLink R_T 12 (T_T 1).1 (T_T 1).2.1 (T_T 1).2.2.1 ∈ wB := wB_in (by decide +kernel) rfl
theorem xw_439 : Cond.fieldLink R_T 29 (T_T 0).1 (T_T 0).2.1 (T_T 0).2.2.1 ∈ wB := wB_in (by decide +kernel) rfl
theorem xw_440 : Cond.fieldLink R_T 32 (T_T 8).1 (T_T 8).2.1 (T_T 8).2.2.1 ∈ wB := wB_in (by decide +kernel) rfl
theorem xw_441 : Cond.methodLink R_A 3 Lib.objectInit ∈ wB := wB_in (by decide +kernel) rfl
theorem xw_442 : Cond.methodLink R_K 1 Lib.objectInit ∈ wB := wB_in (by decide +kernel) rfl
theorem xw_443 : Cond.methodLink R_Y 1 Lib.objectInit ∈ wB := wB_in (by decide +kernel) rfl
theorem xw_444 : Cond.arrayClass .boolean ∈ wB := wB_in (by decide +kernel) rfl
