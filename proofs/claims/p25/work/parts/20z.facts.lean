/-! own: facts, long ones -/
set_option maxRecDepth 100000 in
theorem code_L_does : Cond.code (mY M_L_does) (mC M_L_does) (mN M_L_does) (mR M_L_does) ∈ tables_1 := List.mem_append_right _ (List.mem_append_right _ (List.mem_append_left _ (List.mem_of_getElem? (i := 128) rfl)))
theorem ok_L_does (M : MT) (i : Nat) : CallOk M M_L_does i 6 := ⟨rfl, by decide, List.mem_append_right _ code_L_does, List.mem_append_right _ (List.mem_of_getElem? (i := 0) (by decide +kernel)), by decide +kernel, by decide +kernel⟩
set_option maxRecDepth 100000 in
theorem code_L_all : Cond.code (mY M_L_all) (mC M_L_all) (mN M_L_all) (mR M_L_all) ∈ tables_1 := List.mem_append_left _ (List.mem_of_getElem? (i := 190) rfl)
theorem ok_L_all (M : MT) (i : Nat) : CallOk M M_L_all i 2 := ⟨rfl, by decide, List.mem_append_right _ code_L_all, List.mem_append_right _ (List.mem_of_getElem? (i := 0) (by decide +kernel)), by decide +kernel, by decide +kernel⟩
set_option maxRecDepth 100000 in
theorem code_L_land : Cond.code (mY M_L_land) (mC M_L_land) (mN M_L_land) (mR M_L_land) ∈ tables_1 := List.mem_append_right _ (List.mem_append_right _ (List.mem_append_left _ (List.mem_of_getElem? (i := 118) rfl)))
theorem ok_L_land (M : MT) (i : Nat) : CallOk M M_L_land i 5 := ⟨rfl, by decide, List.mem_append_right _ code_L_land, List.mem_append_right _ (List.mem_of_getElem? (i := 0) (by decide +kernel)), by decide +kernel, by decide +kernel⟩
set_option maxRecDepth 100000 in
theorem code_L_runs : Cond.code (mY M_L_runs) (mC M_L_runs) (mN M_L_runs) (mR M_L_runs) ∈ tables_1 := List.mem_append_right _ (List.mem_append_right _ (List.mem_append_right _ (List.mem_append_left _ (List.mem_of_getElem? (i := 221) rfl))))
theorem ok_L_runs (M : MT) (i : Nat) : CallOk M M_L_runs i 5 := ⟨rfl, by decide, List.mem_append_right _ code_L_runs, List.mem_append_right _ (List.mem_of_getElem? (i := 0) (by decide +kernel)), by decide +kernel, by decide +kernel⟩
set_option maxRecDepth 100000 in
theorem code_L_ways : Cond.code (mY M_L_ways) (mC M_L_ways) (mN M_L_ways) (mR M_L_ways) ∈ tables_1 := List.mem_append_right _ (List.mem_append_right _ (List.mem_append_right _ (List.mem_append_left _ (List.mem_of_getElem? (i := 224) rfl))))
theorem ok_L_ways (M : MT) (i : Nat) : CallOk M M_L_ways i 5 := ⟨rfl, by decide, List.mem_append_right _ code_L_ways, List.mem_append_right _ (List.mem_of_getElem? (i := 0) (by decide +kernel)), by decide +kernel, by decide +kernel⟩
set_option maxRecDepth 100000 in
theorem code_L_bookings : Cond.code (mY M_L_bookings) (mC M_L_bookings) (mN M_L_bookings) (mR M_L_bookings) ∈ tables_1 := List.mem_append_right _ (List.mem_append_right _ (List.mem_append_right _ (List.mem_append_right _ (List.mem_of_getElem? (i := 7) rfl))))
theorem ok_L_bookings (M : MT) (i : Nat) : CallOk M M_L_bookings i 5 := ⟨rfl, by decide, List.mem_append_right _ code_L_bookings, List.mem_append_right _ (List.mem_of_getElem? (i := 0) (by decide +kernel)), by decide +kernel, by decide +kernel⟩
set_option maxRecDepth 100000 in
theorem code_L_refused : Cond.code (mY M_L_refused) (mC M_L_refused) (mN M_L_refused) (mR M_L_refused) ∈ tables_1 := List.mem_append_right _ (List.mem_append_right _ (List.mem_append_right _ (List.mem_append_right _ (List.mem_of_getElem? (i := 10) rfl))))
theorem ok_L_refused (M : MT) (i : Nat) : CallOk M M_L_refused i 2 := ⟨rfl, by decide, List.mem_append_right _ code_L_refused, List.mem_append_right _ (List.mem_of_getElem? (i := 0) (by decide +kernel)), by decide +kernel, by decide +kernel⟩
