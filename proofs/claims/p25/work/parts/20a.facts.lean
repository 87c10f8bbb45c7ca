/-! own: facts, piece 0 -/
/-! ===== own: the program's methods, and the words of the tables that their calls and fields need (by program) ===== -/
theorem cls_1 : ClsOk 1 RX0 TX0 4 tyX0 := by
  refine ⟨rfl, by decide +kernel, tyX0_ok, nmX0, rfl, rfl, ?_⟩
  intro k hk
  match k, hk with
  | 0, _ => exact Or.inr ⟨3, rfl, by decide, by decide, rfl, fun r => by cases r <;> exact ⟨rfl, rfl⟩⟩
  | 1, _ => exact Or.inl ⟨rfl, rfl⟩
  | 2, _ => exact Or.inl ⟨rfl, rfl⟩
  | 3, _ => exact Or.inl ⟨rfl, rfl⟩
  | k + 4, hk => exact absurd hk (by omega)
theorem cls_2 : ClsOk 2 RX1 TX1 4 tyX1 := by
  refine ⟨rfl, by decide +kernel, tyX1_ok, nmX1, rfl, rfl, ?_⟩
  intro k hk
  match k, hk with
  | 0, _ => exact Or.inr ⟨24, rfl, by decide, by decide, rfl, fun r => by cases r <;> exact ⟨rfl, rfl⟩⟩
  | 1, _ => exact Or.inr ⟨25, rfl, by decide, by decide, rfl, fun r => by cases r <;> exact ⟨rfl, rfl⟩⟩
  | 2, _ => exact Or.inr ⟨26, rfl, by decide, by decide, rfl, fun r => by cases r <;> exact ⟨rfl, rfl⟩⟩
  | 3, _ => exact Or.inr ⟨27, rfl, by decide, by decide, rfl, fun r => by cases r <;> exact ⟨rfl, rfl⟩⟩
  | k + 4, hk => exact absurd hk (by omega)
theorem cls_3 : ClsOk 3 RX2 TX2 5 tyX2 := by
  refine ⟨rfl, by decide +kernel, tyX2_ok, nmX2, rfl, rfl, ?_⟩
  intro k hk
  match k, hk with
  | 0, _ => exact Or.inl ⟨rfl, rfl⟩
  | 1, _ => exact Or.inr ⟨5, rfl, by decide, by decide, rfl, fun r => by cases r <;> exact ⟨rfl, rfl⟩⟩
  | 2, _ => exact Or.inl ⟨rfl, rfl⟩
  | 3, _ => exact Or.inl ⟨rfl, rfl⟩
  | 4, _ => exact Or.inl ⟨rfl, rfl⟩
  | k + 5, hk => exact absurd hk (by omega)
theorem cls_4 : ClsOk 4 RX3 TX3 4 tyX3 := by
  refine ⟨rfl, by decide +kernel, tyX3_ok, nmX3, rfl, rfl, ?_⟩
  intro k hk
  match k, hk with
  | 0, _ => exact Or.inr ⟨22, rfl, by decide, by decide, rfl, fun r => by cases r <;> exact ⟨rfl, rfl⟩⟩
  | 1, _ => exact Or.inr ⟨23, rfl, by decide, by decide, rfl, fun r => by cases r <;> exact ⟨rfl, rfl⟩⟩
  | 2, _ => exact Or.inr ⟨11, rfl, by decide, by decide, rfl, fun r => by cases r <;> exact ⟨rfl, rfl⟩⟩
  | 3, _ => exact Or.inl ⟨rfl, rfl⟩
  | k + 4, hk => exact absurd hk (by omega)
theorem cls_5 : ClsOk 5 RX4 TX4 6 tyX4 := by
  refine ⟨rfl, by decide +kernel, tyX4_ok, nmX4, rfl, rfl, ?_⟩
  intro k hk
  match k, hk with
  | 0, _ => exact Or.inr ⟨8, rfl, by decide, by decide, rfl, fun r => by cases r <;> exact ⟨rfl, rfl⟩⟩
  | 1, _ => exact Or.inl ⟨rfl, rfl⟩
  | 2, _ => exact Or.inl ⟨rfl, rfl⟩
  | 3, _ => exact Or.inl ⟨rfl, rfl⟩
  | 4, _ => exact Or.inr ⟨5, rfl, by decide, by decide, rfl, fun r => by cases r <;> exact ⟨rfl, rfl⟩⟩
  | 5, _ => exact Or.inl ⟨rfl, rfl⟩
  | k + 6, hk => exact absurd hk (by omega)
theorem cls_6 : ClsOk 6 RX5 TX5 8 tyX5 := by
  refine ⟨rfl, by decide +kernel, tyX5_ok, nmX5, rfl, rfl, ?_⟩
  intro k hk
  match k, hk with
  | 0, _ => exact Or.inr ⟨4, rfl, by decide, by decide, rfl, fun r => by cases r <;> exact ⟨rfl, rfl⟩⟩
  | 1, _ => exact Or.inr ⟨20, rfl, by decide, by decide, rfl, fun r => by cases r <;> exact ⟨rfl, rfl⟩⟩
  | 2, _ => exact Or.inr ⟨21, rfl, by decide, by decide, rfl, fun r => by cases r <;> exact ⟨rfl, rfl⟩⟩
  | 3, _ => exact Or.inl ⟨rfl, rfl⟩
  | 4, _ => exact Or.inl ⟨rfl, rfl⟩
  | 5, _ => exact Or.inl ⟨rfl, rfl⟩
  | 6, _ => exact Or.inl ⟨rfl, rfl⟩
  | 7, _ => exact Or.inl ⟨rfl, rfl⟩
  | k + 8, hk => exact absurd hk (by omega)
theorem cls_7 : ClsOk 7 RX6 TX6 5 tyX6 := by
  refine ⟨rfl, by decide +kernel, tyX6_ok, nmX6, rfl, rfl, ?_⟩
  intro k hk
  match k, hk with
  | 0, _ => exact Or.inr ⟨4, rfl, by decide, by decide, rfl, fun r => by cases r <;> exact ⟨rfl, rfl⟩⟩
  | 1, _ => exact Or.inl ⟨rfl, rfl⟩
  | 2, _ => exact Or.inl ⟨rfl, rfl⟩
  | 3, _ => exact Or.inl ⟨rfl, rfl⟩
  | 4, _ => exact Or.inl ⟨rfl, rfl⟩
  | k + 5, hk => exact absurd hk (by omega)
theorem cls_8 : ClsOk 8 RX7 TX7 12 tyX7 := by
  refine ⟨rfl, by decide +kernel, tyX7_ok, nmX7, rfl, rfl, ?_⟩
  intro k hk
  match k, hk with
  | 0, _ => exact Or.inl ⟨rfl, rfl⟩
  | 1, _ => exact Or.inl ⟨rfl, rfl⟩
  | 2, _ => exact Or.inl ⟨rfl, rfl⟩
  | 3, _ => exact Or.inl ⟨rfl, rfl⟩
  | 4, _ => exact Or.inr ⟨28, rfl, by decide, by decide, rfl, fun r => by cases r <;> exact ⟨rfl, rfl⟩⟩
  | 5, _ => exact Or.inr ⟨29, rfl, by decide, by decide, rfl, fun r => by cases r <;> exact ⟨rfl, rfl⟩⟩
  | 6, _ => exact Or.inr ⟨30, rfl, by decide, by decide, rfl, fun r => by cases r <;> exact ⟨rfl, rfl⟩⟩
  | 7, _ => exact Or.inr ⟨31, rfl, by decide, by decide, rfl, fun r => by cases r <;> exact ⟨rfl, rfl⟩⟩
  | 8, _ => exact Or.inr ⟨32, rfl, by decide, by decide, rfl, fun r => by cases r <;> exact ⟨rfl, rfl⟩⟩
  | 9, _ => exact Or.inr ⟨33, rfl, by decide, by decide, rfl, fun r => by cases r <;> exact ⟨rfl, rfl⟩⟩
  | 10, _ => exact Or.inl ⟨rfl, rfl⟩
  | 11, _ => exact Or.inl ⟨rfl, rfl⟩
  | k + 12, hk => exact absurd hk (by omega)
theorem cls_9 : ClsOk 9 RX8 TX8 6 tyX8 := by
  refine ⟨rfl, by decide +kernel, tyX8_ok, nmX8, rfl, rfl, ?_⟩
  intro k hk
  match k, hk with
  | 0, _ => exact Or.inr ⟨4, rfl, by decide, by decide, rfl, fun r => by cases r <;> exact ⟨rfl, rfl⟩⟩
  | 1, _ => exact Or.inr ⟨6, rfl, by decide, by decide, rfl, fun r => by cases r <;> exact ⟨rfl, rfl⟩⟩
  | 2, _ => exact Or.inr ⟨7, rfl, by decide, by decide, rfl, fun r => by cases r <;> exact ⟨rfl, rfl⟩⟩
  | 3, _ => exact Or.inr ⟨2, rfl, by decide, by decide, rfl, fun r => by cases r <;> exact ⟨rfl, rfl⟩⟩
  | 4, _ => exact Or.inr ⟨12, rfl, by decide, by decide, rfl, fun r => by cases r <;> exact ⟨rfl, rfl⟩⟩
  | 5, _ => exact Or.inl ⟨rfl, rfl⟩
  | k + 6, hk => exact absurd hk (by omega)
def M_X0_init : MT := (RX0, yX0_init, cX0_init, 4, none, [], 0)
def M_X0_isOpen : MT := (RX0, yX0_isOpen, cX0_isOpen, 1, (some .boolean), [], 0)
def M_X7_isThere : MT := (RX7, yX7_isThere, cX7_isThere, 2, (some .boolean), [], 0)
def M_X8_at : MT := (RX8, yX8_at, cX8_at, 2, (some .int), [], 0)
def M_X7_goes : MT := (RX7, yX7_goes, cX7_goes, 2, (some .boolean), [], 0)
def M_X7_leaves : MT := (RX7, yX7_leaves, cX7_leaves, 3, (some .int), [], 0)
def M_X4_departs : MT := (RX4, yX4_departs, cX4_departs, 1, (some .int), [], 0)
def M_X7_reaches : MT := (RX7, yX7_reaches, cX7_reaches, 3, (some .int), [], 0)
def M_X4_arrives : MT := (RX4, yX4_arrives, cX4_arrives, 1, (some .int), [], 0)
def M_X2_isBroken : MT := (RX2, yX2_isBroken, cX2_isBroken, 3, (some .boolean), [], 0)
def M_X2_endNow : MT := (RX2, yX2_endNow, cX2_endNow, 3, (some .int), [], 0)
def M_X0_amount : MT := (RX0, yX0_amount, cX0_amount, 2, (some .int), [], 0)
def M_X1_init : MT := (RX1, yX1_init, cX1_init, 1, none, [], 0)
def M_X8_put : MT := (RX8, yX8_put, cX8_put, 3, none, [], 0)
def M_X1_setPrices : MT := (RX1, yX1_setPrices, cX1_setPrices, 5, none, [], 0)
def M_X1_ticket : MT := (RX1, yX1_ticket, cX1_ticket, 4, (some .int), [], 0)
def M_J7_fill_53178 : MT := (RJ7, yJ7_fill_53178, cJ7_fill_53178, 4, none, [], 0)
def M_X4_length : MT := (RX4, yX4_length, cX4_length, 1, (some .int), [], 0)
def M_X1_ticketsFrom : MT := (RX1, yX1_ticketsFrom, cX1_ticketsFrom, 7, none, [], 0)
def M_X1_fareOf : MT := (RX1, yX1_fareOf, cX1_fareOf, 4, (some .int), [], 0)
def M_X2_init : MT := (RX2, yX2_init, cX2_init, 6, none, [], 0)
def M_X2_rideAt : MT := (RX2, yX2_rideAt, cX2_rideAt, 4, (some (.object "Connectory$Ride")), [], 0)
def M_X2_goesBy : MT := (RX2, yX2_goesBy, cX2_goesBy, 4, (some .boolean), [], 0)
def M_X7_chanceWithin : MT := (RX7, yX7_chanceWithin, cX7_chanceWithin, 4, (some .double), [], 0)
def M_X2_chance : MT := (RX2, yX2_chance, cX2_chance, 5, (some .double), [], 0)
def M_X2_carbon : MT := (RX2, yX2_carbon, cX2_carbon, 4, (some .double), [], 0)
def M_X2_score : MT := (RX2, yX2_score, cX2_score, 1, (some .double), [], 0)
def M_Jxa1e45_init_da8c8 : MT := (RJxa1e45, yJxa1e45_init_da8c8, cJxa1e45_init_da8c8, 1, none, [], 0)
def M_Jxc12de_init_da8c8 : MT := (RJxc12de, yJxc12de_init_da8c8, cJxc12de_init_da8c8, 1, none, [], 0)
def M_Jx4a65c_init_da8c8 : MT := (RJx4a65c, yJx4a65c_init_da8c8, cJx4a65c_init_da8c8, 1, none, [], 0)
def M_X3_init : MT := (RX3, yX3_init, cX3_init, 1, none, [], 0)
def M_X3_addStop : MT := (RX3, yX3_addStop, cX3_addStop, 3, (some .int), [], 0)
def M_X3_transferAt : MT := (RX3, yX3_transferAt, cX3_transferAt, 2, (some .int), [], 0)
def M_X3_walk : MT := (RX3, yX3_walk, cX3_walk, 3, (some .int), [], 0)
def M_X3_setWalk : MT := (RX3, yX3_setWalk, cX3_setWalk, 4, none, [], 0)
def M_X4_init : MT := (RX4, yX4_init, cX4_init, 6, none, [], 0)
def M_X7_stopAt : MT := (RX7, yX7_stopAt, cX7_stopAt, 2, (some .int), [], 0)
def M_X4_boardsAt : MT := (RX4, yX4_boardsAt, cX4_boardsAt, 1, (some .int), [], 0)
def M_X4_tell : MT := (RX4, yX4_tell, cX4_tell, 2, (some .int), [], 0)
def M_X5_init : MT := (RX5, yX5_init, cX5_init, 2, none, [], 0)
def M_X8_firstDayFor : MT := (RX8, yX8_firstDayFor, cX8_firstDayFor, 1, (some .int), [], 0)
def M_X8_lastDayFor : MT := (RX8, yX8_lastDayFor, cX8_lastDayFor, 1, (some .int), [], 0)
def M_X5_setOut : MT := (RX5, yX5_setOut, cX5_setOut, 3, none, [], 0)
def M_Jx4a65c_size_8abf5 : MT := (RJx4a65c, yJx4a65c_size_8abf5, cJx4a65c_size_8abf5, 1, (some .int), [], 0)
def M_J3_checkIndex_8e157 : MT := (RJ3, yJ3_checkIndex_8e157, cJ3_checkIndex_8e157, 3, (some .int), [], 0)
def M_J15_checkIndex_7cf53 : MT := (RJ15, yJ15_checkIndex_7cf53, cJ15_checkIndex_7cf53, 2, (some .int), [], 0)
def M_Jx4a65c_elementData_915e3 : MT := (RJx4a65c, yJx4a65c_elementData_915e3, cJx4a65c_elementData_915e3, 2, (some (.object "java/lang/Object")), [], 0)
def M_Jx4a65c_get_915e3 : MT := (RJx4a65c, yJx4a65c_get_915e3, cJx4a65c_get_915e3, 2, (some (.object "java/lang/Object")), [], 0)
def M_X5_arrivalAt : MT := (RX5, yX5_arrivalAt, cX5_arrivalAt, 3, (some .int), [], 0)
def M_X5_readyAt : MT := (RX5, yX5_readyAt, cX5_readyAt, 3, (some .int), [], 0)
def M_X5_rideRun : MT := (RX5, yX5_rideRun, cX5_rideRun, 7, none, [], 0)
def M_X5_rideOn : MT := (RX5, yX5_rideOn, cX5_rideOn, 5, none, [], 0)
def M_X5_changing : MT := (RX5, yX5_changing, cX5_changing, 3, (some .int), [], 0)
def M_X5_readyFrom : MT := (RX5, yX5_readyFrom, cX5_readyFrom, 6, (some .int), [], 0)
def M_X5_changeAll : MT := (RX5, yX5_changeAll, cX5_changeAll, 5, none, [], 0)
def M_X5_seek : MT := (RX5, yX5_seek, cX5_seek, 6, none, [], 0)
def M_X5_endFrom : MT := (RX5, yX5_endFrom, cX5_endFrom, 5, (some .int), [], 0)
def M_X5_end : MT := (RX5, yX5_end, cX5_end, 4, (some .int), [], 0)
def M_X5_lastStop : MT := (RX5, yX5_lastStop, cX5_lastStop, 4, (some .int), [], 0)
def M_X5_leavingPlace : MT := (RX5, yX5_leavingPlace, cX5_leavingPlace, 6, (some .int), [], 0)
def M_X5_boardingPlace : MT := (RX5, yX5_boardingPlace, cX5_boardingPlace, 6, (some .int), [], 0)
def M_X5_rideTo : MT := (RX5, yX5_rideTo, cX5_rideTo, 9, (some (.object "Connectory$Ride")), [], 0)
def M_X5_stopAhead : MT := (RX5, yX5_stopAhead, cX5_stopAhead, 5, (some .int), [], 0)
def M_X5_minutesAhead : MT := (RX5, yX5_minutesAhead, cX5_minutesAhead, 5, (some .int), [], 0)
def M_X5_tell : MT := (RX5, yX5_tell, cX5_tell, 8, (some (.object "Connectory$Journey")), [], 0)
def M_X6_init : MT := (RX6, yX6_init, cX6_init, 2, none, [], 0)
def M_X6_goOn : MT := (RX6, yX6_goOn, cX6_goOn, 8, none, [], 0)
def M_X6_leaveAt : MT := (RX6, yX6_leaveAt, cX6_leaveAt, 5, none, [], 0)
def M_X6_tryRun : MT := (RX6, yX6_tryRun, cX6_tryRun, 11, none, [], 0)
def M_X6_tryAll : MT := (RX6, yX6_tryAll, cX6_tryAll, 5, (some .int), [], 0)
def M_X7_init : MT := (RX7, yX7_init, cX7_init, 5, none, [], 0)
def M_X7_setWeek : MT := (RX7, yX7_setWeek, cX7_setWeek, 3, none, [], 0)
def M_X7_begin : MT := (RX7, yX7_begin, cX7_begin, 3, none, [], 0)
def M_X7_goOn : MT := (RX7, yX7_goOn, cX7_goOn, 5, none, [], 0)
def M_X7_setThere : MT := (RX7, yX7_setThere, cX7_setThere, 3, none, [], 0)
def M_X8_init : MT := (RX8, yX8_init, cX8_init, 2, none, [], 0)
def M_X8_needRange : MT := (RX8, yX8_needRange, cX8_needRange, 3, none, [], 0)
def M_X8_stop : MT := (RX8, yX8_stop, cX8_stop, 2, (some .int), [], 0)
def M_X8_needStop : MT := (RX8, yX8_needStop, cX8_needStop, 2, none, [], 0)
def M_X8_footway : MT := (RX8, yX8_footway, cX8_footway, 5, (some .int), [], 0)
def M_X8_needFirm : MT := (RX8, yX8_needFirm, cX8_needFirm, 1, none, [], 0)
def M_J8_hugeLength_7cf53 : MT := (RJ8, yJ8_hugeLength_7cf53, cJ8_hugeLength_7cf53, 3, (some .int), [], 0)
def M_J8_newLength_cabcc : MT := (RJ8, yJ8_newLength_cabcc, cJ8_newLength_cabcc, 4, (some .int), [], 0)
def M_J7_copyOf_6403c : MT := (RJ7, yJ7_copyOf_6403c, cJ7_copyOf_6403c, 4, (some (.array (.object "java/lang/Object"))), [], 0)
def M_J7_copyOf_1904c : MT := (RJ7, yJ7_copyOf_1904c, cJ7_copyOf_1904c, 2, (some (.array (.object "java/lang/Object"))), [], 0)
def M_Jx4a65c_grow_92f84 : MT := (RJx4a65c, yJx4a65c_grow_92f84, cJx4a65c_grow_92f84, 4, (some (.array (.object "java/lang/Object"))), [], 0)
def M_Jx4a65c_grow_d5877 : MT := (RJx4a65c, yJx4a65c_grow_d5877, cJx4a65c_grow_d5877, 1, (some (.array (.object "java/lang/Object"))), [], 0)
def M_Jx4a65c_add_72be8 : MT := (RJx4a65c, yJx4a65c_add_72be8, cJx4a65c_add_72be8, 4, none, [], 0)
def M_Jx4a65c_add_9ea2d : MT := (RJx4a65c, yJx4a65c_add_9ea2d, cJx4a65c_add_9ea2d, 2, (some .boolean), [], 0)
def M_X8_trip : MT := (RX8, yX8_trip, cX8_trip, 9, (some .int), [], 0)
def M_X8_tripOf : MT := (RX8, yX8_tripOf, cX8_tripOf, 2, (some (.object "Connectory$Trip")), [], 0)
def M_X8_isBooked : MT := (RX8, yX8_isBooked, cX8_isBooked, 3, (some .boolean), [], 0)
def M_X8_calls : MT := (RX8, yX8_calls, cX8_calls, 6, (some .int), [], 0)
def M_X8_runs : MT := (RX8, yX8_runs, cX8_runs, 6, (some .boolean), [], 0)
def M_X8_delay : MT := (RX8, yX8_delay, cX8_delay, 6, (some .int), [], 0)
def M_X8_note : MT := (RX8, yX8_note, cX8_note, 4, (some .int), [], 0)
def M_X8_prices : MT := (RX8, yX8_prices, cX8_prices, 5, none, [], 0)
def M_X8_needWay : MT := (RX8, yX8_needWay, cX8_needWay, 4, none, [], 0)
def M_X8_timeOrNone : MT := (RX8, yX8_timeOrNone, cX8_timeOrNone, 1, (some .int), [], 0)
def M_X8_arrival : MT := (RX8, yX8_arrival, cX8_arrival, 5, (some .int), [], 0)
def M_X8_arrivalAnew : MT := (RX8, yX8_arrivalAnew, cX8_arrivalAnew, 5, (some .int), [], 0)
def M_X8_front : MT := (RX8, yX8_front, cX8_front, 8, (some .int), [], 0)
def M_X8_ride : MT := (RX8, yX8_ride, cX8_ride, 9, (some .int), [], 0)
def M_X8_journey : MT := (RX8, yX8_journey, cX8_journey, 7, (some .double), [], 0)
def M_X8_best : MT := (RX8, yX8_best, cX8_best, 9, (some .int), [], 0)
def M_X8_freeSeats : MT := (RX8, yX8_freeSeats, cX8_freeSeats, 6, (some .int), [], 0)
def M_X8_hasSeats : MT := (RX8, yX8_hasSeats, cX8_hasSeats, 3, (some .boolean), [], 0)
def M_X8_book : MT := (RX8, yX8_book, cX8_book, 7, (some .int), [], 0)
def M_X8_bookingOf : MT := (RX8, yX8_bookingOf, cX8_bookingOf, 2, (some (.object "Connectory$Booking")), [], 0)
def M_X8_buy : MT := (RX8, yX8_buy, cX8_buy, 3, (some .int), [], 0)
def M_X8_right : MT := (RX8, yX8_right, cX8_right, 2, (some .int), [], 0)
def M_X8_claim : MT := (RX8, yX8_claim, cX8_claim, 4, (some .int), [], 0)
def M_X8_concerned : MT := (RX8, yX8_concerned, cX8_concerned, 7, (some .int), [], 0)
def M_X8_seats : MT := (RX8, yX8_seats, cX8_seats, 4, (some .int), [], 0)
def M_X8_pass : MT := (RX8, yX8_pass, cX8_pass, 5, (some .int), [], 0)
def M_X8_ofBooking : MT := (RX8, yX8_ofBooking, cX8_ofBooking, 4, (some .int), [], 0)
def M_J9_max_7cf53 : MT := (RJ9, yJ9_max_7cf53, cJ9_max_7cf53, 2, (some .int), [], 0)
def M_J9_min_7cf53 : MT := (RJ9, yJ9_min_7cf53, cJ9_min_7cf53, 2, (some .int), [], 0)
def M_L_cell : MT := (RL, yL_cell, cL_cell, 3, (some .int), [], 0)
def M_L_some : MT := (RL, yL_some, cL_some, 2, (some .int), [], 0)
def M_L_does : MT := (RL, yL_does, cL_does, 6, (some .int), [], 0)
def M_L_call : MT := (RL, yL_call, cL_call, 7, (some .int), [(0, 11, 12, 15), (0, 11, 17, 18), (0, 11, 22, 21)], 0)
def M_L_trip : MT := (RL, yL_trip, cL_trip, 8, (some .int), [(0, 13, 14, 15), (0, 13, 19, 18), (0, 13, 24, 21)], 0)
def M_L_ride : MT := (RL, yL_ride, cL_ride, 8, (some .int), [(0, 13, 14, 15), (0, 13, 19, 18)], 0)
def M_L_journey : MT := (RL, yL_journey, cL_journey, 7, (some .double), [(0, 11, 12, 15), (0, 11, 18, 18)], 0)
def M_L_all : MT := (RL, yL_all, cL_all, 7, (some .long), [], 0)
def M_L_both : MT := (RL, yL_both, cL_both, 8, (some .int), [], 0)
def M_L_land : MT := (RL, yL_land, cL_land, 11, (some .boolean), [], 0)
def M_L_runs : MT := (RL, yL_runs, cL_runs, 10, (some .boolean), [], 0)
def M_L_ways : MT := (RL, yL_ways, cL_ways, 16, (some .boolean), [], 0)
def M_L_bookings : MT := (RL, yL_bookings, cL_bookings, 14, (some .boolean), [], 0)
def M_L_refused : MT := (RL, yL_refused, cL_refused, 5, (some .boolean), [], 0)
def M_L_law : MT := (RL, yL_law, cL_law, 9, (some .boolean), [], 1)
theorem ok_X0_init (M : MT) (i : Nat) : CallOk M M_X0_init i 3 := ⟨rfl, by decide, List.mem_append_right _ (List.mem_of_getElem? (i := 778) (by decide +kernel)), List.mem_append_right _ (List.mem_of_getElem? (i := 21) (by decide +kernel)), by decide +kernel, by decide +kernel⟩
theorem ok_X0_isOpen (M : MT) (i : Nat) : CallOk M M_X0_isOpen i 0 := ⟨rfl, by decide, List.mem_append_right _ (List.mem_of_getElem? (i := 566) (by decide +kernel)), List.mem_append_right _ (List.mem_of_getElem? (i := 21) (by decide +kernel)), by decide +kernel, by decide +kernel⟩
theorem ok_X7_isThere (M : MT) (i : Nat) : CallOk M M_X7_isThere i 1 := ⟨rfl, by decide, List.mem_append_right _ (List.mem_of_getElem? (i := 356) (by decide +kernel)), List.mem_append_right _ (List.mem_of_getElem? (i := 24) (by decide +kernel)), by decide +kernel, by decide +kernel⟩
theorem ok_X8_at (M : MT) (i : Nat) : CallOk M M_X8_at i 2 := ⟨rfl, by decide, List.mem_append_right _ (List.mem_of_getElem? (i := 322) (by decide +kernel)), List.mem_append_right _ (List.mem_of_getElem? (i := 1) (by decide +kernel)), by decide +kernel, by decide +kernel⟩
theorem ok_X7_goes (M : MT) (i : Nat) : CallOk M M_X7_goes i 1 := ⟨rfl, by decide, List.mem_append_right _ (List.mem_of_getElem? (i := 352) (by decide +kernel)), List.mem_append_right _ (List.mem_of_getElem? (i := 24) (by decide +kernel)), by decide +kernel, by decide +kernel⟩
theorem ok_X7_leaves (M : MT) (i : Nat) : CallOk M M_X7_leaves i 2 := ⟨rfl, by decide, List.mem_append_right _ (List.mem_of_getElem? (i := 379) (by decide +kernel)), List.mem_append_right _ (List.mem_of_getElem? (i := 24) (by decide +kernel)), by decide +kernel, by decide +kernel⟩
theorem ok_X4_departs (M : MT) (i : Nat) : CallOk M M_X4_departs i 0 := ⟨rfl, by decide, List.mem_append_right _ (List.mem_of_getElem? (i := 488) (by decide +kernel)), List.mem_append_right _ (List.mem_of_getElem? (i := 18) (by decide +kernel)), by decide +kernel, by decide +kernel⟩
theorem ok_X7_reaches (M : MT) (i : Nat) : CallOk M M_X7_reaches i 2 := ⟨rfl, by decide, List.mem_append_right _ (List.mem_of_getElem? (i := 374) (by decide +kernel)), List.mem_append_right _ (List.mem_of_getElem? (i := 24) (by decide +kernel)), by decide +kernel, by decide +kernel⟩
theorem ok_X4_arrives (M : MT) (i : Nat) : CallOk M M_X4_arrives i 0 := ⟨rfl, by decide, List.mem_append_right _ (List.mem_of_getElem? (i := 534) (by decide +kernel)), List.mem_append_right _ (List.mem_of_getElem? (i := 18) (by decide +kernel)), by decide +kernel, by decide +kernel⟩
theorem ok_X2_isBroken (M : MT) (i : Nat) : CallOk M M_X2_isBroken i 0 := ⟨rfl, by decide, List.mem_append_right _ (List.mem_of_getElem? (i := 588) (by decide +kernel)), List.mem_append_right _ (List.mem_of_getElem? (i := 19) (by decide +kernel)), by decide +kernel, by decide +kernel⟩
theorem ok_X2_endNow (M : MT) (i : Nat) : CallOk M M_X2_endNow i 0 := ⟨rfl, by decide, List.mem_append_right _ (List.mem_of_getElem? (i := 595) (by decide +kernel)), List.mem_append_right _ (List.mem_of_getElem? (i := 19) (by decide +kernel)), by decide +kernel, by decide +kernel⟩
theorem ok_X0_amount (M : MT) (i : Nat) : CallOk M M_X0_amount i 0 := ⟨rfl, by decide, List.mem_append_right _ (List.mem_of_getElem? (i := 584) (by decide +kernel)), List.mem_append_right _ (List.mem_of_getElem? (i := 21) (by decide +kernel)), by decide +kernel, by decide +kernel⟩
theorem ok_X1_init (M : MT) (i : Nat) : CallOk M M_X1_init i 0 := ⟨rfl, by decide, List.mem_append_right _ (List.mem_of_getElem? (i := 144) (by decide +kernel)), List.mem_append_right _ (List.mem_of_getElem? (i := 9) (by decide +kernel)), by decide +kernel, by decide +kernel⟩
theorem ok_X8_put (M : MT) (i : Nat) : CallOk M M_X8_put i 3 := ⟨rfl, by decide, List.mem_append_right _ (List.mem_of_getElem? (i := 325) (by decide +kernel)), List.mem_append_right _ (List.mem_of_getElem? (i := 1) (by decide +kernel)), by decide +kernel, by decide +kernel⟩
theorem ok_X1_setPrices (M : MT) (i : Nat) : CallOk M M_X1_setPrices i 4 := ⟨rfl, by decide, List.mem_append_right _ (List.mem_of_getElem? (i := 689) (by decide +kernel)), List.mem_append_right _ (List.mem_of_getElem? (i := 9) (by decide +kernel)), by decide +kernel, by decide +kernel⟩
theorem ok_X1_ticket (M : MT) (i : Nat) : CallOk M M_X1_ticket i 2 := ⟨rfl, by decide, List.mem_append_right _ (List.mem_of_getElem? (i := 774) (by decide +kernel)), List.mem_append_right _ (List.mem_of_getElem? (i := 9) (by decide +kernel)), by decide +kernel, by decide +kernel⟩
theorem ok_J7_fill_53178 (M : MT) (i : Nat) : CallOk M M_J7_fill_53178 i 2 := ⟨rfl, by decide, List.mem_append_right _ (List.mem_of_getElem? (i := 68) (by decide +kernel)), List.mem_append_right _ (List.mem_of_getElem? (i := 6) (by decide +kernel)), by decide +kernel, by decide +kernel⟩
