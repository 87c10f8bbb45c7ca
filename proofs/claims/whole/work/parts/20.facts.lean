/-! ===== own: the program's methods, and the words of the tables that their calls and fields need (by program) ===== -/
theorem cls_1 : ClsOk 1 RX0 TX0 4 tyX0 := by
  refine ⟨rfl, by decide +kernel, tyX0_ok, nmX0, rfl, rfl, ?_⟩
  intro k hk
  match k, hk with
  | 0, _ => exact Or.inr ⟨3, rfl, by decide, by decide, rfl, fun r => by cases r <;> exact ⟨rfl, rfl⟩⟩
  | 1, _ => exact Or.inl ⟨rfl, rfl⟩
  | 2, _ => exact Or.inl ⟨rfl, rfl⟩
  | 3, _ => exact Or.inl ⟨rfl, rfl⟩
  | k + 4, hk => exact absurd hk (by omega)
theorem cls_2 : ClsOk 2 RX1 TX1 4 tyX1 := by
  refine ⟨rfl, by decide +kernel, tyX1_ok, nmX1, rfl, rfl, ?_⟩
  intro k hk
  match k, hk with
  | 0, _ => exact Or.inr ⟨24, rfl, by decide, by decide, rfl, fun r => by cases r <;> exact ⟨rfl, rfl⟩⟩
  | 1, _ => exact Or.inr ⟨25, rfl, by decide, by decide, rfl, fun r => by cases r <;> exact ⟨rfl, rfl⟩⟩
  | 2, _ => exact Or.inr ⟨26, rfl, by decide, by decide, rfl, fun r => by cases r <;> exact ⟨rfl, rfl⟩⟩
  | 3, _ => exact Or.inr ⟨27, rfl, by decide, by decide, rfl, fun r => by cases r <;> exact ⟨rfl, rfl⟩⟩
  | k + 4, hk => exact absurd hk (by omega)
theorem cls_3 : ClsOk 3 RX2 TX2 5 tyX2 := by
  refine ⟨rfl, by decide +kernel, tyX2_ok, nmX2, rfl, rfl, ?_⟩
  intro k hk
  match k, hk with
  | 0, _ => exact Or.inl ⟨rfl, rfl⟩
  | 1, _ => exact Or.inr ⟨5, rfl, by decide, by decide, rfl, fun r => by cases r <;> exact ⟨rfl, rfl⟩⟩
  | 2, _ => exact Or.inl ⟨rfl, rfl⟩
  | 3, _ => exact Or.inl ⟨rfl, rfl⟩
  | 4, _ => exact Or.inl ⟨rfl, rfl⟩
  | k + 5, hk => exact absurd hk (by omega)
theorem cls_4 : ClsOk 4 RX3 TX3 4 tyX3 := by
  refine ⟨rfl, by decide +kernel, tyX3_ok, nmX3, rfl, rfl, ?_⟩
  intro k hk
  match k, hk with
  | 0, _ => exact Or.inr ⟨22, rfl, by decide, by decide, rfl, fun r => by cases r <;> exact ⟨rfl, rfl⟩⟩
  | 1, _ => exact Or.inr ⟨23, rfl, by decide, by decide, rfl, fun r => by cases r <;> exact ⟨rfl, rfl⟩⟩
  | 2, _ => exact Or.inr ⟨11, rfl, by decide, by decide, rfl, fun r => by cases r <;> exact ⟨rfl, rfl⟩⟩
  | 3, _ => exact Or.inl ⟨rfl, rfl⟩
  | k + 4, hk => exact absurd hk (by omega)
theorem cls_5 : ClsOk 5 RX4 TX4 6 tyX4 := by
  refine ⟨rfl, by decide +kernel, tyX4_ok, nmX4, rfl, rfl, ?_⟩
  intro k hk
  match k, hk with
  | 0, _ => exact Or.inr ⟨8, rfl, by decide, by decide, rfl, fun r => by cases r <;> exact ⟨rfl, rfl⟩⟩
  | 1, _ => exact Or.inl ⟨rfl, rfl⟩
  | 2, _ => exact Or.inl ⟨rfl, rfl⟩
  | 3, _ => exact Or.inl ⟨rfl, rfl⟩
  | 4, _ => exact Or.inr ⟨5, rfl, by decide, by decide, rfl, fun r => by cases r <;> exact ⟨rfl, rfl⟩⟩
  | 5, _ => exact Or.inl ⟨rfl, rfl⟩
  | k + 6, hk => exact absurd hk (by omega)
theorem cls_6 : ClsOk 6 RX5 TX5 8 tyX5 := by
  refine ⟨rfl, by decide +kernel, tyX5_ok, nmX5, rfl, rfl, ?_⟩
  intro k hk
  match k, hk with
  | 0, _ => exact Or.inr ⟨4, rfl, by decide, by decide, rfl, fun r => by cases r <;> exact ⟨rfl, rfl⟩⟩
  | 1, _ => exact Or.inr ⟨20, rfl, by decide, by decide, rfl, fun r => by cases r <;> exact ⟨rfl, rfl⟩⟩
  | 2, _ => exact Or.inr ⟨21, rfl, by decide, by decide, rfl, fun r => by cases r <;> exact ⟨rfl, rfl⟩⟩
  | 3, _ => exact Or.inl ⟨rfl, rfl⟩
  | 4, _ => exact Or.inl ⟨rfl, rfl⟩
  | 5, _ => exact Or.inl ⟨rfl, rfl⟩
  | 6, _ => exact Or.inl ⟨rfl, rfl⟩
  | 7, _ => exact Or.inl ⟨rfl, rfl⟩
  | k + 8, hk => exact absurd hk (by omega)
theorem cls_7 : ClsOk 7 RX6 TX6 5 tyX6 := by
  refine ⟨rfl, by decide +kernel, tyX6_ok, nmX6, rfl, rfl, ?_⟩
  intro k hk
  match k, hk with
  | 0, _ => exact Or.inr ⟨4, rfl, by decide, by decide, rfl, fun r => by cases r <;> exact ⟨rfl, rfl⟩⟩
  | 1, _ => exact Or.inl ⟨rfl, rfl⟩
  | 2, _ => exact Or.inl ⟨rfl, rfl⟩
  | 3, _ => exact Or.inl ⟨rfl, rfl⟩
  | 4, _ => exact Or.inl ⟨rfl, rfl⟩
  | k + 5, hk => exact absurd hk (by omega)
theorem cls_8 : ClsOk 8 RX7 TX7 12 tyX7 := by
  refine ⟨rfl, by decide +kernel, tyX7_ok, nmX7, rfl, rfl, ?_⟩
  intro k hk
  match k, hk with
  | 0, _ => exact Or.inl ⟨rfl, rfl⟩
  | 1, _ => exact Or.inl ⟨rfl, rfl⟩
  | 2, _ => exact Or.inl ⟨rfl, rfl⟩
  | 3, _ => exact Or.inl ⟨rfl, rfl⟩
  | 4, _ => exact Or.inr ⟨28, rfl, by decide, by decide, rfl, fun r => by cases r <;> exact ⟨rfl, rfl⟩⟩
  | 5, _ => exact Or.inr ⟨29, rfl, by decide, by decide, rfl, fun r => by cases r <;> exact ⟨rfl, rfl⟩⟩
  | 6, _ => exact Or.inr ⟨30, rfl, by decide, by decide, rfl, fun r => by cases r <;> exact ⟨rfl, rfl⟩⟩
  | 7, _ => exact Or.inr ⟨31, rfl, by decide, by decide, rfl, fun r => by cases r <;> exact ⟨rfl, rfl⟩⟩
  | 8, _ => exact Or.inr ⟨32, rfl, by decide, by decide, rfl, fun r => by cases r <;> exact ⟨rfl, rfl⟩⟩
  | 9, _ => exact Or.inr ⟨33, rfl, by decide, by decide, rfl, fun r => by cases r <;> exact ⟨rfl, rfl⟩⟩
  | 10, _ => exact Or.inl ⟨rfl, rfl⟩
  | 11, _ => exact Or.inl ⟨rfl, rfl⟩
  | k + 12, hk => exact absurd hk (by omega)
theorem cls_9 : ClsOk 9 RX8 TX8 6 tyX8 := by
  refine ⟨rfl, by decide +kernel, tyX8_ok, nmX8, rfl, rfl, ?_⟩
  intro k hk
  match k, hk with
  | 0, _ => exact Or.inr ⟨4, rfl, by decide, by decide, rfl, fun r => by cases r <;> exact ⟨rfl, rfl⟩⟩
  | 1, _ => exact Or.inr ⟨6, rfl, by decide, by decide, rfl, fun r => by cases r <;> exact ⟨rfl, rfl⟩⟩
  | 2, _ => exact Or.inr ⟨7, rfl, by decide, by decide, rfl, fun r => by cases r <;> exact ⟨rfl, rfl⟩⟩
  | 3, _ => exact Or.inr ⟨2, rfl, by decide, by decide, rfl, fun r => by cases r <;> exact ⟨rfl, rfl⟩⟩
  | 4, _ => exact Or.inr ⟨12, rfl, by decide, by decide, rfl, fun r => by cases r <;> exact ⟨rfl, rfl⟩⟩
  | 5, _ => exact Or.inl ⟨rfl, rfl⟩
  | k + 6, hk => exact absurd hk (by omega)
theorem cls_10 : ClsOk 10 RX9 TX9 44 tyX9 := by
  refine ⟨rfl, by decide +kernel, tyX9_ok, nmX9, rfl, rfl, ?_⟩
  intro k hk
  match k, hk with
  | 0, _ => exact Or.inl ⟨rfl, rfl⟩
  | 1, _ => exact Or.inr ⟨40, rfl, by decide, by decide, rfl, fun r => by cases r <;> exact ⟨rfl, rfl⟩⟩
  | 2, _ => exact Or.inr ⟨41, rfl, by decide, by decide, rfl, fun r => by cases r <;> exact ⟨rfl, rfl⟩⟩
  | 3, _ => exact Or.inl ⟨rfl, rfl⟩
  | 4, _ => exact Or.inr ⟨42, rfl, by decide, by decide, rfl, fun r => by cases r <;> exact ⟨rfl, rfl⟩⟩
  | 5, _ => exact Or.inr ⟨43, rfl, by decide, by decide, rfl, fun r => by cases r <;> exact ⟨rfl, rfl⟩⟩
  | 6, _ => exact Or.inr ⟨44, rfl, by decide, by decide, rfl, fun r => by cases r <;> exact ⟨rfl, rfl⟩⟩
  | 7, _ => exact Or.inr ⟨45, rfl, by decide, by decide, rfl, fun r => by cases r <;> exact ⟨rfl, rfl⟩⟩
  | 8, _ => exact Or.inr ⟨46, rfl, by decide, by decide, rfl, fun r => by cases r <;> exact ⟨rfl, rfl⟩⟩
  | 9, _ => exact Or.inr ⟨47, rfl, by decide, by decide, rfl, fun r => by cases r <;> exact ⟨rfl, rfl⟩⟩
  | 10, _ => exact Or.inr ⟨48, rfl, by decide, by decide, rfl, fun r => by cases r <;> exact ⟨rfl, rfl⟩⟩
  | 11, _ => exact Or.inr ⟨49, rfl, by decide, by decide, rfl, fun r => by cases r <;> exact ⟨rfl, rfl⟩⟩
  | 12, _ => exact Or.inr ⟨50, rfl, by decide, by decide, rfl, fun r => by cases r <;> exact ⟨rfl, rfl⟩⟩
  | 13, _ => exact Or.inr ⟨51, rfl, by decide, by decide, rfl, fun r => by cases r <;> exact ⟨rfl, rfl⟩⟩
  | 14, _ => exact Or.inr ⟨52, rfl, by decide, by decide, rfl, fun r => by cases r <;> exact ⟨rfl, rfl⟩⟩
  | 15, _ => exact Or.inr ⟨53, rfl, by decide, by decide, rfl, fun r => by cases r <;> exact ⟨rfl, rfl⟩⟩
  | 16, _ => exact Or.inr ⟨54, rfl, by decide, by decide, rfl, fun r => by cases r <;> exact ⟨rfl, rfl⟩⟩
  | 17, _ => exact Or.inr ⟨55, rfl, by decide, by decide, rfl, fun r => by cases r <;> exact ⟨rfl, rfl⟩⟩
  | 18, _ => exact Or.inr ⟨56, rfl, by decide, by decide, rfl, fun r => by cases r <;> exact ⟨rfl, rfl⟩⟩
  | 19, _ => exact Or.inr ⟨57, rfl, by decide, by decide, rfl, fun r => by cases r <;> exact ⟨rfl, rfl⟩⟩
  | 20, _ => exact Or.inr ⟨58, rfl, by decide, by decide, rfl, fun r => by cases r <;> exact ⟨rfl, rfl⟩⟩
  | 21, _ => exact Or.inl ⟨rfl, rfl⟩
  | 22, _ => exact Or.inl ⟨rfl, rfl⟩
  | 23, _ => exact Or.inl ⟨rfl, rfl⟩
  | 24, _ => exact Or.inr ⟨59, rfl, by decide, by decide, rfl, fun r => by cases r <;> exact ⟨rfl, rfl⟩⟩
  | 25, _ => exact Or.inr ⟨60, rfl, by decide, by decide, rfl, fun r => by cases r <;> exact ⟨rfl, rfl⟩⟩
  | 26, _ => exact Or.inr ⟨61, rfl, by decide, by decide, rfl, fun r => by cases r <;> exact ⟨rfl, rfl⟩⟩
  | 27, _ => exact Or.inr ⟨62, rfl, by decide, by decide, rfl, fun r => by cases r <;> exact ⟨rfl, rfl⟩⟩
  | 28, _ => exact Or.inr ⟨63, rfl, by decide, by decide, rfl, fun r => by cases r <;> exact ⟨rfl, rfl⟩⟩
  | 29, _ => exact Or.inr ⟨64, rfl, by decide, by decide, rfl, fun r => by cases r <;> exact ⟨rfl, rfl⟩⟩
  | 30, _ => exact Or.inl ⟨rfl, rfl⟩
  | 31, _ => exact Or.inl ⟨rfl, rfl⟩
  | 32, _ => exact Or.inr ⟨65, rfl, by decide, by decide, rfl, fun r => by cases r <;> exact ⟨rfl, rfl⟩⟩
  | 33, _ => exact Or.inr ⟨66, rfl, by decide, by decide, rfl, fun r => by cases r <;> exact ⟨rfl, rfl⟩⟩
  | 34, _ => exact Or.inr ⟨67, rfl, by decide, by decide, rfl, fun r => by cases r <;> exact ⟨rfl, rfl⟩⟩
  | 35, _ => exact Or.inr ⟨68, rfl, by decide, by decide, rfl, fun r => by cases r <;> exact ⟨rfl, rfl⟩⟩
  | 36, _ => exact Or.inr ⟨69, rfl, by decide, by decide, rfl, fun r => by cases r <;> exact ⟨rfl, rfl⟩⟩
  | 37, _ => exact Or.inr ⟨70, rfl, by decide, by decide, rfl, fun r => by cases r <;> exact ⟨rfl, rfl⟩⟩
  | 38, _ => exact Or.inr ⟨71, rfl, by decide, by decide, rfl, fun r => by cases r <;> exact ⟨rfl, rfl⟩⟩
  | 39, _ => exact Or.inr ⟨72, rfl, by decide, by decide, rfl, fun r => by cases r <;> exact ⟨rfl, rfl⟩⟩
  | 40, _ => exact Or.inr ⟨73, rfl, by decide, by decide, rfl, fun r => by cases r <;> exact ⟨rfl, rfl⟩⟩
  | 41, _ => exact Or.inr ⟨74, rfl, by decide, by decide, rfl, fun r => by cases r <;> exact ⟨rfl, rfl⟩⟩
  | 42, _ => exact Or.inr ⟨75, rfl, by decide, by decide, rfl, fun r => by cases r <;> exact ⟨rfl, rfl⟩⟩
  | 43, _ => exact Or.inl ⟨rfl, rfl⟩
  | k + 44, hk => exact absurd hk (by omega)
def M_X0_init : MT := (RX0, yX0_init, cX0_init, 4, none, [], 0)
def M_X0_isOpen : MT := (RX0, yX0_isOpen, cX0_isOpen, 1, (some .boolean), [], 0)
def M_X7_isThere : MT := (RX7, yX7_isThere, cX7_isThere, 2, (some .boolean), [], 0)
def M_X8_at : MT := (RX8, yX8_at, cX8_at, 2, (some .int), [], 0)
def M_X7_goes : MT := (RX7, yX7_goes, cX7_goes, 2, (some .boolean), [], 0)
def M_X7_leaves : MT := (RX7, yX7_leaves, cX7_leaves, 3, (some .int), [], 0)
def M_X4_departs : MT := (RX4, yX4_departs, cX4_departs, 1, (some .int), [], 0)
def M_X7_reaches : MT := (RX7, yX7_reaches, cX7_reaches, 3, (some .int), [], 0)
def M_X4_arrives : MT := (RX4, yX4_arrives, cX4_arrives, 1, (some .int), [], 0)
def M_X2_isBroken : MT := (RX2, yX2_isBroken, cX2_isBroken, 3, (some .boolean), [], 0)
def M_X2_endNow : MT := (RX2, yX2_endNow, cX2_endNow, 3, (some .int), [], 0)
def M_X0_amount : MT := (RX0, yX0_amount, cX0_amount, 2, (some .int), [], 0)
def M_X1_init : MT := (RX1, yX1_init, cX1_init, 1, none, [], 0)
def M_X8_put : MT := (RX8, yX8_put, cX8_put, 3, none, [], 0)
def M_X1_setPrices : MT := (RX1, yX1_setPrices, cX1_setPrices, 5, none, [], 0)
def M_X1_ticket : MT := (RX1, yX1_ticket, cX1_ticket, 4, (some .int), [], 0)
def M_J7_fill_53178 : MT := (RJ7, yJ7_fill_53178, cJ7_fill_53178, 4, none, [], 0)
def M_X4_length : MT := (RX4, yX4_length, cX4_length, 1, (some .int), [], 0)
def M_X1_ticketsFrom : MT := (RX1, yX1_ticketsFrom, cX1_ticketsFrom, 7, none, [], 0)
def M_X1_fareOf : MT := (RX1, yX1_fareOf, cX1_fareOf, 4, (some .int), [], 0)
def M_X2_init : MT := (RX2, yX2_init, cX2_init, 6, none, [], 0)
def M_X2_rideAt : MT := (RX2, yX2_rideAt, cX2_rideAt, 4, (some (.object "Connectory$Ride")), [], 0)
def M_X2_goesBy : MT := (RX2, yX2_goesBy, cX2_goesBy, 4, (some .boolean), [], 0)
def M_X7_chanceWithin : MT := (RX7, yX7_chanceWithin, cX7_chanceWithin, 4, (some .double), [], 0)
def M_X2_chance : MT := (RX2, yX2_chance, cX2_chance, 5, (some .double), [], 0)
def M_X2_carbon : MT := (RX2, yX2_carbon, cX2_carbon, 4, (some .double), [], 0)
def M_X2_score : MT := (RX2, yX2_score, cX2_score, 1, (some .double), [], 0)
def M_Jxa1e45_init_da8c8 : MT := (RJxa1e45, yJxa1e45_init_da8c8, cJxa1e45_init_da8c8, 1, none, [], 0)
def M_Jxc12de_init_da8c8 : MT := (RJxc12de, yJxc12de_init_da8c8, cJxc12de_init_da8c8, 1, none, [], 0)
def M_Jx4a65c_init_da8c8 : MT := (RJx4a65c, yJx4a65c_init_da8c8, cJx4a65c_init_da8c8, 1, none, [], 0)
def M_X3_init : MT := (RX3, yX3_init, cX3_init, 1, none, [], 0)
def M_X3_addStop : MT := (RX3, yX3_addStop, cX3_addStop, 3, (some .int), [], 0)
def M_X3_transferAt : MT := (RX3, yX3_transferAt, cX3_transferAt, 2, (some .int), [], 0)
def M_X3_walk : MT := (RX3, yX3_walk, cX3_walk, 3, (some .int), [], 0)
def M_X3_setWalk : MT := (RX3, yX3_setWalk, cX3_setWalk, 4, none, [], 0)
def M_X4_init : MT := (RX4, yX4_init, cX4_init, 6, none, [], 0)
def M_X7_stopAt : MT := (RX7, yX7_stopAt, cX7_stopAt, 2, (some .int), [], 0)
def M_X4_boardsAt : MT := (RX4, yX4_boardsAt, cX4_boardsAt, 1, (some .int), [], 0)
def M_X4_tell : MT := (RX4, yX4_tell, cX4_tell, 2, (some .int), [], 0)
def M_X5_init : MT := (RX5, yX5_init, cX5_init, 2, none, [], 0)
def M_X8_firstDayFor : MT := (RX8, yX8_firstDayFor, cX8_firstDayFor, 1, (some .int), [], 0)
def M_X8_lastDayFor : MT := (RX8, yX8_lastDayFor, cX8_lastDayFor, 1, (some .int), [], 0)
def M_X5_setOut : MT := (RX5, yX5_setOut, cX5_setOut, 3, none, [], 0)
def M_Jx4a65c_size_8abf5 : MT := (RJx4a65c, yJx4a65c_size_8abf5, cJx4a65c_size_8abf5, 1, (some .int), [], 0)
def M_J3_checkIndex_8e157 : MT := (RJ3, yJ3_checkIndex_8e157, cJ3_checkIndex_8e157, 3, (some .int), [], 0)
def M_J15_checkIndex_7cf53 : MT := (RJ15, yJ15_checkIndex_7cf53, cJ15_checkIndex_7cf53, 2, (some .int), [], 0)
def M_Jx4a65c_elementData_915e3 : MT := (RJx4a65c, yJx4a65c_elementData_915e3, cJx4a65c_elementData_915e3, 2, (some (.object "java/lang/Object")), [], 0)
def M_Jx4a65c_get_915e3 : MT := (RJx4a65c, yJx4a65c_get_915e3, cJx4a65c_get_915e3, 2, (some (.object "java/lang/Object")), [], 0)
def M_X5_arrivalAt : MT := (RX5, yX5_arrivalAt, cX5_arrivalAt, 3, (some .int), [], 0)
def M_X5_readyAt : MT := (RX5, yX5_readyAt, cX5_readyAt, 3, (some .int), [], 0)
def M_X5_rideRun : MT := (RX5, yX5_rideRun, cX5_rideRun, 7, none, [], 0)
def M_X5_rideOn : MT := (RX5, yX5_rideOn, cX5_rideOn, 5, none, [], 0)
def M_X5_changing : MT := (RX5, yX5_changing, cX5_changing, 3, (some .int), [], 0)
def M_X5_readyFrom : MT := (RX5, yX5_readyFrom, cX5_readyFrom, 6, (some .int), [], 0)
def M_X5_changeAll : MT := (RX5, yX5_changeAll, cX5_changeAll, 5, none, [], 0)
def M_X5_seek : MT := (RX5, yX5_seek, cX5_seek, 6, none, [], 0)
def M_X5_endFrom : MT := (RX5, yX5_endFrom, cX5_endFrom, 5, (some .int), [], 0)
def M_X5_end : MT := (RX5, yX5_end, cX5_end, 4, (some .int), [], 0)
def M_X5_lastStop : MT := (RX5, yX5_lastStop, cX5_lastStop, 4, (some .int), [], 0)
def M_X5_leavingPlace : MT := (RX5, yX5_leavingPlace, cX5_leavingPlace, 6, (some .int), [], 0)
def M_X5_boardingPlace : MT := (RX5, yX5_boardingPlace, cX5_boardingPlace, 6, (some .int), [], 0)
def M_X5_rideTo : MT := (RX5, yX5_rideTo, cX5_rideTo, 9, (some (.object "Connectory$Ride")), [], 0)
def M_X5_stopAhead : MT := (RX5, yX5_stopAhead, cX5_stopAhead, 5, (some .int), [], 0)
def M_X5_minutesAhead : MT := (RX5, yX5_minutesAhead, cX5_minutesAhead, 5, (some .int), [], 0)
def M_X5_tell : MT := (RX5, yX5_tell, cX5_tell, 8, (some (.object "Connectory$Journey")), [], 0)
def M_X6_init : MT := (RX6, yX6_init, cX6_init, 2, none, [], 0)
def M_X6_goOn : MT := (RX6, yX6_goOn, cX6_goOn, 8, none, [], 0)
def M_X6_leaveAt : MT := (RX6, yX6_leaveAt, cX6_leaveAt, 5, none, [], 0)
def M_X6_tryRun : MT := (RX6, yX6_tryRun, cX6_tryRun, 11, none, [], 0)
def M_X6_tryAll : MT := (RX6, yX6_tryAll, cX6_tryAll, 5, (some .int), [], 0)
def M_X7_init : MT := (RX7, yX7_init, cX7_init, 5, none, [], 0)
def M_X7_setWeek : MT := (RX7, yX7_setWeek, cX7_setWeek, 3, none, [], 0)
def M_X7_begin : MT := (RX7, yX7_begin, cX7_begin, 3, none, [], 0)
def M_X7_goOn : MT := (RX7, yX7_goOn, cX7_goOn, 5, none, [], 0)
def M_X7_setThere : MT := (RX7, yX7_setThere, cX7_setThere, 3, none, [], 0)
def M_X8_init : MT := (RX8, yX8_init, cX8_init, 2, none, [], 0)
def M_X8_needRange : MT := (RX8, yX8_needRange, cX8_needRange, 3, none, [], 0)
def M_X8_stop : MT := (RX8, yX8_stop, cX8_stop, 2, (some .int), [], 0)
def M_X8_needStop : MT := (RX8, yX8_needStop, cX8_needStop, 2, none, [], 0)
def M_X8_footway : MT := (RX8, yX8_footway, cX8_footway, 5, (some .int), [], 0)
def M_X8_needFirm : MT := (RX8, yX8_needFirm, cX8_needFirm, 1, none, [], 0)
def M_J8_hugeLength_7cf53 : MT := (RJ8, yJ8_hugeLength_7cf53, cJ8_hugeLength_7cf53, 3, (some .int), [], 0)
def M_J8_newLength_cabcc : MT := (RJ8, yJ8_newLength_cabcc, cJ8_newLength_cabcc, 4, (some .int), [], 0)
def M_J7_copyOf_6403c : MT := (RJ7, yJ7_copyOf_6403c, cJ7_copyOf_6403c, 4, (some (.array (.object "java/lang/Object"))), [], 0)
def M_J7_copyOf_1904c : MT := (RJ7, yJ7_copyOf_1904c, cJ7_copyOf_1904c, 2, (some (.array (.object "java/lang/Object"))), [], 0)
def M_Jx4a65c_grow_92f84 : MT := (RJx4a65c, yJx4a65c_grow_92f84, cJx4a65c_grow_92f84, 4, (some (.array (.object "java/lang/Object"))), [], 0)
def M_Jx4a65c_grow_d5877 : MT := (RJx4a65c, yJx4a65c_grow_d5877, cJx4a65c_grow_d5877, 1, (some (.array (.object "java/lang/Object"))), [], 0)
def M_Jx4a65c_add_72be8 : MT := (RJx4a65c, yJx4a65c_add_72be8, cJx4a65c_add_72be8, 4, none, [], 0)
def M_Jx4a65c_add_9ea2d : MT := (RJx4a65c, yJx4a65c_add_9ea2d, cJx4a65c_add_9ea2d, 2, (some .boolean), [], 0)
def M_X8_trip : MT := (RX8, yX8_trip, cX8_trip, 9, (some .int), [], 0)
def M_X8_tripOf : MT := (RX8, yX8_tripOf, cX8_tripOf, 2, (some (.object "Connectory$Trip")), [], 0)
def M_X8_isBooked : MT := (RX8, yX8_isBooked, cX8_isBooked, 3, (some .boolean), [], 0)
def M_X8_calls : MT := (RX8, yX8_calls, cX8_calls, 6, (some .int), [], 0)
def M_X8_runs : MT := (RX8, yX8_runs, cX8_runs, 6, (some .boolean), [], 0)
def M_X8_delay : MT := (RX8, yX8_delay, cX8_delay, 6, (some .int), [], 0)
def M_X8_note : MT := (RX8, yX8_note, cX8_note, 4, (some .int), [], 0)
def M_X8_prices : MT := (RX8, yX8_prices, cX8_prices, 5, none, [], 0)
def M_X8_needWay : MT := (RX8, yX8_needWay, cX8_needWay, 4, none, [], 0)
def M_X8_timeOrNone : MT := (RX8, yX8_timeOrNone, cX8_timeOrNone, 1, (some .int), [], 0)
def M_X8_arrival : MT := (RX8, yX8_arrival, cX8_arrival, 5, (some .int), [], 0)
def M_X8_arrivalAnew : MT := (RX8, yX8_arrivalAnew, cX8_arrivalAnew, 5, (some .int), [], 0)
def M_X8_front : MT := (RX8, yX8_front, cX8_front, 8, (some .int), [], 0)
def M_X8_ride : MT := (RX8, yX8_ride, cX8_ride, 9, (some .int), [], 0)
def M_X8_journey : MT := (RX8, yX8_journey, cX8_journey, 7, (some .double), [], 0)
def M_X8_best : MT := (RX8, yX8_best, cX8_best, 9, (some .int), [], 0)
def M_X8_freeSeats : MT := (RX8, yX8_freeSeats, cX8_freeSeats, 6, (some .int), [], 0)
def M_X8_hasSeats : MT := (RX8, yX8_hasSeats, cX8_hasSeats, 3, (some .boolean), [], 0)
def M_X8_book : MT := (RX8, yX8_book, cX8_book, 7, (some .int), [], 0)
def M_X8_bookingOf : MT := (RX8, yX8_bookingOf, cX8_bookingOf, 2, (some (.object "Connectory$Booking")), [], 0)
def M_X8_buy : MT := (RX8, yX8_buy, cX8_buy, 3, (some .int), [], 0)
def M_X8_right : MT := (RX8, yX8_right, cX8_right, 2, (some .int), [], 0)
def M_X8_claim : MT := (RX8, yX8_claim, cX8_claim, 4, (some .int), [], 0)
def M_X8_concerned : MT := (RX8, yX8_concerned, cX8_concerned, 7, (some .int), [], 0)
def M_X8_seats : MT := (RX8, yX8_seats, cX8_seats, 4, (some .int), [], 0)
def M_X8_pass : MT := (RX8, yX8_pass, cX8_pass, 5, (some .int), [], 0)
def M_X8_ofBooking : MT := (RX8, yX8_ofBooking, cX8_ofBooking, 4, (some .int), [], 0)
def M_X9_init : MT := (RX9, yX9_init, cX9_init, 1, none, [], 0)
def M_X9_thrown : MT := (RX9, yX9_thrown, cX9_thrown, 1, (some .int), [], 0)
def M_X9_fails : MT := (RX9, yX9_fails, cX9_fails, 2, (some .int), [], 0)
def M_X9_asks : MT := (RX9, yX9_asks, cX9_asks, 2, (some .boolean), [], 0)
def M_X9_in : MT := (RX9, yX9_in, cX9_in, 3, (some .boolean), [], 0)
def M_X9_isStop : MT := (RX9, yX9_isStop, cX9_isStop, 2, (some .boolean), [], 0)
def M_X9_isTrip : MT := (RX9, yX9_isTrip, cX9_isTrip, 2, (some .boolean), [], 0)
def M_X9_isFirm : MT := (RX9, yX9_isFirm, cX9_isFirm, 1, (some .boolean), [], 0)
def M_X9_isDay : MT := (RX9, yX9_isDay, cX9_isDay, 1, (some .boolean), [], 0)
def M_X9_isBooking : MT := (RX9, yX9_isBooking, cX9_isBooking, 2, (some .boolean), [], 0)
def M_X9_stop : MT := (RX9, yX9_stop, cX9_stop, 2, (some .int), [], 0)
def M_X9_footway : MT := (RX9, yX9_footway, cX9_footway, 5, (some .int), [], 0)
def M_X9_trip : MT := (RX9, yX9_trip, cX9_trip, 7, (some .int), [], 0)
def M_X9_calls : MT := (RX9, yX9_calls, cX9_calls, 8, (some .int), [], 0)
def M_X9_isRun : MT := (RX9, yX9_isRun, cX9_isRun, 4, (some .boolean), [], 0)
def M_X9_runs : MT := (RX9, yX9_runs, cX9_runs, 5, (some .boolean), [], 0)
def M_X9_delay : MT := (RX9, yX9_delay, cX9_delay, 5, (some .int), [], 0)
def M_X9_note : MT := (RX9, yX9_note, cX9_note, 3, (some .int), [], 0)
def M_X9_prices : MT := (RX9, yX9_prices, cX9_prices, 5, none, [], 0)
def M_X9_goes : MT := (RX9, yX9_goes, cX9_goes, 3, (some .boolean), [], 0)
def M_X9_departure : MT := (RX9, yX9_departure, cX9_departure, 4, (some .int), [], 0)
def M_X9_arrivalOf : MT := (RX9, yX9_arrivalOf, cX9_arrivalOf, 4, (some .int), [], 0)
def M_X9_isLooked : MT := (RX9, yX9_isLooked, cX9_isLooked, 3, (some .boolean), [], 0)
def M_X9_rides : MT := (RX9, yX9_rides, cX9_rides, 10, none, [], 0)
def M_X9_readies : MT := (RX9, yX9_readies, cX9_readies, 7, none, [], 0)
def M_X9_reaches : MT := (RX9, yX9_reaches, cX9_reaches, 7, none, [], 0)
def M_X9_timeBy : MT := (RX9, yX9_timeBy, cX9_timeBy, 7, (some .int), [], 0)
def M_X9_asksWay : MT := (RX9, yX9_asksWay, cX9_asksWay, 5, (some .boolean), [], 0)
def M_X9_arrival : MT := (RX9, yX9_arrival, cX9_arrival, 6, (some .int), [], 0)
def M_X9_arrivalAnew : MT := (RX9, yX9_arrivalAnew, cX9_arrivalAnew, 6, (some .int), [], 0)
def M_X9_front : MT := (RX9, yX9_front, cX9_front, 8, (some .int), [], 0)
def M_X9_isRide : MT := (RX9, yX9_isRide, cX9_isRide, 8, (some .boolean), [], 0)
def M_X9_findsRide : MT := (RX9, yX9_findsRide, cX9_findsRide, 9, none, [], 0)
def M_X9_aheadOf : MT := (RX9, yX9_aheadOf, cX9_aheadOf, 7, (some .int), [], 0)
def M_X9_finds : MT := (RX9, yX9_finds, cX9_finds, 8, (some .boolean), [], 0)
def M_X9_ride : MT := (RX9, yX9_ride, cX9_ride, 8, (some .int), [], 0)
def M_X9_chanceOf : MT := (RX9, yX9_chanceOf, cX9_chanceOf, 5, (some .double), [], 0)
def M_X9_chance : MT := (RX9, yX9_chance, cX9_chance, 5, (some .double), [], 0)
def M_X9_carbon : MT := (RX9, yX9_carbon, cX9_carbon, 7, (some .double), [], 0)
def M_X9_score : MT := (RX9, yX9_score, cX9_score, 1, (some .double), [], 0)
def M_X9_fareOf : MT := (RX9, yX9_fareOf, cX9_fareOf, 6, (some .int), [], 0)
def M_X9_journey : MT := (RX9, yX9_journey, cX9_journey, 6, (some .double), [], 0)
def M_X9_best : MT := (RX9, yX9_best, cX9_best, 8, (some .int), [], 0)
def M_X9_hasRide : MT := (RX9, yX9_hasRide, cX9_hasRide, 7, (some .boolean), [], 0)
def M_X9_free : MT := (RX9, yX9_free, cX9_free, 5, (some .int), [], 0)
def M_X9_book : MT := (RX9, yX9_book, cX9_book, 8, (some .int), [], 0)
def M_X9_buy : MT := (RX9, yX9_buy, cX9_buy, 2, (some .int), [], 0)
def M_X9_rightOf : MT := (RX9, yX9_rightOf, cX9_rightOf, 6, (some .int), [], 0)
def M_X9_right : MT := (RX9, yX9_right, cX9_right, 2, (some .int), [], 0)
def M_X9_claim : MT := (RX9, yX9_claim, cX9_claim, 3, (some .int), [], 0)
def M_X9_concerned : MT := (RX9, yX9_concerned, cX9_concerned, 5, (some .int), [], 0)
def M_X9_seats : MT := (RX9, yX9_seats, cX9_seats, 3, (some .int), [], 0)
def M_X9_pass : MT := (RX9, yX9_pass, cX9_pass, 4, (some .int), [], 0)
def M_X9_ofBooking : MT := (RX9, yX9_ofBooking, cX9_ofBooking, 3, (some .int), [], 0)
def M_J9_max_7cf53 : MT := (RJ9, yJ9_max_7cf53, cJ9_max_7cf53, 2, (some .int), [], 0)
def M_J9_min_7cf53 : MT := (RJ9, yJ9_min_7cf53, cJ9_min_7cf53, 2, (some .int), [], 0)
def M_L_stop : MT := (RL, yL_stop, cL_stop, 4, (some .int), [(0, 9, 12, 13), (0, 9, 15, 15)], 0)
def M_L_footway : MT := (RL, yL_footway, cL_footway, 6, (some .int), [(0, 12, 15, 21), (0, 12, 19, 13)], 0)
def M_L_trip : MT := (RL, yL_trip, cL_trip, 9, (some .int), [(0, 18, 21, 21), (0, 18, 25, 13), (0, 18, 29, 15)], 0)
def M_L_calls : MT := (RL, yL_calls, cL_calls, 7, (some .int), [(0, 14, 17, 21), (0, 14, 21, 13), (0, 14, 25, 15)], 0)
def M_L_runs : MT := (RL, yL_runs, cL_runs, 6, (some .int), [(0, 19, 22, 21), (0, 19, 26, 13)], 0)
def M_L_delay : MT := (RL, yL_delay, cL_delay, 6, (some .int), [(0, 12, 15, 21), (0, 12, 19, 13)], 0)
def M_L_note : MT := (RL, yL_note, cL_note, 5, (some .int), [(0, 10, 13, 21), (0, 10, 17, 13), (0, 10, 21, 15)], 0)
def M_L_prices : MT := (RL, yL_prices, cL_prices, 6, (some .int), [(0, 9, 12, 21), (0, 9, 16, 13)], 0)
def M_L_arrival : MT := (RL, yL_arrival, cL_arrival, 7, (some .int), [(0, 14, 17, 21), (0, 14, 21, 13)], 0)
def M_L_arrivalAnew : MT := (RL, yL_arrivalAnew, cL_arrivalAnew, 7, (some .int), [(0, 14, 17, 21), (0, 14, 21, 13)], 0)
def M_L_front : MT := (RL, yL_front, cL_front, 6, (some .int), [(0, 12, 15, 21), (0, 12, 19, 13)], 0)
def M_L_ride : MT := (RL, yL_ride, cL_ride, 9, (some .int), [(0, 18, 21, 21), (0, 18, 25, 13)], 0)
def M_L_journey : MT := (RL, yL_journey, cL_journey, 8, (some .int), [(0, 15, 18, 21), (0, 15, 22, 13)], 0)
def M_L_best : MT := (RL, yL_best, cL_best, 6, (some .int), [(0, 12, 15, 21), (0, 12, 19, 13)], 0)
def M_L_book : MT := (RL, yL_book, cL_book, 7, (some .int), [(0, 14, 17, 21), (0, 14, 21, 13), (0, 14, 25, 15)], 0)
def M_L_buy : MT := (RL, yL_buy, cL_buy, 4, (some .int), [(0, 9, 12, 21), (0, 9, 15, 15)], 0)
def M_L_right : MT := (RL, yL_right, cL_right, 4, (some .int), [(0, 9, 12, 21)], 0)
def M_L_claim : MT := (RL, yL_claim, cL_claim, 4, (some .int), [(0, 9, 12, 21), (0, 9, 15, 15)], 0)
def M_L_concerned : MT := (RL, yL_concerned, cL_concerned, 5, (some .int), [(0, 10, 13, 21), (0, 10, 17, 13)], 0)
def M_L_seats : MT := (RL, yL_seats, cL_seats, 5, (some .int), [(0, 10, 13, 21), (0, 10, 17, 13)], 0)
def M_L_pass : MT := (RL, yL_pass, cL_pass, 4, (some .int), [(0, 9, 12, 13)], 0)
def M_L_ofBooking : MT := (RL, yL_ofBooking, cL_ofBooking, 5, (some .int), [(0, 10, 13, 21), (0, 10, 17, 13)], 0)
def M_L_law : MT := (RL, yL_law, cL_law, 9, (some .boolean), [], 1)
theorem ok_X0_init (M : MT) (i : Nat) : CallOk M M_X0_init i 3 := ⟨rfl, by decide, List.mem_append_right _ (List.mem_of_getElem? (i := 893) (by decide +kernel)), List.mem_append_right _ (List.mem_of_getElem? (i := 25) (by decide +kernel)), by decide +kernel, by decide +kernel⟩
theorem ok_X0_isOpen (M : MT) (i : Nat) : CallOk M M_X0_isOpen i 0 := ⟨rfl, by decide, List.mem_append_right _ (List.mem_of_getElem? (i := 963) (by decide +kernel)), List.mem_append_right _ (List.mem_of_getElem? (i := 25) (by decide +kernel)), by decide +kernel, by decide +kernel⟩
theorem ok_X7_isThere (M : MT) (i : Nat) : CallOk M M_X7_isThere i 1 := ⟨rfl, by decide, List.mem_append_right _ (List.mem_of_getElem? (i := 516) (by decide +kernel)), List.mem_append_right _ (List.mem_of_getElem? (i := 17) (by decide +kernel)), by decide +kernel, by decide +kernel⟩
theorem ok_X8_at (M : MT) (i : Nat) : CallOk M M_X8_at i 2 := ⟨rfl, by decide, List.mem_append_right _ (List.mem_of_getElem? (i := 319) (by decide +kernel)), List.mem_append_right _ (List.mem_of_getElem? (i := 1) (by decide +kernel)), by decide +kernel, by decide +kernel⟩
theorem ok_X7_goes (M : MT) (i : Nat) : CallOk M M_X7_goes i 1 := ⟨rfl, by decide, List.mem_append_right _ (List.mem_of_getElem? (i := 593) (by decide +kernel)), List.mem_append_right _ (List.mem_of_getElem? (i := 17) (by decide +kernel)), by decide +kernel, by decide +kernel⟩
theorem ok_X7_leaves (M : MT) (i : Nat) : CallOk M M_X7_leaves i 2 := ⟨rfl, by decide, List.mem_append_right _ (List.mem_of_getElem? (i := 616) (by decide +kernel)), List.mem_append_right _ (List.mem_of_getElem? (i := 17) (by decide +kernel)), by decide +kernel, by decide +kernel⟩
theorem ok_X4_departs (M : MT) (i : Nat) : CallOk M M_X4_departs i 0 := ⟨rfl, by decide, List.mem_append_right _ (List.mem_of_getElem? (i := 766) (by decide +kernel)), List.mem_append_right _ (List.mem_of_getElem? (i := 23) (by decide +kernel)), by decide +kernel, by decide +kernel⟩
theorem ok_X7_reaches (M : MT) (i : Nat) : CallOk M M_X7_reaches i 2 := ⟨rfl, by decide, List.mem_append_right _ (List.mem_of_getElem? (i := 611) (by decide +kernel)), List.mem_append_right _ (List.mem_of_getElem? (i := 17) (by decide +kernel)), by decide +kernel, by decide +kernel⟩
theorem ok_X4_arrives (M : MT) (i : Nat) : CallOk M M_X4_arrives i 0 := ⟨rfl, by decide, List.mem_append_right _ (List.mem_of_getElem? (i := 812) (by decide +kernel)), List.mem_append_right _ (List.mem_of_getElem? (i := 23) (by decide +kernel)), by decide +kernel, by decide +kernel⟩
theorem ok_X2_isBroken (M : MT) (i : Nat) : CallOk M M_X2_isBroken i 0 := ⟨rfl, by decide, List.mem_append_right _ (List.mem_of_getElem? (i := 939) (by decide +kernel)), List.mem_append_right _ (List.mem_of_getElem? (i := 24) (by decide +kernel)), by decide +kernel, by decide +kernel⟩
theorem ok_X2_endNow (M : MT) (i : Nat) : CallOk M M_X2_endNow i 0 := ⟨rfl, by decide, List.mem_append_right _ (List.mem_of_getElem? (i := 944) (by decide +kernel)), List.mem_append_right _ (List.mem_of_getElem? (i := 24) (by decide +kernel)), by decide +kernel, by decide +kernel⟩
theorem ok_X0_amount (M : MT) (i : Nat) : CallOk M M_X0_amount i 0 := ⟨rfl, by decide, List.mem_append_right _ (List.mem_of_getElem? (i := 935) (by decide +kernel)), List.mem_append_right _ (List.mem_of_getElem? (i := 25) (by decide +kernel)), by decide +kernel, by decide +kernel⟩
theorem ok_X1_init (M : MT) (i : Nat) : CallOk M M_X1_init i 0 := ⟨rfl, by decide, List.mem_append_right _ (List.mem_of_getElem? (i := 145) (by decide +kernel)), List.mem_append_right _ (List.mem_of_getElem? (i := 9) (by decide +kernel)), by decide +kernel, by decide +kernel⟩
theorem ok_X8_put (M : MT) (i : Nat) : CallOk M M_X8_put i 3 := ⟨rfl, by decide, List.mem_append_right _ (List.mem_of_getElem? (i := 283) (by decide +kernel)), List.mem_append_right _ (List.mem_of_getElem? (i := 1) (by decide +kernel)), by decide +kernel, by decide +kernel⟩
theorem ok_X1_setPrices (M : MT) (i : Nat) : CallOk M M_X1_setPrices i 4 := ⟨rfl, by decide, List.mem_append_right _ (List.mem_of_getElem? (i := 548) (by decide +kernel)), List.mem_append_right _ (List.mem_of_getElem? (i := 9) (by decide +kernel)), by decide +kernel, by decide +kernel⟩
theorem ok_X1_ticket (M : MT) (i : Nat) : CallOk M M_X1_ticket i 2 := ⟨rfl, by decide, List.mem_append_right _ (List.mem_of_getElem? (i := 865) (by decide +kernel)), List.mem_append_right _ (List.mem_of_getElem? (i := 9) (by decide +kernel)), by decide +kernel, by decide +kernel⟩
theorem ok_J7_fill_53178 (M : MT) (i : Nat) : CallOk M M_J7_fill_53178 i 2 := ⟨rfl, by decide, List.mem_append_right _ (List.mem_of_getElem? (i := 69) (by decide +kernel)), List.mem_append_right _ (List.mem_of_getElem? (i := 6) (by decide +kernel)), by decide +kernel, by decide +kernel⟩
theorem ok_X4_length (M : MT) (i : Nat) : CallOk M M_X4_length i 0 := ⟨rfl, by decide, List.mem_append_right _ (List.mem_of_getElem? (i := 842) (by decide +kernel)), List.mem_append_right _ (List.mem_of_getElem? (i := 23) (by decide +kernel)), by decide +kernel, by decide +kernel⟩
theorem ok_X1_ticketsFrom (M : MT) (i : Nat) : CallOk M M_X1_ticketsFrom i 2 := ⟨rfl, by decide, List.mem_append_right _ (List.mem_of_getElem? (i := 859) (by decide +kernel)), List.mem_append_right _ (List.mem_of_getElem? (i := 9) (by decide +kernel)), by decide +kernel, by decide +kernel⟩
theorem ok_X1_fareOf (M : MT) (i : Nat) : CallOk M M_X1_fareOf i 1 := ⟨rfl, by decide, List.mem_append_right _ (List.mem_of_getElem? (i := 853) (by decide +kernel)), List.mem_append_right _ (List.mem_of_getElem? (i := 9) (by decide +kernel)), by decide +kernel, by decide +kernel⟩
theorem ok_X2_init (M : MT) (i : Nat) : CallOk M M_X2_init i 5 := ⟨rfl, by decide, List.mem_append_right _ (List.mem_of_getElem? (i := 776) (by decide +kernel)), List.mem_append_right _ (List.mem_of_getElem? (i := 24) (by decide +kernel)), by decide +kernel, by decide +kernel⟩
theorem ok_X2_rideAt (M : MT) (i : Nat) : CallOk M M_X2_rideAt i 1 := ⟨rfl, by decide, List.mem_append_right _ (List.mem_of_getElem? (i := 802) (by decide +kernel)), List.mem_append_right _ (List.mem_of_getElem? (i := 24) (by decide +kernel)), by decide +kernel, by decide +kernel⟩
theorem ok_X2_goesBy (M : MT) (i : Nat) : CallOk M M_X2_goesBy i 2 := ⟨rfl, by decide, List.mem_append_right _ (List.mem_of_getElem? (i := 499) (by decide +kernel)), List.mem_append_right _ (List.mem_of_getElem? (i := 24) (by decide +kernel)), by decide +kernel, by decide +kernel⟩
theorem ok_X7_chanceWithin (M : MT) (i : Nat) : CallOk M M_X7_chanceWithin i 1 := ⟨rfl, by decide, List.mem_append_right _ (List.mem_of_getElem? (i := 831) (by decide +kernel)), List.mem_append_right _ (List.mem_of_getElem? (i := 17) (by decide +kernel)), by decide +kernel, by decide +kernel⟩
theorem ok_X2_chance (M : MT) (i : Nat) : CallOk M M_X2_chance i 0 := ⟨rfl, by decide, List.mem_append_right _ (List.mem_of_getElem? (i := 825) (by decide +kernel)), List.mem_append_right _ (List.mem_of_getElem? (i := 24) (by decide +kernel)), by decide +kernel, by decide +kernel⟩
theorem ok_X2_carbon (M : MT) (i : Nat) : CallOk M M_X2_carbon i 0 := ⟨rfl, by decide, List.mem_append_right _ (List.mem_of_getElem? (i := 835) (by decide +kernel)), List.mem_append_right _ (List.mem_of_getElem? (i := 24) (by decide +kernel)), by decide +kernel, by decide +kernel⟩
theorem ok_X2_score (M : MT) (i : Nat) : CallOk M M_X2_score i 0 := ⟨rfl, by decide, List.mem_append_right _ (List.mem_of_getElem? (i := 846) (by decide +kernel)), List.mem_append_right _ (List.mem_of_getElem? (i := 24) (by decide +kernel)), by decide +kernel, by decide +kernel⟩
theorem ok_Jxa1e45_init_da8c8 (M : MT) (i : Nat) : CallOk M M_Jxa1e45_init_da8c8 i 0 := ⟨rfl, by decide, List.mem_append_right _ (List.mem_of_getElem? (i := 50) (by decide +kernel)), List.mem_append_right _ (List.mem_of_getElem? (i := 3) (by decide +kernel)), by decide +kernel, by decide +kernel⟩
theorem ok_Jxc12de_init_da8c8 (M : MT) (i : Nat) : CallOk M M_Jxc12de_init_da8c8 i 0 := ⟨rfl, by decide, List.mem_append_right _ (List.mem_of_getElem? (i := 47) (by decide +kernel)), List.mem_append_right _ (List.mem_of_getElem? (i := 4) (by decide +kernel)), by decide +kernel, by decide +kernel⟩
theorem ok_Jx4a65c_init_da8c8 (M : MT) (i : Nat) : CallOk M M_Jx4a65c_init_da8c8 i 0 := ⟨rfl, by decide, List.mem_append_right _ (List.mem_of_getElem? (i := 44) (by decide +kernel)), List.mem_append_right _ (List.mem_of_getElem? (i := 5) (by decide +kernel)), by decide +kernel, by decide +kernel⟩
theorem ok_X3_init (M : MT) (i : Nat) : CallOk M M_X3_init i 0 := ⟨rfl, by decide, List.mem_append_right _ (List.mem_of_getElem? (i := 38) (by decide +kernel)), List.mem_append_right _ (List.mem_of_getElem? (i := 2) (by decide +kernel)), by decide +kernel, by decide +kernel⟩
theorem ok_X3_addStop (M : MT) (i : Nat) : CallOk M M_X3_addStop i 1 := ⟨rfl, by decide, List.mem_append_right _ (List.mem_of_getElem? (i := 280) (by decide +kernel)), List.mem_append_right _ (List.mem_of_getElem? (i := 2) (by decide +kernel)), by decide +kernel, by decide +kernel⟩
theorem ok_X3_transferAt (M : MT) (i : Nat) : CallOk M M_X3_transferAt i 1 := ⟨rfl, by decide, List.mem_append_right _ (List.mem_of_getElem? (i := 636) (by decide +kernel)), List.mem_append_right _ (List.mem_of_getElem? (i := 2) (by decide +kernel)), by decide +kernel, by decide +kernel⟩
theorem ok_X3_walk (M : MT) (i : Nat) : CallOk M M_X3_walk i 2 := ⟨rfl, by decide, List.mem_append_right _ (List.mem_of_getElem? (i := 316) (by decide +kernel)), List.mem_append_right _ (List.mem_of_getElem? (i := 2) (by decide +kernel)), by decide +kernel, by decide +kernel⟩
theorem ok_X3_setWalk (M : MT) (i : Nat) : CallOk M M_X3_setWalk i 3 := ⟨rfl, by decide, List.mem_append_right _ (List.mem_of_getElem? (i := 323) (by decide +kernel)), List.mem_append_right _ (List.mem_of_getElem? (i := 2) (by decide +kernel)), by decide +kernel, by decide +kernel⟩
theorem ok_X4_init (M : MT) (i : Nat) : CallOk M M_X4_init i 5 := ⟨rfl, by decide, List.mem_append_right _ (List.mem_of_getElem? (i := 724) (by decide +kernel)), List.mem_append_right _ (List.mem_of_getElem? (i := 23) (by decide +kernel)), by decide +kernel, by decide +kernel⟩
theorem ok_X7_stopAt (M : MT) (i : Nat) : CallOk M M_X7_stopAt i 1 := ⟨rfl, by decide, List.mem_append_right _ (List.mem_of_getElem? (i := 602) (by decide +kernel)), List.mem_append_right _ (List.mem_of_getElem? (i := 17) (by decide +kernel)), by decide +kernel, by decide +kernel⟩
theorem ok_X4_boardsAt (M : MT) (i : Nat) : CallOk M M_X4_boardsAt i 0 := ⟨rfl, by decide, List.mem_append_right _ (List.mem_of_getElem? (i := 761) (by decide +kernel)), List.mem_append_right _ (List.mem_of_getElem? (i := 23) (by decide +kernel)), by decide +kernel, by decide +kernel⟩
theorem ok_X4_tell (M : MT) (i : Nat) : CallOk M M_X4_tell i 1 := ⟨rfl, by decide, List.mem_append_right _ (List.mem_of_getElem? (i := 806) (by decide +kernel)), List.mem_append_right _ (List.mem_of_getElem? (i := 23) (by decide +kernel)), by decide +kernel, by decide +kernel⟩
theorem ok_X5_init (M : MT) (i : Nat) : CallOk M M_X5_init i 1 := ⟨rfl, by decide, List.mem_append_right _ (List.mem_of_getElem? (i := 92) (by decide +kernel)), List.mem_append_right _ (List.mem_of_getElem? (i := 7) (by decide +kernel)), by decide +kernel, by decide +kernel⟩
theorem ok_X8_firstDayFor (M : MT) (i : Nat) : CallOk M M_X8_firstDayFor i 1 := ⟨rfl, by decide, List.mem_append_right _ (List.mem_of_getElem? (i := 569) (by decide +kernel)), List.mem_append_right _ (List.mem_of_getElem? (i := 1) (by decide +kernel)), by decide +kernel, by decide +kernel⟩
theorem ok_X8_lastDayFor (M : MT) (i : Nat) : CallOk M M_X8_lastDayFor i 1 := ⟨rfl, by decide, List.mem_append_right _ (List.mem_of_getElem? (i := 573) (by decide +kernel)), List.mem_append_right _ (List.mem_of_getElem? (i := 1) (by decide +kernel)), by decide +kernel, by decide +kernel⟩
theorem ok_X5_setOut (M : MT) (i : Nat) : CallOk M M_X5_setOut i 0 := ⟨rfl, by decide, List.mem_append_right _ (List.mem_of_getElem? (i := 580) (by decide +kernel)), List.mem_append_right _ (List.mem_of_getElem? (i := 7) (by decide +kernel)), by decide +kernel, by decide +kernel⟩
theorem ok_Jx4a65c_size_8abf5 (M : MT) (i : Nat) : CallOk M M_Jx4a65c_size_8abf5 i 0 := ⟨rfl, by decide, List.mem_append_right _ (List.mem_of_getElem? (i := 338) (by decide +kernel)), List.mem_append_right _ (List.mem_of_getElem? (i := 5) (by decide +kernel)), by decide +kernel, by decide +kernel⟩
theorem ok_J3_checkIndex_8e157 (M : MT) (i : Nat) : CallOk M M_J3_checkIndex_8e157 i 3 := ⟨rfl, by decide, List.mem_append_right _ (List.mem_of_getElem? (i := 486) (by decide +kernel)), List.mem_append_right _ (List.mem_of_getElem? (i := 22) (by decide +kernel)), by decide +kernel, by decide +kernel⟩
theorem ok_J15_checkIndex_7cf53 (M : MT) (i : Nat) : CallOk M M_J15_checkIndex_7cf53 i 2 := ⟨rfl, by decide, List.mem_append_right _ (List.mem_of_getElem? (i := 483) (by decide +kernel)), List.mem_append_right _ (List.mem_of_getElem? (i := 21) (by decide +kernel)), by decide +kernel, by decide +kernel⟩
theorem ok_Jx4a65c_elementData_915e3 (M : MT) (i : Nat) : CallOk M M_Jx4a65c_elementData_915e3 i 1 := ⟨rfl, by decide, List.mem_append_right _ (List.mem_of_getElem? (i := 490) (by decide +kernel)), List.mem_append_right _ (List.mem_of_getElem? (i := 5) (by decide +kernel)), by decide +kernel, by decide +kernel⟩
theorem ok_Jx4a65c_get_915e3 (M : MT) (i : Nat) : CallOk M M_Jx4a65c_get_915e3 i 1 := ⟨rfl, by decide, List.mem_append_right _ (List.mem_of_getElem? (i := 480) (by decide +kernel)), List.mem_append_right _ (List.mem_of_getElem? (i := 5) (by decide +kernel)), by decide +kernel, by decide +kernel⟩
theorem ok_X5_arrivalAt (M : MT) (i : Nat) : CallOk M M_X5_arrivalAt i 2 := ⟨rfl, by decide, List.mem_append_right _ (List.mem_of_getElem? (i := 606) (by decide +kernel)), List.mem_append_right _ (List.mem_of_getElem? (i := 7) (by decide +kernel)), by decide +kernel, by decide +kernel⟩
theorem ok_X5_readyAt (M : MT) (i : Nat) : CallOk M M_X5_readyAt i 2 := ⟨rfl, by decide, List.mem_append_right _ (List.mem_of_getElem? (i := 620) (by decide +kernel)), List.mem_append_right _ (List.mem_of_getElem? (i := 7) (by decide +kernel)), by decide +kernel, by decide +kernel⟩
theorem ok_X5_rideRun (M : MT) (i : Nat) : CallOk M M_X5_rideRun i 3 := ⟨rfl, by decide, List.mem_append_right _ (List.mem_of_getElem? (i := 598) (by decide +kernel)), List.mem_append_right _ (List.mem_of_getElem? (i := 7) (by decide +kernel)), by decide +kernel, by decide +kernel⟩
theorem ok_X5_rideOn (M : MT) (i : Nat) : CallOk M M_X5_rideOn i 1 := ⟨rfl, by decide, List.mem_append_right _ (List.mem_of_getElem? (i := 586) (by decide +kernel)), List.mem_append_right _ (List.mem_of_getElem? (i := 7) (by decide +kernel)), by decide +kernel, by decide +kernel⟩
theorem ok_X5_changing (M : MT) (i : Nat) : CallOk M M_X5_changing i 2 := ⟨rfl, by decide, List.mem_append_right _ (List.mem_of_getElem? (i := 632) (by decide +kernel)), List.mem_append_right _ (List.mem_of_getElem? (i := 7) (by decide +kernel)), by decide +kernel, by decide +kernel⟩
theorem ok_X5_readyFrom (M : MT) (i : Nat) : CallOk M M_X5_readyFrom i 3 := ⟨rfl, by decide, List.mem_append_right _ (List.mem_of_getElem? (i := 628) (by decide +kernel)), List.mem_append_right _ (List.mem_of_getElem? (i := 7) (by decide +kernel)), by decide +kernel, by decide +kernel⟩
theorem ok_X5_changeAll (M : MT) (i : Nat) : CallOk M M_X5_changeAll i 1 := ⟨rfl, by decide, List.mem_append_right _ (List.mem_of_getElem? (i := 624) (by decide +kernel)), List.mem_append_right _ (List.mem_of_getElem? (i := 7) (by decide +kernel)), by decide +kernel, by decide +kernel⟩
theorem ok_X5_seek (M : MT) (i : Nat) : CallOk M M_X5_seek i 4 := ⟨rfl, by decide, List.mem_append_right _ (List.mem_of_getElem? (i := 566) (by decide +kernel)), List.mem_append_right _ (List.mem_of_getElem? (i := 7) (by decide +kernel)), by decide +kernel, by decide +kernel⟩
theorem ok_X5_endFrom (M : MT) (i : Nat) : CallOk M M_X5_endFrom i 2 := ⟨rfl, by decide, List.mem_append_right _ (List.mem_of_getElem? (i := 644) (by decide +kernel)), List.mem_append_right _ (List.mem_of_getElem? (i := 7) (by decide +kernel)), by decide +kernel, by decide +kernel⟩
theorem ok_X5_end (M : MT) (i : Nat) : CallOk M M_X5_end i 1 := ⟨rfl, by decide, List.mem_append_right _ (List.mem_of_getElem? (i := 640) (by decide +kernel)), List.mem_append_right _ (List.mem_of_getElem? (i := 7) (by decide +kernel)), by decide +kernel, by decide +kernel⟩
theorem ok_X5_lastStop (M : MT) (i : Nat) : CallOk M M_X5_lastStop i 2 := ⟨rfl, by decide, List.mem_append_right _ (List.mem_of_getElem? (i := 707) (by decide +kernel)), List.mem_append_right _ (List.mem_of_getElem? (i := 7) (by decide +kernel)), by decide +kernel, by decide +kernel⟩
theorem ok_X5_leavingPlace (M : MT) (i : Nat) : CallOk M M_X5_leavingPlace i 4 := ⟨rfl, by decide, List.mem_append_right _ (List.mem_of_getElem? (i := 715) (by decide +kernel)), List.mem_append_right _ (List.mem_of_getElem? (i := 7) (by decide +kernel)), by decide +kernel, by decide +kernel⟩
theorem ok_X5_boardingPlace (M : MT) (i : Nat) : CallOk M M_X5_boardingPlace i 4 := ⟨rfl, by decide, List.mem_append_right _ (List.mem_of_getElem? (i := 719) (by decide +kernel)), List.mem_append_right _ (List.mem_of_getElem? (i := 7) (by decide +kernel)), by decide +kernel, by decide +kernel⟩
theorem ok_X5_rideTo (M : MT) (i : Nat) : CallOk M M_X5_rideTo i 3 := ⟨rfl, by decide, List.mem_append_right _ (List.mem_of_getElem? (i := 711) (by decide +kernel)), List.mem_append_right _ (List.mem_of_getElem? (i := 7) (by decide +kernel)), by decide +kernel, by decide +kernel⟩
theorem ok_X5_stopAhead (M : MT) (i : Nat) : CallOk M M_X5_stopAhead i 2 := ⟨rfl, by decide, List.mem_append_right _ (List.mem_of_getElem? (i := 757) (by decide +kernel)), List.mem_append_right _ (List.mem_of_getElem? (i := 7) (by decide +kernel)), by decide +kernel, by decide +kernel⟩
theorem ok_X5_minutesAhead (M : MT) (i : Nat) : CallOk M M_X5_minutesAhead i 3 := ⟨rfl, by decide, List.mem_append_right _ (List.mem_of_getElem? (i := 771) (by decide +kernel)), List.mem_append_right _ (List.mem_of_getElem? (i := 7) (by decide +kernel)), by decide +kernel, by decide +kernel⟩
theorem ok_X5_tell (M : MT) (i : Nat) : CallOk M M_X5_tell i 1 := ⟨rfl, by decide, List.mem_append_right _ (List.mem_of_getElem? (i := 702) (by decide +kernel)), List.mem_append_right _ (List.mem_of_getElem? (i := 7) (by decide +kernel)), by decide +kernel, by decide +kernel⟩
theorem ok_X6_init (M : MT) (i : Nat) : CallOk M M_X6_init i 1 := ⟨rfl, by decide, List.mem_append_right _ (List.mem_of_getElem? (i := 123) (by decide +kernel)), List.mem_append_right _ (List.mem_of_getElem? (i := 8) (by decide +kernel)), by decide +kernel, by decide +kernel⟩
theorem ok_X6_goOn (M : MT) (i : Nat) : CallOk M M_X6_goOn i 4 := ⟨rfl, by decide, List.mem_append_right _ (List.mem_of_getElem? (i := 666) (by decide +kernel)), List.mem_append_right _ (List.mem_of_getElem? (i := 8) (by decide +kernel)), by decide +kernel, by decide +kernel⟩
theorem ok_X6_leaveAt (M : MT) (i : Nat) : CallOk M M_X6_leaveAt i 3 := ⟨rfl, by decide, List.mem_append_right _ (List.mem_of_getElem? (i := 681) (by decide +kernel)), List.mem_append_right _ (List.mem_of_getElem? (i := 8) (by decide +kernel)), by decide +kernel, by decide +kernel⟩
theorem ok_X6_tryRun (M : MT) (i : Nat) : CallOk M M_X6_tryRun i 6 := ⟨rfl, by decide, List.mem_append_right _ (List.mem_of_getElem? (i := 676) (by decide +kernel)), List.mem_append_right _ (List.mem_of_getElem? (i := 8) (by decide +kernel)), by decide +kernel, by decide +kernel⟩
theorem ok_X6_tryAll (M : MT) (i : Nat) : CallOk M M_X6_tryAll i 4 := ⟨rfl, by decide, List.mem_append_right _ (List.mem_of_getElem? (i := 659) (by decide +kernel)), List.mem_append_right _ (List.mem_of_getElem? (i := 8) (by decide +kernel)), by decide +kernel, by decide +kernel⟩
theorem ok_X7_init (M : MT) (i : Nat) : CallOk M M_X7_init i 4 := ⟨rfl, by decide, List.mem_append_right _ (List.mem_of_getElem? (i := 344) (by decide +kernel)), List.mem_append_right _ (List.mem_of_getElem? (i := 17) (by decide +kernel)), by decide +kernel, by decide +kernel⟩
theorem ok_X7_setWeek (M : MT) (i : Nat) : CallOk M M_X7_setWeek i 1 := ⟨rfl, by decide, List.mem_append_right _ (List.mem_of_getElem? (i := 398) (by decide +kernel)), List.mem_append_right _ (List.mem_of_getElem? (i := 17) (by decide +kernel)), by decide +kernel, by decide +kernel⟩
theorem ok_X7_begin (M : MT) (i : Nat) : CallOk M M_X7_begin i 2 := ⟨rfl, by decide, List.mem_append_right _ (List.mem_of_getElem? (i := 402) (by decide +kernel)), List.mem_append_right _ (List.mem_of_getElem? (i := 17) (by decide +kernel)), by decide +kernel, by decide +kernel⟩
theorem ok_X7_goOn (M : MT) (i : Nat) : CallOk M M_X7_goOn i 3 := ⟨rfl, by decide, List.mem_append_right _ (List.mem_of_getElem? (i := 504) (by decide +kernel)), List.mem_append_right _ (List.mem_of_getElem? (i := 17) (by decide +kernel)), by decide +kernel, by decide +kernel⟩
theorem ok_X7_setThere (M : MT) (i : Nat) : CallOk M M_X7_setThere i 2 := ⟨rfl, by decide, List.mem_append_right _ (List.mem_of_getElem? (i := 520) (by decide +kernel)), List.mem_append_right _ (List.mem_of_getElem? (i := 17) (by decide +kernel)), by decide +kernel, by decide +kernel⟩
theorem ok_X8_init (M : MT) (i : Nat) : CallOk M M_X8_init i 0 := ⟨rfl, by decide, List.mem_append_right _ (List.mem_of_getElem? (i := 30) (by decide +kernel)), List.mem_append_right _ (List.mem_of_getElem? (i := 1) (by decide +kernel)), by decide +kernel, by decide +kernel⟩
theorem ok_X8_needRange (M : MT) (i : Nat) : CallOk M M_X8_needRange i 3 := ⟨rfl, by decide, List.mem_append_right _ (List.mem_of_getElem? (i := 192) (by decide +kernel)), List.mem_append_right _ (List.mem_of_getElem? (i := 1) (by decide +kernel)), by decide +kernel, by decide +kernel⟩
theorem ok_X8_stop (M : MT) (i : Nat) : CallOk M M_X8_stop i 1 := ⟨rfl, by decide, List.mem_append_right _ (List.mem_of_getElem? (i := 189) (by decide +kernel)), List.mem_append_right _ (List.mem_of_getElem? (i := 1) (by decide +kernel)), by decide +kernel, by decide +kernel⟩
theorem ok_X8_needStop (M : MT) (i : Nat) : CallOk M M_X8_needStop i 1 := ⟨rfl, by decide, List.mem_append_right _ (List.mem_of_getElem? (i := 295) (by decide +kernel)), List.mem_append_right _ (List.mem_of_getElem? (i := 1) (by decide +kernel)), by decide +kernel, by decide +kernel⟩
theorem ok_X8_footway (M : MT) (i : Nat) : CallOk M M_X8_footway i 3 := ⟨rfl, by decide, List.mem_append_right _ (List.mem_of_getElem? (i := 291) (by decide +kernel)), List.mem_append_right _ (List.mem_of_getElem? (i := 1) (by decide +kernel)), by decide +kernel, by decide +kernel⟩
theorem ok_X8_needFirm (M : MT) (i : Nat) : CallOk M M_X8_needFirm i 1 := ⟨rfl, by decide, List.mem_append_right _ (List.mem_of_getElem? (i := 333) (by decide +kernel)), List.mem_append_right _ (List.mem_of_getElem? (i := 1) (by decide +kernel)), by decide +kernel, by decide +kernel⟩
theorem ok_J8_hugeLength_7cf53 (M : MT) (i : Nat) : CallOk M M_J8_hugeLength_7cf53 i 2 := ⟨rfl, by decide, List.mem_append_right _ (List.mem_of_getElem? (i := 429) (by decide +kernel)), List.mem_append_right _ (List.mem_of_getElem? (i := 18) (by decide +kernel)), by decide +kernel, by decide +kernel⟩
theorem ok_J8_newLength_cabcc (M : MT) (i : Nat) : CallOk M M_J8_newLength_cabcc i 3 := ⟨rfl, by decide, List.mem_append_right _ (List.mem_of_getElem? (i := 422) (by decide +kernel)), List.mem_append_right _ (List.mem_of_getElem? (i := 18) (by decide +kernel)), by decide +kernel, by decide +kernel⟩
theorem ok_J7_copyOf_6403c (M : MT) (i : Nat) : CallOk M M_J7_copyOf_6403c i 3 := ⟨rfl, by decide, List.mem_append_right _ (List.mem_of_getElem? (i := 453) (by decide +kernel)), List.mem_append_right _ (List.mem_of_getElem? (i := 6) (by decide +kernel)), by decide +kernel, by decide +kernel⟩
theorem ok_J7_copyOf_1904c (M : MT) (i : Nat) : CallOk M M_J7_copyOf_1904c i 2 := ⟨rfl, by decide, List.mem_append_right _ (List.mem_of_getElem? (i := 432) (by decide +kernel)), List.mem_append_right _ (List.mem_of_getElem? (i := 6) (by decide +kernel)), by decide +kernel, by decide +kernel⟩
theorem ok_Jx4a65c_grow_92f84 (M : MT) (i : Nat) : CallOk M M_Jx4a65c_grow_92f84 i 1 := ⟨rfl, by decide, List.mem_append_right _ (List.mem_of_getElem? (i := 419) (by decide +kernel)), List.mem_append_right _ (List.mem_of_getElem? (i := 5) (by decide +kernel)), by decide +kernel, by decide +kernel⟩
theorem ok_Jx4a65c_grow_d5877 (M : MT) (i : Nat) : CallOk M M_Jx4a65c_grow_d5877 i 0 := ⟨rfl, by decide, List.mem_append_right _ (List.mem_of_getElem? (i := 415) (by decide +kernel)), List.mem_append_right _ (List.mem_of_getElem? (i := 5) (by decide +kernel)), by decide +kernel, by decide +kernel⟩
theorem ok_Jx4a65c_add_72be8 (M : MT) (i : Nat) : CallOk M M_Jx4a65c_add_72be8 i 3 := ⟨rfl, by decide, List.mem_append_right _ (List.mem_of_getElem? (i := 411) (by decide +kernel)), List.mem_append_right _ (List.mem_of_getElem? (i := 5) (by decide +kernel)), by decide +kernel, by decide +kernel⟩
theorem ok_Jx4a65c_add_9ea2d (M : MT) (i : Nat) : CallOk M M_Jx4a65c_add_9ea2d i 1 := ⟨rfl, by decide, List.mem_append_right _ (List.mem_of_getElem? (i := 407) (by decide +kernel)), List.mem_append_right _ (List.mem_of_getElem? (i := 5) (by decide +kernel)), by decide +kernel, by decide +kernel⟩
theorem ok_X8_trip (M : MT) (i : Nat) : CallOk M M_X8_trip i 6 := ⟨rfl, by decide, List.mem_append_right _ (List.mem_of_getElem? (i := 330) (by decide +kernel)), List.mem_append_right _ (List.mem_of_getElem? (i := 1) (by decide +kernel)), by decide +kernel, by decide +kernel⟩
theorem ok_X8_tripOf (M : MT) (i : Nat) : CallOk M M_X8_tripOf i 1 := ⟨rfl, by decide, List.mem_append_right _ (List.mem_of_getElem? (i := 475) (by decide +kernel)), List.mem_append_right _ (List.mem_of_getElem? (i := 1) (by decide +kernel)), by decide +kernel, by decide +kernel⟩
theorem ok_X8_isBooked (M : MT) (i : Nat) : CallOk M M_X8_isBooked i 1 := ⟨rfl, by decide, List.mem_append_right _ (List.mem_of_getElem? (i := 494) (by decide +kernel)), List.mem_append_right _ (List.mem_of_getElem? (i := 1) (by decide +kernel)), by decide +kernel, by decide +kernel⟩
theorem ok_X8_calls (M : MT) (i : Nat) : CallOk M M_X8_calls i 4 := ⟨rfl, by decide, List.mem_append_right _ (List.mem_of_getElem? (i := 471) (by decide +kernel)), List.mem_append_right _ (List.mem_of_getElem? (i := 1) (by decide +kernel)), by decide +kernel, by decide +kernel⟩
theorem ok_X8_runs (M : MT) (i : Nat) : CallOk M M_X8_runs i 3 := ⟨rfl, by decide, List.mem_append_right _ (List.mem_of_getElem? (i := 512) (by decide +kernel)), List.mem_append_right _ (List.mem_of_getElem? (i := 1) (by decide +kernel)), by decide +kernel, by decide +kernel⟩
theorem ok_X8_delay (M : MT) (i : Nat) : CallOk M M_X8_delay i 3 := ⟨rfl, by decide, List.mem_append_right _ (List.mem_of_getElem? (i := 527) (by decide +kernel)), List.mem_append_right _ (List.mem_of_getElem? (i := 1) (by decide +kernel)), by decide +kernel, by decide +kernel⟩
theorem ok_X8_note (M : MT) (i : Nat) : CallOk M M_X8_note i 2 := ⟨rfl, by decide, List.mem_append_right _ (List.mem_of_getElem? (i := 536) (by decide +kernel)), List.mem_append_right _ (List.mem_of_getElem? (i := 1) (by decide +kernel)), by decide +kernel, by decide +kernel⟩
theorem ok_X8_prices (M : MT) (i : Nat) : CallOk M M_X8_prices i 4 := ⟨rfl, by decide, List.mem_append_right _ (List.mem_of_getElem? (i := 544) (by decide +kernel)), List.mem_append_right _ (List.mem_of_getElem? (i := 1) (by decide +kernel)), by decide +kernel, by decide +kernel⟩
theorem ok_X8_needWay (M : MT) (i : Nat) : CallOk M M_X8_needWay i 3 := ⟨rfl, by decide, List.mem_append_right _ (List.mem_of_getElem? (i := 560) (by decide +kernel)), List.mem_append_right _ (List.mem_of_getElem? (i := 1) (by decide +kernel)), by decide +kernel, by decide +kernel⟩
theorem ok_X8_timeOrNone (M : MT) (i : Nat) : CallOk M M_X8_timeOrNone i 1 := ⟨rfl, by decide, List.mem_append_right _ (List.mem_of_getElem? (i := 647) (by decide +kernel)), List.mem_append_right _ (List.mem_of_getElem? (i := 1) (by decide +kernel)), by decide +kernel, by decide +kernel⟩
theorem ok_X8_arrival (M : MT) (i : Nat) : CallOk M M_X8_arrival i 4 := ⟨rfl, by decide, List.mem_append_right _ (List.mem_of_getElem? (i := 556) (by decide +kernel)), List.mem_append_right _ (List.mem_of_getElem? (i := 1) (by decide +kernel)), by decide +kernel, by decide +kernel⟩
theorem ok_X8_arrivalAnew (M : MT) (i : Nat) : CallOk M M_X8_arrivalAnew i 4 := ⟨rfl, by decide, List.mem_append_right _ (List.mem_of_getElem? (i := 655) (by decide +kernel)), List.mem_append_right _ (List.mem_of_getElem? (i := 1) (by decide +kernel)), by decide +kernel, by decide +kernel⟩
theorem ok_X8_front (M : MT) (i : Nat) : CallOk M M_X8_front i 3 := ⟨rfl, by decide, List.mem_append_right _ (List.mem_of_getElem? (i := 691) (by decide +kernel)), List.mem_append_right _ (List.mem_of_getElem? (i := 1) (by decide +kernel)), by decide +kernel, by decide +kernel⟩
theorem ok_X8_ride (M : MT) (i : Nat) : CallOk M M_X8_ride i 6 := ⟨rfl, by decide, List.mem_append_right _ (List.mem_of_getElem? (i := 698) (by decide +kernel)), List.mem_append_right _ (List.mem_of_getElem? (i := 1) (by decide +kernel)), by decide +kernel, by decide +kernel⟩
theorem ok_X8_journey (M : MT) (i : Nat) : CallOk M M_X8_journey i 5 := ⟨rfl, by decide, List.mem_append_right _ (List.mem_of_getElem? (i := 820) (by decide +kernel)), List.mem_append_right _ (List.mem_of_getElem? (i := 1) (by decide +kernel)), by decide +kernel, by decide +kernel⟩
theorem ok_X8_best (M : MT) (i : Nat) : CallOk M M_X8_best i 3 := ⟨rfl, by decide, List.mem_append_right _ (List.mem_of_getElem? (i := 873) (by decide +kernel)), List.mem_append_right _ (List.mem_of_getElem? (i := 1) (by decide +kernel)), by decide +kernel, by decide +kernel⟩
theorem ok_X8_freeSeats (M : MT) (i : Nat) : CallOk M M_X8_freeSeats i 2 := ⟨rfl, by decide, List.mem_append_right _ (List.mem_of_getElem? (i := 888) (by decide +kernel)), List.mem_append_right _ (List.mem_of_getElem? (i := 1) (by decide +kernel)), by decide +kernel, by decide +kernel⟩
theorem ok_X8_hasSeats (M : MT) (i : Nat) : CallOk M M_X8_hasSeats i 1 := ⟨rfl, by decide, List.mem_append_right _ (List.mem_of_getElem? (i := 884) (by decide +kernel)), List.mem_append_right _ (List.mem_of_getElem? (i := 1) (by decide +kernel)), by decide +kernel, by decide +kernel⟩
theorem ok_X8_book (M : MT) (i : Nat) : CallOk M M_X8_book i 4 := ⟨rfl, by decide, List.mem_append_right _ (List.mem_of_getElem? (i := 880) (by decide +kernel)), List.mem_append_right _ (List.mem_of_getElem? (i := 1) (by decide +kernel)), by decide +kernel, by decide +kernel⟩
theorem ok_X8_bookingOf (M : MT) (i : Nat) : CallOk M M_X8_bookingOf i 1 := ⟨rfl, by decide, List.mem_append_right _ (List.mem_of_getElem? (i := 922) (by decide +kernel)), List.mem_append_right _ (List.mem_of_getElem? (i := 1) (by decide +kernel)), by decide +kernel, by decide +kernel⟩
theorem ok_X8_buy (M : MT) (i : Nat) : CallOk M M_X8_buy i 1 := ⟨rfl, by decide, List.mem_append_right _ (List.mem_of_getElem? (i := 918) (by decide +kernel)), List.mem_append_right _ (List.mem_of_getElem? (i := 1) (by decide +kernel)), by decide +kernel, by decide +kernel⟩
theorem ok_X8_right (M : MT) (i : Nat) : CallOk M M_X8_right i 1 := ⟨rfl, by decide, List.mem_append_right _ (List.mem_of_getElem? (i := 931) (by decide +kernel)), List.mem_append_right _ (List.mem_of_getElem? (i := 1) (by decide +kernel)), by decide +kernel, by decide +kernel⟩
theorem ok_X8_claim (M : MT) (i : Nat) : CallOk M M_X8_claim i 1 := ⟨rfl, by decide, List.mem_append_right _ (List.mem_of_getElem? (i := 951) (by decide +kernel)), List.mem_append_right _ (List.mem_of_getElem? (i := 1) (by decide +kernel)), by decide +kernel, by decide +kernel⟩
theorem ok_X8_concerned (M : MT) (i : Nat) : CallOk M M_X8_concerned i 2 := ⟨rfl, by decide, List.mem_append_right _ (List.mem_of_getElem? (i := 959) (by decide +kernel)), List.mem_append_right _ (List.mem_of_getElem? (i := 1) (by decide +kernel)), by decide +kernel, by decide +kernel⟩
theorem ok_X8_seats (M : MT) (i : Nat) : CallOk M M_X8_seats i 2 := ⟨rfl, by decide, List.mem_append_right _ (List.mem_of_getElem? (i := 970) (by decide +kernel)), List.mem_append_right _ (List.mem_of_getElem? (i := 1) (by decide +kernel)), by decide +kernel, by decide +kernel⟩
theorem ok_X8_pass (M : MT) (i : Nat) : CallOk M M_X8_pass i 1 := ⟨rfl, by decide, List.mem_append_right _ (List.mem_of_getElem? (i := 977) (by decide +kernel)), List.mem_append_right _ (List.mem_of_getElem? (i := 1) (by decide +kernel)), by decide +kernel, by decide +kernel⟩
theorem ok_X8_ofBooking (M : MT) (i : Nat) : CallOk M M_X8_ofBooking i 2 := ⟨rfl, by decide, List.mem_append_right _ (List.mem_of_getElem? (i := 984) (by decide +kernel)), List.mem_append_right _ (List.mem_of_getElem? (i := 1) (by decide +kernel)), by decide +kernel, by decide +kernel⟩
theorem ok_X9_init (M : MT) (i : Nat) : CallOk M M_X9_init i 0 := ⟨rfl, by decide, List.mem_append_right _ (List.mem_of_getElem? (i := 989) (by decide +kernel)), List.mem_append_right _ (List.mem_of_getElem? (i := 10) (by decide +kernel)), by decide +kernel, by decide +kernel⟩
theorem ok_X9_thrown (M : MT) (i : Nat) : CallOk M M_X9_thrown i 0 := ⟨rfl, by decide, List.mem_append_right _ (List.mem_of_getElem? (i := 1127) (by decide +kernel)), List.mem_append_right _ (List.mem_of_getElem? (i := 10) (by decide +kernel)), by decide +kernel, by decide +kernel⟩
theorem ok_X9_fails (M : MT) (i : Nat) : CallOk M M_X9_fails i 1 := ⟨rfl, by decide, List.mem_append_right _ (List.mem_of_getElem? (i := 1142) (by decide +kernel)), List.mem_append_right _ (List.mem_of_getElem? (i := 10) (by decide +kernel)), by decide +kernel, by decide +kernel⟩
theorem ok_X9_asks (M : MT) (i : Nat) : CallOk M M_X9_asks i 1 := ⟨rfl, by decide, List.mem_append_right _ (List.mem_of_getElem? (i := 1138) (by decide +kernel)), List.mem_append_right _ (List.mem_of_getElem? (i := 10) (by decide +kernel)), by decide +kernel, by decide +kernel⟩
theorem ok_X9_in (M : MT) (i : Nat) : CallOk M M_X9_in i 3 := ⟨rfl, by decide, List.mem_append_right _ (List.mem_of_getElem? (i := 1134) (by decide +kernel)), List.mem_append_right _ (List.mem_of_getElem? (i := 10) (by decide +kernel)), by decide +kernel, by decide +kernel⟩
theorem ok_X9_isStop (M : MT) (i : Nat) : CallOk M M_X9_isStop i 1 := ⟨rfl, by decide, List.mem_append_right _ (List.mem_of_getElem? (i := 1150) (by decide +kernel)), List.mem_append_right _ (List.mem_of_getElem? (i := 10) (by decide +kernel)), by decide +kernel, by decide +kernel⟩
theorem ok_X9_isTrip (M : MT) (i : Nat) : CallOk M M_X9_isTrip i 1 := ⟨rfl, by decide, List.mem_append_right _ (List.mem_of_getElem? (i := 1165) (by decide +kernel)), List.mem_append_right _ (List.mem_of_getElem? (i := 10) (by decide +kernel)), by decide +kernel, by decide +kernel⟩
theorem ok_X9_isFirm (M : MT) (i : Nat) : CallOk M M_X9_isFirm i 1 := ⟨rfl, by decide, List.mem_append_right _ (List.mem_of_getElem? (i := 1157) (by decide +kernel)), List.mem_append_right _ (List.mem_of_getElem? (i := 10) (by decide +kernel)), by decide +kernel, by decide +kernel⟩
theorem ok_X9_isDay (M : MT) (i : Nat) : CallOk M M_X9_isDay i 1 := ⟨rfl, by decide, List.mem_append_right _ (List.mem_of_getElem? (i := 1172) (by decide +kernel)), List.mem_append_right _ (List.mem_of_getElem? (i := 10) (by decide +kernel)), by decide +kernel, by decide +kernel⟩
theorem ok_X9_isBooking (M : MT) (i : Nat) : CallOk M M_X9_isBooking i 1 := ⟨rfl, by decide, List.mem_append_right _ (List.mem_of_getElem? (i := 1312) (by decide +kernel)), List.mem_append_right _ (List.mem_of_getElem? (i := 10) (by decide +kernel)), by decide +kernel, by decide +kernel⟩
theorem ok_X9_stop (M : MT) (i : Nat) : CallOk M M_X9_stop i 1 := ⟨rfl, by decide, List.mem_append_right _ (List.mem_of_getElem? (i := 1131) (by decide +kernel)), List.mem_append_right _ (List.mem_of_getElem? (i := 10) (by decide +kernel)), by decide +kernel, by decide +kernel⟩
theorem ok_X9_footway (M : MT) (i : Nat) : CallOk M M_X9_footway i 3 := ⟨rfl, by decide, List.mem_append_right _ (List.mem_of_getElem? (i := 1146) (by decide +kernel)), List.mem_append_right _ (List.mem_of_getElem? (i := 10) (by decide +kernel)), by decide +kernel, by decide +kernel⟩
theorem ok_X9_trip (M : MT) (i : Nat) : CallOk M M_X9_trip i 6 := ⟨rfl, by decide, List.mem_append_right _ (List.mem_of_getElem? (i := 1154) (by decide +kernel)), List.mem_append_right _ (List.mem_of_getElem? (i := 10) (by decide +kernel)), by decide +kernel, by decide +kernel⟩
theorem ok_X9_calls (M : MT) (i : Nat) : CallOk M M_X9_calls i 4 := ⟨rfl, by decide, List.mem_append_right _ (List.mem_of_getElem? (i := 1161) (by decide +kernel)), List.mem_append_right _ (List.mem_of_getElem? (i := 10) (by decide +kernel)), by decide +kernel, by decide +kernel⟩
theorem ok_X9_isRun (M : MT) (i : Nat) : CallOk M M_X9_isRun i 2 := ⟨rfl, by decide, List.mem_append_right _ (List.mem_of_getElem? (i := 1176) (by decide +kernel)), List.mem_append_right _ (List.mem_of_getElem? (i := 10) (by decide +kernel)), by decide +kernel, by decide +kernel⟩
theorem ok_X9_runs (M : MT) (i : Nat) : CallOk M M_X9_runs i 3 := ⟨rfl, by decide, List.mem_append_right _ (List.mem_of_getElem? (i := 1169) (by decide +kernel)), List.mem_append_right _ (List.mem_of_getElem? (i := 10) (by decide +kernel)), by decide +kernel, by decide +kernel⟩
theorem ok_X9_delay (M : MT) (i : Nat) : CallOk M M_X9_delay i 3 := ⟨rfl, by decide, List.mem_append_right _ (List.mem_of_getElem? (i := 1180) (by decide +kernel)), List.mem_append_right _ (List.mem_of_getElem? (i := 10) (by decide +kernel)), by decide +kernel, by decide +kernel⟩
theorem ok_X9_note (M : MT) (i : Nat) : CallOk M M_X9_note i 2 := ⟨rfl, by decide, List.mem_append_right _ (List.mem_of_getElem? (i := 1184) (by decide +kernel)), List.mem_append_right _ (List.mem_of_getElem? (i := 10) (by decide +kernel)), by decide +kernel, by decide +kernel⟩
theorem ok_X9_prices (M : MT) (i : Nat) : CallOk M M_X9_prices i 4 := ⟨rfl, by decide, List.mem_append_right _ (List.mem_of_getElem? (i := 1188) (by decide +kernel)), List.mem_append_right _ (List.mem_of_getElem? (i := 10) (by decide +kernel)), by decide +kernel, by decide +kernel⟩
theorem ok_X9_goes (M : MT) (i : Nat) : CallOk M M_X9_goes i 2 := ⟨rfl, by decide, List.mem_append_right _ (List.mem_of_getElem? (i := 1210) (by decide +kernel)), List.mem_append_right _ (List.mem_of_getElem? (i := 10) (by decide +kernel)), by decide +kernel, by decide +kernel⟩
theorem ok_X9_departure (M : MT) (i : Nat) : CallOk M M_X9_departure i 3 := ⟨rfl, by decide, List.mem_append_right _ (List.mem_of_getElem? (i := 1218) (by decide +kernel)), List.mem_append_right _ (List.mem_of_getElem? (i := 10) (by decide +kernel)), by decide +kernel, by decide +kernel⟩
theorem ok_X9_arrivalOf (M : MT) (i : Nat) : CallOk M M_X9_arrivalOf i 3 := ⟨rfl, by decide, List.mem_append_right _ (List.mem_of_getElem? (i := 1222) (by decide +kernel)), List.mem_append_right _ (List.mem_of_getElem? (i := 10) (by decide +kernel)), by decide +kernel, by decide +kernel⟩
theorem ok_X9_isLooked (M : MT) (i : Nat) : CallOk M M_X9_isLooked i 2 := ⟨rfl, by decide, List.mem_append_right _ (List.mem_of_getElem? (i := 1206) (by decide +kernel)), List.mem_append_right _ (List.mem_of_getElem? (i := 10) (by decide +kernel)), by decide +kernel, by decide +kernel⟩
theorem ok_X9_rides (M : MT) (i : Nat) : CallOk M M_X9_rides i 3 := ⟨rfl, by decide, List.mem_append_right _ (List.mem_of_getElem? (i := 1214) (by decide +kernel)), List.mem_append_right _ (List.mem_of_getElem? (i := 10) (by decide +kernel)), by decide +kernel, by decide +kernel⟩
theorem ok_X9_readies (M : MT) (i : Nat) : CallOk M M_X9_readies i 1 := ⟨rfl, by decide, List.mem_append_right _ (List.mem_of_getElem? (i := 1226) (by decide +kernel)), List.mem_append_right _ (List.mem_of_getElem? (i := 10) (by decide +kernel)), by decide +kernel, by decide +kernel⟩
theorem ok_X9_reaches (M : MT) (i : Nat) : CallOk M M_X9_reaches i 3 := ⟨rfl, by decide, List.mem_append_right _ (List.mem_of_getElem? (i := 1201) (by decide +kernel)), List.mem_append_right _ (List.mem_of_getElem? (i := 10) (by decide +kernel)), by decide +kernel, by decide +kernel⟩
theorem ok_X9_timeBy (M : MT) (i : Nat) : CallOk M M_X9_timeBy i 2 := ⟨rfl, by decide, List.mem_append_right _ (List.mem_of_getElem? (i := 1230) (by decide +kernel)), List.mem_append_right _ (List.mem_of_getElem? (i := 10) (by decide +kernel)), by decide +kernel, by decide +kernel⟩
theorem ok_X9_asksWay (M : MT) (i : Nat) : CallOk M M_X9_asksWay i 4 := ⟨rfl, by decide, List.mem_append_right _ (List.mem_of_getElem? (i := 1196) (by decide +kernel)), List.mem_append_right _ (List.mem_of_getElem? (i := 10) (by decide +kernel)), by decide +kernel, by decide +kernel⟩
theorem ok_X9_arrival (M : MT) (i : Nat) : CallOk M M_X9_arrival i 4 := ⟨rfl, by decide, List.mem_append_right _ (List.mem_of_getElem? (i := 1192) (by decide +kernel)), List.mem_append_right _ (List.mem_of_getElem? (i := 10) (by decide +kernel)), by decide +kernel, by decide +kernel⟩
theorem ok_X9_arrivalAnew (M : MT) (i : Nat) : CallOk M M_X9_arrivalAnew i 4 := ⟨rfl, by decide, List.mem_append_right _ (List.mem_of_getElem? (i := 1234) (by decide +kernel)), List.mem_append_right _ (List.mem_of_getElem? (i := 10) (by decide +kernel)), by decide +kernel, by decide +kernel⟩
theorem ok_X9_front (M : MT) (i : Nat) : CallOk M M_X9_front i 3 := ⟨rfl, by decide, List.mem_append_right _ (List.mem_of_getElem? (i := 1238) (by decide +kernel)), List.mem_append_right _ (List.mem_of_getElem? (i := 10) (by decide +kernel)), by decide +kernel, by decide +kernel⟩
theorem ok_X9_isRide (M : MT) (i : Nat) : CallOk M M_X9_isRide i 6 := ⟨rfl, by decide, List.mem_append_right _ (List.mem_of_getElem? (i := 1254) (by decide +kernel)), List.mem_append_right _ (List.mem_of_getElem? (i := 10) (by decide +kernel)), by decide +kernel, by decide +kernel⟩
theorem ok_X9_findsRide (M : MT) (i : Nat) : CallOk M M_X9_findsRide i 2 := ⟨rfl, by decide, List.mem_append_right _ (List.mem_of_getElem? (i := 1250) (by decide +kernel)), List.mem_append_right _ (List.mem_of_getElem? (i := 10) (by decide +kernel)), by decide +kernel, by decide +kernel⟩
theorem ok_X9_aheadOf (M : MT) (i : Nat) : CallOk M M_X9_aheadOf i 1 := ⟨rfl, by decide, List.mem_append_right _ (List.mem_of_getElem? (i := 1258) (by decide +kernel)), List.mem_append_right _ (List.mem_of_getElem? (i := 10) (by decide +kernel)), by decide +kernel, by decide +kernel⟩
theorem ok_X9_finds (M : MT) (i : Nat) : CallOk M M_X9_finds i 4 := ⟨rfl, by decide, List.mem_append_right _ (List.mem_of_getElem? (i := 1246) (by decide +kernel)), List.mem_append_right _ (List.mem_of_getElem? (i := 10) (by decide +kernel)), by decide +kernel, by decide +kernel⟩
theorem ok_X9_ride (M : MT) (i : Nat) : CallOk M M_X9_ride i 6 := ⟨rfl, by decide, List.mem_append_right _ (List.mem_of_getElem? (i := 1242) (by decide +kernel)), List.mem_append_right _ (List.mem_of_getElem? (i := 10) (by decide +kernel)), by decide +kernel, by decide +kernel⟩
theorem ok_X9_chanceOf (M : MT) (i : Nat) : CallOk M M_X9_chanceOf i 2 := ⟨rfl, by decide, List.mem_append_right _ (List.mem_of_getElem? (i := 1271) (by decide +kernel)), List.mem_append_right _ (List.mem_of_getElem? (i := 10) (by decide +kernel)), by decide +kernel, by decide +kernel⟩
theorem ok_X9_chance (M : MT) (i : Nat) : CallOk M M_X9_chance i 0 := ⟨rfl, by decide, List.mem_append_right _ (List.mem_of_getElem? (i := 1267) (by decide +kernel)), List.mem_append_right _ (List.mem_of_getElem? (i := 10) (by decide +kernel)), by decide +kernel, by decide +kernel⟩
theorem ok_X9_carbon (M : MT) (i : Nat) : CallOk M M_X9_carbon i 0 := ⟨rfl, by decide, List.mem_append_right _ (List.mem_of_getElem? (i := 1275) (by decide +kernel)), List.mem_append_right _ (List.mem_of_getElem? (i := 10) (by decide +kernel)), by decide +kernel, by decide +kernel⟩
theorem ok_X9_score (M : MT) (i : Nat) : CallOk M M_X9_score i 0 := ⟨rfl, by decide, List.mem_append_right _ (List.mem_of_getElem? (i := 1282) (by decide +kernel)), List.mem_append_right _ (List.mem_of_getElem? (i := 10) (by decide +kernel)), by decide +kernel, by decide +kernel⟩
theorem ok_X9_fareOf (M : MT) (i : Nat) : CallOk M M_X9_fareOf i 0 := ⟨rfl, by decide, List.mem_append_right _ (List.mem_of_getElem? (i := 1288) (by decide +kernel)), List.mem_append_right _ (List.mem_of_getElem? (i := 10) (by decide +kernel)), by decide +kernel, by decide +kernel⟩
theorem ok_X9_journey (M : MT) (i : Nat) : CallOk M M_X9_journey i 5 := ⟨rfl, by decide, List.mem_append_right _ (List.mem_of_getElem? (i := 1262) (by decide +kernel)), List.mem_append_right _ (List.mem_of_getElem? (i := 10) (by decide +kernel)), by decide +kernel, by decide +kernel⟩
theorem ok_X9_best (M : MT) (i : Nat) : CallOk M M_X9_best i 3 := ⟨rfl, by decide, List.mem_append_right _ (List.mem_of_getElem? (i := 1292) (by decide +kernel)), List.mem_append_right _ (List.mem_of_getElem? (i := 10) (by decide +kernel)), by decide +kernel, by decide +kernel⟩
theorem ok_X9_hasRide (M : MT) (i : Nat) : CallOk M M_X9_hasRide i 3 := ⟨rfl, by decide, List.mem_append_right _ (List.mem_of_getElem? (i := 1304) (by decide +kernel)), List.mem_append_right _ (List.mem_of_getElem? (i := 10) (by decide +kernel)), by decide +kernel, by decide +kernel⟩
theorem ok_X9_free (M : MT) (i : Nat) : CallOk M M_X9_free i 2 := ⟨rfl, by decide, List.mem_append_right _ (List.mem_of_getElem? (i := 1300) (by decide +kernel)), List.mem_append_right _ (List.mem_of_getElem? (i := 10) (by decide +kernel)), by decide +kernel, by decide +kernel⟩
theorem ok_X9_book (M : MT) (i : Nat) : CallOk M M_X9_book i 4 := ⟨rfl, by decide, List.mem_append_right _ (List.mem_of_getElem? (i := 1296) (by decide +kernel)), List.mem_append_right _ (List.mem_of_getElem? (i := 10) (by decide +kernel)), by decide +kernel, by decide +kernel⟩
theorem ok_X9_buy (M : MT) (i : Nat) : CallOk M M_X9_buy i 1 := ⟨rfl, by decide, List.mem_append_right _ (List.mem_of_getElem? (i := 1308) (by decide +kernel)), List.mem_append_right _ (List.mem_of_getElem? (i := 10) (by decide +kernel)), by decide +kernel, by decide +kernel⟩
theorem ok_X9_rightOf (M : MT) (i : Nat) : CallOk M M_X9_rightOf i 1 := ⟨rfl, by decide, List.mem_append_right _ (List.mem_of_getElem? (i := 1320) (by decide +kernel)), List.mem_append_right _ (List.mem_of_getElem? (i := 10) (by decide +kernel)), by decide +kernel, by decide +kernel⟩
theorem ok_X9_right (M : MT) (i : Nat) : CallOk M M_X9_right i 1 := ⟨rfl, by decide, List.mem_append_right _ (List.mem_of_getElem? (i := 1316) (by decide +kernel)), List.mem_append_right _ (List.mem_of_getElem? (i := 10) (by decide +kernel)), by decide +kernel, by decide +kernel⟩
theorem ok_X9_claim (M : MT) (i : Nat) : CallOk M M_X9_claim i 1 := ⟨rfl, by decide, List.mem_append_right _ (List.mem_of_getElem? (i := 1324) (by decide +kernel)), List.mem_append_right _ (List.mem_of_getElem? (i := 10) (by decide +kernel)), by decide +kernel, by decide +kernel⟩
theorem ok_X9_concerned (M : MT) (i : Nat) : CallOk M M_X9_concerned i 2 := ⟨rfl, by decide, List.mem_append_right _ (List.mem_of_getElem? (i := 1328) (by decide +kernel)), List.mem_append_right _ (List.mem_of_getElem? (i := 10) (by decide +kernel)), by decide +kernel, by decide +kernel⟩
theorem ok_X9_seats (M : MT) (i : Nat) : CallOk M M_X9_seats i 2 := ⟨rfl, by decide, List.mem_append_right _ (List.mem_of_getElem? (i := 1332) (by decide +kernel)), List.mem_append_right _ (List.mem_of_getElem? (i := 10) (by decide +kernel)), by decide +kernel, by decide +kernel⟩
theorem ok_X9_pass (M : MT) (i : Nat) : CallOk M M_X9_pass i 1 := ⟨rfl, by decide, List.mem_append_right _ (List.mem_of_getElem? (i := 1336) (by decide +kernel)), List.mem_append_right _ (List.mem_of_getElem? (i := 10) (by decide +kernel)), by decide +kernel, by decide +kernel⟩
theorem ok_X9_ofBooking (M : MT) (i : Nat) : CallOk M M_X9_ofBooking i 2 := ⟨rfl, by decide, List.mem_append_right _ (List.mem_of_getElem? (i := 1340) (by decide +kernel)), List.mem_append_right _ (List.mem_of_getElem? (i := 10) (by decide +kernel)), by decide +kernel, by decide +kernel⟩
theorem ok_J9_max_7cf53 (M : MT) (i : Nat) : CallOk M M_J9_max_7cf53 i 2 := ⟨rfl, by decide, List.mem_append_right _ (List.mem_of_getElem? (i := 425) (by decide +kernel)), List.mem_append_right _ (List.mem_of_getElem? (i := 19) (by decide +kernel)), by decide +kernel, by decide +kernel⟩
theorem ok_J9_min_7cf53 (M : MT) (i : Nat) : CallOk M M_J9_min_7cf53 i 2 := ⟨rfl, by decide, List.mem_append_right _ (List.mem_of_getElem? (i := 459) (by decide +kernel)), List.mem_append_right _ (List.mem_of_getElem? (i := 19) (by decide +kernel)), by decide +kernel, by decide +kernel⟩
theorem obj_in : Cond.instanceMethod objectInit ∈ lw_tbl := by decide +kernel
theorem obj_code : Cond.code objectInit ⟨#[0xb1]⟩ 1 none ∈ lw_tbl := by decide +kernel
theorem math_ini : Cond.initialized "java/lang/Math" ∈ lw_tbl := by decide +kernel
theorem min_st : Cond.static Lib.Math.min.name ∈ lw_tbl := by decide +kernel
theorem min_code : Cond.code Lib.Math.min.name Lib.Math.min.code 2 (some .int) ∈ lw_tbl := by decide +kernel
theorem max_st : Cond.static Lib.Math.max.name ∈ lw_tbl := by decide +kernel
theorem max_code : Cond.code Lib.Math.max.name Lib.Math.max.code 2 (some .int) ∈ lw_tbl := by decide +kernel
theorem ml_X0_3 : Cond.methodLink RX0 3 objectInit ∈ lw_tbl := List.mem_append_right _ (List.mem_of_getElem? (i := 894) (by decide +kernel))
theorem fl_X0_9 : Cond.fieldLink RX0 9 "Connectory$Booking" "journey" "LConnectory$Journey;" ∈ lw_tbl := List.mem_append_right _ (List.mem_of_getElem? (i := 895) (by decide +kernel))
theorem fl_X0_15 : Cond.fieldLink RX0 15 "Connectory$Booking" "fare" "I" ∈ lw_tbl := List.mem_append_right _ (List.mem_of_getElem? (i := 897) (by decide +kernel))
theorem fl_X0_19 : Cond.fieldLink RX0 19 "Connectory$Booking" "made" "I" ∈ lw_tbl := List.mem_append_right _ (List.mem_of_getElem? (i := 899) (by decide +kernel))
theorem fl_X0_22 : Cond.fieldLink RX0 22 "Connectory$Booking" "state" "I" ∈ lw_tbl := List.mem_append_right _ (List.mem_of_getElem? (i := 901) (by decide +kernel))
theorem ml_X0_25 : Cond.methodLink RX0 25 yX2_isBroken ∈ lw_tbl := List.mem_append_right _ (List.mem_of_getElem? (i := 936) (by decide +kernel))
theorem im_X2_isBroken : Cond.instanceMethod yX2_isBroken ∈ lw_tbl := List.mem_append_right _ (List.mem_of_getElem? (i := 937) (by decide +kernel))
theorem se_X2_isBroken : Cond.selects RX2 yX2_isBroken yX2_isBroken ∈ lw_tbl := List.mem_append_right _ (List.mem_of_getElem? (i := 938) (by decide +kernel))
theorem ml_X0_31 : Cond.methodLink RX0 31 yX2_endNow ∈ lw_tbl := List.mem_append_right _ (List.mem_of_getElem? (i := 941) (by decide +kernel))
theorem im_X2_endNow : Cond.instanceMethod yX2_endNow ∈ lw_tbl := List.mem_append_right _ (List.mem_of_getElem? (i := 942) (by decide +kernel))
theorem se_X2_endNow : Cond.selects RX2 yX2_endNow yX2_endNow ∈ lw_tbl := List.mem_append_right _ (List.mem_of_getElem? (i := 943) (by decide +kernel))
theorem fl_X0_35 : Cond.fieldLink RX0 35 "Connectory$Journey" "end" "I" ∈ lw_tbl := List.mem_append_right _ (List.mem_of_getElem? (i := 786) (by decide +kernel))
theorem ml_X1_3 : Cond.methodLink RX1 3 objectInit ∈ lw_tbl := List.mem_append_right _ (List.mem_of_getElem? (i := 146) (by decide +kernel))
theorem fl_X1_9 : Cond.fieldLink RX1 9 "Connectory$Fares" "bases" "[I" ∈ lw_tbl := List.mem_append_right _ (List.mem_of_getElem? (i := 147) (by decide +kernel))
theorem fl_X1_15 : Cond.fieldLink RX1 15 "Connectory$Fares" "cents" "[I" ∈ lw_tbl := List.mem_append_right _ (List.mem_of_getElem? (i := 148) (by decide +kernel))
theorem fl_X1_18 : Cond.fieldLink RX1 18 "Connectory$Fares" "surcharges" "[I" ∈ lw_tbl := List.mem_append_right _ (List.mem_of_getElem? (i := 149) (by decide +kernel))
theorem fl_X1_21 : Cond.fieldLink RX1 21 "Connectory$Fares" "least" "[I" ∈ lw_tbl := List.mem_append_right _ (List.mem_of_getElem? (i := 150) (by decide +kernel))
theorem ml_X1_24 : Cond.methodLinkNest RX1 24 yX8_put "Connectory" ∈ lw_tbl := List.mem_append_right _ (List.mem_of_getElem? (i := 549) (by decide +kernel))
theorem st_X8_put : Cond.static yX8_put ∈ lw_tbl := List.mem_append_right _ (List.mem_of_getElem? (i := 282) (by decide +kernel))
theorem ml_X1_28 : Cond.methodLinkNest RX1 28 yX8_at "Connectory" ∈ lw_tbl := List.mem_append_right _ (List.mem_of_getElem? (i := 861) (by decide +kernel))
theorem st_X8_at : Cond.static yX8_at ∈ lw_tbl := List.mem_append_right _ (List.mem_of_getElem? (i := 318) (by decide +kernel))
theorem kc_X1_32 : Cond.constant RX1 32 (1000000000) ∈ lw_tbl := List.mem_append_right _ (List.mem_of_getElem? (i := 854) (by decide +kernel))
theorem ml_X1_33 : Cond.methodLink RX1 33 yJ7_fill_53178 ∈ lw_tbl := List.mem_append_right _ (List.mem_of_getElem? (i := 855) (by decide +kernel))
theorem st_J7_fill_53178 : Cond.static yJ7_fill_53178 ∈ lw_tbl := List.mem_append_right _ (List.mem_of_getElem? (i := 68) (by decide +kernel))
theorem fl_X1_39 : Cond.fieldLink RX1 39 "Connectory$Journey" "first" "LConnectory$Ride;" ∈ lw_tbl := List.mem_append_right _ (List.mem_of_getElem? (i := 780) (by decide +kernel))
theorem ml_X1_45 : Cond.methodLink RX1 45 yX1_ticketsFrom ∈ lw_tbl := List.mem_append_right _ (List.mem_of_getElem? (i := 856) (by decide +kernel))
theorem im_X1_ticketsFrom : Cond.instanceMethod yX1_ticketsFrom ∈ lw_tbl := List.mem_append_right _ (List.mem_of_getElem? (i := 858) (by decide +kernel))
theorem se_X1_ticketsFrom : Cond.selects RX1 yX1_ticketsFrom yX1_ticketsFrom ∈ lw_tbl := List.mem_append_left _ (List.mem_of_getElem? (i := 26) (by decide +kernel))
theorem fl_X1_49 : Cond.fieldLink RX1 49 "Connectory$Ride" "next" "LConnectory$Ride;" ∈ lw_tbl := List.mem_append_right _ (List.mem_of_getElem? (i := 737) (by decide +kernel))
theorem fl_X1_54 : Cond.fieldLink RX1 54 "Connectory$Ride" "trip" "LConnectory$Trip;" ∈ lw_tbl := List.mem_append_right _ (List.mem_of_getElem? (i := 728) (by decide +kernel))
theorem fl_X1_58 : Cond.fieldLink RX1 58 "Connectory$Trip" "firm" "I" ∈ lw_tbl := List.mem_append_right _ (List.mem_of_getElem? (i := 352) (by decide +kernel))
theorem ml_X1_64 : Cond.methodLink RX1 64 yX4_length ∈ lw_tbl := List.mem_append_right _ (List.mem_of_getElem? (i := 860) (by decide +kernel))
theorem im_X4_length : Cond.instanceMethod yX4_length ∈ lw_tbl := List.mem_append_right _ (List.mem_of_getElem? (i := 840) (by decide +kernel))
theorem se_X4_length : Cond.selects RX4 yX4_length yX4_length ∈ lw_tbl := List.mem_append_right _ (List.mem_of_getElem? (i := 841) (by decide +kernel))
theorem ml_X1_68 : Cond.methodLink RX1 68 yX1_ticket ∈ lw_tbl := List.mem_append_right _ (List.mem_of_getElem? (i := 862) (by decide +kernel))
theorem im_X1_ticket : Cond.instanceMethod yX1_ticket ∈ lw_tbl := List.mem_append_right _ (List.mem_of_getElem? (i := 863) (by decide +kernel))
theorem se_X1_ticket : Cond.selects RX1 yX1_ticket yX1_ticket ∈ lw_tbl := List.mem_append_right _ (List.mem_of_getElem? (i := 864) (by decide +kernel))
theorem ml_X1_72 : Cond.methodLink RX1 72 Lib.Math.min.name ∈ lw_tbl := List.mem_append_right _ (List.mem_of_getElem? (i := 866) (by decide +kernel))
theorem ml_X2_3 : Cond.methodLink RX2 3 objectInit ∈ lw_tbl := List.mem_append_right _ (List.mem_of_getElem? (i := 777) (by decide +kernel))
theorem fl_X2_9 : Cond.fieldLink RX2 9 "Connectory$Journey" "time" "I" ∈ lw_tbl := List.mem_append_right _ (List.mem_of_getElem? (i := 778) (by decide +kernel))
theorem fl_X2_15 : Cond.fieldLink RX2 15 "Connectory$Journey" "first" "LConnectory$Ride;" ∈ lw_tbl := List.mem_append_right _ (List.mem_of_getElem? (i := 779) (by decide +kernel))
theorem fl_X2_19 : Cond.fieldLink RX2 19 "Connectory$Journey" "size" "I" ∈ lw_tbl := List.mem_append_right _ (List.mem_of_getElem? (i := 782) (by decide +kernel))
theorem fl_X2_22 : Cond.fieldLink RX2 22 "Connectory$Journey" "walking" "I" ∈ lw_tbl := List.mem_append_right _ (List.mem_of_getElem? (i := 784) (by decide +kernel))
theorem fl_X2_25 : Cond.fieldLink RX2 25 "Connectory$Journey" "end" "I" ∈ lw_tbl := List.mem_append_right _ (List.mem_of_getElem? (i := 785) (by decide +kernel))
theorem fl_X2_28 : Cond.fieldLink RX2 28 "Connectory$Ride" "next" "LConnectory$Ride;" ∈ lw_tbl := List.mem_append_right _ (List.mem_of_getElem? (i := 736) (by decide +kernel))
theorem fl_X2_33 : Cond.fieldLink RX2 33 "Connectory$Ride" "trip" "LConnectory$Trip;" ∈ lw_tbl := List.mem_append_right _ (List.mem_of_getElem? (i := 727) (by decide +kernel))
theorem fl_X2_37 : Cond.fieldLink RX2 37 "Connectory$Trip" "number" "I" ∈ lw_tbl := List.mem_append_right _ (List.mem_of_getElem? (i := 347) (by decide +kernel))
theorem fl_X2_42 : Cond.fieldLink RX2 42 "Connectory$Ride" "day" "I" ∈ lw_tbl := List.mem_append_right _ (List.mem_of_getElem? (i := 731) (by decide +kernel))
theorem ml_X2_45 : Cond.methodLink RX2 45 yX4_departs ∈ lw_tbl := List.mem_append_right _ (List.mem_of_getElem? (i := 826) (by decide +kernel))
theorem im_X4_departs : Cond.instanceMethod yX4_departs ∈ lw_tbl := List.mem_append_right _ (List.mem_of_getElem? (i := 764) (by decide +kernel))
theorem se_X4_departs : Cond.selects RX4 yX4_departs yX4_departs ∈ lw_tbl := List.mem_append_right _ (List.mem_of_getElem? (i := 765) (by decide +kernel))
theorem ml_X2_49 : Cond.methodLink RX2 49 yX4_arrives ∈ lw_tbl := List.mem_append_right _ (List.mem_of_getElem? (i := 827) (by decide +kernel))
theorem im_X4_arrives : Cond.instanceMethod yX4_arrives ∈ lw_tbl := List.mem_append_right _ (List.mem_of_getElem? (i := 810) (by decide +kernel))
theorem se_X4_arrives : Cond.selects RX4 yX4_arrives yX4_arrives ∈ lw_tbl := List.mem_append_right _ (List.mem_of_getElem? (i := 811) (by decide +kernel))
theorem fl_X2_52 : Cond.fieldLink RX2 52 "Connectory$Ride" "changing" "I" ∈ lw_tbl := List.mem_append_right _ (List.mem_of_getElem? (i := 739) (by decide +kernel))
theorem ml_X2_55 : Cond.methodLink RX2 55 yX7_chanceWithin ∈ lw_tbl := List.mem_append_right _ (List.mem_of_getElem? (i := 828) (by decide +kernel))
theorem im_X7_chanceWithin : Cond.instanceMethod yX7_chanceWithin ∈ lw_tbl := List.mem_append_right _ (List.mem_of_getElem? (i := 829) (by decide +kernel))
theorem se_X7_chanceWithin : Cond.selects RX7 yX7_chanceWithin yX7_chanceWithin ∈ lw_tbl := List.mem_append_right _ (List.mem_of_getElem? (i := 830) (by decide +kernel))
theorem fl_X2_63 : Cond.fieldLink RX2 63 "Connectory$Trip" "mode" "I" ∈ lw_tbl := List.mem_append_right _ (List.mem_of_getElem? (i := 350) (by decide +kernel))
theorem ml_X2_66 : Cond.methodLinkNest RX2 66 yX8_at "Connectory" ∈ lw_tbl := List.mem_append_right _ (List.mem_of_getElem? (i := 838) (by decide +kernel))
theorem ml_X2_70 : Cond.methodLink RX2 70 yX4_length ∈ lw_tbl := List.mem_append_right _ (List.mem_of_getElem? (i := 839) (by decide +kernel))
theorem kc_X2_73 : Cond.constantDouble RX2 73 (4624633867356078080) ∈ lw_tbl := List.mem_append_right _ (List.mem_of_getElem? (i := 847) (by decide +kernel))
theorem ml_X2_75 : Cond.methodLink RX2 75 yX2_carbon ∈ lw_tbl := List.mem_append_right _ (List.mem_of_getElem? (i := 848) (by decide +kernel))
theorem im_X2_carbon : Cond.instanceMethod yX2_carbon ∈ lw_tbl := List.mem_append_right _ (List.mem_of_getElem? (i := 833) (by decide +kernel))
theorem se_X2_carbon : Cond.selects RX2 yX2_carbon yX2_carbon ∈ lw_tbl := List.mem_append_right _ (List.mem_of_getElem? (i := 834) (by decide +kernel))
theorem kc_X2_79 : Cond.constantDouble RX2 79 (4621819117588971520) ∈ lw_tbl := List.mem_append_right _ (List.mem_of_getElem? (i := 849) (by decide +kernel))
theorem ml_X2_81 : Cond.methodLink RX2 81 yX7_goes ∈ lw_tbl := List.mem_append_right _ (List.mem_of_getElem? (i := 940) (by decide +kernel))
theorem im_X7_goes : Cond.instanceMethod yX7_goes ∈ lw_tbl := List.mem_append_right _ (List.mem_of_getElem? (i := 591) (by decide +kernel))
theorem se_X7_goes : Cond.selects RX7 yX7_goes yX7_goes ∈ lw_tbl := List.mem_append_right _ (List.mem_of_getElem? (i := 592) (by decide +kernel))
theorem ml_X3_3 : Cond.methodLink RX3 3 objectInit ∈ lw_tbl := List.mem_append_right _ (List.mem_of_getElem? (i := 39) (by decide +kernel))
theorem fl_X3_9 : Cond.fieldLink RX3 9 "Connectory$Network" "transfers" "[I" ∈ lw_tbl := List.mem_append_right _ (List.mem_of_getElem? (i := 70) (by decide +kernel))
theorem fl_X3_15 : Cond.fieldLink RX3 15 "Connectory$Network" "walks" "[I" ∈ lw_tbl := List.mem_append_right _ (List.mem_of_getElem? (i := 71) (by decide +kernel))
theorem cl_X3_18 : Cond.classLink RX3 18 RJx4a65c ∈ lw_tbl := List.mem_append_right _ (List.mem_of_getElem? (i := 40) (by decide +kernel))
theorem ml_X3_20 : Cond.methodLink RX3 20 yJx4a65c_init_da8c8 ∈ lw_tbl := List.mem_append_right _ (List.mem_of_getElem? (i := 42) (by decide +kernel))
theorem im_Jx4a65c_init_da8c8 : Cond.instanceMethod yJx4a65c_init_da8c8 ∈ lw_tbl := List.mem_append_right _ (List.mem_of_getElem? (i := 43) (by decide +kernel))
theorem fl_X3_21 : Cond.fieldLink RX3 21 "Connectory$Network" "trips" "Ljava/util/ArrayList;" ∈ lw_tbl := List.mem_append_right _ (List.mem_of_getElem? (i := 72) (by decide +kernel))
theorem ml_X3_25 : Cond.methodLink RX3 25 yJ7_fill_53178 ∈ lw_tbl := List.mem_append_right _ (List.mem_of_getElem? (i := 67) (by decide +kernel))
theorem fl_X3_31 : Cond.fieldLink RX3 31 "Connectory$Network" "stops" "I" ∈ lw_tbl := List.mem_append_right _ (List.mem_of_getElem? (i := 76) (by decide +kernel))
theorem ml_X3_35 : Cond.methodLinkNest RX3 35 yX8_put "Connectory" ∈ lw_tbl := List.mem_append_right _ (List.mem_of_getElem? (i := 281) (by decide +kernel))
theorem ml_X3_39 : Cond.methodLinkNest RX3 39 yX8_at "Connectory" ∈ lw_tbl := List.mem_append_right _ (List.mem_of_getElem? (i := 317) (by decide +kernel))
theorem ml_X4_1 : Cond.methodLink RX4 1 objectInit ∈ lw_tbl := List.mem_append_right _ (List.mem_of_getElem? (i := 725) (by decide +kernel))
theorem fl_X4_7 : Cond.fieldLink RX4 7 "Connectory$Ride" "trip" "LConnectory$Trip;" ∈ lw_tbl := List.mem_append_right _ (List.mem_of_getElem? (i := 726) (by decide +kernel))
theorem fl_X4_13 : Cond.fieldLink RX4 13 "Connectory$Ride" "day" "I" ∈ lw_tbl := List.mem_append_right _ (List.mem_of_getElem? (i := 730) (by decide +kernel))
theorem fl_X4_17 : Cond.fieldLink RX4 17 "Connectory$Ride" "board" "I" ∈ lw_tbl := List.mem_append_right _ (List.mem_of_getElem? (i := 733) (by decide +kernel))
theorem fl_X4_20 : Cond.fieldLink RX4 20 "Connectory$Ride" "leave" "I" ∈ lw_tbl := List.mem_append_right _ (List.mem_of_getElem? (i := 734) (by decide +kernel))
theorem fl_X4_23 : Cond.fieldLink RX4 23 "Connectory$Ride" "next" "LConnectory$Ride;" ∈ lw_tbl := List.mem_append_right _ (List.mem_of_getElem? (i := 735) (by decide +kernel))
theorem ml_X4_27 : Cond.methodLink RX4 27 yX7_stopAt ∈ lw_tbl := List.mem_append_right _ (List.mem_of_getElem? (i := 762) (by decide +kernel))
theorem im_X7_stopAt : Cond.instanceMethod yX7_stopAt ∈ lw_tbl := List.mem_append_right _ (List.mem_of_getElem? (i := 600) (by decide +kernel))
theorem se_X7_stopAt : Cond.selects RX7 yX7_stopAt yX7_stopAt ∈ lw_tbl := List.mem_append_right _ (List.mem_of_getElem? (i := 601) (by decide +kernel))
theorem ml_X4_33 : Cond.methodLink RX4 33 yX7_leaves ∈ lw_tbl := List.mem_append_right _ (List.mem_of_getElem? (i := 767) (by decide +kernel))
theorem im_X7_leaves : Cond.instanceMethod yX7_leaves ∈ lw_tbl := List.mem_append_right _ (List.mem_of_getElem? (i := 614) (by decide +kernel))
theorem se_X7_leaves : Cond.selects RX7 yX7_leaves yX7_leaves ∈ lw_tbl := List.mem_append_right _ (List.mem_of_getElem? (i := 615) (by decide +kernel))
theorem ml_X4_37 : Cond.methodLink RX4 37 yX7_reaches ∈ lw_tbl := List.mem_append_right _ (List.mem_of_getElem? (i := 813) (by decide +kernel))
theorem im_X7_reaches : Cond.instanceMethod yX7_reaches ∈ lw_tbl := List.mem_append_right _ (List.mem_of_getElem? (i := 609) (by decide +kernel))
theorem se_X7_reaches : Cond.selects RX7 yX7_reaches yX7_reaches ∈ lw_tbl := List.mem_append_right _ (List.mem_of_getElem? (i := 610) (by decide +kernel))
theorem fl_X4_40 : Cond.fieldLink RX4 40 "Connectory$Trip" "number" "I" ∈ lw_tbl := List.mem_append_right _ (List.mem_of_getElem? (i := 348) (by decide +kernel))
theorem ml_X4_43 : Cond.methodLink RX4 43 yX4_boardsAt ∈ lw_tbl := List.mem_append_right _ (List.mem_of_getElem? (i := 807) (by decide +kernel))
theorem im_X4_boardsAt : Cond.instanceMethod yX4_boardsAt ∈ lw_tbl := List.mem_append_right _ (List.mem_of_getElem? (i := 759) (by decide +kernel))
theorem se_X4_boardsAt : Cond.selects RX4 yX4_boardsAt yX4_boardsAt ∈ lw_tbl := List.mem_append_right _ (List.mem_of_getElem? (i := 760) (by decide +kernel))
theorem ml_X4_47 : Cond.methodLink RX4 47 yX4_departs ∈ lw_tbl := List.mem_append_right _ (List.mem_of_getElem? (i := 808) (by decide +kernel))
theorem ml_X4_50 : Cond.methodLink RX4 50 yX4_arrives ∈ lw_tbl := List.mem_append_right _ (List.mem_of_getElem? (i := 809) (by decide +kernel))
theorem ml_X5_3 : Cond.methodLink RX5 3 objectInit ∈ lw_tbl := List.mem_append_right _ (List.mem_of_getElem? (i := 93) (by decide +kernel))
theorem fl_X5_9 : Cond.fieldLink RX5 9 "Connectory$Search" "arrivals" "[I" ∈ lw_tbl := List.mem_append_right _ (List.mem_of_getElem? (i := 95) (by decide +kernel))
theorem fl_X5_15 : Cond.fieldLink RX5 15 "Connectory$Search" "readies" "[I" ∈ lw_tbl := List.mem_append_right _ (List.mem_of_getElem? (i := 96) (by decide +kernel))
theorem fl_X5_18 : Cond.fieldLink RX5 18 "Connectory$Search" "network" "LConnectory$Network;" ∈ lw_tbl := List.mem_append_right _ (List.mem_of_getElem? (i := 94) (by decide +kernel))
theorem fl_X5_22 : Cond.fieldLink RX5 22 "Connectory$Search" "from" "I" ∈ lw_tbl := List.mem_append_right _ (List.mem_of_getElem? (i := 97) (by decide +kernel))
theorem fl_X5_26 : Cond.fieldLink RX5 26 "Connectory$Search" "to" "I" ∈ lw_tbl := List.mem_append_right _ (List.mem_of_getElem? (i := 98) (by decide +kernel))
theorem fl_X5_29 : Cond.fieldLink RX5 29 "Connectory$Search" "time" "I" ∈ lw_tbl := List.mem_append_right _ (List.mem_of_getElem? (i := 99) (by decide +kernel))
theorem ml_X5_32 : Cond.methodLinkNest RX5 32 yX8_firstDayFor "Connectory" ∈ lw_tbl := List.mem_append_right _ (List.mem_of_getElem? (i := 567) (by decide +kernel))
theorem st_X8_firstDayFor : Cond.static yX8_firstDayFor ∈ lw_tbl := List.mem_append_right _ (List.mem_of_getElem? (i := 568) (by decide +kernel))
theorem fl_X5_36 : Cond.fieldLink RX5 36 "Connectory$Search" "firstDay" "I" ∈ lw_tbl := List.mem_append_right _ (List.mem_of_getElem? (i := 100) (by decide +kernel))
theorem ml_X5_39 : Cond.methodLinkNest RX5 39 yX8_lastDayFor "Connectory" ∈ lw_tbl := List.mem_append_right _ (List.mem_of_getElem? (i := 571) (by decide +kernel))
theorem st_X8_lastDayFor : Cond.static yX8_lastDayFor ∈ lw_tbl := List.mem_append_right _ (List.mem_of_getElem? (i := 572) (by decide +kernel))
theorem fl_X5_42 : Cond.fieldLink RX5 42 "Connectory$Search" "lastDay" "I" ∈ lw_tbl := List.mem_append_right _ (List.mem_of_getElem? (i := 101) (by decide +kernel))
theorem kc_X5_45 : Cond.constant RX5 45 (1000000000) ∈ lw_tbl := List.mem_append_right _ (List.mem_of_getElem? (i := 575) (by decide +kernel))
theorem ml_X5_46 : Cond.methodLink RX5 46 yJ7_fill_53178 ∈ lw_tbl := List.mem_append_right _ (List.mem_of_getElem? (i := 576) (by decide +kernel))
theorem ml_X5_52 : Cond.methodLink RX5 52 yX5_setOut ∈ lw_tbl := List.mem_append_right _ (List.mem_of_getElem? (i := 577) (by decide +kernel))
theorem im_X5_setOut : Cond.instanceMethod yX5_setOut ∈ lw_tbl := List.mem_append_right _ (List.mem_of_getElem? (i := 579) (by decide +kernel))
theorem se_X5_setOut : Cond.selects RX5 yX5_setOut yX5_setOut ∈ lw_tbl := List.mem_append_left _ (List.mem_of_getElem? (i := 8) (by decide +kernel))
theorem ml_X5_55 : Cond.methodLink RX5 55 yX5_rideOn ∈ lw_tbl := List.mem_append_right _ (List.mem_of_getElem? (i := 583) (by decide +kernel))
theorem im_X5_rideOn : Cond.instanceMethod yX5_rideOn ∈ lw_tbl := List.mem_append_right _ (List.mem_of_getElem? (i := 585) (by decide +kernel))
theorem se_X5_rideOn : Cond.selects RX5 yX5_rideOn yX5_rideOn ∈ lw_tbl := List.mem_append_left _ (List.mem_of_getElem? (i := 9) (by decide +kernel))
theorem ml_X5_59 : Cond.methodLink RX5 59 yX5_changeAll ∈ lw_tbl := List.mem_append_right _ (List.mem_of_getElem? (i := 621) (by decide +kernel))
theorem im_X5_changeAll : Cond.instanceMethod yX5_changeAll ∈ lw_tbl := List.mem_append_right _ (List.mem_of_getElem? (i := 623) (by decide +kernel))
theorem se_X5_changeAll : Cond.selects RX5 yX5_changeAll yX5_changeAll ∈ lw_tbl := List.mem_append_left _ (List.mem_of_getElem? (i := 13) (by decide +kernel))
theorem fl_X5_62 : Cond.fieldLink RX5 62 "Connectory$Network" "stops" "I" ∈ lw_tbl := List.mem_append_right _ (List.mem_of_getElem? (i := 78) (by decide +kernel))
theorem ml_X5_67 : Cond.methodLink RX5 67 yX3_walk ∈ lw_tbl := List.mem_append_right _ (List.mem_of_getElem? (i := 581) (by decide +kernel))
theorem im_X3_walk : Cond.instanceMethod yX3_walk ∈ lw_tbl := List.mem_append_right _ (List.mem_of_getElem? (i := 314) (by decide +kernel))
theorem se_X3_walk : Cond.selects RX3 yX3_walk yX3_walk ∈ lw_tbl := List.mem_append_right _ (List.mem_of_getElem? (i := 315) (by decide +kernel))
theorem ml_X5_71 : Cond.methodLinkNest RX5 71 yX8_put "Connectory" ∈ lw_tbl := List.mem_append_right _ (List.mem_of_getElem? (i := 582) (by decide +kernel))
theorem fl_X5_75 : Cond.fieldLink RX5 75 "Connectory$Network" "trips" "Ljava/util/ArrayList;" ∈ lw_tbl := List.mem_append_right _ (List.mem_of_getElem? (i := 74) (by decide +kernel))
theorem ml_X5_79 : Cond.methodLink RX5 79 yJx4a65c_size_8abf5 ∈ lw_tbl := List.mem_append_right _ (List.mem_of_getElem? (i := 587) (by decide +kernel))
theorem im_Jx4a65c_size_8abf5 : Cond.instanceMethod yJx4a65c_size_8abf5 ∈ lw_tbl := List.mem_append_right _ (List.mem_of_getElem? (i := 336) (by decide +kernel))
theorem se_Jx4a65c_size_8abf5 : Cond.selects RJx4a65c yJx4a65c_size_8abf5 yJx4a65c_size_8abf5 ∈ lw_tbl := List.mem_append_right _ (List.mem_of_getElem? (i := 337) (by decide +kernel))
theorem ml_X5_85 : Cond.methodLink RX5 85 yJx4a65c_get_915e3 ∈ lw_tbl := List.mem_append_right _ (List.mem_of_getElem? (i := 588) (by decide +kernel))
theorem im_Jx4a65c_get_915e3 : Cond.instanceMethod yJx4a65c_get_915e3 ∈ lw_tbl := List.mem_append_right _ (List.mem_of_getElem? (i := 478) (by decide +kernel))
theorem se_Jx4a65c_get_915e3 : Cond.selects RJx4a65c yJx4a65c_get_915e3 yJx4a65c_get_915e3 ∈ lw_tbl := List.mem_append_right _ (List.mem_of_getElem? (i := 479) (by decide +kernel))
theorem cl_X5_89 : Cond.classLink RX5 89 RX7 ∈ lw_tbl := List.mem_append_right _ (List.mem_of_getElem? (i := 589) (by decide +kernel))
theorem ml_X5_91 : Cond.methodLink RX5 91 yX7_goes ∈ lw_tbl := List.mem_append_right _ (List.mem_of_getElem? (i := 590) (by decide +kernel))
theorem ml_X5_95 : Cond.methodLink RX5 95 yX5_rideRun ∈ lw_tbl := List.mem_append_right _ (List.mem_of_getElem? (i := 595) (by decide +kernel))
theorem im_X5_rideRun : Cond.instanceMethod yX5_rideRun ∈ lw_tbl := List.mem_append_right _ (List.mem_of_getElem? (i := 597) (by decide +kernel))
theorem se_X5_rideRun : Cond.selects RX5 yX5_rideRun yX5_rideRun ∈ lw_tbl := List.mem_append_left _ (List.mem_of_getElem? (i := 10) (by decide +kernel))
theorem fl_X5_99 : Cond.fieldLink RX5 99 "Connectory$Trip" "size" "I" ∈ lw_tbl := List.mem_append_right _ (List.mem_of_getElem? (i := 365) (by decide +kernel))
theorem ml_X5_101 : Cond.methodLink RX5 101 yX7_stopAt ∈ lw_tbl := List.mem_append_right _ (List.mem_of_getElem? (i := 599) (by decide +kernel))
theorem ml_X5_104 : Cond.methodLink RX5 104 yX5_arrivalAt ∈ lw_tbl := List.mem_append_right _ (List.mem_of_getElem? (i := 603) (by decide +kernel))
theorem im_X5_arrivalAt : Cond.instanceMethod yX5_arrivalAt ∈ lw_tbl := List.mem_append_right _ (List.mem_of_getElem? (i := 605) (by decide +kernel))
theorem se_X5_arrivalAt : Cond.selects RX5 yX5_arrivalAt yX5_arrivalAt ∈ lw_tbl := List.mem_append_left _ (List.mem_of_getElem? (i := 11) (by decide +kernel))
theorem ml_X5_107 : Cond.methodLink RX5 107 yX7_reaches ∈ lw_tbl := List.mem_append_right _ (List.mem_of_getElem? (i := 608) (by decide +kernel))
theorem ml_X5_110 : Cond.methodLink RX5 110 Lib.Math.min.name ∈ lw_tbl := List.mem_append_right _ (List.mem_of_getElem? (i := 612) (by decide +kernel))
theorem ml_X5_115 : Cond.methodLink RX5 115 yX7_leaves ∈ lw_tbl := List.mem_append_right _ (List.mem_of_getElem? (i := 613) (by decide +kernel))
theorem ml_X5_118 : Cond.methodLink RX5 118 yX5_readyAt ∈ lw_tbl := List.mem_append_right _ (List.mem_of_getElem? (i := 617) (by decide +kernel))
theorem im_X5_readyAt : Cond.instanceMethod yX5_readyAt ∈ lw_tbl := List.mem_append_right _ (List.mem_of_getElem? (i := 619) (by decide +kernel))
theorem se_X5_readyAt : Cond.selects RX5 yX5_readyAt yX5_readyAt ∈ lw_tbl := List.mem_append_left _ (List.mem_of_getElem? (i := 12) (by decide +kernel))
theorem ml_X5_121 : Cond.methodLink RX5 121 yX5_readyFrom ∈ lw_tbl := List.mem_append_right _ (List.mem_of_getElem? (i := 625) (by decide +kernel))
theorem im_X5_readyFrom : Cond.instanceMethod yX5_readyFrom ∈ lw_tbl := List.mem_append_right _ (List.mem_of_getElem? (i := 627) (by decide +kernel))
theorem se_X5_readyFrom : Cond.selects RX5 yX5_readyFrom yX5_readyFrom ∈ lw_tbl := List.mem_append_left _ (List.mem_of_getElem? (i := 14) (by decide +kernel))
theorem ml_X5_125 : Cond.methodLinkNest RX5 125 yX8_at "Connectory" ∈ lw_tbl := List.mem_append_right _ (List.mem_of_getElem? (i := 607) (by decide +kernel))
theorem ml_X5_129 : Cond.methodLink RX5 129 yX3_transferAt ∈ lw_tbl := List.mem_append_right _ (List.mem_of_getElem? (i := 633) (by decide +kernel))
theorem im_X3_transferAt : Cond.instanceMethod yX3_transferAt ∈ lw_tbl := List.mem_append_right _ (List.mem_of_getElem? (i := 634) (by decide +kernel))
theorem se_X3_transferAt : Cond.selects RX3 yX3_transferAt yX3_transferAt ∈ lw_tbl := List.mem_append_right _ (List.mem_of_getElem? (i := 635) (by decide +kernel))
theorem ml_X5_132 : Cond.methodLink RX5 132 yX5_changing ∈ lw_tbl := List.mem_append_right _ (List.mem_of_getElem? (i := 629) (by decide +kernel))
theorem im_X5_changing : Cond.instanceMethod yX5_changing ∈ lw_tbl := List.mem_append_right _ (List.mem_of_getElem? (i := 631) (by decide +kernel))
theorem se_X5_changing : Cond.selects RX5 yX5_changing yX5_changing ∈ lw_tbl := List.mem_append_left _ (List.mem_of_getElem? (i := 15) (by decide +kernel))
theorem ml_X5_135 : Cond.methodLink RX5 135 yX5_endFrom ∈ lw_tbl := List.mem_append_right _ (List.mem_of_getElem? (i := 641) (by decide +kernel))
theorem im_X5_endFrom : Cond.instanceMethod yX5_endFrom ∈ lw_tbl := List.mem_append_right _ (List.mem_of_getElem? (i := 643) (by decide +kernel))
theorem se_X5_endFrom : Cond.selects RX5 yX5_endFrom yX5_endFrom ∈ lw_tbl := List.mem_append_left _ (List.mem_of_getElem? (i := 16) (by decide +kernel))
theorem ml_X5_138 : Cond.methodLink RX5 138 yX5_end ∈ lw_tbl := List.mem_append_right _ (List.mem_of_getElem? (i := 703) (by decide +kernel))
theorem im_X5_end : Cond.instanceMethod yX5_end ∈ lw_tbl := List.mem_append_right _ (List.mem_of_getElem? (i := 638) (by decide +kernel))
theorem se_X5_end : Cond.selects RX5 yX5_end yX5_end ∈ lw_tbl := List.mem_append_right _ (List.mem_of_getElem? (i := 639) (by decide +kernel))
theorem ml_X5_141 : Cond.methodLink RX5 141 yX5_lastStop ∈ lw_tbl := List.mem_append_right _ (List.mem_of_getElem? (i := 704) (by decide +kernel))
theorem im_X5_lastStop : Cond.instanceMethod yX5_lastStop ∈ lw_tbl := List.mem_append_right _ (List.mem_of_getElem? (i := 706) (by decide +kernel))
theorem se_X5_lastStop : Cond.selects RX5 yX5_lastStop yX5_lastStop ∈ lw_tbl := List.mem_append_left _ (List.mem_of_getElem? (i := 20) (by decide +kernel))
theorem ml_X5_144 : Cond.methodLink RX5 144 yX5_rideTo ∈ lw_tbl := List.mem_append_right _ (List.mem_of_getElem? (i := 708) (by decide +kernel))
theorem im_X5_rideTo : Cond.instanceMethod yX5_rideTo ∈ lw_tbl := List.mem_append_right _ (List.mem_of_getElem? (i := 710) (by decide +kernel))
theorem se_X5_rideTo : Cond.selects RX5 yX5_rideTo yX5_rideTo ∈ lw_tbl := List.mem_append_left _ (List.mem_of_getElem? (i := 21) (by decide +kernel))
theorem ml_X5_148 : Cond.methodLink RX5 148 yX5_stopAhead ∈ lw_tbl := List.mem_append_right _ (List.mem_of_getElem? (i := 754) (by decide +kernel))
theorem im_X5_stopAhead : Cond.instanceMethod yX5_stopAhead ∈ lw_tbl := List.mem_append_right _ (List.mem_of_getElem? (i := 756) (by decide +kernel))
theorem se_X5_stopAhead : Cond.selects RX5 yX5_stopAhead yX5_stopAhead ∈ lw_tbl := List.mem_append_left _ (List.mem_of_getElem? (i := 24) (by decide +kernel))
theorem ml_X5_152 : Cond.methodLink RX5 152 yX5_minutesAhead ∈ lw_tbl := List.mem_append_right _ (List.mem_of_getElem? (i := 768) (by decide +kernel))
theorem im_X5_minutesAhead : Cond.instanceMethod yX5_minutesAhead ∈ lw_tbl := List.mem_append_right _ (List.mem_of_getElem? (i := 770) (by decide +kernel))
theorem se_X5_minutesAhead : Cond.selects RX5 yX5_minutesAhead yX5_minutesAhead ∈ lw_tbl := List.mem_append_left _ (List.mem_of_getElem? (i := 25) (by decide +kernel))
theorem fl_X5_156 : Cond.fieldLink RX5 156 "Connectory$Ride" "changing" "I" ∈ lw_tbl := List.mem_append_right _ (List.mem_of_getElem? (i := 740) (by decide +kernel))
theorem cl_X5_160 : Cond.classLink RX5 160 RX2 ∈ lw_tbl := List.mem_append_right _ (List.mem_of_getElem? (i := 772) (by decide +kernel))
theorem ml_X5_162 : Cond.methodLink RX5 162 yX2_init ∈ lw_tbl := List.mem_append_right _ (List.mem_of_getElem? (i := 774) (by decide +kernel))
theorem im_X2_init : Cond.instanceMethod yX2_init ∈ lw_tbl := List.mem_append_right _ (List.mem_of_getElem? (i := 775) (by decide +kernel))
theorem ml_X5_165 : Cond.methodLink RX5 165 yX5_leavingPlace ∈ lw_tbl := List.mem_append_right _ (List.mem_of_getElem? (i := 712) (by decide +kernel))
theorem im_X5_leavingPlace : Cond.instanceMethod yX5_leavingPlace ∈ lw_tbl := List.mem_append_right _ (List.mem_of_getElem? (i := 714) (by decide +kernel))
theorem se_X5_leavingPlace : Cond.selects RX5 yX5_leavingPlace yX5_leavingPlace ∈ lw_tbl := List.mem_append_left _ (List.mem_of_getElem? (i := 22) (by decide +kernel))
theorem ml_X5_169 : Cond.methodLink RX5 169 yX5_boardingPlace ∈ lw_tbl := List.mem_append_right _ (List.mem_of_getElem? (i := 716) (by decide +kernel))
theorem im_X5_boardingPlace : Cond.instanceMethod yX5_boardingPlace ∈ lw_tbl := List.mem_append_right _ (List.mem_of_getElem? (i := 718) (by decide +kernel))
theorem se_X5_boardingPlace : Cond.selects RX5 yX5_boardingPlace yX5_boardingPlace ∈ lw_tbl := List.mem_append_left _ (List.mem_of_getElem? (i := 23) (by decide +kernel))
theorem cl_X5_157 : Cond.classLink RX5 157 RX4 ∈ lw_tbl := List.mem_append_right _ (List.mem_of_getElem? (i := 720) (by decide +kernel))
theorem ml_X5_172 : Cond.methodLink RX5 172 yX4_init ∈ lw_tbl := List.mem_append_right _ (List.mem_of_getElem? (i := 722) (by decide +kernel))
theorem im_X4_init : Cond.instanceMethod yX4_init ∈ lw_tbl := List.mem_append_right _ (List.mem_of_getElem? (i := 723) (by decide +kernel))
theorem ml_X5_175 : Cond.methodLink RX5 175 yX4_boardsAt ∈ lw_tbl := List.mem_append_right _ (List.mem_of_getElem? (i := 758) (by decide +kernel))
theorem ml_X5_178 : Cond.methodLink RX5 178 yX4_departs ∈ lw_tbl := List.mem_append_right _ (List.mem_of_getElem? (i := 763) (by decide +kernel))
theorem ml_X6_3 : Cond.methodLink RX6 3 objectInit ∈ lw_tbl := List.mem_append_right _ (List.mem_of_getElem? (i := 124) (by decide +kernel))
theorem fl_X6_9 : Cond.fieldLink RX6 9 "Connectory$Trial" "network" "LConnectory$Network;" ∈ lw_tbl := List.mem_append_right _ (List.mem_of_getElem? (i := 125) (by decide +kernel))
theorem fl_X6_15 : Cond.fieldLink RX6 15 "Connectory$Trial" "to" "I" ∈ lw_tbl := List.mem_append_right _ (List.mem_of_getElem? (i := 126) (by decide +kernel))
theorem ml_X6_19 : Cond.methodLinkNest RX6 19 yX8_firstDayFor "Connectory" ∈ lw_tbl := List.mem_append_right _ (List.mem_of_getElem? (i := 660) (by decide +kernel))
theorem fl_X6_23 : Cond.fieldLink RX6 23 "Connectory$Trial" "firstDay" "I" ∈ lw_tbl := List.mem_append_right _ (List.mem_of_getElem? (i := 127) (by decide +kernel))
theorem ml_X6_26 : Cond.methodLinkNest RX6 26 yX8_lastDayFor "Connectory" ∈ lw_tbl := List.mem_append_right _ (List.mem_of_getElem? (i := 661) (by decide +kernel))
theorem fl_X6_29 : Cond.fieldLink RX6 29 "Connectory$Trial" "lastDay" "I" ∈ lw_tbl := List.mem_append_right _ (List.mem_of_getElem? (i := 128) (by decide +kernel))
theorem kc_X6_32 : Cond.constant RX6 32 (1000000000) ∈ lw_tbl := List.mem_append_right _ (List.mem_of_getElem? (i := 662) (by decide +kernel))
theorem fl_X6_33 : Cond.fieldLink RX6 33 "Connectory$Trial" "least" "I" ∈ lw_tbl := List.mem_append_right _ (List.mem_of_getElem? (i := 129) (by decide +kernel))
theorem ml_X6_36 : Cond.methodLink RX6 36 yX6_goOn ∈ lw_tbl := List.mem_append_right _ (List.mem_of_getElem? (i := 663) (by decide +kernel))
theorem im_X6_goOn : Cond.instanceMethod yX6_goOn ∈ lw_tbl := List.mem_append_right _ (List.mem_of_getElem? (i := 665) (by decide +kernel))
theorem se_X6_goOn : Cond.selects RX6 yX6_goOn yX6_goOn ∈ lw_tbl := List.mem_append_left _ (List.mem_of_getElem? (i := 17) (by decide +kernel))
theorem fl_X6_40 : Cond.fieldLink RX6 40 "Connectory$Network" "trips" "Ljava/util/ArrayList;" ∈ lw_tbl := List.mem_append_right _ (List.mem_of_getElem? (i := 73) (by decide +kernel))
theorem ml_X6_46 : Cond.methodLink RX6 46 yJx4a65c_size_8abf5 ∈ lw_tbl := List.mem_append_right _ (List.mem_of_getElem? (i := 667) (by decide +kernel))
theorem ml_X6_52 : Cond.methodLink RX6 52 yJx4a65c_get_915e3 ∈ lw_tbl := List.mem_append_right _ (List.mem_of_getElem? (i := 668) (by decide +kernel))
theorem cl_X6_56 : Cond.classLink RX6 56 RX7 ∈ lw_tbl := List.mem_append_right _ (List.mem_of_getElem? (i := 669) (by decide +kernel))
theorem ml_X6_58 : Cond.methodLink RX6 58 yX7_goes ∈ lw_tbl := List.mem_append_right _ (List.mem_of_getElem? (i := 670) (by decide +kernel))
theorem ml_X6_62 : Cond.methodLink RX6 62 yX7_leaves ∈ lw_tbl := List.mem_append_right _ (List.mem_of_getElem? (i := 671) (by decide +kernel))
theorem fl_X6_66 : Cond.fieldLink RX6 66 "Connectory$Trip" "size" "I" ∈ lw_tbl := List.mem_append_right _ (List.mem_of_getElem? (i := 364) (by decide +kernel))
theorem ml_X6_68 : Cond.methodLink RX6 68 yX7_reaches ∈ lw_tbl := List.mem_append_right _ (List.mem_of_getElem? (i := 672) (by decide +kernel))
theorem ml_X6_71 : Cond.methodLink RX6 71 yX6_tryRun ∈ lw_tbl := List.mem_append_right _ (List.mem_of_getElem? (i := 673) (by decide +kernel))
theorem im_X6_tryRun : Cond.instanceMethod yX6_tryRun ∈ lw_tbl := List.mem_append_right _ (List.mem_of_getElem? (i := 675) (by decide +kernel))
theorem se_X6_tryRun : Cond.selects RX6 yX6_tryRun yX6_tryRun ∈ lw_tbl := List.mem_append_left _ (List.mem_of_getElem? (i := 18) (by decide +kernel))
theorem ml_X6_75 : Cond.methodLink RX6 75 yX7_stopAt ∈ lw_tbl := List.mem_append_right _ (List.mem_of_getElem? (i := 677) (by decide +kernel))
theorem ml_X6_78 : Cond.methodLink RX6 78 yX6_leaveAt ∈ lw_tbl := List.mem_append_right _ (List.mem_of_getElem? (i := 678) (by decide +kernel))
theorem im_X6_leaveAt : Cond.instanceMethod yX6_leaveAt ∈ lw_tbl := List.mem_append_right _ (List.mem_of_getElem? (i := 680) (by decide +kernel))
theorem se_X6_leaveAt : Cond.selects RX6 yX6_leaveAt yX6_leaveAt ∈ lw_tbl := List.mem_append_left _ (List.mem_of_getElem? (i := 19) (by decide +kernel))
theorem ml_X6_82 : Cond.methodLink RX6 82 yX3_walk ∈ lw_tbl := List.mem_append_right _ (List.mem_of_getElem? (i := 683) (by decide +kernel))
theorem ml_X6_85 : Cond.methodLink RX6 85 yX3_transferAt ∈ lw_tbl := List.mem_append_right _ (List.mem_of_getElem? (i := 682) (by decide +kernel))
theorem ml_X6_88 : Cond.methodLink RX6 88 Lib.Math.min.name ∈ lw_tbl := List.mem_append_right _ (List.mem_of_getElem? (i := 684) (by decide +kernel))
theorem ml_X7_3 : Cond.methodLink RX7 3 objectInit ∈ lw_tbl := List.mem_append_right _ (List.mem_of_getElem? (i := 345) (by decide +kernel))
theorem fl_X7_9 : Cond.fieldLink RX7 9 "Connectory$Trip" "stops" "[I" ∈ lw_tbl := List.mem_append_right _ (List.mem_of_getElem? (i := 355) (by decide +kernel))
theorem fl_X7_15 : Cond.fieldLink RX7 15 "Connectory$Trip" "reached" "[I" ∈ lw_tbl := List.mem_append_right _ (List.mem_of_getElem? (i := 356) (by decide +kernel))
theorem fl_X7_18 : Cond.fieldLink RX7 18 "Connectory$Trip" "left" "[I" ∈ lw_tbl := List.mem_append_right _ (List.mem_of_getElem? (i := 357) (by decide +kernel))
theorem fl_X7_21 : Cond.fieldLink RX7 21 "Connectory$Trip" "there" "[Z" ∈ lw_tbl := List.mem_append_right _ (List.mem_of_getElem? (i := 358) (by decide +kernel))
theorem fl_X7_25 : Cond.fieldLink RX7 25 "Connectory$Trip" "delays" "[I" ∈ lw_tbl := List.mem_append_right _ (List.mem_of_getElem? (i := 359) (by decide +kernel))
theorem fl_X7_28 : Cond.fieldLink RX7 28 "Connectory$Trip" "notes" "[I" ∈ lw_tbl := List.mem_append_right _ (List.mem_of_getElem? (i := 361) (by decide +kernel))
theorem fl_X7_31 : Cond.fieldLink RX7 31 "Connectory$Trip" "number" "I" ∈ lw_tbl := List.mem_append_right _ (List.mem_of_getElem? (i := 346) (by decide +kernel))
theorem fl_X7_35 : Cond.fieldLink RX7 35 "Connectory$Trip" "mode" "I" ∈ lw_tbl := List.mem_append_right _ (List.mem_of_getElem? (i := 349) (by decide +kernel))
theorem fl_X7_38 : Cond.fieldLink RX7 38 "Connectory$Trip" "firm" "I" ∈ lw_tbl := List.mem_append_right _ (List.mem_of_getElem? (i := 351) (by decide +kernel))
theorem fl_X7_41 : Cond.fieldLink RX7 41 "Connectory$Trip" "seats" "I" ∈ lw_tbl := List.mem_append_right _ (List.mem_of_getElem? (i := 353) (by decide +kernel))
theorem ml_X7_44 : Cond.methodLinkNest RX7 44 yX8_put "Connectory" ∈ lw_tbl := List.mem_append_right _ (List.mem_of_getElem? (i := 403) (by decide +kernel))
theorem fl_X7_48 : Cond.fieldLink RX7 48 "Connectory$Trip" "size" "I" ∈ lw_tbl := List.mem_append_right _ (List.mem_of_getElem? (i := 363) (by decide +kernel))
theorem ml_X7_51 : Cond.methodLinkNest RX7 51 yX8_at "Connectory" ∈ lw_tbl := List.mem_append_right _ (List.mem_of_getElem? (i := 505) (by decide +kernel))
theorem ml_X7_55 : Cond.methodLink RX7 55 yX7_isThere ∈ lw_tbl := List.mem_append_right _ (List.mem_of_getElem? (i := 594) (by decide +kernel))
theorem im_X7_isThere : Cond.instanceMethod yX7_isThere ∈ lw_tbl := List.mem_append_right _ (List.mem_of_getElem? (i := 514) (by decide +kernel))
theorem se_X7_isThere : Cond.selects RX7 yX7_isThere yX7_isThere ∈ lw_tbl := List.mem_append_right _ (List.mem_of_getElem? (i := 515) (by decide +kernel))
theorem fl_X7_59 : Cond.fieldLink RX7 59 "Connectory$Trip" "noted" "I" ∈ lw_tbl := List.mem_append_right _ (List.mem_of_getElem? (i := 368) (by decide +kernel))
theorem ml_X8_1 : Cond.methodLink RX8 1 objectInit ∈ lw_tbl := List.mem_append_right _ (List.mem_of_getElem? (i := 31) (by decide +kernel))
theorem cl_X8_7 : Cond.classLink RX8 7 RX3 ∈ lw_tbl := List.mem_append_right _ (List.mem_of_getElem? (i := 34) (by decide +kernel))
theorem ml_X8_9 : Cond.methodLink RX8 9 yX3_init ∈ lw_tbl := List.mem_append_right _ (List.mem_of_getElem? (i := 36) (by decide +kernel))
theorem im_X3_init : Cond.instanceMethod yX3_init ∈ lw_tbl := List.mem_append_right _ (List.mem_of_getElem? (i := 37) (by decide +kernel))
theorem fl_X8_10 : Cond.fieldLink RX8 10 "Connectory" "network" "LConnectory$Network;" ∈ lw_tbl := List.mem_append_right _ (List.mem_of_getElem? (i := 162) (by decide +kernel))
theorem cl_X8_16 : Cond.classLink RX8 16 RX5 ∈ lw_tbl := List.mem_append_right _ (List.mem_of_getElem? (i := 88) (by decide +kernel))
theorem ml_X8_18 : Cond.methodLink RX8 18 yX5_init ∈ lw_tbl := List.mem_append_right _ (List.mem_of_getElem? (i := 90) (by decide +kernel))
theorem im_X5_init : Cond.instanceMethod yX5_init ∈ lw_tbl := List.mem_append_right _ (List.mem_of_getElem? (i := 91) (by decide +kernel))
theorem fl_X8_21 : Cond.fieldLink RX8 21 "Connectory" "search" "LConnectory$Search;" ∈ lw_tbl := List.mem_append_right _ (List.mem_of_getElem? (i := 163) (by decide +kernel))
theorem cl_X8_25 : Cond.classLink RX8 25 RX6 ∈ lw_tbl := List.mem_append_right _ (List.mem_of_getElem? (i := 119) (by decide +kernel))
theorem ml_X8_27 : Cond.methodLink RX8 27 yX6_init ∈ lw_tbl := List.mem_append_right _ (List.mem_of_getElem? (i := 121) (by decide +kernel))
theorem im_X6_init : Cond.instanceMethod yX6_init ∈ lw_tbl := List.mem_append_right _ (List.mem_of_getElem? (i := 122) (by decide +kernel))
theorem fl_X8_28 : Cond.fieldLink RX8 28 "Connectory" "trial" "LConnectory$Trial;" ∈ lw_tbl := List.mem_append_right _ (List.mem_of_getElem? (i := 164) (by decide +kernel))
theorem cl_X8_32 : Cond.classLink RX8 32 RX1 ∈ lw_tbl := List.mem_append_right _ (List.mem_of_getElem? (i := 141) (by decide +kernel))
theorem ml_X8_34 : Cond.methodLinkNest RX8 34 yX1_init "Connectory" ∈ lw_tbl := List.mem_append_right _ (List.mem_of_getElem? (i := 143) (by decide +kernel))
theorem im_X1_init : Cond.instanceMethod yX1_init ∈ lw_tbl := List.mem_append_right _ (List.mem_of_getElem? (i := 144) (by decide +kernel))
theorem fl_X8_35 : Cond.fieldLink RX8 35 "Connectory" "fares" "LConnectory$Fares;" ∈ lw_tbl := List.mem_append_right _ (List.mem_of_getElem? (i := 165) (by decide +kernel))
theorem cl_X8_39 : Cond.classLink RX8 39 RJx4a65c ∈ lw_tbl := List.mem_append_right _ (List.mem_of_getElem? (i := 160) (by decide +kernel))
theorem ml_X8_41 : Cond.methodLink RX8 41 yJx4a65c_init_da8c8 ∈ lw_tbl := List.mem_append_right _ (List.mem_of_getElem? (i := 161) (by decide +kernel))
theorem fl_X8_42 : Cond.fieldLink RX8 42 "Connectory" "bookings" "Ljava/util/ArrayList;" ∈ lw_tbl := List.mem_append_right _ (List.mem_of_getElem? (i := 166) (by decide +kernel))
theorem fl_X8_46 : Cond.fieldLink RX8 46 "Connectory" "now" "I" ∈ lw_tbl := List.mem_append_right _ (List.mem_of_getElem? (i := 167) (by decide +kernel))
theorem ml_X8_50 : Cond.methodLink RX8 50 yX8_needRange ∈ lw_tbl := List.mem_append_right _ (List.mem_of_getElem? (i := 190) (by decide +kernel))
theorem st_X8_needRange : Cond.static yX8_needRange ∈ lw_tbl := List.mem_append_right _ (List.mem_of_getElem? (i := 191) (by decide +kernel))
theorem fl_X8_54 : Cond.fieldLink RX8 54 "Connectory$Network" "stops" "I" ∈ lw_tbl := List.mem_append_right _ (List.mem_of_getElem? (i := 77) (by decide +kernel))
theorem ml_X8_64 : Cond.methodLink RX8 64 yX3_addStop ∈ lw_tbl := List.mem_append_right _ (List.mem_of_getElem? (i := 277) (by decide +kernel))
theorem im_X3_addStop : Cond.instanceMethod yX3_addStop ∈ lw_tbl := List.mem_append_right _ (List.mem_of_getElem? (i := 278) (by decide +kernel))
theorem se_X3_addStop : Cond.selects RX3 yX3_addStop yX3_addStop ∈ lw_tbl := List.mem_append_right _ (List.mem_of_getElem? (i := 279) (by decide +kernel))
theorem ml_X8_68 : Cond.methodLink RX8 68 yX8_needStop ∈ lw_tbl := List.mem_append_right _ (List.mem_of_getElem? (i := 292) (by decide +kernel))
theorem im_X8_needStop : Cond.instanceMethod yX8_needStop ∈ lw_tbl := List.mem_append_right _ (List.mem_of_getElem? (i := 294) (by decide +kernel))
theorem se_X8_needStop : Cond.selects RX8 yX8_needStop yX8_needStop ∈ lw_tbl := List.mem_append_left _ (List.mem_of_getElem? (i := 1) (by decide +kernel))
theorem ml_X8_77 : Cond.methodLink RX8 77 yX3_walk ∈ lw_tbl := List.mem_append_right _ (List.mem_of_getElem? (i := 313) (by decide +kernel))
theorem ml_X8_81 : Cond.methodLink RX8 81 yX3_setWalk ∈ lw_tbl := List.mem_append_right _ (List.mem_of_getElem? (i := 320) (by decide +kernel))
theorem im_X3_setWalk : Cond.instanceMethod yX3_setWalk ∈ lw_tbl := List.mem_append_right _ (List.mem_of_getElem? (i := 321) (by decide +kernel))
theorem se_X3_setWalk : Cond.selects RX3 yX3_setWalk yX3_setWalk ∈ lw_tbl := List.mem_append_right _ (List.mem_of_getElem? (i := 322) (by decide +kernel))
theorem ml_X8_84 : Cond.methodLink RX8 84 yX8_needFirm ∈ lw_tbl := List.mem_append_right _ (List.mem_of_getElem? (i := 331) (by decide +kernel))
theorem st_X8_needFirm : Cond.static yX8_needFirm ∈ lw_tbl := List.mem_append_right _ (List.mem_of_getElem? (i := 332) (by decide +kernel))
theorem fl_X8_87 : Cond.fieldLink RX8 87 "Connectory$Network" "trips" "Ljava/util/ArrayList;" ∈ lw_tbl := List.mem_append_right _ (List.mem_of_getElem? (i := 75) (by decide +kernel))
theorem ml_X8_90 : Cond.methodLink RX8 90 yJx4a65c_size_8abf5 ∈ lw_tbl := List.mem_append_right _ (List.mem_of_getElem? (i := 335) (by decide +kernel))
theorem cl_X8_96 : Cond.classLink RX8 96 RX7 ∈ lw_tbl := List.mem_append_right _ (List.mem_of_getElem? (i := 340) (by decide +kernel))
theorem ml_X8_98 : Cond.methodLink RX8 98 yX7_init ∈ lw_tbl := List.mem_append_right _ (List.mem_of_getElem? (i := 342) (by decide +kernel))
theorem im_X7_init : Cond.instanceMethod yX7_init ∈ lw_tbl := List.mem_append_right _ (List.mem_of_getElem? (i := 343) (by decide +kernel))
theorem ml_X8_101 : Cond.methodLink RX8 101 yX7_setWeek ∈ lw_tbl := List.mem_append_right _ (List.mem_of_getElem? (i := 395) (by decide +kernel))
theorem im_X7_setWeek : Cond.instanceMethod yX7_setWeek ∈ lw_tbl := List.mem_append_right _ (List.mem_of_getElem? (i := 396) (by decide +kernel))
theorem se_X7_setWeek : Cond.selects RX7 yX7_setWeek yX7_setWeek ∈ lw_tbl := List.mem_append_right _ (List.mem_of_getElem? (i := 397) (by decide +kernel))
theorem ml_X8_104 : Cond.methodLink RX8 104 yX7_begin ∈ lw_tbl := List.mem_append_right _ (List.mem_of_getElem? (i := 399) (by decide +kernel))
theorem im_X7_begin : Cond.instanceMethod yX7_begin ∈ lw_tbl := List.mem_append_right _ (List.mem_of_getElem? (i := 400) (by decide +kernel))
theorem se_X7_begin : Cond.selects RX7 yX7_begin yX7_begin ∈ lw_tbl := List.mem_append_right _ (List.mem_of_getElem? (i := 401) (by decide +kernel))
theorem ml_X8_108 : Cond.methodLink RX8 108 yJx4a65c_add_9ea2d ∈ lw_tbl := List.mem_append_right _ (List.mem_of_getElem? (i := 404) (by decide +kernel))
theorem im_Jx4a65c_add_9ea2d : Cond.instanceMethod yJx4a65c_add_9ea2d ∈ lw_tbl := List.mem_append_right _ (List.mem_of_getElem? (i := 405) (by decide +kernel))
theorem se_Jx4a65c_add_9ea2d : Cond.selects RJx4a65c yJx4a65c_add_9ea2d yJx4a65c_add_9ea2d ∈ lw_tbl := List.mem_append_right _ (List.mem_of_getElem? (i := 406) (by decide +kernel))
theorem ml_X8_112 : Cond.methodLink RX8 112 yX8_tripOf ∈ lw_tbl := List.mem_append_right _ (List.mem_of_getElem? (i := 472) (by decide +kernel))
theorem im_X8_tripOf : Cond.instanceMethod yX8_tripOf ∈ lw_tbl := List.mem_append_right _ (List.mem_of_getElem? (i := 474) (by decide +kernel))
theorem se_X8_tripOf : Cond.selects RX8 yX8_tripOf yX8_tripOf ∈ lw_tbl := List.mem_append_left _ (List.mem_of_getElem? (i := 5) (by decide +kernel))
theorem fl_X8_116 : Cond.fieldLink RX8 116 "Connectory$Trip" "size" "I" ∈ lw_tbl := List.mem_append_right _ (List.mem_of_getElem? (i := 366) (by decide +kernel))
theorem ml_X8_118 : Cond.methodLink RX8 118 yX8_isBooked ∈ lw_tbl := List.mem_append_right _ (List.mem_of_getElem? (i := 491) (by decide +kernel))
theorem im_X8_isBooked : Cond.instanceMethod yX8_isBooked ∈ lw_tbl := List.mem_append_right _ (List.mem_of_getElem? (i := 493) (by decide +kernel))
theorem se_X8_isBooked : Cond.selects RX8 yX8_isBooked yX8_isBooked ∈ lw_tbl := List.mem_append_left _ (List.mem_of_getElem? (i := 6) (by decide +kernel))
theorem ml_X8_124 : Cond.methodLink RX8 124 yX7_goOn ∈ lw_tbl := List.mem_append_right _ (List.mem_of_getElem? (i := 501) (by decide +kernel))
theorem im_X7_goOn : Cond.instanceMethod yX7_goOn ∈ lw_tbl := List.mem_append_right _ (List.mem_of_getElem? (i := 502) (by decide +kernel))
theorem se_X7_goOn : Cond.selects RX7 yX7_goOn yX7_goOn ∈ lw_tbl := List.mem_append_right _ (List.mem_of_getElem? (i := 503) (by decide +kernel))
theorem ml_X8_127 : Cond.methodLink RX8 127 yX7_isThere ∈ lw_tbl := List.mem_append_right _ (List.mem_of_getElem? (i := 513) (by decide +kernel))
theorem ml_X8_131 : Cond.methodLink RX8 131 yX7_setThere ∈ lw_tbl := List.mem_append_right _ (List.mem_of_getElem? (i := 517) (by decide +kernel))
theorem im_X7_setThere : Cond.instanceMethod yX7_setThere ∈ lw_tbl := List.mem_append_right _ (List.mem_of_getElem? (i := 518) (by decide +kernel))
theorem se_X7_setThere : Cond.selects RX7 yX7_setThere yX7_setThere ∈ lw_tbl := List.mem_append_right _ (List.mem_of_getElem? (i := 519) (by decide +kernel))
theorem fl_X8_135 : Cond.fieldLink RX8 135 "Connectory$Trip" "delays" "[I" ∈ lw_tbl := List.mem_append_right _ (List.mem_of_getElem? (i := 360) (by decide +kernel))
theorem ml_X8_139 : Cond.methodLink RX8 139 yX8_at ∈ lw_tbl := List.mem_append_right _ (List.mem_of_getElem? (i := 528) (by decide +kernel))
theorem ml_X8_143 : Cond.methodLink RX8 143 yX8_put ∈ lw_tbl := List.mem_append_right _ (List.mem_of_getElem? (i := 529) (by decide +kernel))
theorem fl_X8_147 : Cond.fieldLink RX8 147 "Connectory$Trip" "noted" "I" ∈ lw_tbl := List.mem_append_right _ (List.mem_of_getElem? (i := 367) (by decide +kernel))
theorem fl_X8_152 : Cond.fieldLink RX8 152 "Connectory$Trip" "notes" "[I" ∈ lw_tbl := List.mem_append_right _ (List.mem_of_getElem? (i := 362) (by decide +kernel))
theorem ml_X8_155 : Cond.methodLink RX8 155 yX1_setPrices ∈ lw_tbl := List.mem_append_right _ (List.mem_of_getElem? (i := 545) (by decide +kernel))
theorem im_X1_setPrices : Cond.instanceMethod yX1_setPrices ∈ lw_tbl := List.mem_append_right _ (List.mem_of_getElem? (i := 546) (by decide +kernel))
theorem se_X1_setPrices : Cond.selects RX1 yX1_setPrices yX1_setPrices ∈ lw_tbl := List.mem_append_right _ (List.mem_of_getElem? (i := 547) (by decide +kernel))
theorem ml_X8_158 : Cond.methodLink RX8 158 yX8_needWay ∈ lw_tbl := List.mem_append_right _ (List.mem_of_getElem? (i := 557) (by decide +kernel))
theorem im_X8_needWay : Cond.instanceMethod yX8_needWay ∈ lw_tbl := List.mem_append_right _ (List.mem_of_getElem? (i := 559) (by decide +kernel))
theorem se_X8_needWay : Cond.selects RX8 yX8_needWay yX8_needWay ∈ lw_tbl := List.mem_append_left _ (List.mem_of_getElem? (i := 7) (by decide +kernel))
theorem ml_X8_161 : Cond.methodLink RX8 161 yX5_seek ∈ lw_tbl := List.mem_append_right _ (List.mem_of_getElem? (i := 563) (by decide +kernel))
theorem im_X5_seek : Cond.instanceMethod yX5_seek ∈ lw_tbl := List.mem_append_right _ (List.mem_of_getElem? (i := 564) (by decide +kernel))
theorem se_X5_seek : Cond.selects RX5 yX5_seek yX5_seek ∈ lw_tbl := List.mem_append_right _ (List.mem_of_getElem? (i := 565) (by decide +kernel))
theorem ml_X8_164 : Cond.methodLink RX8 164 yX5_end ∈ lw_tbl := List.mem_append_right _ (List.mem_of_getElem? (i := 637) (by decide +kernel))
theorem ml_X8_167 : Cond.methodLink RX8 167 yX8_timeOrNone ∈ lw_tbl := List.mem_append_right _ (List.mem_of_getElem? (i := 645) (by decide +kernel))
theorem st_X8_timeOrNone : Cond.static yX8_timeOrNone ∈ lw_tbl := List.mem_append_right _ (List.mem_of_getElem? (i := 646) (by decide +kernel))
theorem ml_X8_170 : Cond.methodLink RX8 170 yX6_tryAll ∈ lw_tbl := List.mem_append_right _ (List.mem_of_getElem? (i := 656) (by decide +kernel))
theorem im_X6_tryAll : Cond.instanceMethod yX6_tryAll ∈ lw_tbl := List.mem_append_right _ (List.mem_of_getElem? (i := 657) (by decide +kernel))
theorem se_X6_tryAll : Cond.selects RX6 yX6_tryAll yX6_tryAll ∈ lw_tbl := List.mem_append_right _ (List.mem_of_getElem? (i := 658) (by decide +kernel))
theorem kc_X8_174 : Cond.constant RX8 174 (1000000000) ∈ lw_tbl := List.mem_append_right _ (List.mem_of_getElem? (i := 648) (by decide +kernel))
theorem ml_X8_177 : Cond.methodLink RX8 177 yX5_tell ∈ lw_tbl := List.mem_append_right _ (List.mem_of_getElem? (i := 699) (by decide +kernel))
theorem im_X5_tell : Cond.instanceMethod yX5_tell ∈ lw_tbl := List.mem_append_right _ (List.mem_of_getElem? (i := 700) (by decide +kernel))
theorem se_X5_tell : Cond.selects RX5 yX5_tell yX5_tell ∈ lw_tbl := List.mem_append_right _ (List.mem_of_getElem? (i := 701) (by decide +kernel))
theorem ml_X8_181 : Cond.methodLink RX8 181 yX2_rideAt ∈ lw_tbl := List.mem_append_right _ (List.mem_of_getElem? (i := 799) (by decide +kernel))
theorem im_X2_rideAt : Cond.instanceMethod yX2_rideAt ∈ lw_tbl := List.mem_append_right _ (List.mem_of_getElem? (i := 800) (by decide +kernel))
theorem se_X2_rideAt : Cond.selects RX2 yX2_rideAt yX2_rideAt ∈ lw_tbl := List.mem_append_right _ (List.mem_of_getElem? (i := 801) (by decide +kernel))
theorem ml_X8_187 : Cond.methodLink RX8 187 yX4_tell ∈ lw_tbl := List.mem_append_right _ (List.mem_of_getElem? (i := 803) (by decide +kernel))
theorem im_X4_tell : Cond.instanceMethod yX4_tell ∈ lw_tbl := List.mem_append_right _ (List.mem_of_getElem? (i := 804) (by decide +kernel))
theorem se_X4_tell : Cond.selects RX4 yX4_tell yX4_tell ∈ lw_tbl := List.mem_append_right _ (List.mem_of_getElem? (i := 805) (by decide +kernel))
theorem kc_X8_191 : Cond.constantDouble RX8 191 (13830554455654793216) ∈ lw_tbl := List.mem_append_right _ (List.mem_of_getElem? (i := 821) (by decide +kernel))
theorem ml_X8_193 : Cond.methodLink RX8 193 yX2_chance ∈ lw_tbl := List.mem_append_right _ (List.mem_of_getElem? (i := 822) (by decide +kernel))
theorem im_X2_chance : Cond.instanceMethod yX2_chance ∈ lw_tbl := List.mem_append_right _ (List.mem_of_getElem? (i := 823) (by decide +kernel))
theorem se_X2_chance : Cond.selects RX2 yX2_chance yX2_chance ∈ lw_tbl := List.mem_append_right _ (List.mem_of_getElem? (i := 824) (by decide +kernel))
theorem ml_X8_197 : Cond.methodLink RX8 197 yX2_carbon ∈ lw_tbl := List.mem_append_right _ (List.mem_of_getElem? (i := 832) (by decide +kernel))
theorem ml_X8_200 : Cond.methodLink RX8 200 yX2_score ∈ lw_tbl := List.mem_append_right _ (List.mem_of_getElem? (i := 843) (by decide +kernel))
theorem im_X2_score : Cond.instanceMethod yX2_score ∈ lw_tbl := List.mem_append_right _ (List.mem_of_getElem? (i := 844) (by decide +kernel))
theorem se_X2_score : Cond.selects RX2 yX2_score yX2_score ∈ lw_tbl := List.mem_append_right _ (List.mem_of_getElem? (i := 845) (by decide +kernel))
theorem ml_X8_203 : Cond.methodLink RX8 203 yX1_fareOf ∈ lw_tbl := List.mem_append_right _ (List.mem_of_getElem? (i := 850) (by decide +kernel))
theorem im_X1_fareOf : Cond.instanceMethod yX1_fareOf ∈ lw_tbl := List.mem_append_right _ (List.mem_of_getElem? (i := 851) (by decide +kernel))
theorem se_X1_fareOf : Cond.selects RX1 yX1_fareOf yX1_fareOf ∈ lw_tbl := List.mem_append_right _ (List.mem_of_getElem? (i := 852) (by decide +kernel))
theorem ml_X8_207 : Cond.methodLink RX8 207 yX8_hasSeats ∈ lw_tbl := List.mem_append_right _ (List.mem_of_getElem? (i := 881) (by decide +kernel))
theorem im_X8_hasSeats : Cond.instanceMethod yX8_hasSeats ∈ lw_tbl := List.mem_append_right _ (List.mem_of_getElem? (i := 883) (by decide +kernel))
theorem se_X8_hasSeats : Cond.selects RX8 yX8_hasSeats yX8_hasSeats ∈ lw_tbl := List.mem_append_left _ (List.mem_of_getElem? (i := 27) (by decide +kernel))
theorem cl_X8_213 : Cond.classLink RX8 213 RX0 ∈ lw_tbl := List.mem_append_right _ (List.mem_of_getElem? (i := 495) (by decide +kernel))
theorem ml_X8_215 : Cond.methodLink RX8 215 yX0_init ∈ lw_tbl := List.mem_append_right _ (List.mem_of_getElem? (i := 891) (by decide +kernel))
theorem im_X0_init : Cond.instanceMethod yX0_init ∈ lw_tbl := List.mem_append_right _ (List.mem_of_getElem? (i := 892) (by decide +kernel))
theorem ml_X8_218 : Cond.methodLink RX8 218 yX8_bookingOf ∈ lw_tbl := List.mem_append_right _ (List.mem_of_getElem? (i := 919) (by decide +kernel))
theorem im_X8_bookingOf : Cond.instanceMethod yX8_bookingOf ∈ lw_tbl := List.mem_append_right _ (List.mem_of_getElem? (i := 921) (by decide +kernel))
theorem se_X8_bookingOf : Cond.selects RX8 yX8_bookingOf yX8_bookingOf ∈ lw_tbl := List.mem_append_left _ (List.mem_of_getElem? (i := 29) (by decide +kernel))
theorem fl_X8_222 : Cond.fieldLink RX8 222 "Connectory$Booking" "state" "I" ∈ lw_tbl := List.mem_append_right _ (List.mem_of_getElem? (i := 902) (by decide +kernel))
theorem fl_X8_227 : Cond.fieldLink RX8 227 "Connectory$Booking" "fare" "I" ∈ lw_tbl := List.mem_append_right _ (List.mem_of_getElem? (i := 898) (by decide +kernel))
theorem ml_X8_230 : Cond.methodLink RX8 230 yX0_amount ∈ lw_tbl := List.mem_append_right _ (List.mem_of_getElem? (i := 932) (by decide +kernel))
theorem im_X0_amount : Cond.instanceMethod yX0_amount ∈ lw_tbl := List.mem_append_right _ (List.mem_of_getElem? (i := 933) (by decide +kernel))
theorem se_X0_amount : Cond.selects RX0 yX0_amount yX0_amount ∈ lw_tbl := List.mem_append_right _ (List.mem_of_getElem? (i := 934) (by decide +kernel))
theorem ml_X8_235 : Cond.methodLink RX8 235 yJx4a65c_get_915e3 ∈ lw_tbl := List.mem_append_right _ (List.mem_of_getElem? (i := 477) (by decide +kernel))
theorem ml_X8_239 : Cond.methodLink RX8 239 yX0_isOpen ∈ lw_tbl := List.mem_append_right _ (List.mem_of_getElem? (i := 960) (by decide +kernel))
theorem im_X0_isOpen : Cond.instanceMethod yX0_isOpen ∈ lw_tbl := List.mem_append_right _ (List.mem_of_getElem? (i := 961) (by decide +kernel))
theorem se_X0_isOpen : Cond.selects RX0 yX0_isOpen yX0_isOpen ∈ lw_tbl := List.mem_append_right _ (List.mem_of_getElem? (i := 962) (by decide +kernel))
theorem fl_X8_243 : Cond.fieldLink RX8 243 "Connectory$Booking" "journey" "LConnectory$Journey;" ∈ lw_tbl := List.mem_append_right _ (List.mem_of_getElem? (i := 896) (by decide +kernel))
theorem ml_X8_247 : Cond.methodLink RX8 247 yX2_goesBy ∈ lw_tbl := List.mem_append_right _ (List.mem_of_getElem? (i := 496) (by decide +kernel))
theorem im_X2_goesBy : Cond.instanceMethod yX2_goesBy ∈ lw_tbl := List.mem_append_right _ (List.mem_of_getElem? (i := 497) (by decide +kernel))
theorem se_X2_goesBy : Cond.selects RX2 yX2_goesBy yX2_goesBy ∈ lw_tbl := List.mem_append_right _ (List.mem_of_getElem? (i := 498) (by decide +kernel))
theorem ml_X8_251 : Cond.methodLink RX8 251 yX8_freeSeats ∈ lw_tbl := List.mem_append_right _ (List.mem_of_getElem? (i := 885) (by decide +kernel))
theorem im_X8_freeSeats : Cond.instanceMethod yX8_freeSeats ∈ lw_tbl := List.mem_append_right _ (List.mem_of_getElem? (i := 887) (by decide +kernel))
theorem se_X8_freeSeats : Cond.selects RX8 yX8_freeSeats yX8_freeSeats ∈ lw_tbl := List.mem_append_left _ (List.mem_of_getElem? (i := 28) (by decide +kernel))
theorem fl_X8_255 : Cond.fieldLink RX8 255 "Connectory$Booking" "made" "I" ∈ lw_tbl := List.mem_append_right _ (List.mem_of_getElem? (i := 900) (by decide +kernel))
theorem fl_X8_258 : Cond.fieldLink RX8 258 "Connectory$Journey" "size" "I" ∈ lw_tbl := List.mem_append_right _ (List.mem_of_getElem? (i := 783) (by decide +kernel))
theorem fl_X8_259 : Cond.fieldLink RX8 259 "Connectory$Journey" "end" "I" ∈ lw_tbl := List.mem_append_right _ (List.mem_of_getElem? (i := 787) (by decide +kernel))
theorem kc_X8_270 : Cond.constant RX8 270 (140000) ∈ lw_tbl := List.mem_append_right _ (List.mem_of_getElem? (i := 562) (by decide +kernel))
theorem fl_X8_275 : Cond.fieldLink RX8 275 "Connectory$Journey" "first" "LConnectory$Ride;" ∈ lw_tbl := List.mem_append_right _ (List.mem_of_getElem? (i := 781) (by decide +kernel))
theorem fl_X8_279 : Cond.fieldLink RX8 279 "Connectory$Ride" "trip" "LConnectory$Trip;" ∈ lw_tbl := List.mem_append_right _ (List.mem_of_getElem? (i := 729) (by decide +kernel))
theorem fl_X8_283 : Cond.fieldLink RX8 283 "Connectory$Ride" "day" "I" ∈ lw_tbl := List.mem_append_right _ (List.mem_of_getElem? (i := 732) (by decide +kernel))
theorem fl_X8_286 : Cond.fieldLink RX8 286 "Connectory$Ride" "next" "LConnectory$Ride;" ∈ lw_tbl := List.mem_append_right _ (List.mem_of_getElem? (i := 738) (by decide +kernel))
theorem fl_X8_289 : Cond.fieldLink RX8 289 "Connectory$Trip" "seats" "I" ∈ lw_tbl := List.mem_append_right _ (List.mem_of_getElem? (i := 354) (by decide +kernel))
theorem ml_X8_292 : Cond.methodLink RX8 292 Lib.Math.max.name ∈ lw_tbl := List.mem_append_right _ (List.mem_of_getElem? (i := 570) (by decide +kernel))
theorem ml_X8_297 : Cond.methodLink RX8 297 Lib.Math.min.name ∈ lw_tbl := List.mem_append_right _ (List.mem_of_getElem? (i := 574) (by decide +kernel))
theorem ml_X9_1 : Cond.methodLink RX9 1 objectInit ∈ lw_tbl := List.mem_append_right _ (List.mem_of_getElem? (i := 990) (by decide +kernel))
theorem fl_X9_7 : Cond.fieldLink RX9 7 "ConnectoryModel" "transfer" "[I" ∈ lw_tbl := List.mem_append_right _ (List.mem_of_getElem? (i := 992) (by decide +kernel))
theorem fl_X9_13 : Cond.fieldLink RX9 13 "ConnectoryModel" "foot" "[I" ∈ lw_tbl := List.mem_append_right _ (List.mem_of_getElem? (i := 993) (by decide +kernel))
theorem fl_X9_16 : Cond.fieldLink RX9 16 "ConnectoryModel" "mode" "[I" ∈ lw_tbl := List.mem_append_right _ (List.mem_of_getElem? (i := 995) (by decide +kernel))
theorem fl_X9_19 : Cond.fieldLink RX9 19 "ConnectoryModel" "firm" "[I" ∈ lw_tbl := List.mem_append_right _ (List.mem_of_getElem? (i := 996) (by decide +kernel))
theorem fl_X9_22 : Cond.fieldLink RX9 22 "ConnectoryModel" "seats" "[I" ∈ lw_tbl := List.mem_append_right _ (List.mem_of_getElem? (i := 997) (by decide +kernel))
theorem fl_X9_25 : Cond.fieldLink RX9 25 "ConnectoryModel" "days" "[I" ∈ lw_tbl := List.mem_append_right _ (List.mem_of_getElem? (i := 998) (by decide +kernel))
theorem fl_X9_28 : Cond.fieldLink RX9 28 "ConnectoryModel" "length" "[I" ∈ lw_tbl := List.mem_append_right _ (List.mem_of_getElem? (i := 999) (by decide +kernel))
theorem fl_X9_31 : Cond.fieldLink RX9 31 "ConnectoryModel" "stopAt" "[I" ∈ lw_tbl := List.mem_append_right _ (List.mem_of_getElem? (i := 1000) (by decide +kernel))
theorem fl_X9_34 : Cond.fieldLink RX9 34 "ConnectoryModel" "arrives" "[I" ∈ lw_tbl := List.mem_append_right _ (List.mem_of_getElem? (i := 1001) (by decide +kernel))
theorem fl_X9_37 : Cond.fieldLink RX9 37 "ConnectoryModel" "departs" "[I" ∈ lw_tbl := List.mem_append_right _ (List.mem_of_getElem? (i := 1002) (by decide +kernel))
theorem fl_X9_40 : Cond.fieldLink RX9 40 "ConnectoryModel" "exception" "[I" ∈ lw_tbl := List.mem_append_right _ (List.mem_of_getElem? (i := 1003) (by decide +kernel))
theorem fl_X9_43 : Cond.fieldLink RX9 43 "ConnectoryModel" "late" "[I" ∈ lw_tbl := List.mem_append_right _ (List.mem_of_getElem? (i := 1004) (by decide +kernel))
theorem fl_X9_46 : Cond.fieldLink RX9 46 "ConnectoryModel" "noted" "[I" ∈ lw_tbl := List.mem_append_right _ (List.mem_of_getElem? (i := 1005) (by decide +kernel))
theorem fl_X9_49 : Cond.fieldLink RX9 49 "ConnectoryModel" "notes" "[I" ∈ lw_tbl := List.mem_append_right _ (List.mem_of_getElem? (i := 1006) (by decide +kernel))
theorem fl_X9_52 : Cond.fieldLink RX9 52 "ConnectoryModel" "base" "[I" ∈ lw_tbl := List.mem_append_right _ (List.mem_of_getElem? (i := 1007) (by decide +kernel))
theorem fl_X9_55 : Cond.fieldLink RX9 55 "ConnectoryModel" "cents" "[I" ∈ lw_tbl := List.mem_append_right _ (List.mem_of_getElem? (i := 1008) (by decide +kernel))
theorem fl_X9_58 : Cond.fieldLink RX9 58 "ConnectoryModel" "surcharge" "[I" ∈ lw_tbl := List.mem_append_right _ (List.mem_of_getElem? (i := 1009) (by decide +kernel))
theorem fl_X9_61 : Cond.fieldLink RX9 61 "ConnectoryModel" "early" "[I" ∈ lw_tbl := List.mem_append_right _ (List.mem_of_getElem? (i := 1010) (by decide +kernel))
theorem fl_X9_64 : Cond.fieldLink RX9 64 "ConnectoryModel" "ready" "[I" ∈ lw_tbl := List.mem_append_right _ (List.mem_of_getElem? (i := 1011) (by decide +kernel))
theorem fl_X9_67 : Cond.fieldLink RX9 67 "ConnectoryModel" "ofTrip" "[I" ∈ lw_tbl := List.mem_append_right _ (List.mem_of_getElem? (i := 1015) (by decide +kernel))
theorem fl_X9_70 : Cond.fieldLink RX9 70 "ConnectoryModel" "ofDay" "[I" ∈ lw_tbl := List.mem_append_right _ (List.mem_of_getElem? (i := 1016) (by decide +kernel))
theorem fl_X9_73 : Cond.fieldLink RX9 73 "ConnectoryModel" "boards" "[I" ∈ lw_tbl := List.mem_append_right _ (List.mem_of_getElem? (i := 1017) (by decide +kernel))
theorem fl_X9_76 : Cond.fieldLink RX9 76 "ConnectoryModel" "leaves" "[I" ∈ lw_tbl := List.mem_append_right _ (List.mem_of_getElem? (i := 1018) (by decide +kernel))
theorem fl_X9_79 : Cond.fieldLink RX9 79 "ConnectoryModel" "walk" "[I" ∈ lw_tbl := List.mem_append_right _ (List.mem_of_getElem? (i := 1019) (by decide +kernel))
theorem fl_X9_82 : Cond.fieldLink RX9 82 "ConnectoryModel" "fares" "[I" ∈ lw_tbl := List.mem_append_right _ (List.mem_of_getElem? (i := 1020) (by decide +kernel))
theorem fl_X9_85 : Cond.fieldLink RX9 85 "ConnectoryModel" "state" "[I" ∈ lw_tbl := List.mem_append_right _ (List.mem_of_getElem? (i := 1023) (by decide +kernel))
theorem fl_X9_88 : Cond.fieldLink RX9 88 "ConnectoryModel" "fare" "[I" ∈ lw_tbl := List.mem_append_right _ (List.mem_of_getElem? (i := 1024) (by decide +kernel))
theorem fl_X9_91 : Cond.fieldLink RX9 91 "ConnectoryModel" "rides" "[I" ∈ lw_tbl := List.mem_append_right _ (List.mem_of_getElem? (i := 1025) (by decide +kernel))
theorem fl_X9_94 : Cond.fieldLink RX9 94 "ConnectoryModel" "held" "[I" ∈ lw_tbl := List.mem_append_right _ (List.mem_of_getElem? (i := 1026) (by decide +kernel))
theorem fl_X9_97 : Cond.fieldLink RX9 97 "ConnectoryModel" "starts" "[I" ∈ lw_tbl := List.mem_append_right _ (List.mem_of_getElem? (i := 1027) (by decide +kernel))
theorem fl_X9_100 : Cond.fieldLink RX9 100 "ConnectoryModel" "told" "[I" ∈ lw_tbl := List.mem_append_right _ (List.mem_of_getElem? (i := 1028) (by decide +kernel))
theorem fl_X9_103 : Cond.fieldLink RX9 103 "ConnectoryModel" "bookedTrip" "[I" ∈ lw_tbl := List.mem_append_right _ (List.mem_of_getElem? (i := 1029) (by decide +kernel))
theorem fl_X9_106 : Cond.fieldLink RX9 106 "ConnectoryModel" "bookedDay" "[I" ∈ lw_tbl := List.mem_append_right _ (List.mem_of_getElem? (i := 1030) (by decide +kernel))
theorem fl_X9_109 : Cond.fieldLink RX9 109 "ConnectoryModel" "bookedFrom" "[I" ∈ lw_tbl := List.mem_append_right _ (List.mem_of_getElem? (i := 1031) (by decide +kernel))
theorem fl_X9_112 : Cond.fieldLink RX9 112 "ConnectoryModel" "bookedTo" "[I" ∈ lw_tbl := List.mem_append_right _ (List.mem_of_getElem? (i := 1032) (by decide +kernel))
theorem fl_X9_115 : Cond.fieldLink RX9 115 "ConnectoryModel" "bookedWalk" "[I" ∈ lw_tbl := List.mem_append_right _ (List.mem_of_getElem? (i := 1033) (by decide +kernel))
theorem fl_X9_118 : Cond.fieldLink RX9 118 "ConnectoryModel" "now" "I" ∈ lw_tbl := List.mem_append_right _ (List.mem_of_getElem? (i := 1021) (by decide +kernel))
theorem fl_X9_122 : Cond.fieldLink RX9 122 "ConnectoryModel" "thrown" "I" ∈ lw_tbl := List.mem_append_right _ (List.mem_of_getElem? (i := 1034) (by decide +kernel))
theorem fl_X9_125 : Cond.fieldLink RX9 125 "ConnectoryModel" "stops" "I" ∈ lw_tbl := List.mem_append_right _ (List.mem_of_getElem? (i := 991) (by decide +kernel))
theorem ml_X9_128 : Cond.methodLink RX9 128 yX9_in ∈ lw_tbl := List.mem_append_right _ (List.mem_of_getElem? (i := 1132) (by decide +kernel))
theorem st_X9_in : Cond.static yX9_in ∈ lw_tbl := List.mem_append_right _ (List.mem_of_getElem? (i := 1133) (by decide +kernel))
theorem fl_X9_132 : Cond.fieldLink RX9 132 "ConnectoryModel" "trips" "I" ∈ lw_tbl := List.mem_append_right _ (List.mem_of_getElem? (i := 994) (by decide +kernel))
theorem fl_X9_135 : Cond.fieldLink RX9 135 "ConnectoryModel" "bookings" "I" ∈ lw_tbl := List.mem_append_right _ (List.mem_of_getElem? (i := 1022) (by decide +kernel))
theorem ml_X9_138 : Cond.methodLink RX9 138 yX9_asks ∈ lw_tbl := List.mem_append_right _ (List.mem_of_getElem? (i := 1135) (by decide +kernel))
theorem im_X9_asks : Cond.instanceMethod yX9_asks ∈ lw_tbl := List.mem_append_right _ (List.mem_of_getElem? (i := 1137) (by decide +kernel))
theorem se_X9_asks : Cond.selects RX9 yX9_asks yX9_asks ∈ lw_tbl := List.mem_append_left _ (List.mem_of_getElem? (i := 30) (by decide +kernel))
theorem ml_X9_142 : Cond.methodLink RX9 142 yX9_fails ∈ lw_tbl := List.mem_append_right _ (List.mem_of_getElem? (i := 1139) (by decide +kernel))
theorem im_X9_fails : Cond.instanceMethod yX9_fails ∈ lw_tbl := List.mem_append_right _ (List.mem_of_getElem? (i := 1141) (by decide +kernel))
theorem se_X9_fails : Cond.selects RX9 yX9_fails yX9_fails ∈ lw_tbl := List.mem_append_left _ (List.mem_of_getElem? (i := 31) (by decide +kernel))
theorem ml_X9_146 : Cond.methodLink RX9 146 yX9_isStop ∈ lw_tbl := List.mem_append_right _ (List.mem_of_getElem? (i := 1147) (by decide +kernel))
theorem im_X9_isStop : Cond.instanceMethod yX9_isStop ∈ lw_tbl := List.mem_append_right _ (List.mem_of_getElem? (i := 1149) (by decide +kernel))
theorem se_X9_isStop : Cond.selects RX9 yX9_isStop yX9_isStop ∈ lw_tbl := List.mem_append_left _ (List.mem_of_getElem? (i := 32) (by decide +kernel))
theorem ml_X9_150 : Cond.methodLink RX9 150 yX9_isFirm ∈ lw_tbl := List.mem_append_right _ (List.mem_of_getElem? (i := 1155) (by decide +kernel))
theorem st_X9_isFirm : Cond.static yX9_isFirm ∈ lw_tbl := List.mem_append_right _ (List.mem_of_getElem? (i := 1156) (by decide +kernel))
theorem ml_X9_153 : Cond.methodLink RX9 153 yX9_isTrip ∈ lw_tbl := List.mem_append_right _ (List.mem_of_getElem? (i := 1162) (by decide +kernel))
theorem im_X9_isTrip : Cond.instanceMethod yX9_isTrip ∈ lw_tbl := List.mem_append_right _ (List.mem_of_getElem? (i := 1164) (by decide +kernel))
theorem se_X9_isTrip : Cond.selects RX9 yX9_isTrip yX9_isTrip ∈ lw_tbl := List.mem_append_left _ (List.mem_of_getElem? (i := 33) (by decide +kernel))
theorem ml_X9_156 : Cond.methodLink RX9 156 yX9_isDay ∈ lw_tbl := List.mem_append_right _ (List.mem_of_getElem? (i := 1170) (by decide +kernel))
theorem st_X9_isDay : Cond.static yX9_isDay ∈ lw_tbl := List.mem_append_right _ (List.mem_of_getElem? (i := 1171) (by decide +kernel))
theorem ml_X9_159 : Cond.methodLink RX9 159 yX9_isRun ∈ lw_tbl := List.mem_append_right _ (List.mem_of_getElem? (i := 1173) (by decide +kernel))
theorem im_X9_isRun : Cond.instanceMethod yX9_isRun ∈ lw_tbl := List.mem_append_right _ (List.mem_of_getElem? (i := 1175) (by decide +kernel))
theorem se_X9_isRun : Cond.selects RX9 yX9_isRun yX9_isRun ∈ lw_tbl := List.mem_append_left _ (List.mem_of_getElem? (i := 34) (by decide +kernel))
theorem fl_X9_163 : Cond.fieldLink RX9 163 "ConnectoryModel" "begun" "I" ∈ lw_tbl := List.mem_append_right _ (List.mem_of_getElem? (i := 1013) (by decide +kernel))
theorem ml_X9_166 : Cond.methodLink RX9 166 yX9_goes ∈ lw_tbl := List.mem_append_right _ (List.mem_of_getElem? (i := 1207) (by decide +kernel))
theorem im_X9_goes : Cond.instanceMethod yX9_goes ∈ lw_tbl := List.mem_append_right _ (List.mem_of_getElem? (i := 1209) (by decide +kernel))
theorem se_X9_goes : Cond.selects RX9 yX9_goes yX9_goes ∈ lw_tbl := List.mem_append_left _ (List.mem_of_getElem? (i := 38) (by decide +kernel))
theorem ml_X9_169 : Cond.methodLink RX9 169 yX9_departure ∈ lw_tbl := List.mem_append_right _ (List.mem_of_getElem? (i := 1215) (by decide +kernel))
theorem im_X9_departure : Cond.instanceMethod yX9_departure ∈ lw_tbl := List.mem_append_right _ (List.mem_of_getElem? (i := 1217) (by decide +kernel))
theorem se_X9_departure : Cond.selects RX9 yX9_departure yX9_departure ∈ lw_tbl := List.mem_append_left _ (List.mem_of_getElem? (i := 40) (by decide +kernel))
theorem ml_X9_173 : Cond.methodLink RX9 173 yX9_arrivalOf ∈ lw_tbl := List.mem_append_right _ (List.mem_of_getElem? (i := 1219) (by decide +kernel))
theorem im_X9_arrivalOf : Cond.instanceMethod yX9_arrivalOf ∈ lw_tbl := List.mem_append_right _ (List.mem_of_getElem? (i := 1221) (by decide +kernel))
theorem se_X9_arrivalOf : Cond.selects RX9 yX9_arrivalOf yX9_arrivalOf ∈ lw_tbl := List.mem_append_left _ (List.mem_of_getElem? (i := 41) (by decide +kernel))
theorem kc_X9_176 : Cond.constant RX9 176 (100000000) ∈ lw_tbl := List.mem_append_right _ (List.mem_of_getElem? (i := 1202) (by decide +kernel))
theorem ml_X9_177 : Cond.methodLink RX9 177 yX9_isLooked ∈ lw_tbl := List.mem_append_right _ (List.mem_of_getElem? (i := 1203) (by decide +kernel))
theorem im_X9_isLooked : Cond.instanceMethod yX9_isLooked ∈ lw_tbl := List.mem_append_right _ (List.mem_of_getElem? (i := 1205) (by decide +kernel))
theorem se_X9_isLooked : Cond.selects RX9 yX9_isLooked yX9_isLooked ∈ lw_tbl := List.mem_append_left _ (List.mem_of_getElem? (i := 37) (by decide +kernel))
theorem ml_X9_180 : Cond.methodLink RX9 180 yX9_rides ∈ lw_tbl := List.mem_append_right _ (List.mem_of_getElem? (i := 1211) (by decide +kernel))
theorem im_X9_rides : Cond.instanceMethod yX9_rides ∈ lw_tbl := List.mem_append_right _ (List.mem_of_getElem? (i := 1213) (by decide +kernel))
theorem se_X9_rides : Cond.selects RX9 yX9_rides yX9_rides ∈ lw_tbl := List.mem_append_left _ (List.mem_of_getElem? (i := 39) (by decide +kernel))
theorem ml_X9_183 : Cond.methodLink RX9 183 yX9_readies ∈ lw_tbl := List.mem_append_right _ (List.mem_of_getElem? (i := 1223) (by decide +kernel))
theorem im_X9_readies : Cond.instanceMethod yX9_readies ∈ lw_tbl := List.mem_append_right _ (List.mem_of_getElem? (i := 1225) (by decide +kernel))
theorem se_X9_readies : Cond.selects RX9 yX9_readies yX9_readies ∈ lw_tbl := List.mem_append_left _ (List.mem_of_getElem? (i := 42) (by decide +kernel))
theorem kc_X9_187 : Cond.constant RX9 187 (140000) ∈ lw_tbl := List.mem_append_right _ (List.mem_of_getElem? (i := 1197) (by decide +kernel))
theorem ml_X9_188 : Cond.methodLink RX9 188 yX9_asksWay ∈ lw_tbl := List.mem_append_right _ (List.mem_of_getElem? (i := 1193) (by decide +kernel))
theorem im_X9_asksWay : Cond.instanceMethod yX9_asksWay ∈ lw_tbl := List.mem_append_right _ (List.mem_of_getElem? (i := 1195) (by decide +kernel))
theorem se_X9_asksWay : Cond.selects RX9 yX9_asksWay yX9_asksWay ∈ lw_tbl := List.mem_append_left _ (List.mem_of_getElem? (i := 35) (by decide +kernel))
theorem ml_X9_192 : Cond.methodLink RX9 192 yX9_reaches ∈ lw_tbl := List.mem_append_right _ (List.mem_of_getElem? (i := 1198) (by decide +kernel))
theorem im_X9_reaches : Cond.instanceMethod yX9_reaches ∈ lw_tbl := List.mem_append_right _ (List.mem_of_getElem? (i := 1200) (by decide +kernel))
theorem se_X9_reaches : Cond.selects RX9 yX9_reaches yX9_reaches ∈ lw_tbl := List.mem_append_left _ (List.mem_of_getElem? (i := 36) (by decide +kernel))
theorem ml_X9_195 : Cond.methodLink RX9 195 yX9_timeBy ∈ lw_tbl := List.mem_append_right _ (List.mem_of_getElem? (i := 1227) (by decide +kernel))
theorem im_X9_timeBy : Cond.instanceMethod yX9_timeBy ∈ lw_tbl := List.mem_append_right _ (List.mem_of_getElem? (i := 1229) (by decide +kernel))
theorem se_X9_timeBy : Cond.selects RX9 yX9_timeBy yX9_timeBy ∈ lw_tbl := List.mem_append_left _ (List.mem_of_getElem? (i := 43) (by decide +kernel))
theorem ml_X9_199 : Cond.methodLink RX9 199 yX9_isRide ∈ lw_tbl := List.mem_append_right _ (List.mem_of_getElem? (i := 1251) (by decide +kernel))
theorem im_X9_isRide : Cond.instanceMethod yX9_isRide ∈ lw_tbl := List.mem_append_right _ (List.mem_of_getElem? (i := 1253) (by decide +kernel))
theorem se_X9_isRide : Cond.selects RX9 yX9_isRide yX9_isRide ∈ lw_tbl := List.mem_append_left _ (List.mem_of_getElem? (i := 46) (by decide +kernel))
theorem fl_X9_203 : Cond.fieldLink RX9 203 "ConnectoryModel" "end" "I" ∈ lw_tbl := List.mem_append_right _ (List.mem_of_getElem? (i := 1014) (by decide +kernel))
theorem fl_X9_206 : Cond.fieldLink RX9 206 "ConnectoryModel" "found" "I" ∈ lw_tbl := List.mem_append_right _ (List.mem_of_getElem? (i := 1012) (by decide +kernel))
theorem ml_X9_209 : Cond.methodLink RX9 209 yX9_findsRide ∈ lw_tbl := List.mem_append_right _ (List.mem_of_getElem? (i := 1247) (by decide +kernel))
theorem im_X9_findsRide : Cond.instanceMethod yX9_findsRide ∈ lw_tbl := List.mem_append_right _ (List.mem_of_getElem? (i := 1249) (by decide +kernel))
theorem se_X9_findsRide : Cond.selects RX9 yX9_findsRide yX9_findsRide ∈ lw_tbl := List.mem_append_left _ (List.mem_of_getElem? (i := 45) (by decide +kernel))
theorem ml_X9_213 : Cond.methodLink RX9 213 yX9_aheadOf ∈ lw_tbl := List.mem_append_right _ (List.mem_of_getElem? (i := 1255) (by decide +kernel))
theorem im_X9_aheadOf : Cond.instanceMethod yX9_aheadOf ∈ lw_tbl := List.mem_append_right _ (List.mem_of_getElem? (i := 1257) (by decide +kernel))
theorem se_X9_aheadOf : Cond.selects RX9 yX9_aheadOf yX9_aheadOf ∈ lw_tbl := List.mem_append_left _ (List.mem_of_getElem? (i := 47) (by decide +kernel))
theorem ml_X9_216 : Cond.methodLink RX9 216 yX9_finds ∈ lw_tbl := List.mem_append_right _ (List.mem_of_getElem? (i := 1243) (by decide +kernel))
theorem im_X9_finds : Cond.instanceMethod yX9_finds ∈ lw_tbl := List.mem_append_right _ (List.mem_of_getElem? (i := 1245) (by decide +kernel))
theorem se_X9_finds : Cond.selects RX9 yX9_finds yX9_finds ∈ lw_tbl := List.mem_append_left _ (List.mem_of_getElem? (i := 44) (by decide +kernel))
theorem ml_X9_220 : Cond.methodLink RX9 220 yX9_chanceOf ∈ lw_tbl := List.mem_append_right _ (List.mem_of_getElem? (i := 1268) (by decide +kernel))
theorem im_X9_chanceOf : Cond.instanceMethod yX9_chanceOf ∈ lw_tbl := List.mem_append_right _ (List.mem_of_getElem? (i := 1270) (by decide +kernel))
theorem se_X9_chanceOf : Cond.selects RX9 yX9_chanceOf yX9_chanceOf ∈ lw_tbl := List.mem_append_left _ (List.mem_of_getElem? (i := 49) (by decide +kernel))
theorem kc_X9_224 : Cond.constantDouble RX9 224 (4624070917402656768) ∈ lw_tbl := List.mem_append_right _ (List.mem_of_getElem? (i := 1276) (by decide +kernel))
theorem kc_X9_226 : Cond.constantDouble RX9 226 (4629137466983448576) ∈ lw_tbl := List.mem_append_right _ (List.mem_of_getElem? (i := 1277) (by decide +kernel))
theorem kc_X9_228 : Cond.constantDouble RX9 228 (4638144666238189568) ∈ lw_tbl := List.mem_append_right _ (List.mem_of_getElem? (i := 1278) (by decide +kernel))
theorem kc_X9_230 : Cond.constantDouble RX9 230 (4624633867356078080) ∈ lw_tbl := List.mem_append_right _ (List.mem_of_getElem? (i := 1283) (by decide +kernel))
theorem ml_X9_232 : Cond.methodLink RX9 232 yX9_carbon ∈ lw_tbl := List.mem_append_right _ (List.mem_of_getElem? (i := 1272) (by decide +kernel))
theorem im_X9_carbon : Cond.instanceMethod yX9_carbon ∈ lw_tbl := List.mem_append_right _ (List.mem_of_getElem? (i := 1274) (by decide +kernel))
theorem se_X9_carbon : Cond.selects RX9 yX9_carbon yX9_carbon ∈ lw_tbl := List.mem_append_left _ (List.mem_of_getElem? (i := 50) (by decide +kernel))
theorem kc_X9_236 : Cond.constantDouble RX9 236 (4621819117588971520) ∈ lw_tbl := List.mem_append_right _ (List.mem_of_getElem? (i := 1284) (by decide +kernel))
theorem kc_X9_238 : Cond.constantDouble RX9 238 (13830554455654793216) ∈ lw_tbl := List.mem_append_right _ (List.mem_of_getElem? (i := 1263) (by decide +kernel))
theorem ml_X9_240 : Cond.methodLink RX9 240 yX9_chance ∈ lw_tbl := List.mem_append_right _ (List.mem_of_getElem? (i := 1264) (by decide +kernel))
theorem im_X9_chance : Cond.instanceMethod yX9_chance ∈ lw_tbl := List.mem_append_right _ (List.mem_of_getElem? (i := 1266) (by decide +kernel))
theorem se_X9_chance : Cond.selects RX9 yX9_chance yX9_chance ∈ lw_tbl := List.mem_append_left _ (List.mem_of_getElem? (i := 48) (by decide +kernel))
theorem ml_X9_243 : Cond.methodLink RX9 243 yX9_score ∈ lw_tbl := List.mem_append_right _ (List.mem_of_getElem? (i := 1279) (by decide +kernel))
theorem im_X9_score : Cond.instanceMethod yX9_score ∈ lw_tbl := List.mem_append_right _ (List.mem_of_getElem? (i := 1281) (by decide +kernel))
theorem se_X9_score : Cond.selects RX9 yX9_score yX9_score ∈ lw_tbl := List.mem_append_left _ (List.mem_of_getElem? (i := 51) (by decide +kernel))
theorem ml_X9_246 : Cond.methodLink RX9 246 yX9_fareOf ∈ lw_tbl := List.mem_append_right _ (List.mem_of_getElem? (i := 1285) (by decide +kernel))
theorem im_X9_fareOf : Cond.instanceMethod yX9_fareOf ∈ lw_tbl := List.mem_append_right _ (List.mem_of_getElem? (i := 1287) (by decide +kernel))
theorem se_X9_fareOf : Cond.selects RX9 yX9_fareOf yX9_fareOf ∈ lw_tbl := List.mem_append_left _ (List.mem_of_getElem? (i := 52) (by decide +kernel))
theorem ml_X9_250 : Cond.methodLink RX9 250 yX9_hasRide ∈ lw_tbl := List.mem_append_right _ (List.mem_of_getElem? (i := 1301) (by decide +kernel))
theorem im_X9_hasRide : Cond.instanceMethod yX9_hasRide ∈ lw_tbl := List.mem_append_right _ (List.mem_of_getElem? (i := 1303) (by decide +kernel))
theorem se_X9_hasRide : Cond.selects RX9 yX9_hasRide yX9_hasRide ∈ lw_tbl := List.mem_append_left _ (List.mem_of_getElem? (i := 54) (by decide +kernel))
theorem ml_X9_253 : Cond.methodLink RX9 253 yX9_free ∈ lw_tbl := List.mem_append_right _ (List.mem_of_getElem? (i := 1297) (by decide +kernel))
theorem im_X9_free : Cond.instanceMethod yX9_free ∈ lw_tbl := List.mem_append_right _ (List.mem_of_getElem? (i := 1299) (by decide +kernel))
theorem se_X9_free : Cond.selects RX9 yX9_free yX9_free ∈ lw_tbl := List.mem_append_left _ (List.mem_of_getElem? (i := 53) (by decide +kernel))
theorem ml_X9_256 : Cond.methodLink RX9 256 yX9_isBooking ∈ lw_tbl := List.mem_append_right _ (List.mem_of_getElem? (i := 1309) (by decide +kernel))
theorem im_X9_isBooking : Cond.instanceMethod yX9_isBooking ∈ lw_tbl := List.mem_append_right _ (List.mem_of_getElem? (i := 1311) (by decide +kernel))
theorem se_X9_isBooking : Cond.selects RX9 yX9_isBooking yX9_isBooking ∈ lw_tbl := List.mem_append_left _ (List.mem_of_getElem? (i := 55) (by decide +kernel))
theorem ml_X9_259 : Cond.methodLink RX9 259 yX9_rightOf ∈ lw_tbl := List.mem_append_right _ (List.mem_of_getElem? (i := 1317) (by decide +kernel))
theorem im_X9_rightOf : Cond.instanceMethod yX9_rightOf ∈ lw_tbl := List.mem_append_right _ (List.mem_of_getElem? (i := 1319) (by decide +kernel))
theorem se_X9_rightOf : Cond.selects RX9 yX9_rightOf yX9_rightOf ∈ lw_tbl := List.mem_append_left _ (List.mem_of_getElem? (i := 56) (by decide +kernel))
theorem ml_L_7 : Cond.methodLink RL 7 yX8_stop ∈ lw_tbl := List.mem_append_right _ (List.mem_of_getElem? (i := 186) (by decide +kernel))
theorem im_X8_stop : Cond.instanceMethod yX8_stop ∈ lw_tbl := List.mem_append_right _ (List.mem_of_getElem? (i := 187) (by decide +kernel))
theorem se_X8_stop : Cond.selects RX8 yX8_stop yX8_stop ∈ lw_tbl := List.mem_append_right _ (List.mem_of_getElem? (i := 188) (by decide +kernel))
theorem ml_L_17 : Cond.methodLink RL 17 yX8_footway ∈ lw_tbl := List.mem_append_right _ (List.mem_of_getElem? (i := 288) (by decide +kernel))
theorem im_X8_footway : Cond.instanceMethod yX8_footway ∈ lw_tbl := List.mem_append_right _ (List.mem_of_getElem? (i := 289) (by decide +kernel))
theorem se_X8_footway : Cond.selects RX8 yX8_footway yX8_footway ∈ lw_tbl := List.mem_append_right _ (List.mem_of_getElem? (i := 290) (by decide +kernel))
theorem ml_L_23 : Cond.methodLink RL 23 yX8_trip ∈ lw_tbl := List.mem_append_right _ (List.mem_of_getElem? (i := 327) (by decide +kernel))
theorem im_X8_trip : Cond.instanceMethod yX8_trip ∈ lw_tbl := List.mem_append_right _ (List.mem_of_getElem? (i := 328) (by decide +kernel))
theorem se_X8_trip : Cond.selects RX8 yX8_trip yX8_trip ∈ lw_tbl := List.mem_append_right _ (List.mem_of_getElem? (i := 329) (by decide +kernel))
theorem ml_L_27 : Cond.methodLink RL 27 yX8_calls ∈ lw_tbl := List.mem_append_right _ (List.mem_of_getElem? (i := 468) (by decide +kernel))
theorem im_X8_calls : Cond.instanceMethod yX8_calls ∈ lw_tbl := List.mem_append_right _ (List.mem_of_getElem? (i := 469) (by decide +kernel))
theorem se_X8_calls : Cond.selects RX8 yX8_calls yX8_calls ∈ lw_tbl := List.mem_append_right _ (List.mem_of_getElem? (i := 470) (by decide +kernel))
theorem ml_L_31 : Cond.methodLink RL 31 yX8_runs ∈ lw_tbl := List.mem_append_right _ (List.mem_of_getElem? (i := 509) (by decide +kernel))
theorem im_X8_runs : Cond.instanceMethod yX8_runs ∈ lw_tbl := List.mem_append_right _ (List.mem_of_getElem? (i := 510) (by decide +kernel))
theorem se_X8_runs : Cond.selects RX8 yX8_runs yX8_runs ∈ lw_tbl := List.mem_append_right _ (List.mem_of_getElem? (i := 511) (by decide +kernel))
theorem ml_L_35 : Cond.methodLink RL 35 yX8_delay ∈ lw_tbl := List.mem_append_right _ (List.mem_of_getElem? (i := 524) (by decide +kernel))
theorem im_X8_delay : Cond.instanceMethod yX8_delay ∈ lw_tbl := List.mem_append_right _ (List.mem_of_getElem? (i := 525) (by decide +kernel))
theorem se_X8_delay : Cond.selects RX8 yX8_delay yX8_delay ∈ lw_tbl := List.mem_append_right _ (List.mem_of_getElem? (i := 526) (by decide +kernel))
theorem ml_L_38 : Cond.methodLink RL 38 yX8_note ∈ lw_tbl := List.mem_append_right _ (List.mem_of_getElem? (i := 533) (by decide +kernel))
theorem im_X8_note : Cond.instanceMethod yX8_note ∈ lw_tbl := List.mem_append_right _ (List.mem_of_getElem? (i := 534) (by decide +kernel))
theorem se_X8_note : Cond.selects RX8 yX8_note yX8_note ∈ lw_tbl := List.mem_append_right _ (List.mem_of_getElem? (i := 535) (by decide +kernel))
theorem ml_L_42 : Cond.methodLink RL 42 yX8_prices ∈ lw_tbl := List.mem_append_right _ (List.mem_of_getElem? (i := 541) (by decide +kernel))
theorem im_X8_prices : Cond.instanceMethod yX8_prices ∈ lw_tbl := List.mem_append_right _ (List.mem_of_getElem? (i := 542) (by decide +kernel))
theorem se_X8_prices : Cond.selects RX8 yX8_prices yX8_prices ∈ lw_tbl := List.mem_append_right _ (List.mem_of_getElem? (i := 543) (by decide +kernel))
theorem ml_L_46 : Cond.methodLink RL 46 yX8_arrival ∈ lw_tbl := List.mem_append_right _ (List.mem_of_getElem? (i := 553) (by decide +kernel))
theorem im_X8_arrival : Cond.instanceMethod yX8_arrival ∈ lw_tbl := List.mem_append_right _ (List.mem_of_getElem? (i := 554) (by decide +kernel))
theorem se_X8_arrival : Cond.selects RX8 yX8_arrival yX8_arrival ∈ lw_tbl := List.mem_append_right _ (List.mem_of_getElem? (i := 555) (by decide +kernel))
theorem ml_L_49 : Cond.methodLink RL 49 yX8_arrivalAnew ∈ lw_tbl := List.mem_append_right _ (List.mem_of_getElem? (i := 652) (by decide +kernel))
theorem im_X8_arrivalAnew : Cond.instanceMethod yX8_arrivalAnew ∈ lw_tbl := List.mem_append_right _ (List.mem_of_getElem? (i := 653) (by decide +kernel))
theorem se_X8_arrivalAnew : Cond.selects RX8 yX8_arrivalAnew yX8_arrivalAnew ∈ lw_tbl := List.mem_append_right _ (List.mem_of_getElem? (i := 654) (by decide +kernel))
theorem ml_L_52 : Cond.methodLink RL 52 yX8_front ∈ lw_tbl := List.mem_append_right _ (List.mem_of_getElem? (i := 688) (by decide +kernel))
theorem im_X8_front : Cond.instanceMethod yX8_front ∈ lw_tbl := List.mem_append_right _ (List.mem_of_getElem? (i := 689) (by decide +kernel))
theorem se_X8_front : Cond.selects RX8 yX8_front yX8_front ∈ lw_tbl := List.mem_append_right _ (List.mem_of_getElem? (i := 690) (by decide +kernel))
theorem ml_L_55 : Cond.methodLink RL 55 yX8_ride ∈ lw_tbl := List.mem_append_right _ (List.mem_of_getElem? (i := 695) (by decide +kernel))
theorem im_X8_ride : Cond.instanceMethod yX8_ride ∈ lw_tbl := List.mem_append_right _ (List.mem_of_getElem? (i := 696) (by decide +kernel))
theorem se_X8_ride : Cond.selects RX8 yX8_ride yX8_ride ∈ lw_tbl := List.mem_append_right _ (List.mem_of_getElem? (i := 697) (by decide +kernel))
theorem ml_L_58 : Cond.methodLink RL 58 yX8_journey ∈ lw_tbl := List.mem_append_right _ (List.mem_of_getElem? (i := 817) (by decide +kernel))
theorem im_X8_journey : Cond.instanceMethod yX8_journey ∈ lw_tbl := List.mem_append_right _ (List.mem_of_getElem? (i := 818) (by decide +kernel))
theorem se_X8_journey : Cond.selects RX8 yX8_journey yX8_journey ∈ lw_tbl := List.mem_append_right _ (List.mem_of_getElem? (i := 819) (by decide +kernel))
theorem ml_L_62 : Cond.methodLink RL 62 yX8_best ∈ lw_tbl := List.mem_append_right _ (List.mem_of_getElem? (i := 870) (by decide +kernel))
theorem im_X8_best : Cond.instanceMethod yX8_best ∈ lw_tbl := List.mem_append_right _ (List.mem_of_getElem? (i := 871) (by decide +kernel))
theorem se_X8_best : Cond.selects RX8 yX8_best yX8_best ∈ lw_tbl := List.mem_append_right _ (List.mem_of_getElem? (i := 872) (by decide +kernel))
theorem ml_L_65 : Cond.methodLink RL 65 yX8_book ∈ lw_tbl := List.mem_append_right _ (List.mem_of_getElem? (i := 877) (by decide +kernel))
theorem im_X8_book : Cond.instanceMethod yX8_book ∈ lw_tbl := List.mem_append_right _ (List.mem_of_getElem? (i := 878) (by decide +kernel))
theorem se_X8_book : Cond.selects RX8 yX8_book yX8_book ∈ lw_tbl := List.mem_append_right _ (List.mem_of_getElem? (i := 879) (by decide +kernel))
theorem ml_L_68 : Cond.methodLink RL 68 yX8_buy ∈ lw_tbl := List.mem_append_right _ (List.mem_of_getElem? (i := 915) (by decide +kernel))
theorem im_X8_buy : Cond.instanceMethod yX8_buy ∈ lw_tbl := List.mem_append_right _ (List.mem_of_getElem? (i := 916) (by decide +kernel))
theorem se_X8_buy : Cond.selects RX8 yX8_buy yX8_buy ∈ lw_tbl := List.mem_append_right _ (List.mem_of_getElem? (i := 917) (by decide +kernel))
theorem ml_L_71 : Cond.methodLink RL 71 yX8_right ∈ lw_tbl := List.mem_append_right _ (List.mem_of_getElem? (i := 928) (by decide +kernel))
theorem im_X8_right : Cond.instanceMethod yX8_right ∈ lw_tbl := List.mem_append_right _ (List.mem_of_getElem? (i := 929) (by decide +kernel))
theorem se_X8_right : Cond.selects RX8 yX8_right yX8_right ∈ lw_tbl := List.mem_append_right _ (List.mem_of_getElem? (i := 930) (by decide +kernel))
theorem ml_L_74 : Cond.methodLink RL 74 yX8_claim ∈ lw_tbl := List.mem_append_right _ (List.mem_of_getElem? (i := 948) (by decide +kernel))
theorem im_X8_claim : Cond.instanceMethod yX8_claim ∈ lw_tbl := List.mem_append_right _ (List.mem_of_getElem? (i := 949) (by decide +kernel))
theorem se_X8_claim : Cond.selects RX8 yX8_claim yX8_claim ∈ lw_tbl := List.mem_append_right _ (List.mem_of_getElem? (i := 950) (by decide +kernel))
theorem ml_L_77 : Cond.methodLink RL 77 yX8_concerned ∈ lw_tbl := List.mem_append_right _ (List.mem_of_getElem? (i := 956) (by decide +kernel))
theorem im_X8_concerned : Cond.instanceMethod yX8_concerned ∈ lw_tbl := List.mem_append_right _ (List.mem_of_getElem? (i := 957) (by decide +kernel))
theorem se_X8_concerned : Cond.selects RX8 yX8_concerned yX8_concerned ∈ lw_tbl := List.mem_append_right _ (List.mem_of_getElem? (i := 958) (by decide +kernel))
theorem ml_L_80 : Cond.methodLink RL 80 yX8_seats ∈ lw_tbl := List.mem_append_right _ (List.mem_of_getElem? (i := 967) (by decide +kernel))
theorem im_X8_seats : Cond.instanceMethod yX8_seats ∈ lw_tbl := List.mem_append_right _ (List.mem_of_getElem? (i := 968) (by decide +kernel))
theorem se_X8_seats : Cond.selects RX8 yX8_seats yX8_seats ∈ lw_tbl := List.mem_append_right _ (List.mem_of_getElem? (i := 969) (by decide +kernel))
theorem ml_L_83 : Cond.methodLink RL 83 yX8_pass ∈ lw_tbl := List.mem_append_right _ (List.mem_of_getElem? (i := 974) (by decide +kernel))
theorem im_X8_pass : Cond.instanceMethod yX8_pass ∈ lw_tbl := List.mem_append_right _ (List.mem_of_getElem? (i := 975) (by decide +kernel))
theorem se_X8_pass : Cond.selects RX8 yX8_pass yX8_pass ∈ lw_tbl := List.mem_append_right _ (List.mem_of_getElem? (i := 976) (by decide +kernel))
theorem ml_L_86 : Cond.methodLink RL 86 yX8_ofBooking ∈ lw_tbl := List.mem_append_right _ (List.mem_of_getElem? (i := 981) (by decide +kernel))
theorem im_X8_ofBooking : Cond.instanceMethod yX8_ofBooking ∈ lw_tbl := List.mem_append_right _ (List.mem_of_getElem? (i := 982) (by decide +kernel))
theorem se_X8_ofBooking : Cond.selects RX8 yX8_ofBooking yX8_ofBooking ∈ lw_tbl := List.mem_append_right _ (List.mem_of_getElem? (i := 983) (by decide +kernel))
theorem cl_L_8 : Cond.classLink RL 8 RX8 ∈ lw_tbl := List.mem_append_right _ (List.mem_of_getElem? (i := 26) (by decide +kernel))
theorem ml_L_89 : Cond.methodLink RL 89 yX8_init ∈ lw_tbl := List.mem_append_right _ (List.mem_of_getElem? (i := 28) (by decide +kernel))
theorem im_X8_init : Cond.instanceMethod yX8_init ∈ lw_tbl := List.mem_append_right _ (List.mem_of_getElem? (i := 29) (by decide +kernel))
theorem cl_L_90 : Cond.classLink RL 90 RX9 ∈ lw_tbl := List.mem_append_right _ (List.mem_of_getElem? (i := 985) (by decide +kernel))
theorem ml_L_92 : Cond.methodLink RL 92 yX9_init ∈ lw_tbl := List.mem_append_right _ (List.mem_of_getElem? (i := 987) (by decide +kernel))
theorem im_X9_init : Cond.instanceMethod yX9_init ∈ lw_tbl := List.mem_append_right _ (List.mem_of_getElem? (i := 988) (by decide +kernel))
theorem ml_L_93 : Cond.methodLink RL 93 yL_stop ∈ lw_tbl := List.mem_append_right _ (List.mem_of_getElem? (i := 181) (by decide +kernel))
theorem st_L_stop : Cond.static yL_stop ∈ lw_tbl := List.mem_append_right _ (List.mem_of_getElem? (i := 182) (by decide +kernel))
theorem ml_L_98 : Cond.methodLink RL 98 yX9_stop ∈ lw_tbl := List.mem_append_right _ (List.mem_of_getElem? (i := 1128) (by decide +kernel))
theorem im_X9_stop : Cond.instanceMethod yX9_stop ∈ lw_tbl := List.mem_append_right _ (List.mem_of_getElem? (i := 1129) (by decide +kernel))
theorem se_X9_stop : Cond.selects RX9 yX9_stop yX9_stop ∈ lw_tbl := List.mem_append_right _ (List.mem_of_getElem? (i := 1130) (by decide +kernel))
theorem ml_L_99 : Cond.methodLink RL 99 yX9_thrown ∈ lw_tbl := List.mem_append_right _ (List.mem_of_getElem? (i := 1124) (by decide +kernel))
theorem im_X9_thrown : Cond.instanceMethod yX9_thrown ∈ lw_tbl := List.mem_append_right _ (List.mem_of_getElem? (i := 1125) (by decide +kernel))
theorem se_X9_thrown : Cond.selects RX9 yX9_thrown yX9_thrown ∈ lw_tbl := List.mem_append_right _ (List.mem_of_getElem? (i := 1126) (by decide +kernel))
theorem ml_L_103 : Cond.methodLink RL 103 yL_footway ∈ lw_tbl := List.mem_append_right _ (List.mem_of_getElem? (i := 284) (by decide +kernel))
theorem st_L_footway : Cond.static yL_footway ∈ lw_tbl := List.mem_append_right _ (List.mem_of_getElem? (i := 285) (by decide +kernel))
theorem ml_L_106 : Cond.methodLink RL 106 yX9_footway ∈ lw_tbl := List.mem_append_right _ (List.mem_of_getElem? (i := 1143) (by decide +kernel))
theorem im_X9_footway : Cond.instanceMethod yX9_footway ∈ lw_tbl := List.mem_append_right _ (List.mem_of_getElem? (i := 1144) (by decide +kernel))
theorem se_X9_footway : Cond.selects RX9 yX9_footway yX9_footway ∈ lw_tbl := List.mem_append_right _ (List.mem_of_getElem? (i := 1145) (by decide +kernel))
theorem ml_L_107 : Cond.methodLink RL 107 yL_trip ∈ lw_tbl := List.mem_append_right _ (List.mem_of_getElem? (i := 324) (by decide +kernel))
theorem st_L_trip : Cond.static yL_trip ∈ lw_tbl := List.mem_append_right _ (List.mem_of_getElem? (i := 325) (by decide +kernel))
theorem ml_L_110 : Cond.methodLink RL 110 yX9_trip ∈ lw_tbl := List.mem_append_right _ (List.mem_of_getElem? (i := 1151) (by decide +kernel))
theorem im_X9_trip : Cond.instanceMethod yX9_trip ∈ lw_tbl := List.mem_append_right _ (List.mem_of_getElem? (i := 1152) (by decide +kernel))
theorem se_X9_trip : Cond.selects RX9 yX9_trip yX9_trip ∈ lw_tbl := List.mem_append_right _ (List.mem_of_getElem? (i := 1153) (by decide +kernel))
theorem ml_L_111 : Cond.methodLink RL 111 yL_calls ∈ lw_tbl := List.mem_append_right _ (List.mem_of_getElem? (i := 465) (by decide +kernel))
theorem st_L_calls : Cond.static yL_calls ∈ lw_tbl := List.mem_append_right _ (List.mem_of_getElem? (i := 466) (by decide +kernel))
theorem ml_L_114 : Cond.methodLink RL 114 yX9_calls ∈ lw_tbl := List.mem_append_right _ (List.mem_of_getElem? (i := 1158) (by decide +kernel))
theorem im_X9_calls : Cond.instanceMethod yX9_calls ∈ lw_tbl := List.mem_append_right _ (List.mem_of_getElem? (i := 1159) (by decide +kernel))
theorem se_X9_calls : Cond.selects RX9 yX9_calls yX9_calls ∈ lw_tbl := List.mem_append_right _ (List.mem_of_getElem? (i := 1160) (by decide +kernel))
theorem ml_L_115 : Cond.methodLink RL 115 yL_runs ∈ lw_tbl := List.mem_append_right _ (List.mem_of_getElem? (i := 506) (by decide +kernel))
theorem st_L_runs : Cond.static yL_runs ∈ lw_tbl := List.mem_append_right _ (List.mem_of_getElem? (i := 507) (by decide +kernel))
theorem ml_L_118 : Cond.methodLink RL 118 yX9_runs ∈ lw_tbl := List.mem_append_right _ (List.mem_of_getElem? (i := 1166) (by decide +kernel))
theorem im_X9_runs : Cond.instanceMethod yX9_runs ∈ lw_tbl := List.mem_append_right _ (List.mem_of_getElem? (i := 1167) (by decide +kernel))
theorem se_X9_runs : Cond.selects RX9 yX9_runs yX9_runs ∈ lw_tbl := List.mem_append_right _ (List.mem_of_getElem? (i := 1168) (by decide +kernel))
theorem ml_L_119 : Cond.methodLink RL 119 yL_delay ∈ lw_tbl := List.mem_append_right _ (List.mem_of_getElem? (i := 521) (by decide +kernel))
theorem st_L_delay : Cond.static yL_delay ∈ lw_tbl := List.mem_append_right _ (List.mem_of_getElem? (i := 522) (by decide +kernel))
theorem ml_L_121 : Cond.methodLink RL 121 yX9_delay ∈ lw_tbl := List.mem_append_right _ (List.mem_of_getElem? (i := 1177) (by decide +kernel))
theorem im_X9_delay : Cond.instanceMethod yX9_delay ∈ lw_tbl := List.mem_append_right _ (List.mem_of_getElem? (i := 1178) (by decide +kernel))
theorem se_X9_delay : Cond.selects RX9 yX9_delay yX9_delay ∈ lw_tbl := List.mem_append_right _ (List.mem_of_getElem? (i := 1179) (by decide +kernel))
theorem ml_L_122 : Cond.methodLink RL 122 yL_note ∈ lw_tbl := List.mem_append_right _ (List.mem_of_getElem? (i := 530) (by decide +kernel))
theorem st_L_note : Cond.static yL_note ∈ lw_tbl := List.mem_append_right _ (List.mem_of_getElem? (i := 531) (by decide +kernel))
theorem ml_L_125 : Cond.methodLink RL 125 yX9_note ∈ lw_tbl := List.mem_append_right _ (List.mem_of_getElem? (i := 1181) (by decide +kernel))
theorem im_X9_note : Cond.instanceMethod yX9_note ∈ lw_tbl := List.mem_append_right _ (List.mem_of_getElem? (i := 1182) (by decide +kernel))
theorem se_X9_note : Cond.selects RX9 yX9_note yX9_note ∈ lw_tbl := List.mem_append_right _ (List.mem_of_getElem? (i := 1183) (by decide +kernel))
theorem ml_L_126 : Cond.methodLink RL 126 yL_prices ∈ lw_tbl := List.mem_append_right _ (List.mem_of_getElem? (i := 538) (by decide +kernel))
theorem st_L_prices : Cond.static yL_prices ∈ lw_tbl := List.mem_append_right _ (List.mem_of_getElem? (i := 539) (by decide +kernel))
theorem ml_L_129 : Cond.methodLink RL 129 yX9_prices ∈ lw_tbl := List.mem_append_right _ (List.mem_of_getElem? (i := 1185) (by decide +kernel))
theorem im_X9_prices : Cond.instanceMethod yX9_prices ∈ lw_tbl := List.mem_append_right _ (List.mem_of_getElem? (i := 1186) (by decide +kernel))
theorem se_X9_prices : Cond.selects RX9 yX9_prices yX9_prices ∈ lw_tbl := List.mem_append_right _ (List.mem_of_getElem? (i := 1187) (by decide +kernel))
theorem ml_L_130 : Cond.methodLink RL 130 yL_arrival ∈ lw_tbl := List.mem_append_right _ (List.mem_of_getElem? (i := 550) (by decide +kernel))
theorem st_L_arrival : Cond.static yL_arrival ∈ lw_tbl := List.mem_append_right _ (List.mem_of_getElem? (i := 551) (by decide +kernel))
theorem ml_L_132 : Cond.methodLink RL 132 yX9_arrival ∈ lw_tbl := List.mem_append_right _ (List.mem_of_getElem? (i := 1189) (by decide +kernel))
theorem im_X9_arrival : Cond.instanceMethod yX9_arrival ∈ lw_tbl := List.mem_append_right _ (List.mem_of_getElem? (i := 1190) (by decide +kernel))
theorem se_X9_arrival : Cond.selects RX9 yX9_arrival yX9_arrival ∈ lw_tbl := List.mem_append_right _ (List.mem_of_getElem? (i := 1191) (by decide +kernel))
theorem ml_L_133 : Cond.methodLink RL 133 yL_arrivalAnew ∈ lw_tbl := List.mem_append_right _ (List.mem_of_getElem? (i := 649) (by decide +kernel))
theorem st_L_arrivalAnew : Cond.static yL_arrivalAnew ∈ lw_tbl := List.mem_append_right _ (List.mem_of_getElem? (i := 650) (by decide +kernel))
theorem ml_L_135 : Cond.methodLink RL 135 yX9_arrivalAnew ∈ lw_tbl := List.mem_append_right _ (List.mem_of_getElem? (i := 1231) (by decide +kernel))
theorem im_X9_arrivalAnew : Cond.instanceMethod yX9_arrivalAnew ∈ lw_tbl := List.mem_append_right _ (List.mem_of_getElem? (i := 1232) (by decide +kernel))
theorem se_X9_arrivalAnew : Cond.selects RX9 yX9_arrivalAnew yX9_arrivalAnew ∈ lw_tbl := List.mem_append_right _ (List.mem_of_getElem? (i := 1233) (by decide +kernel))
theorem ml_L_136 : Cond.methodLink RL 136 yL_front ∈ lw_tbl := List.mem_append_right _ (List.mem_of_getElem? (i := 685) (by decide +kernel))
theorem st_L_front : Cond.static yL_front ∈ lw_tbl := List.mem_append_right _ (List.mem_of_getElem? (i := 686) (by decide +kernel))
theorem ml_L_138 : Cond.methodLink RL 138 yX9_front ∈ lw_tbl := List.mem_append_right _ (List.mem_of_getElem? (i := 1235) (by decide +kernel))
theorem im_X9_front : Cond.instanceMethod yX9_front ∈ lw_tbl := List.mem_append_right _ (List.mem_of_getElem? (i := 1236) (by decide +kernel))
theorem se_X9_front : Cond.selects RX9 yX9_front yX9_front ∈ lw_tbl := List.mem_append_right _ (List.mem_of_getElem? (i := 1237) (by decide +kernel))
theorem ml_L_139 : Cond.methodLink RL 139 yL_ride ∈ lw_tbl := List.mem_append_right _ (List.mem_of_getElem? (i := 692) (by decide +kernel))
theorem st_L_ride : Cond.static yL_ride ∈ lw_tbl := List.mem_append_right _ (List.mem_of_getElem? (i := 693) (by decide +kernel))
theorem ml_L_141 : Cond.methodLink RL 141 yX9_ride ∈ lw_tbl := List.mem_append_right _ (List.mem_of_getElem? (i := 1239) (by decide +kernel))
theorem im_X9_ride : Cond.instanceMethod yX9_ride ∈ lw_tbl := List.mem_append_right _ (List.mem_of_getElem? (i := 1240) (by decide +kernel))
theorem se_X9_ride : Cond.selects RX9 yX9_ride yX9_ride ∈ lw_tbl := List.mem_append_right _ (List.mem_of_getElem? (i := 1241) (by decide +kernel))
theorem ml_L_142 : Cond.methodLink RL 142 yL_journey ∈ lw_tbl := List.mem_append_right _ (List.mem_of_getElem? (i := 814) (by decide +kernel))
theorem st_L_journey : Cond.static yL_journey ∈ lw_tbl := List.mem_append_right _ (List.mem_of_getElem? (i := 815) (by decide +kernel))
theorem ml_L_145 : Cond.methodLink RL 145 yX9_journey ∈ lw_tbl := List.mem_append_right _ (List.mem_of_getElem? (i := 1259) (by decide +kernel))
theorem im_X9_journey : Cond.instanceMethod yX9_journey ∈ lw_tbl := List.mem_append_right _ (List.mem_of_getElem? (i := 1260) (by decide +kernel))
theorem se_X9_journey : Cond.selects RX9 yX9_journey yX9_journey ∈ lw_tbl := List.mem_append_right _ (List.mem_of_getElem? (i := 1261) (by decide +kernel))
theorem ml_L_146 : Cond.methodLink RL 146 yL_best ∈ lw_tbl := List.mem_append_right _ (List.mem_of_getElem? (i := 867) (by decide +kernel))
theorem st_L_best : Cond.static yL_best ∈ lw_tbl := List.mem_append_right _ (List.mem_of_getElem? (i := 868) (by decide +kernel))
theorem ml_L_148 : Cond.methodLink RL 148 yX9_best ∈ lw_tbl := List.mem_append_right _ (List.mem_of_getElem? (i := 1289) (by decide +kernel))
theorem im_X9_best : Cond.instanceMethod yX9_best ∈ lw_tbl := List.mem_append_right _ (List.mem_of_getElem? (i := 1290) (by decide +kernel))
theorem se_X9_best : Cond.selects RX9 yX9_best yX9_best ∈ lw_tbl := List.mem_append_right _ (List.mem_of_getElem? (i := 1291) (by decide +kernel))
theorem ml_L_149 : Cond.methodLink RL 149 yL_book ∈ lw_tbl := List.mem_append_right _ (List.mem_of_getElem? (i := 874) (by decide +kernel))
theorem st_L_book : Cond.static yL_book ∈ lw_tbl := List.mem_append_right _ (List.mem_of_getElem? (i := 875) (by decide +kernel))
theorem ml_L_151 : Cond.methodLink RL 151 yX9_book ∈ lw_tbl := List.mem_append_right _ (List.mem_of_getElem? (i := 1293) (by decide +kernel))
theorem im_X9_book : Cond.instanceMethod yX9_book ∈ lw_tbl := List.mem_append_right _ (List.mem_of_getElem? (i := 1294) (by decide +kernel))
theorem se_X9_book : Cond.selects RX9 yX9_book yX9_book ∈ lw_tbl := List.mem_append_right _ (List.mem_of_getElem? (i := 1295) (by decide +kernel))
theorem ml_L_152 : Cond.methodLink RL 152 yL_buy ∈ lw_tbl := List.mem_append_right _ (List.mem_of_getElem? (i := 912) (by decide +kernel))
theorem st_L_buy : Cond.static yL_buy ∈ lw_tbl := List.mem_append_right _ (List.mem_of_getElem? (i := 913) (by decide +kernel))
theorem ml_L_154 : Cond.methodLink RL 154 yX9_buy ∈ lw_tbl := List.mem_append_right _ (List.mem_of_getElem? (i := 1305) (by decide +kernel))
theorem im_X9_buy : Cond.instanceMethod yX9_buy ∈ lw_tbl := List.mem_append_right _ (List.mem_of_getElem? (i := 1306) (by decide +kernel))
theorem se_X9_buy : Cond.selects RX9 yX9_buy yX9_buy ∈ lw_tbl := List.mem_append_right _ (List.mem_of_getElem? (i := 1307) (by decide +kernel))
theorem ml_L_155 : Cond.methodLink RL 155 yL_right ∈ lw_tbl := List.mem_append_right _ (List.mem_of_getElem? (i := 925) (by decide +kernel))
theorem st_L_right : Cond.static yL_right ∈ lw_tbl := List.mem_append_right _ (List.mem_of_getElem? (i := 926) (by decide +kernel))
theorem ml_L_157 : Cond.methodLink RL 157 yX9_right ∈ lw_tbl := List.mem_append_right _ (List.mem_of_getElem? (i := 1313) (by decide +kernel))
theorem im_X9_right : Cond.instanceMethod yX9_right ∈ lw_tbl := List.mem_append_right _ (List.mem_of_getElem? (i := 1314) (by decide +kernel))
theorem se_X9_right : Cond.selects RX9 yX9_right yX9_right ∈ lw_tbl := List.mem_append_right _ (List.mem_of_getElem? (i := 1315) (by decide +kernel))
theorem ml_L_158 : Cond.methodLink RL 158 yL_claim ∈ lw_tbl := List.mem_append_right _ (List.mem_of_getElem? (i := 945) (by decide +kernel))
theorem st_L_claim : Cond.static yL_claim ∈ lw_tbl := List.mem_append_right _ (List.mem_of_getElem? (i := 946) (by decide +kernel))
theorem ml_L_160 : Cond.methodLink RL 160 yX9_claim ∈ lw_tbl := List.mem_append_right _ (List.mem_of_getElem? (i := 1321) (by decide +kernel))
theorem im_X9_claim : Cond.instanceMethod yX9_claim ∈ lw_tbl := List.mem_append_right _ (List.mem_of_getElem? (i := 1322) (by decide +kernel))
theorem se_X9_claim : Cond.selects RX9 yX9_claim yX9_claim ∈ lw_tbl := List.mem_append_right _ (List.mem_of_getElem? (i := 1323) (by decide +kernel))
theorem ml_L_161 : Cond.methodLink RL 161 yL_concerned ∈ lw_tbl := List.mem_append_right _ (List.mem_of_getElem? (i := 953) (by decide +kernel))
theorem st_L_concerned : Cond.static yL_concerned ∈ lw_tbl := List.mem_append_right _ (List.mem_of_getElem? (i := 954) (by decide +kernel))
theorem ml_L_163 : Cond.methodLink RL 163 yX9_concerned ∈ lw_tbl := List.mem_append_right _ (List.mem_of_getElem? (i := 1325) (by decide +kernel))
theorem im_X9_concerned : Cond.instanceMethod yX9_concerned ∈ lw_tbl := List.mem_append_right _ (List.mem_of_getElem? (i := 1326) (by decide +kernel))
theorem se_X9_concerned : Cond.selects RX9 yX9_concerned yX9_concerned ∈ lw_tbl := List.mem_append_right _ (List.mem_of_getElem? (i := 1327) (by decide +kernel))
theorem ml_L_164 : Cond.methodLink RL 164 yL_seats ∈ lw_tbl := List.mem_append_right _ (List.mem_of_getElem? (i := 964) (by decide +kernel))
theorem st_L_seats : Cond.static yL_seats ∈ lw_tbl := List.mem_append_right _ (List.mem_of_getElem? (i := 965) (by decide +kernel))
theorem ml_L_166 : Cond.methodLink RL 166 yX9_seats ∈ lw_tbl := List.mem_append_right _ (List.mem_of_getElem? (i := 1329) (by decide +kernel))
theorem im_X9_seats : Cond.instanceMethod yX9_seats ∈ lw_tbl := List.mem_append_right _ (List.mem_of_getElem? (i := 1330) (by decide +kernel))
theorem se_X9_seats : Cond.selects RX9 yX9_seats yX9_seats ∈ lw_tbl := List.mem_append_right _ (List.mem_of_getElem? (i := 1331) (by decide +kernel))
theorem ml_L_167 : Cond.methodLink RL 167 yL_pass ∈ lw_tbl := List.mem_append_right _ (List.mem_of_getElem? (i := 971) (by decide +kernel))
theorem st_L_pass : Cond.static yL_pass ∈ lw_tbl := List.mem_append_right _ (List.mem_of_getElem? (i := 972) (by decide +kernel))
theorem ml_L_169 : Cond.methodLink RL 169 yX9_pass ∈ lw_tbl := List.mem_append_right _ (List.mem_of_getElem? (i := 1333) (by decide +kernel))
theorem im_X9_pass : Cond.instanceMethod yX9_pass ∈ lw_tbl := List.mem_append_right _ (List.mem_of_getElem? (i := 1334) (by decide +kernel))
theorem se_X9_pass : Cond.selects RX9 yX9_pass yX9_pass ∈ lw_tbl := List.mem_append_right _ (List.mem_of_getElem? (i := 1335) (by decide +kernel))
theorem ml_L_170 : Cond.methodLink RL 170 yL_ofBooking ∈ lw_tbl := List.mem_append_right _ (List.mem_of_getElem? (i := 978) (by decide +kernel))
theorem st_L_ofBooking : Cond.static yL_ofBooking ∈ lw_tbl := List.mem_append_right _ (List.mem_of_getElem? (i := 979) (by decide +kernel))
theorem ml_L_172 : Cond.methodLink RL 172 yX9_ofBooking ∈ lw_tbl := List.mem_append_right _ (List.mem_of_getElem? (i := 1337) (by decide +kernel))
theorem im_X9_ofBooking : Cond.instanceMethod yX9_ofBooking ∈ lw_tbl := List.mem_append_right _ (List.mem_of_getElem? (i := 1338) (by decide +kernel))
theorem se_X9_ofBooking : Cond.selects RX9 yX9_ofBooking yX9_ofBooking ∈ lw_tbl := List.mem_append_right _ (List.mem_of_getElem? (i := 1339) (by decide +kernel))
theorem in_1 : Cond.instantiable RX0 4 ∈ lw_tbl := by decide +kernel
theorem ini_1 : Cond.initialized RX0 ∈ lw_tbl := by decide +kernel
theorem in_2 : Cond.instantiable RX1 4 ∈ lw_tbl := by decide +kernel
theorem ini_2 : Cond.initialized RX1 ∈ lw_tbl := by decide +kernel
theorem in_3 : Cond.instantiable RX2 5 ∈ lw_tbl := by decide +kernel
theorem ini_3 : Cond.initialized RX2 ∈ lw_tbl := by decide +kernel
theorem in_4 : Cond.instantiable RX3 4 ∈ lw_tbl := by decide +kernel
theorem ini_4 : Cond.initialized RX3 ∈ lw_tbl := by decide +kernel
theorem in_5 : Cond.instantiable RX4 6 ∈ lw_tbl := by decide +kernel
theorem ini_5 : Cond.initialized RX4 ∈ lw_tbl := by decide +kernel
theorem in_6 : Cond.instantiable RX5 8 ∈ lw_tbl := by decide +kernel
theorem ini_6 : Cond.initialized RX5 ∈ lw_tbl := by decide +kernel
theorem in_7 : Cond.instantiable RX6 5 ∈ lw_tbl := by decide +kernel
theorem ini_7 : Cond.initialized RX6 ∈ lw_tbl := by decide +kernel
theorem in_8 : Cond.instantiable RX7 12 ∈ lw_tbl := by decide +kernel
theorem ini_8 : Cond.initialized RX7 ∈ lw_tbl := by decide +kernel
theorem in_9 : Cond.instantiable RX8 6 ∈ lw_tbl := by decide +kernel
theorem ini_9 : Cond.initialized RX8 ∈ lw_tbl := by decide +kernel
theorem in_10 : Cond.instantiable RX9 44 ∈ lw_tbl := by decide +kernel
theorem ini_10 : Cond.initialized RX9 ∈ lw_tbl := by decide +kernel
theorem carbon_w : Cond.fieldLinkNest RX2 59 "Connectory" "CARBON" "[I" "Connectory" ∈ lw_tbl := by decide +kernel
theorem arr_int : Cond.arrayClass .int ∈ lw_tbl := by decide +kernel
theorem arr_boolean : Cond.arrayClass .boolean ∈ lw_tbl := by decide +kernel
theorem arr_long : Cond.arrayClass .long ∈ lw_tbl := by decide +kernel
theorem arr_double : Cond.arrayClass .double ∈ lw_tbl := by decide +kernel
theorem exk_1 : Cond.classLink "Connectory" 72 cy_e1 ∈ lw_tbl := by decide +kernel
theorem exi_1 : Cond.initialized cy_e1 ∈ lw_tbl := by decide +kernel
theorem exa_1 : ∀ w ∈ Cond.classLink "Connectory" 72 cy_e1 :: Cond.initialized cy_e1 :: vx_atS "Connectory" 76 cy_e1 cy_sup, w ∈ lw_tbl ∧ cy_gw w = true ∧ vx_ot w = true := by decide +kernel
theorem exk_2 : Cond.classLink "Connectory" 57 cy_e2 ∈ lw_tbl := by decide +kernel
theorem exi_2 : Cond.initialized cy_e2 ∈ lw_tbl := by decide +kernel
theorem exa_2 : ∀ w ∈ Cond.classLink "Connectory" 57 cy_e2 :: Cond.initialized cy_e2 :: vx_atS "Connectory" 61 cy_e2 cy_sup, w ∈ lw_tbl ∧ cy_gw w = true ∧ vx_ot w = true := by decide +kernel
theorem exk_3 : Cond.classLink "Connectory" 261 cy_e3 ∈ lw_tbl := by decide +kernel
theorem exi_3 : Cond.initialized cy_e3 ∈ lw_tbl := by decide +kernel
theorem exa_3 : ∀ w ∈ Cond.classLink "Connectory" 261 cy_e3 :: Cond.initialized cy_e3 :: vx_atS "Connectory" 265 cy_e3 cy_sup, w ∈ lw_tbl ∧ cy_gw w = true ∧ vx_ot w = true := by decide +kernel
theorem exc_1 : Cond.castable cy_e1 cy_e1 ∈ lw_tbl := by decide +kernel
theorem exc_2 : Cond.castable cy_e2 cy_e2 ∈ lw_tbl := by decide +kernel
theorem exc_3 : Cond.castable cy_e3 cy_e3 ∈ lw_tbl := by decide +kernel
theorem exl_1 : Cond.classLink RL 13 cy_e1 ∈ lw_tbl := by decide +kernel
theorem exl_2 : Cond.classLink RL 15 cy_e2 ∈ lw_tbl := by decide +kernel
theorem exl_3 : Cond.classLink RL 21 cy_e3 ∈ lw_tbl := by decide +kernel
