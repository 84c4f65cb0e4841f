abbrev q_cl : List vw_C := [(RX0, TX0, 9), (RX1, TX1, 5), (RX2, TX2, 5), (RX3, TX3, 10), (RX4, TX4, 6), (RX5, TX5, 6), (RX6, TX6, 2), (RX7, TX7, 2), (RX8, TX8, 7), (RX9, TX9, 2), (RX10, TX10, 17), (RX11, TX11, 65)]
def q_own (n : Nat) : String := [RX0, RX1, RX2, RX3, RX4, RX5, RX6, RX7, RX8, RX9, RX10, RX11, RJ6, RJ7].getD n ""
def gw : List Cond := lw_tbl.filter goodWord
theorem gw_of {w : Cond} (h : w ∈ lw_tbl) (h2 : goodWord w = true) : w ∈ gw := List.mem_filter.mpr ⟨h, h2⟩
def q_ys : List (List (MethodName × ByteArray × Nat × Option FieldType × Nat × Nat)) := [
  [(yX0_begin, cX0_begin, 1, none, 0, 1), (yX0_beginLike, cX0_beginLike, 2, none, 0, 2), (yX0_run, cX0_run, 4, none, 0, 3), (yX0_runHour, cX0_runHour, 5, none, 0, 3), (yX0_note, cX0_note, 4, none, 0, 4), (yX0_comesTo, cX0_comesTo, 2, (some .int), 0, 2), (yX0_valueOf, cX0_valueOf, 2, (some .int), 0, 2), (yX0_sumFor, cX0_sumFor, 5, (some .int), 0, 3), (yX1_seek, cX1_seek, 6, (some .boolean), 2, 4), (yX1_costOf, cX1_costOf, 6, (some .int), 2, 5), (yX1_bestRoom, cX1_bestRoom, 6, (some .int), 2, 4), (yX1_costWith, cX1_costWith, 7, (some .int), 2, 5), (yX2_takeOver, cX2_takeOver, 2, none, 4, 2), (yX2_addAct, cX2_addAct, 6, none, 4, 5), (yX2_actAt, cX2_actAt, 3, (some .int), 4, 3), (yX2_ownedHours, cX2_ownedHours, 1, (some .int), 4, 1)],
  [(yX2_hoursIn, cX2_hoursIn, 6, (some .int), 4, 4), (yX2_exchange, cX2_exchange, 4, none, 4, 3), (yX2_drawHour, cX2_drawHour, 1, none, 4, 1), (yX2_bequeath, cX2_bequeath, 4, (some .int), 4, 2), (yX2_heirOf, cX2_heirOf, 5, (some .int), 4, 3), (yX2_shareOf, cX2_shareOf, 11, (some .int), 4, 5), (yX3_clear, cX3_clear, 1, none, 6, 1), (yX3_takeOver, cX3_takeOver, 2, none, 6, 2), (yX3_put, cX3_put, 3, none, 6, 3), (yX3_passFrom, cX3_passFrom, 2, none, 6, 2), (yX3_addClause, cX3_addClause, 4, none, 6, 4), (yX3_asks, cX3_asks, 6, (some .int), 6, 3), (yX3_reckon, cX3_reckon, 8, (some .int), 6, 4), (yX3_isDivision, cX3_isDivision, 1, (some .boolean), 7, 1), (yX3_joined, cX3_joined, 3, (some .int), 7, 3), (yX4_seek, cX4_seek, 7, none, 8, 3)],
  [(yX4_tryRow, cX4_tryRow, 7, (some .int), 8, 4), (yX4_nextRow, cX4_nextRow, 6, (some .boolean), 8, 2), (yX4_exchangeAt, cX4_exchangeAt, 4, none, 8, 3), (yX5_read, cX5_read, 5, (some .int), 10, 2), (yX5_next, cX5_next, 1, none, 10, 1), (yX5_fails, cX5_fails, 2, (some .boolean), 10, 2), (yX5_passes, cX5_passes, 2, (some .boolean), 10, 2), (yX5_opens, cX5_opens, 3, (some .boolean), 10, 3), (yX5_readClause, cX5_readClause, 4, (some .boolean), 10, 2), (yX5_readBracket, cX5_readBracket, 2, (some .boolean), 10, 2), (yX5_readCondition, cX5_readCondition, 5, (some .boolean), 10, 2), (yX5_readPart, cX5_readPart, 5, (some .boolean), 10, 2), (yX5_readPiece, cX5_readPiece, 4, (some .boolean), 10, 2), (yX5_comparison, cX5_comparison, 1, (some .boolean), 10, 1), (yX5_readSum, cX5_readSum, 5, (some .boolean), 10, 2), (yX5_readProduct, cX5_readProduct, 5, (some .boolean), 10, 2)],
  [(yX5_readFactor, cX5_readFactor, 3, (some .boolean), 10, 2), (yX5_readNumber, cX5_readNumber, 3, (some .boolean), 10, 1), (yX6_enter, cX6_enter, 3, none, 12, 3), (yX6_look, cX6_look, 4, none, 12, 4), (yX6_perform, cX6_perform, 5, (some .int), 12, 4), (yX6_change, cX6_change, 5, none, 12, 4), (yX6_finesOfAll, cX6_finesOfAll, 4, (some .int), 12, 2), (yX6_cool, cX6_cool, 3, none, 12, 2), (yX7_add, cX7_add, 3, none, 14, 2), (yX7_numberAt, cX7_numberAt, 4, (some .int), 14, 2), (yX8_priceOf, cX8_priceOf, 3, (some .int), 16, 2), (yX8_worthOfAhead, cX8_worthOfAhead, 2, (some .int), 16, 2), (yX8_gainBySwap, cX8_gainBySwap, 4, (some .int), 16, 4), (yX8_gainOf, cX8_gainOf, 2, (some .int), 16, 2), (yX8_beginSwapped, cX8_beginSwapped, 3, (some .int), 16, 3), (yX8_firstTouched, cX8_firstTouched, 1, (some .int), 17, 1)],
  [(yX8_seek, cX8_seek, 3, (some .boolean), 16, 1), (yX8_areOfTwo, cX8_areOfTwo, 2, (some .boolean), 17, 2), (yX8_weigh, cX8_weigh, 5, none, 16, 3), (yX9_hoursThatHold, cX9_hoursThatHold, 5, (some .int), 18, 2), (yX9_liarsIf, cX9_liarsIf, 6, (some .int), 18, 2), (yX9_isUntrue, cX9_isUntrue, 4, (some .boolean), 18, 3), (yX9_onlyOwnerOf, cX9_onlyOwnerOf, 5, (some .int), 18, 2), (yX10_own, cX10_own, 3, (some .boolean), 20, 3), (yX10_room, cX10_room, 5, (some .boolean), 20, 5), (yX10_feed, cX10_feed, 6, (some .int), 20, 6), (yX10_law, cX10_law, 4, (some .int), 20, 3), (yX10_act, cX10_act, 6, (some .int), 20, 5), (yX10_noActs, cX10_noActs, 3, (some .int), 20, 2), (yX10_found, cX10_found, 4, (some .int), 20, 4), (yX10_hourIs, cX10_hourIs, 3, (some .int), 20, 3), (yX10_value, cX10_value, 3, (some .int), 20, 3)],
  [(yX10_bestOrder, cX10_bestOrder, 3, (some .int), 20, 3), (yX10_price, cX10_price, 2, (some .int), 20, 2), (yX10_neighbour, cX10_neighbour, 2, (some .int), 20, 2), (yX10_gain, cX10_gain, 4, (some .int), 20, 4), (yX10_swap, cX10_swap, 3, (some .boolean), 20, 3), (yX10_bestSwap, cX10_bestSwap, 2, (some .int), 20, 2), (yX10_tillNone, cX10_tillNone, 2, (some .int), 20, 1), (yX10_finesBy, cX10_finesBy, 4, (some .int), 20, 2), (yX10_touching, cX10_touching, 7, (some .int), 20, 3), (yX10_searches, cX10_searches, 3, (some .boolean), 20, 3), (yX10_hidden, cX10_hidden, 5, (some .int), 20, 5), (yX10_says, cX10_says, 3, (some .boolean), 20, 3), (yX10_holds, cX10_holds, 2, (some .int), 20, 2), (yX10_guilty, cX10_guilty, 2, (some .int), 20, 2), (yX10_guest, cX10_guest, 5, (some .int), 20, 5), (yX10_dies, cX10_dies, 3, (some .int), 20, 2)],
  [(yX10_seed, cX10_seed, 2, (some .boolean), 20, 2), (yX10_draw, cX10_draw, 3, (some .int), 20, 2), (yX10_keep, cX10_keep, 1, (some .int), 20, 1), (yX10_undo, cX10_undo, 1, (some .boolean), 20, 1), (yX10_check, cX10_check, 4, (some .int), 20, 3), (yX10_count, cX10_count, 2, (some .int), 20, 2), (yX10_firstWrongStore, cX10_firstWrongStore, 4, (some .int), 20, 3), (yX10_forgetDay, cX10_forgetDay, 1, none, 20, 1), (yX10_runDay, cX10_runDay, 1, none, 20, 1), (yX10_isOwned, cX10_isOwned, 2, (some .boolean), 20, 2), (yX10_isHour, cX10_isHour, 1, (some .boolean), 21, 1), (yX10_isOwner, cX10_isOwner, 1, (some .boolean), 21, 1), (yX10_isRoom, cX10_isRoom, 1, (some .boolean), 21, 1), (yX10_isLaw, cX10_isLaw, 1, (some .boolean), 21, 1), (yX10_fitsRoom, cX10_fitsRoom, 1, (some .boolean), 21, 1), (yX10_isStay, cX10_isStay, 2, (some .boolean), 21, 2)],
  [(yX11_in, cX11_in, 3, (some .boolean), 23, 3), (yX11_isHour, cX11_isHour, 1, (some .boolean), 23, 1), (yX11_isOwner, cX11_isOwner, 1, (some .boolean), 23, 1), (yX11_isRoom, cX11_isRoom, 1, (some .boolean), 23, 1), (yX11_own, cX11_own, 3, (some .boolean), 22, 3), (yX11_room, cX11_room, 5, (some .boolean), 22, 5), (yX11_act, cX11_act, 6, (some .int), 22, 5), (yX11_noActs, cX11_noActs, 3, (some .int), 22, 2), (yX11_types, cX11_types, 3, none, 22, 2), (yX11_feed, cX11_feed, 6, (some .int), 22, 6), (yX11_here, cX11_here, 1, (some .int), 22, 1), (yX11_isDigit, cX11_isDigit, 1, (some .boolean), 22, 1), (yX11_wrongAt, cX11_wrongAt, 3, (some .boolean), 22, 3), (yX11_takes, cX11_takes, 2, (some .boolean), 22, 2), (yX11_readsNumber, cX11_readsNumber, 2, (some .boolean), 22, 1), (yX11_notes, cX11_notes, 3, none, 22, 3)],
  [(yX11_opens, cX11_opens, 2, (some .boolean), 22, 2), (yX11_top, cX11_top, 1, (some .int), 22, 1), (yX11_factOf, cX11_factOf, 1, (some .int), 23, 1), (yX11_sumSign, cX11_sumSign, 1, (some .int), 23, 1), (yX11_closesSums, cX11_closesSums, 2, none, 22, 2), (yX11_readsFactor, cX11_readsFactor, 2, (some .boolean), 22, 1), (yX11_hasOpenSum, cX11_hasOpenSum, 3, (some .boolean), 22, 2), (yX11_readsSum, cX11_readsSum, 3, (some .boolean), 22, 1), (yX11_endsPiece, cX11_endsPiece, 1, none, 22, 1), (yX11_lands, cX11_lands, 3, none, 22, 2), (yX11_jumps, cX11_jumps, 2, none, 22, 2), (yX11_readsCompared, cX11_readsCompared, 2, (some .boolean), 22, 1), (yX11_readsCondition, cX11_readsCondition, 1, (some .boolean), 22, 1), (yX11_isClause, cX11_isClause, 1, (some .boolean), 23, 1), (yX11_readsClause, cX11_readsClause, 2, (some .boolean), 22, 1), (yX11_law, cX11_law, 5, (some .int), 22, 3)],
  [(yX11_reckon, cX11_reckon, 3, (some .int), 23, 3), (yX11_comesTo, cX11_comesTo, 8, (some .int), 22, 3), (yX11_byLaw, cX11_byLaw, 7, (some .int), 22, 5), (yX11_isBarred, cX11_isBarred, 2, (some .boolean), 22, 1), (yX11_feels, cX11_feels, 3, none, 22, 3), (yX11_held, cX11_held, 1, (some .int), 23, 1), (yX11_acts, cX11_acts, 8, (some .int), 22, 3), (yX11_actsAll, cX11_actsAll, 6, (some .int), 22, 2), (yX11_finesOf, cX11_finesOf, 5, (some .int), 22, 3), (yX11_findsAt, cX11_findsAt, 3, none, 22, 2), (yX11_cools, cX11_cools, 3, none, 22, 2), (yX11_runs, cX11_runs, 4, none, 22, 2), (yX11_found, cX11_found, 5, (some .int), 22, 4), (yX11_hourIs, cX11_hourIs, 3, (some .int), 22, 3), (yX11_sumOf, cX11_sumOf, 5, (some .int), 22, 3), (yX11_valueOf, cX11_valueOf, 2, (some .int), 22, 2)],
  [(yX11_value, cX11_value, 4, (some .int), 22, 3), (yX11_ordersBy, cX11_ordersBy, 10, none, 22, 4), (yX11_orderGives, cX11_orderGives, 3, (some .int), 22, 2), (yX11_bestOrder, cX11_bestOrder, 9, (some .int), 22, 3), (yX11_price, cX11_price, 5, (some .int), 22, 2), (yX11_neighbour, cX11_neighbour, 4, (some .int), 22, 2), (yX11_changes, cX11_changes, 4, none, 22, 3), (yX11_laysValues, cX11_laysValues, 2, none, 22, 1), (yX11_laysGain, cX11_laysGain, 5, none, 22, 3), (yX11_canGain, cX11_canGain, 3, (some .boolean), 22, 3), (yX11_gain, cX11_gain, 4, (some .int), 22, 4), (yX11_swap, cX11_swap, 3, (some .boolean), 22, 3), (yX11_laysBestSwap, cX11_laysBestSwap, 3, none, 22, 1), (yX11_bestSwap, cX11_bestSwap, 2, (some .int), 22, 2), (yX11_tillNone, cX11_tillNone, 2, (some .int), 22, 1), (yX11_finesBy, cX11_finesBy, 4, (some .int), 22, 2)],
  [(yX11_touching, cX11_touching, 6, (some .int), 22, 3), (yX11_searches, cX11_searches, 3, (some .boolean), 22, 3), (yX11_canLie, cX11_canLie, 3, (some .boolean), 22, 3), (yX11_isHelped, cX11_isHelped, 3, (some .boolean), 22, 3), (yX11_movesBy, cX11_movesBy, 6, (some .int), 22, 5), (yX11_laysMoves, cX11_laysMoves, 9, none, 22, 4), (yX11_hidden, cX11_hidden, 9, (some .int), 22, 5), (yX11_says, cX11_says, 3, (some .boolean), 22, 3), (yX11_liarsOf, cX11_liarsOf, 5, (some .int), 22, 2), (yX11_holds, cX11_holds, 4, (some .int), 22, 2), (yX11_guilty, cX11_guilty, 5, (some .int), 22, 2), (yX11_hoursIn, cX11_hoursIn, 6, (some .int), 22, 4), (yX11_guest, cX11_guest, 10, (some .int), 22, 5), (yX11_dies, cX11_dies, 6, (some .int), 22, 2), (yX11_ownedMany, cX11_ownedMany, 3, (some .int), 22, 1), (yX11_seed, cX11_seed, 2, (some .boolean), 22, 2)],
  [(yX11_draw, cX11_draw, 3, (some .int), 22, 2), (yX11_copies, cX11_copies, 4, none, 23, 3), (yX11_keep, cX11_keep, 1, (some .int), 22, 1), (yX11_undo, cX11_undo, 1, (some .boolean), 22, 1), (yX11_tapeNumber, cX11_tapeNumber, 4, (some .int), 22, 2), (yX11_check, cX11_check, 4, (some .int), 22, 3), (yX11_count, cX11_count, 2, (some .int), 22, 2), (yJ6_bitCount_0f7a4, cJ6_bitCount_0f7a4, 1, (some .int), 25, 1), (yJ7_fill_53178, cJ7_fill_53178, 4, none, 27, 2)]]
def q_y (mi : Nat) : MethodName × ByteArray × Nat × Option FieldType × Nat × Nat := (q_g16 q_ys mi).getD (yX0_run, cX0_run, 0, none, 0, 0)
def q_T (ci : Nat) : vw_C := q_cl.getD ci ("", TX0, 0)
def q_fw (e : Nat × Nat × Nat × Nat) : Cond := .fieldLink (q_own e.1) e.2.1 ((q_T e.2.2.1).2.1 e.2.2.2).1 ((q_T e.2.2.1).2.1 e.2.2.2).2.1 ((q_T e.2.2.1).2.1 e.2.2.2).2.2.1
def q_nw (e : Nat × Nat × Nat × Nat) : Cond := .fieldLinkNest (q_own e.1) e.2.1 ((q_T e.2.2.1).2.1 e.2.2.2).1 ((q_T e.2.2.1).2.1 e.2.2.2).2.1 ((q_T e.2.2.1).2.1 e.2.2.2).2.2.1 "BellHours"
def q_mw (e : Nat × Nat × Nat) : Cond := .methodLink (q_own e.1) e.2.1 (q_y e.2.2).1
def q_iy (a : Nat) : MethodName := if a = 1001 then Lib.Math.max.name else if a = 1002 then Lib.Math.min.name else if a = 1003 then arraycopyName else yJ0_indexOf_0f7a4
def q_iw (e : Nat × Nat × Nat) : Cond := .methodLink (q_own e.1) e.2.1 (q_iy e.2.2)
def q_cw (e : Nat × Nat × Int32) : Cond := .constant (q_own e.1) e.2.1 e.2.2
def q_wc (mi : Nat) : Cond := .code (q_y mi).1 (q_y mi).2.1 (q_y mi).2.2.1 (q_y mi).2.2.2.1
def q_wi (mi : Nat) : Cond := .instanceMethod (q_y mi).1
def q_ws0 (mi : Nat) : Cond := .static (q_y mi).1
def q_wl (mi : Nat) : Cond := .selects (q_y mi).1.cls (q_y mi).1 (q_y mi).1
def q_tb (j : Nat) : List Cond := [k2_sels lw_privs, tables_1_1, tables_1_2, tables_1_3, tables_1_4, tables_1_5, tables_1_6, tables_1_7].getD j []
theorem q_tb_in {j : Nat} {w : Cond} (h : w ∈ q_tb j) : w ∈ lw_tbl := by
  have e : lw_tbl = q_tb 0 ++ (q_tb 1 ++ (q_tb 2 ++ (q_tb 3 ++ (q_tb 4 ++ (q_tb 5 ++ (q_tb 6 ++ q_tb 7)))))) := rfl
  rw [e]
  simp only [List.mem_append]
  match j, h with
  | 0, h => exact Or.inl h
  | 1, h => exact Or.inr (Or.inl h)
  | 2, h => exact Or.inr (Or.inr (Or.inl h))
  | 3, h => exact Or.inr (Or.inr (Or.inr (Or.inl h)))
  | 4, h => exact Or.inr (Or.inr (Or.inr (Or.inr (Or.inl h))))
  | 5, h => exact Or.inr (Or.inr (Or.inr (Or.inr (Or.inr (Or.inl h)))))
  | 6, h => exact Or.inr (Or.inr (Or.inr (Or.inr (Or.inr (Or.inr (Or.inl h))))))
  | 7, h => exact Or.inr (Or.inr (Or.inr (Or.inr (Or.inr (Or.inr (Or.inr h))))))
  | j + 8, h => exact absurd h (by simp [q_tb])
theorem q_by {α : Type} {l : List α} {f : α → Cond} {j : Nat} (ps : List Nat) (h : l.map f = ps.filterMap (fun i => (q_tb j)[i]?)) : ∀ e ∈ l, f e ∈ lw_tbl := by
  intro e he
  have h1 : f e ∈ l.map f := List.mem_map_of_mem he
  rw [h] at h1
  obtain ⟨i, -, hi⟩ := List.mem_filterMap.mp h1
  exact q_tb_in (List.mem_of_getElem? hi)
def q_flk_1 : List (Nat × Nat × Nat × Nat) := [(2, 9, 2, 0), (2, 15, 2, 1), (2, 18, 2, 2), (2, 21, 2, 3), (2, 24, 2, 4), (7, 9, 7, 0), (7, 15, 7, 1), (3, 9, 3, 0), (3, 15, 3, 1), (3, 18, 3, 2), (3, 22, 3, 3), (3, 26, 3, 4), (3, 29, 3, 5), (3, 32, 3, 6), (3, 35, 3, 7), (3, 38, 3, 8), (3, 41, 3, 9), (5, 25, 5, 0), (5, 29, 5, 1), (5, 9, 5, 2), (5, 15, 5, 3), (5, 18, 5, 4), (5, 22, 5, 5), (6, 9, 6, 0), (6, 15, 6, 1), (0, 30, 0, 0), (0, 34, 0, 1), (0, 38, 0, 2), (0, 9, 0, 3), (0, 15, 0, 4), (0, 18, 0, 5), (0, 21, 0, 6), (0, 24, 0, 7), (0, 27, 0, 8), (8, 25, 8, 0), (8, 29, 8, 1), (8, 32, 8, 2), (8, 9, 8, 3), (8, 15, 8, 4), (8, 19, 8, 5), (8, 22, 8, 6)]
set_option maxRecDepth 100000 in
theorem q_flk_ok1 : ∀ e ∈ q_flk_1, q_fw e ∈ lw_tbl := q_by (j := 1) [39, 42, 45, 48, 52, 72, 74, 88, 90, 92, 93, 94, 95, 96, 97, 98, 99, 128, 129, 130, 131, 132, 133, 153, 155, 167, 168, 169, 170, 175, 178, 180, 182, 184, 211, 212, 213, 214, 216, 218, 220] (by decide +kernel)
def q_flk_2 : List (Nat × Nat × Nat × Nat) := [(4, 22, 4, 0), (4, 26, 4, 1), (4, 30, 4, 2), (4, 9, 4, 3), (4, 15, 4, 4), (4, 18, 4, 5), (1, 22, 1, 0), (1, 25, 1, 1), (1, 9, 1, 2), (1, 15, 1, 3), (1, 18, 1, 4), (9, 9, 9, 0), (9, 15, 9, 1), (10, 12, 10, 0), (10, 16, 10, 1), (10, 19, 10, 2), (10, 26, 10, 3), (10, 33, 10, 4), (10, 37, 10, 5), (10, 50, 10, 6), (10, 54, 10, 7), (10, 57, 10, 8), (10, 72, 10, 10), (10, 76, 10, 11), (10, 79, 10, 12), (10, 87, 10, 13), (10, 94, 10, 14), (10, 106, 10, 15), (10, 113, 10, 16)]
set_option maxRecDepth 100000 in
theorem q_flk_ok2 : ∀ e ∈ q_flk_2, q_fw e ∈ lw_tbl := q_by (j := 2) [3, 4, 5, 6, 7, 9, 30, 31, 32, 33, 35, 54, 55, 62, 63, 64, 65, 66, 67, 68, 69, 70, 72, 73, 74, 75, 76, 77, 78] (by decide +kernel)
def q_flk_4 : List (Nat × Nat × Nat × Nat) := [(11, 155, 11, 0), (11, 7, 11, 1), (11, 13, 11, 2), (11, 16, 11, 3), (11, 19, 11, 4), (11, 22, 11, 5), (11, 25, 11, 6), (11, 28, 11, 7), (11, 31, 11, 8), (11, 34, 11, 9), (11, 37, 11, 10), (11, 40, 11, 11), (11, 173, 11, 12), (11, 180, 11, 13), (11, 183, 11, 14), (11, 190, 11, 15), (11, 208, 11, 16), (11, 204, 11, 17), (11, 211, 11, 18), (11, 262, 11, 19), (11, 197, 11, 20), (11, 44, 11, 21), (11, 47, 11, 22), (11, 50, 11, 23), (11, 53, 11, 24), (11, 56, 11, 25), (11, 59, 11, 26), (11, 62, 11, 27), (11, 65, 11, 28), (11, 68, 11, 29), (11, 71, 11, 30), (11, 74, 11, 31), (11, 77, 11, 32), (11, 80, 11, 33)]
set_option maxRecDepth 100000 in
theorem q_flk_ok4 : ∀ e ∈ q_flk_4, q_fw e ∈ lw_tbl := q_by (j := 4) [206, 207, 208, 209, 210, 211, 212, 213, 214, 215, 216, 217, 218, 219, 220, 221, 222, 223, 224, 225, 226, 227, 228, 229, 230, 231, 232, 233, 234, 235, 236, 237, 238, 239] (by decide +kernel)
def q_flk_5 : List (Nat × Nat × Nat × Nat) := [(11, 83, 11, 34), (11, 86, 11, 35), (11, 89, 11, 36), (11, 92, 11, 37), (11, 95, 11, 38), (11, 98, 11, 39), (11, 101, 11, 40), (11, 104, 11, 41), (11, 107, 11, 42), (11, 110, 11, 43), (11, 113, 11, 44), (11, 116, 11, 45), (11, 119, 11, 46), (11, 331, 11, 47), (11, 334, 11, 48), (11, 122, 11, 49), (11, 346, 11, 50), (11, 352, 11, 51), (11, 349, 11, 52), (11, 125, 11, 53), (11, 128, 11, 54), (11, 386, 11, 55), (11, 390, 11, 56), (11, 131, 11, 57), (11, 134, 11, 58), (11, 137, 11, 59), (11, 140, 11, 60), (11, 143, 11, 61), (11, 146, 11, 62), (11, 149, 11, 63), (11, 152, 11, 64)]
set_option maxRecDepth 100000 in
theorem q_flk_ok5 : ∀ e ∈ q_flk_5, q_fw e ∈ lw_tbl := q_by (j := 5) [0, 1, 2, 3, 4, 5, 6, 7, 8, 9, 10, 11, 12, 13, 14, 15, 16, 17, 18, 19, 20, 21, 22, 23, 24, 25, 26, 27, 28, 29, 30] (by decide +kernel)
def q_flk : List (Nat × Nat × Nat × Nat) := q_flk_1 ++ (q_flk_2 ++ (q_flk_4 ++ (q_flk_5)))
theorem q_flk_in : ∀ e ∈ q_flk, q_fw e ∈ lw_tbl := (List.forall_mem_append.mpr ⟨q_flk_ok1, (List.forall_mem_append.mpr ⟨q_flk_ok2, (List.forall_mem_append.mpr ⟨q_flk_ok4, q_flk_ok5⟩)⟩)⟩)
def q_nlk_1 : List (Nat × Nat × Nat × Nat) := [(10, 100, 2, 0), (0, 42, 2, 0), (0, 51, 2, 1), (10, 139, 2, 1), (4, 64, 2, 2), (0, 67, 2, 2), (4, 34, 2, 3), (0, 64, 2, 3), (10, 164, 2, 3), (10, 273, 2, 4), (10, 142, 7, 1), (10, 161, 3, 0), (5, 66, 3, 1), (0, 90, 6, 0), (8, 36, 0, 3), (4, 39, 0, 3), (6, 29, 0, 3), (10, 178, 0, 3), (6, 18, 0, 4), (10, 174, 0, 4), (10, 179, 0, 5), (10, 182, 0, 6), (10, 185, 0, 7), (10, 188, 0, 8), (10, 293, 8, 3), (10, 234, 8, 4), (10, 237, 8, 5), (10, 231, 8, 6)]
set_option maxRecDepth 100000 in
theorem q_nlk_ok1 : ∀ e ∈ q_nlk_1, q_nw e ∈ lw_tbl := q_by (j := 1) [40, 41, 43, 44, 46, 47, 49, 50, 51, 53, 75, 89, 91, 154, 171, 172, 173, 174, 176, 177, 179, 181, 183, 185, 215, 217, 219, 221] (by decide +kernel)
def q_nlk_2 : List (Nat × Nat × Nat × Nat) := [(10, 212, 4, 4), (10, 209, 4, 5), (10, 257, 1, 3), (10, 254, 1, 4)]
set_option maxRecDepth 100000 in
theorem q_nlk_ok2 : ∀ e ∈ q_nlk_2, q_nw e ∈ lw_tbl := q_by (j := 2) [8, 10, 34, 36] (by decide +kernel)
def q_nlk : List (Nat × Nat × Nat × Nat) := q_nlk_1 ++ (q_nlk_2)
theorem q_nlk_in : ∀ e ∈ q_nlk, q_nw e ∈ lw_tbl := (List.forall_mem_append.mpr ⟨q_nlk_ok1, q_nlk_ok2⟩)
def q_mlk_2 : List (Nat × Nat × Nat) := [(10, 123, 106), (10, 127, 107), (10, 130, 103), (10, 133, 108), (10, 136, 110), (10, 146, 56), (10, 150, 109), (10, 153, 35), (5, 39, 22), (3, 44, 200), (5, 44, 36)]
set_option maxRecDepth 100000 in
theorem q_mlk_ok2 : ∀ e ∈ q_mlk_2, q_mw e ∈ lw_tbl := q_by (j := 2) [118, 121, 124, 132, 135, 142, 150, 153, 160, 164, 165] (by decide +kernel)
def q_mlk_3 : List (Nat × Nat × Nat) := [(5, 55, 37), (5, 59, 40), (5, 67, 24), (5, 71, 46), (5, 102, 47), (5, 105, 48), (5, 81, 39), (5, 62, 38), (5, 108, 49), (5, 74, 41), (5, 85, 42), (5, 88, 43), (5, 95, 44), (5, 98, 45), (5, 91, 25), (5, 77, 26), (10, 157, 23), (10, 167, 13), (2, 40, 14), (10, 171, 104), (10, 240, 0), (10, 243, 2), (0, 54, 3), (0, 58, 50), (0, 70, 14), (0, 74, 52), (6, 32, 51), (6, 38, 27), (3, 56, 28), (3, 75, 29), (3, 79, 30), (6, 42, 53), (0, 78, 4), (0, 82, 54), (0, 86, 55), (10, 191, 6), (0, 93, 7), (10, 194, 7), (10, 198, 16), (10, 202, 105), (10, 205, 31), (4, 44, 32), (4, 58, 50), (4, 67, 14), (4, 71, 52), (4, 80, 54), (4, 54, 33), (4, 84, 34), (10, 215, 58), (8, 42, 1)]
set_option maxRecDepth 100000 in
theorem q_mlk_ok3 : ∀ e ∈ q_mlk_3, q_mw e ∈ lw_tbl := q_by (j := 3) [14, 18, 22, 26, 30, 34, 38, 42, 46, 51, 55, 59, 63, 67, 71, 75, 79, 91, 95, 107, 111, 116, 120, 124, 129, 130, 134, 138, 142, 147, 150, 158, 164, 168, 172, 185, 189, 193, 194, 202, 206, 210, 214, 215, 216, 218, 220, 224, 232, 236] (by decide +kernel)
def q_mlk_4 : List (Nat × Nat × Nat) := [(8, 46, 63), (8, 50, 2), (8, 54, 6), (10, 218, 59), (8, 57, 5), (10, 221, 60), (8, 60, 62), (8, 64, 61), (10, 224, 17), (10, 228, 64), (8, 72, 65), (8, 76, 66), (10, 247, 111), (10, 251, 8), (1, 28, 9), (1, 32, 10), (1, 36, 11), (10, 258, 67), (9, 18, 68), (9, 22, 69), (9, 26, 199), (10, 261, 70), (10, 265, 21), (2, 44, 16), (10, 269, 19), (2, 49, 20), (10, 276, 18), (10, 279, 15), (10, 283, 12), (10, 286, 102), (10, 290, 57)]
set_option maxRecDepth 100000 in
theorem q_mlk_ok4 : ∀ e ∈ q_mlk_4, q_mw e ∈ lw_tbl := q_by (j := 4) [0, 3, 4, 9, 13, 21, 25, 30, 38, 46, 50, 53, 77, 80, 84, 88, 92, 105, 109, 113, 117, 127, 136, 140, 145, 149, 162, 167, 175, 188, 192] (by decide +kernel)
def q_mlk_5 : List (Nat × Nat × Nat) := [(11, 159, 113), (11, 163, 114), (11, 166, 115), (11, 169, 112), (11, 176, 120), (11, 268, 142), (11, 186, 122), (11, 259, 141), (11, 193, 124), (11, 244, 135), (11, 231, 133), (11, 221, 128), (11, 200, 123), (11, 224, 126), (11, 217, 127)]
set_option maxRecDepth 100000 in
theorem q_mlk_ok5 : ∀ e ∈ q_mlk_5, q_mw e ∈ lw_tbl := q_by (j := 5) [166, 169, 176, 179, 194, 202, 206, 210, 213, 217, 221, 225, 230, 234, 238] (by decide +kernel)
def q_mlk_6 : List (Nat × Nat × Nat) := [(11, 227, 130), (11, 234, 131), (11, 237, 132), (11, 214, 129), (11, 241, 134), (11, 265, 140), (11, 250, 139), (11, 247, 136), (11, 253, 137), (11, 256, 138), (11, 271, 125), (11, 310, 155), (11, 298, 153), (11, 301, 151), (11, 295, 150), (11, 282, 148), (11, 285, 147), (11, 278, 145), (11, 274, 144), (11, 288, 146), (11, 292, 149), (11, 304, 152), (11, 307, 154), (11, 317, 159), (11, 314, 158), (11, 321, 161), (11, 325, 162), (11, 337, 169), (11, 340, 167), (11, 343, 168), (11, 328, 166), (11, 355, 172), (11, 368, 181), (11, 362, 180), (11, 359, 179), (11, 365, 178), (11, 371, 184), (11, 374, 185), (11, 378, 187)]
set_option maxRecDepth 100000 in
theorem q_mlk_ok6 : ∀ e ∈ q_mlk_6, q_mw e ∈ lw_tbl := q_by (j := 6) [2, 5, 8, 12, 16, 20, 24, 28, 32, 36, 40, 48, 52, 56, 60, 64, 68, 72, 76, 79, 83, 86, 90, 103, 107, 116, 120, 136, 140, 144, 148, 160, 184, 189, 193, 197, 209, 217, 223] (by decide +kernel)
def q_mlk_7 : List (Nat × Nat × Nat) := [(11, 383, 190), (11, 393, 193), (11, 397, 196)]
set_option maxRecDepth 100000 in
theorem q_mlk_ok7 : ∀ e ∈ q_mlk_7, q_mw e ∈ lw_tbl := q_by (j := 7) [1, 9, 20] (by decide +kernel)
def q_mlk : List (Nat × Nat × Nat) := q_mlk_2 ++ (q_mlk_3 ++ (q_mlk_4 ++ (q_mlk_5 ++ (q_mlk_6 ++ (q_mlk_7)))))
theorem q_mlk_in : ∀ e ∈ q_mlk, q_mw e ∈ lw_tbl := (List.forall_mem_append.mpr ⟨q_mlk_ok2, (List.forall_mem_append.mpr ⟨q_mlk_ok3, (List.forall_mem_append.mpr ⟨q_mlk_ok4, (List.forall_mem_append.mpr ⟨q_mlk_ok5, (List.forall_mem_append.mpr ⟨q_mlk_ok6, q_mlk_ok7⟩)⟩)⟩)⟩)⟩)
def q_ilk_2 : List (Nat × Nat × Nat) := [(5, 33, 1002), (5, 49, 1004)]
set_option maxRecDepth 100000 in
theorem q_ilk_ok2 : ∀ e ∈ q_ilk_2, q_iw e ∈ lw_tbl := q_by (j := 2) [157, 170] (by decide +kernel)
def q_ilk_3 : List (Nat × Nat × Nat) := [(3, 50, 1003), (0, 45, 1003), (6, 23, 1003), (3, 72, 1001), (3, 66, 1002), (6, 45, 1002), (6, 51, 1001), (4, 75, 1001), (4, 48, 1003)]
set_option maxRecDepth 100000 in
theorem q_ilk_ok3 : ∀ e ∈ q_ilk_3, q_iw e ∈ lw_tbl := q_by (j := 3) [83, 115, 128, 146, 157, 162, 163, 217, 219] (by decide +kernel)
def q_ilk_4 : List (Nat × Nat × Nat) := [(8, 67, 1002), (1, 39, 1002), (2, 34, 1003)]
set_option maxRecDepth 100000 in
theorem q_ilk_ok4 : ∀ e ∈ q_ilk_4, q_iw e ∈ lw_tbl := q_by (j := 4) [29, 96, 179] (by decide +kernel)
def q_ilk : List (Nat × Nat × Nat) := q_ilk_2 ++ (q_ilk_3 ++ (q_ilk_4))
theorem q_ilk_in : ∀ e ∈ q_ilk, q_iw e ∈ lw_tbl := (List.forall_mem_append.mpr ⟨q_ilk_ok2, (List.forall_mem_append.mpr ⟨q_ilk_ok3, q_ilk_ok4⟩)⟩)
def q_cnk_3 : List (Nat × Nat × Int32) := [(10, 177, (-1000000))]
set_option maxRecDepth 100000 in
theorem q_cnk_ok3 : ∀ e ∈ q_cnk_3, q_cw e ∈ lw_tbl := q_by (j := 3) [180] (by decide +kernel)
def q_cnk_4 : List (Nat × Nat × Int32) := [(12, 265, 1431655765), (12, 266, 858993459), (12, 267, 252645135), (10, 264, 99999), (10, 272, 65535), (2, 48, 65536)]
set_option maxRecDepth 100000 in
theorem q_cnk_ok4 : ∀ e ∈ q_cnk_4, q_cw e ∈ lw_tbl := q_by (j := 4) [120, 121, 122, 135, 157, 166] (by decide +kernel)
def q_cnk_5 : List (Nat × Nat × Int32) := [(11, 207, 1048576)]
set_option maxRecDepth 100000 in
theorem q_cnk_ok5 : ∀ e ∈ q_cnk_5, q_cw e ∈ lw_tbl := q_by (j := 5) [229] (by decide +kernel)
def q_cnk_6 : List (Nat × Nat × Int32) := [(11, 313, (-1000000)), (11, 320, (-1000000000)), (11, 358, 1000000000), (11, 377, 99999), (11, 381, 65535)]
set_option maxRecDepth 100000 in
theorem q_cnk_ok6 : ∀ e ∈ q_cnk_6, q_cw e ∈ lw_tbl := q_by (j := 6) [98, 115, 188, 222, 235] (by decide +kernel)
def q_cnk_7 : List (Nat × Nat × Int32) := [(11, 382, 65536)]
set_option maxRecDepth 100000 in
theorem q_cnk_ok7 : ∀ e ∈ q_cnk_7, q_cw e ∈ lw_tbl := q_by (j := 7) [0] (by decide +kernel)
def q_cnk : List (Nat × Nat × Int32) := q_cnk_3 ++ (q_cnk_4 ++ (q_cnk_5 ++ (q_cnk_6 ++ (q_cnk_7))))
theorem q_cnk_in : ∀ e ∈ q_cnk, q_cw e ∈ lw_tbl := (List.forall_mem_append.mpr ⟨q_cnk_ok3, (List.forall_mem_append.mpr ⟨q_cnk_ok4, (List.forall_mem_append.mpr ⟨q_cnk_ok5, (List.forall_mem_append.mpr ⟨q_cnk_ok6, q_cnk_ok7⟩)⟩)⟩)⟩)
def q_kc_1 : List (Nat) := [200]
set_option maxRecDepth 100000 in
theorem q_kc_ok1 : ∀ e ∈ q_kc_1, q_wc e ∈ lw_tbl := q_by (j := 1) [38] rfl
def q_kc_2 : List (Nat) := [71, 106, 107, 103, 72, 108, 110, 73, 56, 74, 109, 35, 22, 36]
set_option maxRecDepth 100000 in
theorem q_kc_ok2 : ∀ e ∈ q_kc_2, q_wc e ∈ lw_tbl := q_by (j := 2) [117, 120, 123, 127, 131, 134, 137, 141, 145, 149, 152, 156, 163, 168] rfl
def q_kc_3 : List (Nat) := [37, 40, 24, 46, 47, 48, 39, 38, 49, 41, 42, 43, 44, 45, 25, 26, 23, 75, 13, 14, 76, 77, 104, 0, 2, 3, 50, 52, 51, 27, 28, 29, 30, 53, 4, 54, 55, 78, 79, 6, 7, 16, 80, 105, 31, 32, 33, 34, 81, 58, 1]
set_option maxRecDepth 100000 in
theorem q_kc_ok3 : ∀ e ∈ q_kc_3, q_wc e ∈ lw_tbl := q_by (j := 3) [17, 21, 25, 29, 33, 37, 41, 45, 49, 54, 58, 62, 66, 70, 74, 78, 82, 90, 94, 98, 102, 106, 110, 114, 119, 123, 127, 133, 137, 141, 145, 149, 152, 161, 167, 171, 175, 179, 184, 188, 192, 197, 201, 205, 209, 213, 223, 227, 231, 235, 239] rfl
def q_kc_4 : List (Nat) := [63, 82, 59, 5, 83, 60, 62, 61, 84, 17, 85, 64, 65, 66, 86, 87, 88, 89, 90, 111, 8, 9, 10, 11, 91, 92, 67, 68, 69, 199, 93, 70, 94, 21, 95, 19, 20, 96, 97, 18, 15, 98, 12, 99, 100, 102, 57, 101]
set_option maxRecDepth 100000 in
theorem q_kc_ok4 : ∀ e ∈ q_kc_4, q_wc e ∈ lw_tbl := q_by (j := 4) [2, 8, 12, 16, 20, 24, 28, 33, 37, 41, 45, 49, 52, 56, 60, 64, 68, 72, 76, 79, 83, 87, 91, 95, 100, 104, 108, 112, 116, 119, 126, 130, 134, 139, 144, 148, 152, 156, 161, 165, 170, 174, 178, 183, 187, 191, 195, 199] rfl
def q_kc_5 : List (Nat) := [116, 113, 114, 117, 115, 112, 118, 119, 121, 120, 143, 142, 122, 141, 124, 135, 133, 128, 123, 126]
set_option maxRecDepth 100000 in
theorem q_kc_ok5 : ∀ e ∈ q_kc_5, q_wc e ∈ lw_tbl := q_by (j := 5) [165, 168, 171, 175, 178, 181, 185, 189, 193, 197, 201, 205, 209, 212, 216, 220, 224, 228, 233, 237] rfl
def q_kc_6 : List (Nat) := [127, 130, 131, 132, 129, 134, 140, 139, 136, 137, 138, 125, 156, 155, 153, 151, 150, 148, 147, 145, 144, 146, 149, 152, 154, 157, 160, 159, 158, 163, 161, 162, 164, 165, 170, 169, 167, 168, 166, 171, 173, 172, 174, 175, 176, 177, 182, 181, 180, 179, 178, 183, 185, 184, 186, 188, 187, 189, 191, 192]
set_option maxRecDepth 100000 in
theorem q_kc_ok6 : ∀ e ∈ q_kc_6, q_wc e ∈ lw_tbl := q_by (j := 6) [1, 4, 7, 11, 15, 19, 23, 27, 31, 35, 39, 43, 47, 51, 55, 59, 63, 67, 71, 75, 78, 82, 85, 89, 93, 97, 102, 106, 110, 114, 119, 123, 127, 131, 135, 139, 143, 147, 151, 155, 159, 163, 167, 171, 175, 179, 183, 187, 192, 196, 200, 204, 208, 212, 216, 221, 226, 230, 234, 239] rfl
def q_kc_7 : List (Nat) := [190, 194, 193, 195, 197, 196, 198]
set_option maxRecDepth 100000 in
theorem q_kc_ok7 : ∀ e ∈ q_kc_7, q_wc e ∈ lw_tbl := q_by (j := 7) [4, 8, 11, 15, 19, 23, 27] rfl
def q_kc : List (Nat) := q_kc_1 ++ (q_kc_2 ++ (q_kc_3 ++ (q_kc_4 ++ (q_kc_5 ++ (q_kc_6 ++ (q_kc_7))))))
theorem q_kc_in : ∀ e ∈ q_kc, q_wc e ∈ lw_tbl := (List.forall_mem_append.mpr ⟨q_kc_ok1, (List.forall_mem_append.mpr ⟨q_kc_ok2, (List.forall_mem_append.mpr ⟨q_kc_ok3, (List.forall_mem_append.mpr ⟨q_kc_ok4, (List.forall_mem_append.mpr ⟨q_kc_ok5, (List.forall_mem_append.mpr ⟨q_kc_ok6, q_kc_ok7⟩)⟩)⟩)⟩)⟩)⟩)
def q_ki_2 : List (Nat) := [71, 103, 72, 73, 56, 74, 35, 22, 36]
set_option maxRecDepth 100000 in
theorem q_ki_ok2 : ∀ e ∈ q_ki_2, q_wi e ∈ lw_tbl := q_by (j := 2) [115, 126, 129, 139, 143, 147, 154, 161, 167] (by decide +kernel)
def q_ki_3 : List (Nat) := [37, 40, 24, 46, 47, 48, 39, 38, 49, 41, 42, 43, 44, 45, 25, 26, 23, 75, 13, 14, 76, 77, 104, 0, 2, 3, 50, 52, 51, 27, 28, 53, 4, 54, 55, 78, 79, 6, 7, 16, 80, 105, 31, 32, 33, 34, 81, 58, 1]
set_option maxRecDepth 100000 in
theorem q_ki_ok3 : ∀ e ∈ q_ki_3, q_wi e ∈ lw_tbl := q_by (j := 3) [16, 20, 23, 28, 32, 36, 40, 44, 48, 53, 57, 61, 65, 69, 72, 76, 80, 88, 92, 96, 100, 104, 109, 112, 117, 122, 125, 131, 136, 139, 144, 160, 166, 169, 173, 177, 182, 186, 190, 195, 199, 204, 207, 212, 222, 226, 229, 233, 237] (by decide +kernel)
def q_ki_4 : List (Nat) := [82, 59, 5, 83, 60, 62, 61, 84, 17, 85, 64, 66, 86, 87, 88, 89, 90, 8, 9, 10, 11, 91, 92, 67, 68, 69, 93, 70, 94, 21, 95, 19, 20, 96, 97, 18, 15, 98, 12, 99, 100, 102, 57, 101]
set_option maxRecDepth 100000 in
theorem q_ki_ok4 : ∀ e ∈ q_ki_4, q_wi e ∈ lw_tbl := q_by (j := 4) [6, 10, 14, 18, 22, 27, 32, 35, 39, 43, 47, 55, 58, 62, 66, 70, 74, 81, 86, 90, 94, 98, 102, 106, 111, 115, 124, 128, 132, 137, 142, 146, 151, 154, 159, 163, 168, 172, 176, 181, 185, 190, 193, 197] (by decide +kernel)
def q_ki_5 : List (Nat) := [116, 117, 118, 119, 121, 120, 143, 142, 122, 124, 135, 133, 128, 123, 126]
set_option maxRecDepth 100000 in
theorem q_ki_ok5 : ∀ e ∈ q_ki_5, q_wi e ∈ lw_tbl := q_by (j := 5) [163, 173, 183, 187, 191, 196, 199, 204, 208, 215, 219, 223, 227, 232, 236] (by decide +kernel)
def q_ki_6 : List (Nat) := [127, 132, 129, 134, 140, 139, 136, 137, 138, 125, 156, 155, 153, 151, 150, 148, 147, 145, 146, 152, 154, 157, 160, 159, 158, 163, 161, 162, 164, 165, 170, 169, 167, 168, 166, 171, 173, 172, 174, 175, 176, 177, 182, 181, 180, 179, 178, 183, 185, 184, 186, 188, 187, 189, 191, 192]
set_option maxRecDepth 100000 in
theorem q_ki_ok6 : ∀ e ∈ q_ki_6, q_wi e ∈ lw_tbl := q_by (j := 6) [0, 10, 14, 18, 22, 26, 30, 34, 38, 42, 45, 50, 54, 58, 62, 66, 70, 74, 81, 88, 92, 95, 100, 105, 109, 112, 118, 122, 125, 129, 133, 138, 142, 146, 150, 153, 157, 162, 165, 169, 173, 177, 181, 186, 191, 195, 199, 202, 206, 211, 214, 219, 225, 228, 232, 237] (by decide +kernel)
def q_ki_7 : List (Nat) := [190, 194, 195, 197, 196, 198]
set_option maxRecDepth 100000 in
theorem q_ki_ok7 : ∀ e ∈ q_ki_7, q_wi e ∈ lw_tbl := q_by (j := 7) [3, 6, 13, 17, 22, 25] (by decide +kernel)
def q_ki : List (Nat) := q_ki_2 ++ (q_ki_3 ++ (q_ki_4 ++ (q_ki_5 ++ (q_ki_6 ++ (q_ki_7)))))
theorem q_ki_in : ∀ e ∈ q_ki, q_wi e ∈ lw_tbl := (List.forall_mem_append.mpr ⟨q_ki_ok2, (List.forall_mem_append.mpr ⟨q_ki_ok3, (List.forall_mem_append.mpr ⟨q_ki_ok4, (List.forall_mem_append.mpr ⟨q_ki_ok5, (List.forall_mem_append.mpr ⟨q_ki_ok6, q_ki_ok7⟩)⟩)⟩)⟩)⟩)
def q_ks_1 : List (Nat) := [200]
set_option maxRecDepth 100000 in
theorem q_ks_ok1 : ∀ e ∈ q_ks_1, q_ws0 e ∈ lw_tbl := q_by (j := 1) [37] (by decide +kernel)
def q_ks_2 : List (Nat) := [106, 107, 108, 110, 109]
set_option maxRecDepth 100000 in
theorem q_ks_ok2 : ∀ e ∈ q_ks_2, q_ws0 e ∈ lw_tbl := q_by (j := 2) [119, 122, 133, 136, 151] (by decide +kernel)
def q_ks_3 : List (Nat) := [29, 30]
set_option maxRecDepth 100000 in
theorem q_ks_ok3 : ∀ e ∈ q_ks_3, q_ws0 e ∈ lw_tbl := q_by (j := 3) [148, 151] (by decide +kernel)
def q_ks_4 : List (Nat) := [63, 65, 111, 199]
set_option maxRecDepth 100000 in
theorem q_ks_ok4 : ∀ e ∈ q_ks_4, q_ws0 e ∈ lw_tbl := q_by (j := 4) [1, 51, 78, 118] (by decide +kernel)
def q_ks_5 : List (Nat) := [113, 114, 115, 112, 141]
set_option maxRecDepth 100000 in
theorem q_ks_ok5 : ∀ e ∈ q_ks_5, q_ws0 e ∈ lw_tbl := q_by (j := 5) [167, 170, 177, 180, 211] (by decide +kernel)
def q_ks_6 : List (Nat) := [130, 131, 144, 149]
set_option maxRecDepth 100000 in
theorem q_ks_ok6 : ∀ e ∈ q_ks_6, q_ws0 e ∈ lw_tbl := q_by (j := 6) [3, 6, 77, 84] (by decide +kernel)
def q_ks_7 : List (Nat) := [193]
set_option maxRecDepth 100000 in
theorem q_ks_ok7 : ∀ e ∈ q_ks_7, q_ws0 e ∈ lw_tbl := q_by (j := 7) [10] (by decide +kernel)
def q_ks : List (Nat) := q_ks_1 ++ (q_ks_2 ++ (q_ks_3 ++ (q_ks_4 ++ (q_ks_5 ++ (q_ks_6 ++ (q_ks_7))))))
theorem q_ks_in : ∀ e ∈ q_ks, q_ws0 e ∈ lw_tbl := (List.forall_mem_append.mpr ⟨q_ks_ok1, (List.forall_mem_append.mpr ⟨q_ks_ok2, (List.forall_mem_append.mpr ⟨q_ks_ok3, (List.forall_mem_append.mpr ⟨q_ks_ok4, (List.forall_mem_append.mpr ⟨q_ks_ok5, (List.forall_mem_append.mpr ⟨q_ks_ok6, q_ks_ok7⟩)⟩)⟩)⟩)⟩)⟩)
def q_kl_0 : List (Nat) := [103, 36, 37, 40, 46, 47, 48, 39, 38, 49, 41, 42, 43, 44, 45, 104, 3, 51, 28, 53, 4, 105, 32, 33, 34, 62, 61, 66, 9, 10, 11, 68, 69, 20, 102, 120, 142, 122, 124, 135, 133, 128, 123, 126, 127, 132, 129, 134, 140, 139, 136, 137, 138, 125, 155, 153, 151, 150, 148, 147, 145, 146, 152, 154, 159, 158, 161, 162, 169, 167, 168, 166, 172, 181, 180, 179, 178, 184, 187, 190, 196]
set_option maxRecDepth 100000 in
theorem q_kl_ok0 : ∀ e ∈ q_kl_0, q_wl e ∈ lw_tbl := q_by (j := 0) [0, 1, 2, 3, 4, 5, 6, 7, 8, 9, 10, 11, 12, 13, 14, 15, 16, 17, 18, 19, 20, 21, 22, 23, 24, 25, 26, 27, 28, 29, 30, 31, 32, 33, 34, 35, 36, 37, 38, 39, 40, 41, 42, 43, 44, 45, 46, 47, 48, 49, 50, 51, 52, 53, 54, 55, 56, 57, 58, 59, 60, 61, 62, 63, 64, 65, 66, 67, 68, 69, 70, 71, 72, 73, 74, 75, 76, 77, 78, 79, 80] (by decide +kernel)
def q_kl_2 : List (Nat) := [71, 72, 73, 56, 74, 35, 22]
set_option maxRecDepth 100000 in
theorem q_kl_ok2 : ∀ e ∈ q_kl_2, q_wl e ∈ lw_tbl := q_by (j := 2) [116, 130, 140, 144, 148, 155, 162] (by decide +kernel)
def q_kl_3 : List (Nat) := [24, 25, 26, 23, 75, 13, 14, 76, 77, 0, 2, 50, 52, 27, 54, 55, 78, 79, 6, 7, 16, 80, 31, 81, 58, 1]
set_option maxRecDepth 100000 in
theorem q_kl_ok3 : ∀ e ∈ q_kl_3, q_wl e ∈ lw_tbl := q_by (j := 3) [24, 73, 77, 81, 89, 93, 97, 101, 105, 113, 118, 126, 132, 140, 170, 174, 178, 183, 187, 191, 196, 200, 208, 230, 234, 238] (by decide +kernel)
def q_kl_4 : List (Nat) := [82, 59, 5, 83, 60, 84, 17, 85, 64, 86, 87, 88, 89, 90, 8, 91, 92, 67, 93, 70, 94, 21, 95, 19, 96, 97, 18, 15, 98, 12, 99, 100, 57, 101]
set_option maxRecDepth 100000 in
theorem q_kl_ok4 : ∀ e ∈ q_kl_4, q_wl e ∈ lw_tbl := q_by (j := 4) [7, 11, 15, 19, 23, 36, 40, 44, 48, 59, 63, 67, 71, 75, 82, 99, 103, 107, 125, 129, 133, 138, 143, 147, 155, 160, 164, 169, 173, 177, 182, 186, 194, 198] (by decide +kernel)
def q_kl_5 : List (Nat) := [116, 117, 118, 119, 121, 143]
set_option maxRecDepth 100000 in
theorem q_kl_ok5 : ∀ e ∈ q_kl_5, q_wl e ∈ lw_tbl := q_by (j := 5) [164, 174, 184, 188, 192, 200] (by decide +kernel)
def q_kl_6 : List (Nat) := [156, 157, 160, 163, 164, 165, 170, 171, 173, 174, 175, 176, 177, 182, 183, 185, 186, 188, 189, 191, 192]
set_option maxRecDepth 100000 in
theorem q_kl_ok6 : ∀ e ∈ q_kl_6, q_wl e ∈ lw_tbl := q_by (j := 6) [46, 96, 101, 113, 126, 130, 134, 154, 158, 166, 170, 174, 178, 182, 203, 207, 215, 220, 229, 233, 238] (by decide +kernel)
def q_kl_7 : List (Nat) := [194, 195, 197, 198]
set_option maxRecDepth 100000 in
theorem q_kl_ok7 : ∀ e ∈ q_kl_7, q_wl e ∈ lw_tbl := q_by (j := 7) [7, 14, 18, 26] (by decide +kernel)
def q_kl : List (Nat) := q_kl_0 ++ (q_kl_2 ++ (q_kl_3 ++ (q_kl_4 ++ (q_kl_5 ++ (q_kl_6 ++ (q_kl_7))))))
theorem q_kl_in : ∀ e ∈ q_kl, q_wl e ∈ lw_tbl := (List.forall_mem_append.mpr ⟨q_kl_ok0, (List.forall_mem_append.mpr ⟨q_kl_ok2, (List.forall_mem_append.mpr ⟨q_kl_ok3, (List.forall_mem_append.mpr ⟨q_kl_ok4, (List.forall_mem_append.mpr ⟨q_kl_ok5, (List.forall_mem_append.mpr ⟨q_kl_ok6, q_kl_ok7⟩)⟩)⟩)⟩)⟩)⟩)
