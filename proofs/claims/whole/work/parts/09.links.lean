theorem tm1 {w : Cond} {i : Nat} (h : tables_1_1[i]? = some w) (g : goodWord w = true) : w ∈ ev_tb := ev_mem (List.mem_append_right _ (List.mem_append_left _ (List.mem_of_getElem? h))) g
theorem tn1 {w : Cond} {i : Nat} (h : tables_1_1[i]? = some w) : w ∈ lw_tbl := List.mem_append_right _ (List.mem_append_left _ (List.mem_of_getElem? h))
theorem tm2 {w : Cond} {i : Nat} (h : tables_1_2[i]? = some w) (g : goodWord w = true) : w ∈ ev_tb := ev_mem (List.mem_append_right _ (List.mem_append_right _ (List.mem_append_left _ (List.mem_of_getElem? h)))) g
theorem tn2 {w : Cond} {i : Nat} (h : tables_1_2[i]? = some w) : w ∈ lw_tbl := List.mem_append_right _ (List.mem_append_right _ (List.mem_append_left _ (List.mem_of_getElem? h)))
theorem tm3 {w : Cond} {i : Nat} (h : tables_1_3[i]? = some w) (g : goodWord w = true) : w ∈ ev_tb := ev_mem (List.mem_append_right _ (List.mem_append_right _ (List.mem_append_right _ (List.mem_append_left _ (List.mem_of_getElem? h))))) g
theorem tn3 {w : Cond} {i : Nat} (h : tables_1_3[i]? = some w) : w ∈ lw_tbl := List.mem_append_right _ (List.mem_append_right _ (List.mem_append_right _ (List.mem_append_left _ (List.mem_of_getElem? h))))
theorem tm4 {w : Cond} {i : Nat} (h : tables_1_4[i]? = some w) (g : goodWord w = true) : w ∈ ev_tb := ev_mem (List.mem_append_right _ (List.mem_append_right _ (List.mem_append_right _ (List.mem_append_right _ (List.mem_append_left _ (List.mem_of_getElem? h)))))) g
theorem tn4 {w : Cond} {i : Nat} (h : tables_1_4[i]? = some w) : w ∈ lw_tbl := List.mem_append_right _ (List.mem_append_right _ (List.mem_append_right _ (List.mem_append_right _ (List.mem_append_left _ (List.mem_of_getElem? h)))))
theorem tm5 {w : Cond} {i : Nat} (h : tables_1_5[i]? = some w) (g : goodWord w = true) : w ∈ ev_tb := ev_mem (List.mem_append_right _ (List.mem_append_right _ (List.mem_append_right _ (List.mem_append_right _ (List.mem_append_right _ (List.mem_append_left _ (List.mem_of_getElem? h))))))) g
theorem tn5 {w : Cond} {i : Nat} (h : tables_1_5[i]? = some w) : w ∈ lw_tbl := List.mem_append_right _ (List.mem_append_right _ (List.mem_append_right _ (List.mem_append_right _ (List.mem_append_right _ (List.mem_append_left _ (List.mem_of_getElem? h))))))
theorem tm6 {w : Cond} {i : Nat} (h : tables_1_6[i]? = some w) (g : goodWord w = true) : w ∈ ev_tb := ev_mem (List.mem_append_right _ (List.mem_append_right _ (List.mem_append_right _ (List.mem_append_right _ (List.mem_append_right _ (List.mem_append_right _ ((List.mem_of_getElem? h)))))))) g
theorem tn6 {w : Cond} {i : Nat} (h : tables_1_6[i]? = some w) : w ∈ lw_tbl := List.mem_append_right _ (List.mem_append_right _ (List.mem_append_right _ (List.mem_append_right _ (List.mem_append_right _ (List.mem_append_right _ ((List.mem_of_getElem? h)))))))
theorem tms {w : Cond} {i : Nat} (h : (k2_sels lw_privs)[i]? = some w) (g : goodWord w = true) : w ∈ ev_tb := ev_mem (List.mem_append_left _ (List.mem_of_getElem? h)) g
/-! names of methods, links of fields and calls (laid by program) -/
def ev_isO (ci : Nat) : Prop := ci = 3 ∨ ci = 6 ∨ ci = 7 ∨ ci = 8
theorem iev0 : ∀ w ∈ u_ws RX0 TX0 2, w ∈ ev_tb := fun w h => ev_mem (inX0 w h) (List.all_eq_true.mp (by decide +kernel : (u_ws RX0 TX0 2).all goodWord = true) w h)
theorem iev1 : ∀ w ∈ u_ws RX1 TX1 4, w ∈ ev_tb := fun w h => ev_mem (inX1 w h) (List.all_eq_true.mp (by decide +kernel : (u_ws RX1 TX1 4).all goodWord = true) w h)
theorem iev2 : ∀ w ∈ u_ws RX2 TX2 11, w ∈ ev_tb := fun w h => ev_mem (inX2 w h) (List.all_eq_true.mp (by decide +kernel : (u_ws RX2 TX2 11).all goodWord = true) w h)
theorem iev3 : ∀ w ∈ u_ws RX4 TX4 7, w ∈ ev_tb := fun w h => ev_mem (inX4 w h) (List.all_eq_true.mp (by decide +kernel : (u_ws RX4 TX4 7).all goodWord = true) w h)
theorem iev4 : ∀ w ∈ u_ws RX5 TX5 2, w ∈ ev_tb := fun w h => ev_mem (inX5 w h) (List.all_eq_true.mp (by decide +kernel : (u_ws RX5 TX5 2).all goodWord = true) w h)
theorem iev5 : ∀ w ∈ u_ws RX6 TX6 3, w ∈ ev_tb := fun w h => ev_mem (inX6 w h) (List.all_eq_true.mp (by decide +kernel : (u_ws RX6 TX6 3).all goodWord = true) w h)
theorem iev6 : ∀ w ∈ u_ws RX7 TX7 8, w ∈ ev_tb := fun w h => ev_mem (inX7 w h) (List.all_eq_true.mp (by decide +kernel : (u_ws RX7 TX7 8).all goodWord = true) w h)
theorem iev7 : ∀ w ∈ u_ws RX8 TX8 6, w ∈ ev_tb := fun w h => ev_mem (inX8 w h) (List.all_eq_true.mp (by decide +kernel : (u_ws RX8 TX8 6).all goodWord = true) w h)
theorem iev8 : ∀ w ∈ u_ws RX9 TX9 8, w ∈ ev_tb := fun w h => ev_mem (inX9 w h) (List.all_eq_true.mp (by decide +kernel : (u_ws RX9 TX9 8).all goodWord = true) w h)
theorem iev9 : ∀ w ∈ u_ws RX10 TX10 5, w ∈ ev_tb := fun w h => ev_mem (inX10 w h) (List.all_eq_true.mp (by decide +kernel : (u_ws RX10 TX10 5).all goodWord = true) w h)
theorem iev10 : ∀ w ∈ u_ws RX11 TX11 8, w ∈ ev_tb := fun w h => ev_mem (inX11 w h) (List.all_eq_true.mp (by decide +kernel : (u_ws RX11 TX11 8).all goodWord = true) w h)
theorem iev11 : ∀ w ∈ u_ws RX12 TX12 36, w ∈ ev_tb := fun w h => ev_mem (inX12 w h) (List.all_eq_true.mp (by decide +kernel : (u_ws RX12 TX12 36).all goodWord = true) w h)
abbrev M_X0_init : ev_M := (yX0_init, cX0_init, 1, none)
abbrev M_X0_isUnder : ev_M := (yX0_isUnder, cX0_isUnder, 4, (some .boolean))
abbrev M_X0_kindAbove : ev_M := (yX0_kindAbove, cX0_kindAbove, 1, (some .int))
abbrev M_X0_forget : ev_M := (yX0_forget, cX0_forget, 1, none)
abbrev M_X0_start : ev_M := (yX0_start, cX0_start, 4, (some .int))
abbrev M_X0_play : ev_M := (yX0_play, cX0_play, 11, (some .int))
abbrev M_X0_kindWithBody : ev_M := (yX0_kindWithBody, cX0_kindWithBody, 5, (some .int))
abbrev M_X0_note : ev_M := (yX0_note, cX0_note, 2, none)
abbrev M_X1_init : ev_M := (yX1_init, cX1_init, 1, none)
abbrev M_X1_clear : ev_M := (yX1_clear, cX1_clear, 1, none)
abbrev M_X1_put : ev_M := (yX1_put, cX1_put, 4, none)
abbrev M_X1_widen : ev_M := (yX1_widen, cX1_widen, 1, none)
abbrev M_X1_comesAhead : ev_M := (yX1_comesAhead, cX1_comesAhead, 3, (some .boolean))
abbrev M_X1_placeOf : ev_M := (yX1_placeOf, cX1_placeOf, 3, (some .int))
abbrev M_X1_costAt : ev_M := (yX1_costAt, cX1_costAt, 4, (some .long))
abbrev M_X1_cheapestAt : ev_M := (yX1_cheapestAt, cX1_cheapestAt, 10, (some .int))
abbrev M_X1_leadsAmongLike : ev_M := (yX1_leadsAmongLike, cX1_leadsAmongLike, 4, (some .boolean))
abbrev M_X1_leastAt : ev_M := (yX1_leastAt, cX1_leastAt, 4, (some .long))
abbrev M_X1_nextAbove : ev_M := (yX1_nextAbove, cX1_nextAbove, 4, (some .int))
abbrev M_X1_meetsSooner : ev_M := (yX1_meetsSooner, cX1_meetsSooner, 8, (some .boolean))
abbrev M_X1_findSpan : ev_M := (yX1_findSpan, cX1_findSpan, 16, (some .boolean))
abbrev M_X1_leastRatio : ev_M := (yX1_leastRatio, cX1_leastRatio, 3, (some .int))
abbrev M_X1_findRegret : ev_M := (yX1_findRegret, cX1_findRegret, 9, none)
abbrev M_X2_init : ev_M := (yX2_init, cX2_init, 1, none)
abbrev M_X2_isThing : ev_M := (yX2_isThing, cX2_isThing, 2, (some .boolean))
abbrev M_X2_isLine : ev_M := (yX2_isLine, cX2_isLine, 2, (some .boolean))
abbrev M_X2_allThings : ev_M := (yX2_allThings, cX2_allThings, 1, (some .int))
abbrev M_X2_addThing : ev_M := (yX2_addThing, cX2_addThing, 1, (some .int))
abbrev M_X2_addLine : ev_M := (yX2_addLine, cX2_addLine, 5, (some .int))
abbrev M_X2_changeLine : ev_M := (yX2_changeLine, cX2_changeLine, 4, none)
abbrev M_X2_dropLine : ev_M := (yX2_dropLine, cX2_dropLine, 1, (some .int))
abbrev M_X2_stepBack : ev_M := (yX2_stepBack, cX2_stepBack, 1, none)
abbrev M_X2_changed : ev_M := (yX2_changed, cX2_changed, 2, none)
abbrev M_X2_numberOf : ev_M := (yX2_numberOf, cX2_numberOf, 3, (some .int))
abbrev M_X2_sumOver : ev_M := (yX2_sumOver, cX2_sumOver, 5, (some .int))
abbrev M_X2_lineCost : ev_M := (yX2_lineCost, cX2_lineCost, 4, (some .long))
abbrev M_X2_hangingWith : ev_M := (yX2_hangingWith, cX2_hangingWith, 8, (some .int))
abbrev M_X2_ledToFrom : ev_M := (yX2_ledToFrom, cX2_ledToFrom, 6, (some .int))
abbrev M_X2_beside : ev_M := (yX2_beside, cX2_beside, 7, (some .int))
abbrev M_X2_dearestBetween : ev_M := (yX2_dearestBetween, cX2_dearestBetween, 7, (some .int))
abbrev M_X2_isBetween : ev_M := (yX2_isBetween, cX2_isBetween, 5, (some .boolean))
abbrev M_X3_init : ev_M := (yX3_init, cX3_init, 3, none)
abbrev M_X3_renewChoices : ev_M := (yX3_renewChoices, cX3_renewChoices, 2, none)
abbrev M_X3_outdate : ev_M := (yX3_outdate, cX3_outdate, 1, none)
abbrev M_X3_bendsIn : ev_M := (yX3_bendsIn, cX3_bendsIn, 2, (some (.object "PriceBench$Rows")))
abbrev M_X3_findBends : ev_M := (yX3_findBends, cX3_findBends, 9, none)
abbrev M_X4_init : ev_M := (yX4_init, cX4_init, 3, none)
abbrev M_X4_gather : ev_M := (yX4_gather, cX4_gather, 2, none)
abbrev M_X4_pair : ev_M := (yX4_pair, cX4_pair, 8, none)
abbrev M_X4_barsIn : ev_M := (yX4_barsIn, cX4_barsIn, 5, (some .int))
abbrev M_X4_needs : ev_M := (yX4_needs, cX4_needs, 2, (some .boolean))
abbrev M_X4_firstNumber : ev_M := (yX4_firstNumber, cX4_firstNumber, 1, (some .int))
abbrev M_X4_secondNumber : ev_M := (yX4_secondNumber, cX4_secondNumber, 1, (some .int))
abbrev M_X5_init : ev_M := (yX5_init, cX5_init, 1, none)
abbrev M_X5_clear : ev_M := (yX5_clear, cX5_clear, 1, none)
abbrev M_X5_has : ev_M := (yX5_has, cX5_has, 3, (some .boolean))
abbrev M_X5_number : ev_M := (yX5_number, cX5_number, 3, (some .int))
abbrev M_X5_set : ev_M := (yX5_set, cX5_set, 4, none)
abbrev M_X5_put : ev_M := (yX5_put, cX5_put, 8, none)
abbrev M_X5_becomeLike : ev_M := (yX5_becomeLike, cX5_becomeLike, 2, none)
abbrev M_X5_makeRoomFor : ev_M := (yX5_makeRoomFor, cX5_makeRoomFor, 2, none)
abbrev M_X6_init : ev_M := (yX6_init, cX6_init, 1, none)
abbrev M_X6_become : ev_M := (yX6_become, cX6_become, 3, none)
abbrev M_X6_holds : ev_M := (yX6_holds, cX6_holds, 3, (some .boolean))
abbrev M_X7_init : ev_M := (yX7_init, cX7_init, 2, none)
abbrev M_X7_take : ev_M := (yX7_take, cX7_take, 3, (some .int))
abbrev M_X7_gather : ev_M := (yX7_gather, cX7_gather, 3, none)
abbrev M_X7_barsIn : ev_M := (yX7_barsIn, cX7_barsIn, 2, (some .int))
abbrev M_X7_needs : ev_M := (yX7_needs, cX7_needs, 2, (some .boolean))
abbrev M_X7_firstNumber : ev_M := (yX7_firstNumber, cX7_firstNumber, 1, (some .int))
abbrev M_X7_secondNumber : ev_M := (yX7_secondNumber, cX7_secondNumber, 1, (some .int))
abbrev M_X8_init : ev_M := (yX8_init, cX8_init, 2, none)
abbrev M_X8_gather : ev_M := (yX8_gather, cX8_gather, 2, none)
abbrev M_X8_grow : ev_M := (yX8_grow, cX8_grow, 9, none)
abbrev M_X8_groupOf : ev_M := (yX8_groupOf, cX8_groupOf, 2, (some .int))
abbrev M_X8_join : ev_M := (yX8_join, cX8_join, 6, (some .int))
abbrev M_X8_barsIn : ev_M := (yX8_barsIn, cX8_barsIn, 2, (some .int))
abbrev M_X8_needs : ev_M := (yX8_needs, cX8_needs, 2, (some .boolean))
abbrev M_X8_firstNumber : ev_M := (yX8_firstNumber, cX8_firstNumber, 1, (some .int))
abbrev M_X8_secondNumber : ev_M := (yX8_secondNumber, cX8_secondNumber, 1, (some .int))
abbrev M_X9_init : ev_M := (yX9_init, cX9_init, 4, none)
abbrev M_X9_gather : ev_M := (yX9_gather, cX9_gather, 2, none)
abbrev M_X9_walk : ev_M := (yX9_walk, cX9_walk, 8, none)
abbrev M_X9_barsIn : ev_M := (yX9_barsIn, cX9_barsIn, 2, (some .int))
abbrev M_X9_needs : ev_M := (yX9_needs, cX9_needs, 2, (some .boolean))
abbrev M_X9_firstNumber : ev_M := (yX9_firstNumber, cX9_firstNumber, 1, (some .int))
abbrev M_X9_secondNumber : ev_M := (yX9_secondNumber, cX9_secondNumber, 1, (some .int))
abbrev M_X10_init : ev_M := (yX10_init, cX10_init, 1, none)
abbrev M_X10_become : ev_M := (yX10_become, cX10_become, 5, none)
abbrev M_X10_holdsInside : ev_M := (yX10_holdsInside, cX10_holdsInside, 3, (some .boolean))
abbrev M_X11_init : ev_M := (yX11_init, cX11_init, 2, none)
abbrev M_X11_thing : ev_M := (yX11_thing, cX11_thing, 1, (some .int))
abbrev M_X11_line : ev_M := (yX11_line, cX11_line, 5, (some .int))
abbrev M_X11_alter : ev_M := (yX11_alter, cX11_alter, 4, (some .int))
abbrev M_X11_close : ev_M := (yX11_close, cX11_close, 1, (some .int))
abbrev M_X11_undo : ev_M := (yX11_undo, cX11_undo, 2, (some .int))
abbrev M_X11_lineTold : ev_M := (yX11_lineTold, cX11_lineTold, 3, (some .int))
abbrev M_X11_isLineCost : ev_M := (yX11_isLineCost, cX11_isLineCost, 2, (some .boolean))
abbrev M_X11_told : ev_M := (yX11_told, cX11_told, 1, (some .int))
abbrev M_X11_tell : ev_M := (yX11_tell, cX11_tell, 6, (some .int))
abbrev M_X11_tree : ev_M := (yX11_tree, cX11_tree, 1, (some .int))
abbrev M_X11_way : ev_M := (yX11_way, cX11_way, 3, (some .int))
abbrev M_X11_pairing : ev_M := (yX11_pairing, cX11_pairing, 2, (some .int))
abbrev M_X11_offerTold : ev_M := (yX11_offerTold, cX11_offerTold, 4, (some .int))
abbrev M_X11_choice : ev_M := (yX11_choice, cX11_choice, 4, (some .int))
abbrev M_X11_taken : ev_M := (yX11_taken, cX11_taken, 4, (some .int))
abbrev M_X11_addOffer : ev_M := (yX11_addOffer, cX11_addOffer, 2, (some .int))
abbrev M_X11_offerAt : ev_M := (yX11_offerAt, cX11_offerAt, 3, (some (.object "PriceBench$Offer")))
abbrev M_X11_offerWithChoices : ev_M := (yX11_offerWithChoices, cX11_offerWithChoices, 3, (some (.object "PriceBench$Offer")))
abbrev M_X11_placeIn : ev_M := (yX11_placeIn, cX11_placeIn, 2, (some .int))
abbrev M_X11_someOfferNeeds : ev_M := (yX11_someOfferNeeds, cX11_someOfferNeeds, 3, (some .boolean))
abbrev M_X11_cost : ev_M := (yX11_cost, cX11_cost, 7, (some .long))
abbrev M_X11_best : ev_M := (yX11_best, cX11_best, 7, (some .int))
abbrev M_X11_least : ev_M := (yX11_least, cX11_least, 6, (some .long))
abbrev M_X11_window : ev_M := (yX11_window, cX11_window, 5, (some .int))
abbrev M_X11_span : ev_M := (yX11_span, cX11_span, 7, (some .long))
abbrev M_X11_top : ev_M := (yX11_top, cX11_top, 4, (some .long))
abbrev M_X11_ratio : ev_M := (yX11_ratio, cX11_ratio, 6, (some .long))
abbrev M_X11_regret : ev_M := (yX11_regret, cX11_regret, 6, (some .long))
abbrev M_X11_calm : ev_M := (yX11_calm, cX11_calm, 7, (some .int))
abbrev M_X11_why : ev_M := (yX11_why, cX11_why, 8, (some .int))
abbrev M_X11_findTop : ev_M := (yX11_findTop, cX11_findTop, 13, none)
abbrev M_X11_isCalmer : ev_M := (yX11_isCalmer, cX11_isCalmer, 8, (some .boolean))
abbrev M_X11_isPrice : ev_M := (yX11_isPrice, cX11_isPrice, 2, (some .boolean))
abbrev M_X11_isLess : ev_M := (yX11_isLess, cX11_isLess, 8, (some .boolean))
abbrev M_X11_lowest : ev_M := (yX11_lowest, cX11_lowest, 7, (some .long))
abbrev M_X11_commonOf : ev_M := (yX11_commonOf, cX11_commonOf, 7, (some .long))
abbrev M_X11_bends : ev_M := (yX11_bends, cX11_bends, 3, (some .int))
abbrev M_X11_bend : ev_M := (yX11_bend, cX11_bend, 5, (some .long))
abbrev M_X11_write : ev_M := (yX11_write, cX11_write, 3, (some .int))
abbrev M_X11_row : ev_M := (yX11_row, cX11_row, 3, (some .long))
abbrev M_X11_forge : ev_M := (yX11_forge, cX11_forge, 4, (some .int))
abbrev M_X11_check : ev_M := (yX11_check, cX11_check, 5, (some .int))
abbrev M_X11_numberOrNo : ev_M := (yX11_numberOrNo, cX11_numberOrNo, 3, (some .long))
abbrev M_X11_howWrong : ev_M := (yX11_howWrong, cX11_howWrong, 9, (some .int))
abbrev M_X11_act : ev_M := (yX11_act, cX11_act, 5, (some .int))
abbrev M_X11_trace : ev_M := (yX11_trace, cX11_trace, 2, (some .int))
abbrev M_X11_count : ev_M := (yX11_count, cX11_count, 2, (some .int))
abbrev M_X11_sheet : ev_M := (yX11_sheet, cX11_sheet, 5, (some .int))
abbrev M_X11_cell : ev_M := (yX11_cell, cX11_cell, 5, (some .int))
abbrev M_X11_lay : ev_M := (yX11_lay, cX11_lay, 6, (some .int))
abbrev M_X11_copy : ev_M := (yX11_copy, cX11_copy, 8, (some .int))
abbrev M_X11_sheetAt : ev_M := (yX11_sheetAt, cX11_sheetAt, 2, (some (.object "PriceBench$Sheet")))
abbrev M_X12_init : ev_M := (yX12_init, cX12_init, 2, none)
abbrev M_X12_in : ev_M := (yX12_in, cX12_in, 3, (some .boolean))
abbrev M_X12_things : ev_M := (yX12_things, cX12_things, 1, (some .int))
abbrev M_X12_lines : ev_M := (yX12_lines, cX12_lines, 1, (some .int))
abbrev M_X12_from : ev_M := (yX12_from, cX12_from, 2, (some .int))
abbrev M_X12_to : ev_M := (yX12_to, cX12_to, 2, (some .int))
abbrev M_X12_startOf : ev_M := (yX12_startOf, cX12_startOf, 4, (some .int))
abbrev M_X12_riseOf : ev_M := (yX12_riseOf, cX12_riseOf, 4, (some .int))
abbrev M_X12_isThing : ev_M := (yX12_isThing, cX12_isThing, 2, (some .boolean))
abbrev M_X12_isOffer : ev_M := (yX12_isOffer, cX12_isOffer, 2, (some .boolean))
abbrev M_X12_isPrice : ev_M := (yX12_isPrice, cX12_isPrice, 2, (some .boolean))
abbrev M_X12_common : ev_M := (yX12_common, cX12_common, 10, (some .long))
abbrev M_X12_lowest : ev_M := (yX12_lowest, cX12_lowest, 7, (some .long))
abbrev M_X12_keeps : ev_M := (yX12_keeps, cX12_keeps, 2, none)
abbrev M_X12_thing : ev_M := (yX12_thing, cX12_thing, 1, (some .int))
abbrev M_X12_areTold : ev_M := (yX12_areTold, cX12_areTold, 2, (some .boolean))
abbrev M_X12_line : ev_M := (yX12_line, cX12_line, 6, (some .int))
abbrev M_X12_alter : ev_M := (yX12_alter, cX12_alter, 4, (some .int))
abbrev M_X12_close : ev_M := (yX12_close, cX12_close, 1, (some .int))
abbrev M_X12_undo : ev_M := (yX12_undo, cX12_undo, 4, (some .int))
abbrev M_X12_lineTold : ev_M := (yX12_lineTold, cX12_lineTold, 3, (some .int))
abbrev M_X12_made : ev_M := (yX12_made, cX12_made, 4, (some .int))
abbrev M_X12_told : ev_M := (yX12_told, cX12_told, 1, (some .int))
abbrev M_X12_tell : ev_M := (yX12_tell, cX12_tell, 4, (some .int))
abbrev M_X12_tree : ev_M := (yX12_tree, cX12_tree, 1, (some .int))
abbrev M_X12_way : ev_M := (yX12_way, cX12_way, 3, (some .int))
abbrev M_X12_pairing : ev_M := (yX12_pairing, cX12_pairing, 2, (some .int))
abbrev M_X12_bits : ev_M := (yX12_bits, cX12_bits, 3, (some .int))
abbrev M_X12_reached : ev_M := (yX12_reached, cX12_reached, 8, (some .int))
abbrev M_X12_allThings : ev_M := (yX12_allThings, cX12_allThings, 1, (some .int))
abbrev M_X12_allLines : ev_M := (yX12_allLines, cX12_allLines, 1, (some .int))
abbrev M_X12_isTree : ev_M := (yX12_isTree, cX12_isTree, 2, (some .boolean))
abbrev M_X12_isWay : ev_M := (yX12_isWay, cX12_isWay, 11, (some .boolean))
abbrev M_X12_isPairing : ev_M := (yX12_isPairing, cX12_isPairing, 7, (some .boolean))
abbrev M_X12_isTold : ev_M := (yX12_isTold, cX12_isTold, 5, (some .boolean))
abbrev M_X12_isChoice : ev_M := (yX12_isChoice, cX12_isChoice, 3, (some .boolean))
abbrev M_X12_ordered : ev_M := (yX12_ordered, cX12_ordered, 3, (some .int))
abbrev M_X12_gathers : ev_M := (yX12_gathers, cX12_gathers, 4, none)
abbrev M_X12_placeOf : ev_M := (yX12_placeOf, cX12_placeOf, 3, (some .int))
abbrev M_X12_barsOf : ev_M := (yX12_barsOf, cX12_barsOf, 5, (some .int))
abbrev M_X12_beside : ev_M := (yX12_beside, cX12_beside, 4, (some .int))
abbrev M_X12_offerTold : ev_M := (yX12_offerTold, cX12_offerTold, 3, (some .int))
abbrev M_X12_choice : ev_M := (yX12_choice, cX12_choice, 3, (some .int))
abbrev M_X12_cost : ev_M := (yX12_cost, cX12_cost, 5, (some .long))
abbrev M_X12_costAt : ev_M := (yX12_costAt, cX12_costAt, 6, (some .long))
abbrev M_X12_leastAt : ev_M := (yX12_leastAt, cX12_leastAt, 8, (some .long))
abbrev M_X12_bestAt : ev_M := (yX12_bestAt, cX12_bestAt, 11, (some .int))
abbrev M_X12_best : ev_M := (yX12_best, cX12_best, 5, (some .int))
abbrev M_X12_least : ev_M := (yX12_least, cX12_least, 5, (some .long))
abbrev M_X12_window : ev_M := (yX12_window, cX12_window, 5, (some .int))
abbrev M_X12_point : ev_M := (yX12_point, cX12_point, 5, none)
abbrev M_X12_walks : ev_M := (yX12_walks, cX12_walks, 12, none)
abbrev M_X12_prepares : ev_M := (yX12_prepares, cX12_prepares, 2, (some .boolean))
abbrev M_X12_bends : ev_M := (yX12_bends, cX12_bends, 2, (some .int))
abbrev M_X12_bendOf : ev_M := (yX12_bendOf, cX12_bendOf, 3, (some .long))
abbrev M_X12_bend : ev_M := (yX12_bend, cX12_bend, 4, (some .long))
abbrev M_X12_spans : ev_M := (yX12_spans, cX12_spans, 8, (some .boolean))
abbrev M_X12_span : ev_M := (yX12_span, cX12_span, 10, (some .long))
abbrev M_X12_top : ev_M := (yX12_top, cX12_top, 5, (some .long))
abbrev M_X12_ratio : ev_M := (yX12_ratio, cX12_ratio, 6, (some .long))
abbrev M_X12_regrets : ev_M := (yX12_regrets, cX12_regrets, 5, none)
abbrev M_X12_regret : ev_M := (yX12_regret, cX12_regret, 4, (some .long))
abbrev M_X12_calm : ev_M := (yX12_calm, cX12_calm, 11, (some .int))
abbrev M_X12_lineCost : ev_M := (yX12_lineCost, cX12_lineCost, 4, (some .long))
abbrev M_X12_dearest : ev_M := (yX12_dearest, cX12_dearest, 8, (some .int))
abbrev M_X12_why : ev_M := (yX12_why, cX12_why, 7, (some .int))
abbrev M_X12_write : ev_M := (yX12_write, cX12_write, 4, (some .int))
abbrev M_X12_row : ev_M := (yX12_row, cX12_row, 3, (some .long))
abbrev M_X12_forge : ev_M := (yX12_forge, cX12_forge, 4, (some .int))
abbrev M_X12_wrong : ev_M := (yX12_wrong, cX12_wrong, 9, (some .int))
abbrev M_X12_check : ev_M := (yX12_check, cX12_check, 5, (some .int))
abbrev M_X12_ran : ev_M := (yX12_ran, cX12_ran, 2, none)
abbrev M_X12_treeAsks : ev_M := (yX12_treeAsks, cX12_treeAsks, 3, (some .int))
abbrev M_X12_asks : ev_M := (yX12_asks, cX12_asks, 3, (some .int))
abbrev M_X12_toldShows : ev_M := (yX12_toldShows, cX12_toldShows, 3, (some .int))
abbrev M_X12_shows : ev_M := (yX12_shows, cX12_shows, 4, (some .int))
abbrev M_X12_toldTurns : ev_M := (yX12_toldTurns, cX12_toldTurns, 4, (some .int))
abbrev M_X12_turns : ev_M := (yX12_turns, cX12_turns, 4, (some .int))
abbrev M_X12_act : ev_M := (yX12_act, cX12_act, 4, (some .int))
abbrev M_X12_trace : ev_M := (yX12_trace, cX12_trace, 2, (some .int))
abbrev M_X12_count : ev_M := (yX12_count, cX12_count, 2, (some .int))
abbrev M_X12_isSheet : ev_M := (yX12_isSheet, cX12_isSheet, 1, (some .boolean))
abbrev M_X12_sheet : ev_M := (yX12_sheet, cX12_sheet, 5, (some .int))
abbrev M_X12_cell : ev_M := (yX12_cell, cX12_cell, 4, (some .int))
abbrev M_X12_lay : ev_M := (yX12_lay, cX12_lay, 5, (some .int))
abbrev M_X12_copy : ev_M := (yX12_copy, cX12_copy, 7, (some .int))
abbrev M_X12_taken : ev_M := (yX12_taken, cX12_taken, 4, (some .int))
abbrev M_J6_bitCount_0f7a4 : ev_M := (yJ6_bitCount_0f7a4, cJ6_bitCount_0f7a4, 1, (some .int))
abbrev M_J9_abs_0f7a4 : ev_M := (yJ9_abs_0f7a4, cJ9_abs_0f7a4, 1, (some .int))
abbrev M_J9_abs_067f4 : ev_M := (yJ9_abs_067f4, cJ9_abs_067f4, 2, (some .long))
abbrev M_J9_min_7cf53 : ev_M := (yJ9_min_7cf53, cJ9_min_7cf53, 2, (some .int))
abbrev M_J7_fill_d0a16 : ev_M := (yJ7_fill_d0a16, cJ7_fill_d0a16, 5, none)
abbrev M_J7_copyOf_59c91 : ev_M := (yJ7_copyOf_59c91, cJ7_copyOf_59c91, 3, (some (.array .int)))
theorem ok_X0_init : ev_okM M_X0_init 0 := ⟨by decide +kernel, by decide, tm1 (i := 142) (by decide +kernel) rfl, tm1 (i := 5) (by decide +kernel) rfl, ⟨by decide +kernel, by decide +kernel⟩, by decide +kernel⟩
theorem ok_X0_isUnder : ev_okM M_X0_isUnder 2 := ⟨by decide +kernel, by decide, tm3 (i := 124) (by decide +kernel) rfl, tm1 (i := 5) (by decide +kernel) rfl, ⟨by decide +kernel, by decide +kernel⟩, by decide +kernel⟩
theorem ok_X0_kindAbove : ev_okM M_X0_kindAbove 1 := ⟨by decide +kernel, by decide, tm3 (i := 129) (by decide +kernel) rfl, tm1 (i := 5) (by decide +kernel) rfl, ⟨by decide +kernel, by decide +kernel⟩, by decide +kernel⟩
theorem ok_X0_forget : ev_okM M_X0_forget 0 := ⟨by decide +kernel, by decide, tm4 (i := 119) (by decide +kernel) rfl, tm1 (i := 5) (by decide +kernel) rfl, ⟨by decide +kernel, by decide +kernel⟩, by decide +kernel⟩
theorem ok_X0_start : ev_okM M_X0_start 3 := ⟨by decide +kernel, by decide, tm4 (i := 123) (by decide +kernel) rfl, tm1 (i := 5) (by decide +kernel) rfl, ⟨by decide +kernel, by decide +kernel⟩, by decide +kernel⟩
theorem ok_X0_play : ev_okM M_X0_play 6 := ⟨by decide +kernel, by decide, tm4 (i := 126) (by decide +kernel) rfl, tm1 (i := 5) (by decide +kernel) rfl, ⟨by decide +kernel, by decide +kernel⟩, by decide +kernel⟩
theorem ok_X0_kindWithBody : ev_okM M_X0_kindWithBody 2 := ⟨by decide +kernel, by decide, tm4 (i := 129) (by decide +kernel) rfl, tm1 (i := 5) (by decide +kernel) rfl, ⟨by decide +kernel, by decide +kernel⟩, by decide +kernel⟩
theorem ok_X0_note : ev_okM M_X0_note 1 := ⟨by decide +kernel, by decide, tm4 (i := 135) (by decide +kernel) rfl, tm1 (i := 5) (by decide +kernel) rfl, ⟨by decide +kernel, by decide +kernel⟩, by decide +kernel⟩
theorem ok_X1_init : ev_okM M_X1_init 0 := ⟨by decide +kernel, by decide, tm2 (i := 59) (by decide +kernel) rfl, tm1 (i := 10) (by decide +kernel) rfl, ⟨by decide +kernel, by decide +kernel⟩, by decide +kernel⟩
theorem ok_X1_clear : ev_okM M_X1_clear 0 := ⟨by decide +kernel, by decide, tm2 (i := 146) (by decide +kernel) rfl, tm1 (i := 10) (by decide +kernel) rfl, ⟨by decide +kernel, by decide +kernel⟩, by decide +kernel⟩
theorem ok_X1_put : ev_okM M_X1_put 2 := ⟨by decide +kernel, by decide, tm2 (i := 163) (by decide +kernel) rfl, tm1 (i := 10) (by decide +kernel) rfl, ⟨by decide +kernel, by decide +kernel⟩, by decide +kernel⟩
theorem ok_X1_widen : ev_okM M_X1_widen 0 := ⟨by decide +kernel, by decide, tm2 (i := 167) (by decide +kernel) rfl, tm1 (i := 10) (by decide +kernel) rfl, ⟨by decide +kernel, by decide +kernel⟩, by decide +kernel⟩
theorem ok_X1_comesAhead : ev_okM M_X1_comesAhead 2 := ⟨by decide +kernel, by decide, tm2 (i := 186) (by decide +kernel) rfl, tm1 (i := 10) (by decide +kernel) rfl, ⟨by decide +kernel, by decide +kernel⟩, by decide +kernel⟩
theorem ok_X1_placeOf : ev_okM M_X1_placeOf 1 := ⟨by decide +kernel, by decide, tm3 (i := 198) (by decide +kernel) rfl, tm1 (i := 10) (by decide +kernel) rfl, ⟨by decide +kernel, by decide +kernel⟩, by decide +kernel⟩
theorem ok_X1_costAt : ev_okM M_X1_costAt 3 := ⟨by decide +kernel, by decide, tm3 (i := 159) (by decide +kernel) rfl, tm1 (i := 10) (by decide +kernel) rfl, ⟨by decide +kernel, by decide +kernel⟩, by decide +kernel⟩
theorem ok_X1_cheapestAt : ev_okM M_X1_cheapestAt 3 := ⟨by decide +kernel, by decide, tm3 (i := 155) (by decide +kernel) rfl, tm1 (i := 10) (by decide +kernel) rfl, ⟨by decide +kernel, by decide +kernel⟩, by decide +kernel⟩
theorem ok_X1_leadsAmongLike : ev_okM M_X1_leadsAmongLike 3 := ⟨by decide +kernel, by decide, tm3 (i := 163) (by decide +kernel) rfl, tm1 (i := 10) (by decide +kernel) rfl, ⟨by decide +kernel, by decide +kernel⟩, by decide +kernel⟩
theorem ok_X1_leastAt : ev_okM M_X1_leastAt 2 := ⟨by decide +kernel, by decide, tm3 (i := 175) (by decide +kernel) rfl, tm1 (i := 10) (by decide +kernel) rfl, ⟨by decide +kernel, by decide +kernel⟩, by decide +kernel⟩
theorem ok_X1_nextAbove : ev_okM M_X1_nextAbove 1 := ⟨by decide +kernel, by decide, tm3 (i := 233) (by decide +kernel) rfl, tm1 (i := 10) (by decide +kernel) rfl, ⟨by decide +kernel, by decide +kernel⟩, by decide +kernel⟩
theorem ok_X1_meetsSooner : ev_okM M_X1_meetsSooner 3 := ⟨by decide +kernel, by decide, tm3 (i := 237) (by decide +kernel) rfl, tm1 (i := 10) (by decide +kernel) rfl, ⟨by decide +kernel, by decide +kernel⟩, by decide +kernel⟩
theorem ok_X1_findSpan : ev_okM M_X1_findSpan 2 := ⟨by decide +kernel, by decide, tm3 (i := 202) (by decide +kernel) rfl, tm1 (i := 10) (by decide +kernel) rfl, ⟨by decide +kernel, by decide +kernel⟩, by decide +kernel⟩
theorem ok_X1_leastRatio : ev_okM M_X1_leastRatio 0 := ⟨by decide +kernel, by decide, tm4 (i := 24) (by decide +kernel) rfl, tm1 (i := 10) (by decide +kernel) rfl, ⟨by decide +kernel, by decide +kernel⟩, by decide +kernel⟩
theorem ok_X1_findRegret : ev_okM M_X1_findRegret 3 := ⟨by decide +kernel, by decide, tm4 (i := 32) (by decide +kernel) rfl, tm1 (i := 10) (by decide +kernel) rfl, ⟨by decide +kernel, by decide +kernel⟩, by decide +kernel⟩
theorem ok_X2_init : ev_okM M_X2_init 0 := ⟨by decide +kernel, by decide, tm1 (i := 30) (by decide +kernel) rfl, tm1 (i := 2) (by decide +kernel) rfl, ⟨by decide +kernel, by decide +kernel⟩, by decide +kernel⟩
theorem ok_X2_isThing : ev_okM M_X2_isThing 1 := ⟨by decide +kernel, by decide, tm1 (i := 217) (by decide +kernel) rfl, tm1 (i := 2) (by decide +kernel) rfl, ⟨by decide +kernel, by decide +kernel⟩, by decide +kernel⟩
theorem ok_X2_isLine : ev_okM M_X2_isLine 1 := ⟨by decide +kernel, by decide, tm1 (i := 232) (by decide +kernel) rfl, tm1 (i := 2) (by decide +kernel) rfl, ⟨by decide +kernel, by decide +kernel⟩, by decide +kernel⟩
theorem ok_X2_allThings : ev_okM M_X2_allThings 0 := ⟨by decide +kernel, by decide, tm2 (i := 156) (by decide +kernel) rfl, tm1 (i := 2) (by decide +kernel) rfl, ⟨by decide +kernel, by decide +kernel⟩, by decide +kernel⟩
theorem ok_X2_addThing : ev_okM M_X2_addThing 0 := ⟨by decide +kernel, by decide, tm1 (i := 205) (by decide +kernel) rfl, tm1 (i := 2) (by decide +kernel) rfl, ⟨by decide +kernel, by decide +kernel⟩, by decide +kernel⟩
theorem ok_X2_addLine : ev_okM M_X2_addLine 4 := ⟨by decide +kernel, by decide, tm1 (i := 224) (by decide +kernel) rfl, tm1 (i := 2) (by decide +kernel) rfl, ⟨by decide +kernel, by decide +kernel⟩, by decide +kernel⟩
theorem ok_X2_changeLine : ev_okM M_X2_changeLine 3 := ⟨by decide +kernel, by decide, tm1 (i := 236) (by decide +kernel) rfl, tm1 (i := 2) (by decide +kernel) rfl, ⟨by decide +kernel, by decide +kernel⟩, by decide +kernel⟩
theorem ok_X2_dropLine : ev_okM M_X2_dropLine 0 := ⟨by decide +kernel, by decide, tm2 (i := 5) (by decide +kernel) rfl, tm1 (i := 2) (by decide +kernel) rfl, ⟨by decide +kernel, by decide +kernel⟩, by decide +kernel⟩
theorem ok_X2_stepBack : ev_okM M_X2_stepBack 0 := ⟨by decide +kernel, by decide, tm2 (i := 32) (by decide +kernel) rfl, tm1 (i := 2) (by decide +kernel) rfl, ⟨by decide +kernel, by decide +kernel⟩, by decide +kernel⟩
theorem ok_X2_changed : ev_okM M_X2_changed 1 := ⟨by decide +kernel, by decide, tm1 (i := 209) (by decide +kernel) rfl, tm1 (i := 2) (by decide +kernel) rfl, ⟨by decide +kernel, by decide +kernel⟩, by decide +kernel⟩
theorem ok_X2_numberOf : ev_okM M_X2_numberOf 2 := ⟨by decide +kernel, by decide, tm2 (i := 41) (by decide +kernel) rfl, tm1 (i := 2) (by decide +kernel) rfl, ⟨by decide +kernel, by decide +kernel⟩, by decide +kernel⟩
theorem ok_X2_sumOver : ev_okM M_X2_sumOver 2 := ⟨by decide +kernel, by decide, tm2 (i := 190) (by decide +kernel) rfl, tm1 (i := 2) (by decide +kernel) rfl, ⟨by decide +kernel, by decide +kernel⟩, by decide +kernel⟩
theorem ok_X2_lineCost : ev_okM M_X2_lineCost 3 := ⟨by decide +kernel, by decide, tm4 (i := 58) (by decide +kernel) rfl, tm1 (i := 2) (by decide +kernel) rfl, ⟨by decide +kernel, by decide +kernel⟩, by decide +kernel⟩
theorem ok_X2_hangingWith : ev_okM M_X2_hangingWith 2 := ⟨by decide +kernel, by decide, tm3 (i := 76) (by decide +kernel) rfl, tm1 (i := 2) (by decide +kernel) rfl, ⟨by decide +kernel, by decide +kernel⟩, by decide +kernel⟩
theorem ok_X2_ledToFrom : ev_okM M_X2_ledToFrom 1 := ⟨by decide +kernel, by decide, tm3 (i := 83) (by decide +kernel) rfl, tm1 (i := 2) (by decide +kernel) rfl, ⟨by decide +kernel, by decide +kernel⟩, by decide +kernel⟩
theorem ok_X2_beside : ev_okM M_X2_beside 2 := ⟨by decide +kernel, by decide, tm3 (i := 66) (by decide +kernel) rfl, tm1 (i := 2) (by decide +kernel) rfl, ⟨by decide +kernel, by decide +kernel⟩, by decide +kernel⟩
theorem ok_X2_dearestBetween : ev_okM M_X2_dearestBetween 4 := ⟨by decide +kernel, by decide, tm4 (i := 49) (by decide +kernel) rfl, tm1 (i := 2) (by decide +kernel) rfl, ⟨by decide +kernel, by decide +kernel⟩, by decide +kernel⟩
theorem ok_X2_isBetween : ev_okM M_X2_isBetween 3 := ⟨by decide +kernel, by decide, tm4 (i := 53) (by decide +kernel) rfl, tm1 (i := 2) (by decide +kernel) rfl, ⟨by decide +kernel, by decide +kernel⟩, by decide +kernel⟩
theorem ok_X3_init : ev_okM M_X3_init 2 := ⟨by decide +kernel, by decide, tm2 (i := 53) (by decide +kernel) rfl, tm1 (i := 8) (by decide +kernel) rfl, ⟨by decide +kernel, by decide +kernel⟩, by decide +kernel⟩
theorem ok_X3_renewChoices : ev_okM M_X3_renewChoices 1 := ⟨by decide +kernel, by decide, tm2 (i := 142) (by decide +kernel) rfl, tm1 (i := 8) (by decide +kernel) rfl, ⟨by decide +kernel, by decide +kernel⟩, by decide +kernel⟩
theorem ok_X3_outdate : ev_okM M_X3_outdate 0 := ⟨by decide +kernel, by decide, tm2 (i := 225) (by decide +kernel) rfl, tm1 (i := 8) (by decide +kernel) rfl, ⟨by decide +kernel, by decide +kernel⟩, by decide +kernel⟩
theorem ok_X3_bendsIn : ev_okM M_X3_bendsIn 1 := ⟨by decide +kernel, by decide, tm3 (i := 220) (by decide +kernel) rfl, tm1 (i := 8) (by decide +kernel) rfl, ⟨by decide +kernel, by decide +kernel⟩, by decide +kernel⟩
theorem ok_X3_findBends : ev_okM M_X3_findBends 1 := ⟨by decide +kernel, by decide, tm3 (i := 228) (by decide +kernel) rfl, tm1 (i := 8) (by decide +kernel) rfl, ⟨by decide +kernel, by decide +kernel⟩, by decide +kernel⟩
theorem ok_X4_init : ev_okM M_X4_init 2 := ⟨by decide +kernel, by decide, tm3 (i := 35) (by decide +kernel) rfl, tm1 (i := 11) (by decide +kernel) rfl, ⟨by decide +kernel, by decide +kernel⟩, by decide +kernel⟩
theorem ok_X4_gather : ev_okM M_X4_gather 1 := ⟨by decide +kernel, by decide, tm2 (i := 152) (by decide +kernel) rfl, tm1 (i := 11) (by decide +kernel) rfl, ⟨by decide +kernel, by decide +kernel⟩, by decide +kernel⟩
theorem ok_X4_pair : ev_okM M_X4_pair 5 := ⟨by decide +kernel, by decide, tm2 (i := 159) (by decide +kernel) rfl, tm1 (i := 11) (by decide +kernel) rfl, ⟨by decide +kernel, by decide +kernel⟩, by decide +kernel⟩
theorem ok_X4_barsIn : ev_okM M_X4_barsIn 1 := ⟨by decide +kernel, by decide, tm3 (i := 56) (by decide +kernel) rfl, tm1 (i := 11) (by decide +kernel) rfl, ⟨by decide +kernel, by decide +kernel⟩, by decide +kernel⟩
theorem ok_X4_needs : ev_okM M_X4_needs 1 := ⟨by decide +kernel, by decide, tm2 (i := 19) (by decide +kernel) rfl, tm1 (i := 11) (by decide +kernel) rfl, ⟨by decide +kernel, by decide +kernel⟩, by decide +kernel⟩
theorem ok_X4_firstNumber : ev_okM M_X4_firstNumber 0 := ⟨by decide +kernel, by decide, tm3 (i := 89) (by decide +kernel) rfl, tm1 (i := 11) (by decide +kernel) rfl, ⟨by decide +kernel, by decide +kernel⟩, by decide +kernel⟩
theorem ok_X4_secondNumber : ev_okM M_X4_secondNumber 0 := ⟨by decide +kernel, by decide, tm3 (i := 104) (by decide +kernel) rfl, tm1 (i := 11) (by decide +kernel) rfl, ⟨by decide +kernel, by decide +kernel⟩, by decide +kernel⟩
theorem ok_X5_init : ev_okM M_X5_init 0 := ⟨by decide +kernel, by decide, tm1 (i := 128) (by decide +kernel) rfl, tm1 (i := 4) (by decide +kernel) rfl, ⟨by decide +kernel, by decide +kernel⟩, by decide +kernel⟩
theorem ok_X5_clear : ev_okM M_X5_clear 0 := ⟨by decide +kernel, by decide, tm3 (i := 224) (by decide +kernel) rfl, tm1 (i := 4) (by decide +kernel) rfl, ⟨by decide +kernel, by decide +kernel⟩, by decide +kernel⟩
theorem ok_X5_has : ev_okM M_X5_has 2 := ⟨by decide +kernel, by decide, tm4 (i := 16) (by decide +kernel) rfl, tm1 (i := 4) (by decide +kernel) rfl, ⟨by decide +kernel, by decide +kernel⟩, by decide +kernel⟩
theorem ok_X5_number : ev_okM M_X5_number 2 := ⟨by decide +kernel, by decide, tm4 (i := 12) (by decide +kernel) rfl, tm1 (i := 4) (by decide +kernel) rfl, ⟨by decide +kernel, by decide +kernel⟩, by decide +kernel⟩
theorem ok_X5_set : ev_okM M_X5_set 3 := ⟨by decide +kernel, by decide, tm4 (i := 94) (by decide +kernel) rfl, tm1 (i := 4) (by decide +kernel) rfl, ⟨by decide +kernel, by decide +kernel⟩, by decide +kernel⟩
theorem ok_X5_put : ev_okM M_X5_put 4 := ⟨by decide +kernel, by decide, tm4 (i := 2) (by decide +kernel) rfl, tm1 (i := 4) (by decide +kernel) rfl, ⟨by decide +kernel, by decide +kernel⟩, by decide +kernel⟩
theorem ok_X5_becomeLike : ev_okM M_X5_becomeLike 1 := ⟨by decide +kernel, by decide, tm4 (i := 79) (by decide +kernel) rfl, tm1 (i := 4) (by decide +kernel) rfl, ⟨by decide +kernel, by decide +kernel⟩, by decide +kernel⟩
theorem ok_X5_makeRoomFor : ev_okM M_X5_makeRoomFor 1 := ⟨by decide +kernel, by decide, tm4 (i := 6) (by decide +kernel) rfl, tm1 (i := 4) (by decide +kernel) rfl, ⟨by decide +kernel, by decide +kernel⟩, by decide +kernel⟩
theorem ok_X6_init : ev_okM M_X6_init 0 := ⟨by decide +kernel, by decide, tm1 (i := 158) (by decide +kernel) rfl, tm1 (i := 6) (by decide +kernel) rfl, ⟨by decide +kernel, by decide +kernel⟩, by decide +kernel⟩
theorem ok_X6_become : ev_okM M_X6_become 2 := ⟨by decide +kernel, by decide, tm4 (i := 155) (by decide +kernel) rfl, tm1 (i := 6) (by decide +kernel) rfl, ⟨by decide +kernel, by decide +kernel⟩, by decide +kernel⟩
theorem ok_X6_holds : ev_okM M_X6_holds 2 := ⟨by decide +kernel, by decide, tm4 (i := 166) (by decide +kernel) rfl, tm1 (i := 6) (by decide +kernel) rfl, ⟨by decide +kernel, by decide +kernel⟩, by decide +kernel⟩
theorem ok_X7_init : ev_okM M_X7_init 1 := ⟨by decide +kernel, by decide, tm2 (i := 50) (by decide +kernel) rfl, tm1 (i := 9) (by decide +kernel) rfl, ⟨by decide +kernel, by decide +kernel⟩, by decide +kernel⟩
theorem ok_X7_take : ev_okM M_X7_take 1 := ⟨by decide +kernel, by decide, tm2 (i := 219) (by decide +kernel) rfl, tm1 (i := 9) (by decide +kernel) rfl, ⟨by decide +kernel, by decide +kernel⟩, by decide +kernel⟩
theorem ok_X7_gather : ev_okM M_X7_gather 1 := ⟨by decide +kernel, by decide, tm2 (i := 193) (by decide +kernel) rfl, tm1 (i := 9) (by decide +kernel) rfl, ⟨by decide +kernel, by decide +kernel⟩, by decide +kernel⟩
theorem ok_X7_barsIn : ev_okM M_X7_barsIn 1 := ⟨by decide +kernel, by decide, tm3 (i := 69) (by decide +kernel) rfl, tm1 (i := 9) (by decide +kernel) rfl, ⟨by decide +kernel, by decide +kernel⟩, by decide +kernel⟩
theorem ok_X7_needs : ev_okM M_X7_needs 1 := ⟨by decide +kernel, by decide, tm2 (i := 22) (by decide +kernel) rfl, tm1 (i := 9) (by decide +kernel) rfl, ⟨by decide +kernel, by decide +kernel⟩, by decide +kernel⟩
theorem ok_X7_firstNumber : ev_okM M_X7_firstNumber 0 := ⟨by decide +kernel, by decide, tm3 (i := 92) (by decide +kernel) rfl, tm1 (i := 9) (by decide +kernel) rfl, ⟨by decide +kernel, by decide +kernel⟩, by decide +kernel⟩
theorem ok_X7_secondNumber : ev_okM M_X7_secondNumber 0 := ⟨by decide +kernel, by decide, tm3 (i := 107) (by decide +kernel) rfl, tm1 (i := 9) (by decide +kernel) rfl, ⟨by decide +kernel, by decide +kernel⟩, by decide +kernel⟩
theorem ok_X8_init : ev_okM M_X8_init 1 := ⟨by decide +kernel, by decide, tm2 (i := 234) (by decide +kernel) rfl, tm1 (i := 15) (by decide +kernel) rfl, ⟨by decide +kernel, by decide +kernel⟩, by decide +kernel⟩
theorem ok_X8_gather : ev_okM M_X8_gather 1 := ⟨by decide +kernel, by decide, tm2 (i := 197) (by decide +kernel) rfl, tm1 (i := 15) (by decide +kernel) rfl, ⟨by decide +kernel, by decide +kernel⟩, by decide +kernel⟩
theorem ok_X8_grow : ev_okM M_X8_grow 6 := ⟨by decide +kernel, by decide, tm2 (i := 201) (by decide +kernel) rfl, tm1 (i := 15) (by decide +kernel) rfl, ⟨by decide +kernel, by decide +kernel⟩, by decide +kernel⟩
theorem ok_X8_groupOf : ev_okM M_X8_groupOf 2 := ⟨by decide +kernel, by decide, tm2 (i := 205) (by decide +kernel) rfl, tm1 (i := 15) (by decide +kernel) rfl, ⟨by decide +kernel, by decide +kernel⟩, by decide +kernel⟩
theorem ok_X8_join : ev_okM M_X8_join 4 := ⟨by decide +kernel, by decide, tm2 (i := 208) (by decide +kernel) rfl, tm1 (i := 15) (by decide +kernel) rfl, ⟨by decide +kernel, by decide +kernel⟩, by decide +kernel⟩
theorem ok_X8_barsIn : ev_okM M_X8_barsIn 1 := ⟨by decide +kernel, by decide, tm3 (i := 72) (by decide +kernel) rfl, tm1 (i := 15) (by decide +kernel) rfl, ⟨by decide +kernel, by decide +kernel⟩, by decide +kernel⟩
theorem ok_X8_needs : ev_okM M_X8_needs 1 := ⟨by decide +kernel, by decide, tm2 (i := 25) (by decide +kernel) rfl, tm1 (i := 15) (by decide +kernel) rfl, ⟨by decide +kernel, by decide +kernel⟩, by decide +kernel⟩
theorem ok_X8_firstNumber : ev_okM M_X8_firstNumber 0 := ⟨by decide +kernel, by decide, tm3 (i := 95) (by decide +kernel) rfl, tm1 (i := 15) (by decide +kernel) rfl, ⟨by decide +kernel, by decide +kernel⟩, by decide +kernel⟩
theorem ok_X8_secondNumber : ev_okM M_X8_secondNumber 0 := ⟨by decide +kernel, by decide, tm3 (i := 110) (by decide +kernel) rfl, tm1 (i := 15) (by decide +kernel) rfl, ⟨by decide +kernel, by decide +kernel⟩, by decide +kernel⟩
theorem ok_X9_init : ev_okM M_X9_init 3 := ⟨by decide +kernel, by decide, tm3 (i := 11) (by decide +kernel) rfl, tm1 (i := 16) (by decide +kernel) rfl, ⟨by decide +kernel, by decide +kernel⟩, by decide +kernel⟩
theorem ok_X9_gather : ev_okM M_X9_gather 1 := ⟨by decide +kernel, by decide, tm2 (i := 211) (by decide +kernel) rfl, tm1 (i := 16) (by decide +kernel) rfl, ⟨by decide +kernel, by decide +kernel⟩, by decide +kernel⟩
theorem ok_X9_walk : ev_okM M_X9_walk 6 := ⟨by decide +kernel, by decide, tm2 (i := 214) (by decide +kernel) rfl, tm1 (i := 16) (by decide +kernel) rfl, ⟨by decide +kernel, by decide +kernel⟩, by decide +kernel⟩
theorem ok_X9_barsIn : ev_okM M_X9_barsIn 1 := ⟨by decide +kernel, by decide, tm3 (i := 79) (by decide +kernel) rfl, tm1 (i := 16) (by decide +kernel) rfl, ⟨by decide +kernel, by decide +kernel⟩, by decide +kernel⟩
theorem ok_X9_needs : ev_okM M_X9_needs 1 := ⟨by decide +kernel, by decide, tm2 (i := 28) (by decide +kernel) rfl, tm1 (i := 16) (by decide +kernel) rfl, ⟨by decide +kernel, by decide +kernel⟩, by decide +kernel⟩
theorem ok_X9_firstNumber : ev_okM M_X9_firstNumber 0 := ⟨by decide +kernel, by decide, tm3 (i := 98) (by decide +kernel) rfl, tm1 (i := 16) (by decide +kernel) rfl, ⟨by decide +kernel, by decide +kernel⟩, by decide +kernel⟩
theorem ok_X9_secondNumber : ev_okM M_X9_secondNumber 0 := ⟨by decide +kernel, by decide, tm3 (i := 113) (by decide +kernel) rfl, tm1 (i := 16) (by decide +kernel) rfl, ⟨by decide +kernel, by decide +kernel⟩, by decide +kernel⟩
theorem ok_X10_init : ev_okM M_X10_init 0 := ⟨by decide +kernel, by decide, tm1 (i := 93) (by decide +kernel) rfl, tm1 (i := 3) (by decide +kernel) rfl, ⟨by decide +kernel, by decide +kernel⟩, by decide +kernel⟩
theorem ok_X10_become : ev_okM M_X10_become 4 := ⟨by decide +kernel, by decide, tm3 (i := 187) (by decide +kernel) rfl, tm1 (i := 3) (by decide +kernel) rfl, ⟨by decide +kernel, by decide +kernel⟩, by decide +kernel⟩
theorem ok_X10_holdsInside : ev_okM M_X10_holdsInside 2 := ⟨by decide +kernel, by decide, tm4 (i := 109) (by decide +kernel) rfl, tm1 (i := 3) (by decide +kernel) rfl, ⟨by decide +kernel, by decide +kernel⟩, by decide +kernel⟩
theorem ok_X11_init : ev_okM M_X11_init 0 := ⟨by decide +kernel, by decide, tm1 (i := 22) (by decide +kernel) rfl, tm1 (i := 1) (by decide +kernel) rfl, ⟨by decide +kernel, by decide +kernel⟩, by decide +kernel⟩
theorem ok_X11_thing : ev_okM M_X11_thing 0 := ⟨by decide +kernel, by decide, tm1 (i := 201) (by decide +kernel) rfl, tm1 (i := 1) (by decide +kernel) rfl, ⟨by decide +kernel, by decide +kernel⟩, by decide +kernel⟩
theorem ok_X11_line : ev_okM M_X11_line 4 := ⟨by decide +kernel, by decide, tm1 (i := 213) (by decide +kernel) rfl, tm1 (i := 1) (by decide +kernel) rfl, ⟨by decide +kernel, by decide +kernel⟩, by decide +kernel⟩
theorem ok_X11_alter : ev_okM M_X11_alter 3 := ⟨by decide +kernel, by decide, tm1 (i := 228) (by decide +kernel) rfl, tm1 (i := 1) (by decide +kernel) rfl, ⟨by decide +kernel, by decide +kernel⟩, by decide +kernel⟩
theorem ok_X11_close : ev_okM M_X11_close 0 := ⟨by decide +kernel, by decide, tm2 (i := 1) (by decide +kernel) rfl, tm1 (i := 1) (by decide +kernel) rfl, ⟨by decide +kernel, by decide +kernel⟩, by decide +kernel⟩
theorem ok_X11_undo : ev_okM M_X11_undo 0 := ⟨by decide +kernel, by decide, tm2 (i := 9) (by decide +kernel) rfl, tm1 (i := 1) (by decide +kernel) rfl, ⟨by decide +kernel, by decide +kernel⟩, by decide +kernel⟩
theorem ok_X11_lineTold : ev_okM M_X11_lineTold 2 := ⟨by decide +kernel, by decide, tm2 (i := 37) (by decide +kernel) rfl, tm1 (i := 1) (by decide +kernel) rfl, ⟨by decide +kernel, by decide +kernel⟩, by decide +kernel⟩
theorem ok_X11_isLineCost : ev_okM M_X11_isLineCost 2 := ⟨by decide +kernel, by decide, tm1 (i := 220) (by decide +kernel) rfl, tm1 (i := 1) (by decide +kernel) rfl, ⟨by decide +kernel, by decide +kernel⟩, by decide +kernel⟩
theorem ok_X11_told : ev_okM M_X11_told 0 := ⟨by decide +kernel, by decide, tm2 (i := 45) (by decide +kernel) rfl, tm1 (i := 1) (by decide +kernel) rfl, ⟨by decide +kernel, by decide +kernel⟩, by decide +kernel⟩
theorem ok_X11_tell : ev_okM M_X11_tell 2 := ⟨by decide +kernel, by decide, tm2 (i := 130) (by decide +kernel) rfl, tm1 (i := 1) (by decide +kernel) rfl, ⟨by decide +kernel, by decide +kernel⟩, by decide +kernel⟩
theorem ok_X11_tree : ev_okM M_X11_tree 0 := ⟨by decide +kernel, by decide, tm2 (i := 229) (by decide +kernel) rfl, tm1 (i := 1) (by decide +kernel) rfl, ⟨by decide +kernel, by decide +kernel⟩, by decide +kernel⟩
theorem ok_X11_way : ev_okM M_X11_way 2 := ⟨by decide +kernel, by decide, tm3 (i := 6) (by decide +kernel) rfl, tm1 (i := 1) (by decide +kernel) rfl, ⟨by decide +kernel, by decide +kernel⟩, by decide +kernel⟩
theorem ok_X11_pairing : ev_okM M_X11_pairing 1 := ⟨by decide +kernel, by decide, tm3 (i := 29) (by decide +kernel) rfl, tm1 (i := 1) (by decide +kernel) rfl, ⟨by decide +kernel, by decide +kernel⟩, by decide +kernel⟩
theorem ok_X11_offerTold : ev_okM M_X11_offerTold 2 := ⟨by decide +kernel, by decide, tm3 (i := 50) (by decide +kernel) rfl, tm1 (i := 1) (by decide +kernel) rfl, ⟨by decide +kernel, by decide +kernel⟩, by decide +kernel⟩
theorem ok_X11_choice : ev_okM M_X11_choice 2 := ⟨by decide +kernel, by decide, tm3 (i := 117) (by decide +kernel) rfl, tm1 (i := 1) (by decide +kernel) rfl, ⟨by decide +kernel, by decide +kernel⟩, by decide +kernel⟩
theorem ok_X11_taken : ev_okM M_X11_taken 2 := ⟨by decide +kernel, by decide, tm3 (i := 121) (by decide +kernel) rfl, tm1 (i := 1) (by decide +kernel) rfl, ⟨by decide +kernel, by decide +kernel⟩, by decide +kernel⟩
theorem ok_X11_addOffer : ev_okM M_X11_addOffer 1 := ⟨by decide +kernel, by decide, tm2 (i := 126) (by decide +kernel) rfl, tm1 (i := 1) (by decide +kernel) rfl, ⟨by decide +kernel, by decide +kernel⟩, by decide +kernel⟩
theorem ok_X11_offerAt : ev_okM M_X11_offerAt 1 := ⟨by decide +kernel, by decide, tm2 (i := 134) (by decide +kernel) rfl, tm1 (i := 1) (by decide +kernel) rfl, ⟨by decide +kernel, by decide +kernel⟩, by decide +kernel⟩
theorem ok_X11_offerWithChoices : ev_okM M_X11_offerWithChoices 1 := ⟨by decide +kernel, by decide, tm3 (i := 171) (by decide +kernel) rfl, tm1 (i := 1) (by decide +kernel) rfl, ⟨by decide +kernel, by decide +kernel⟩, by decide +kernel⟩
theorem ok_X11_placeIn : ev_okM M_X11_placeIn 2 := ⟨by decide +kernel, by decide, tm3 (i := 194) (by decide +kernel) rfl, tm1 (i := 1) (by decide +kernel) rfl, ⟨by decide +kernel, by decide +kernel⟩, by decide +kernel⟩
theorem ok_X11_someOfferNeeds : ev_okM M_X11_someOfferNeeds 1 := ⟨by decide +kernel, by decide, tm2 (i := 13) (by decide +kernel) rfl, tm1 (i := 1) (by decide +kernel) rfl, ⟨by decide +kernel, by decide +kernel⟩, by decide +kernel⟩
theorem ok_X11_cost : ev_okM M_X11_cost 4 := ⟨by decide +kernel, by decide, tm3 (i := 133) (by decide +kernel) rfl, tm1 (i := 1) (by decide +kernel) rfl, ⟨by decide +kernel, by decide +kernel⟩, by decide +kernel⟩
theorem ok_X11_best : ev_okM M_X11_best 4 := ⟨by decide +kernel, by decide, tm3 (i := 151) (by decide +kernel) rfl, tm1 (i := 1) (by decide +kernel) rfl, ⟨by decide +kernel, by decide +kernel⟩, by decide +kernel⟩
theorem ok_X11_least : ev_okM M_X11_least 4 := ⟨by decide +kernel, by decide, tm3 (i := 167) (by decide +kernel) rfl, tm1 (i := 1) (by decide +kernel) rfl, ⟨by decide +kernel, by decide +kernel⟩, by decide +kernel⟩
theorem ok_X11_window : ev_okM M_X11_window 4 := ⟨by decide +kernel, by decide, tm3 (i := 180) (by decide +kernel) rfl, tm1 (i := 1) (by decide +kernel) rfl, ⟨by decide +kernel, by decide +kernel⟩, by decide +kernel⟩
theorem ok_X11_span : ev_okM M_X11_span 3 := ⟨by decide +kernel, by decide, tm3 (i := 191) (by decide +kernel) rfl, tm1 (i := 1) (by decide +kernel) rfl, ⟨by decide +kernel, by decide +kernel⟩, by decide +kernel⟩
theorem ok_X11_top : ev_okM M_X11_top 2 := ⟨by decide +kernel, by decide, tm3 (i := 208) (by decide +kernel) rfl, tm1 (i := 1) (by decide +kernel) rfl, ⟨by decide +kernel, by decide +kernel⟩, by decide +kernel⟩
theorem ok_X11_ratio : ev_okM M_X11_ratio 2 := ⟨by decide +kernel, by decide, tm4 (i := 20) (by decide +kernel) rfl, tm1 (i := 1) (by decide +kernel) rfl, ⟨by decide +kernel, by decide +kernel⟩, by decide +kernel⟩
theorem ok_X11_regret : ev_okM M_X11_regret 3 := ⟨by decide +kernel, by decide, tm4 (i := 28) (by decide +kernel) rfl, tm1 (i := 1) (by decide +kernel) rfl, ⟨by decide +kernel, by decide +kernel⟩, by decide +kernel⟩
theorem ok_X11_calm : ev_okM M_X11_calm 1 := ⟨by decide +kernel, by decide, tm4 (i := 37) (by decide +kernel) rfl, tm1 (i := 1) (by decide +kernel) rfl, ⟨by decide +kernel, by decide +kernel⟩, by decide +kernel⟩
theorem ok_X11_why : ev_okM M_X11_why 4 := ⟨by decide +kernel, by decide, tm4 (i := 45) (by decide +kernel) rfl, tm1 (i := 1) (by decide +kernel) rfl, ⟨by decide +kernel, by decide +kernel⟩, by decide +kernel⟩
theorem ok_X11_findTop : ev_okM M_X11_findTop 1 := ⟨by decide +kernel, by decide, tm3 (i := 212) (by decide +kernel) rfl, tm1 (i := 1) (by decide +kernel) rfl, ⟨by decide +kernel, by decide +kernel⟩, by decide +kernel⟩
theorem ok_X11_isCalmer : ev_okM M_X11_isCalmer 3 := ⟨by decide +kernel, by decide, tm4 (i := 41) (by decide +kernel) rfl, tm1 (i := 1) (by decide +kernel) rfl, ⟨by decide +kernel, by decide +kernel⟩, by decide +kernel⟩
theorem ok_X11_isPrice : ev_okM M_X11_isPrice 2 := ⟨by decide +kernel, by decide, tm3 (i := 136) (by decide +kernel) rfl, tm1 (i := 1) (by decide +kernel) rfl, ⟨by decide +kernel, by decide +kernel⟩, by decide +kernel⟩
theorem ok_X11_isLess : ev_okM M_X11_isLess 4 := ⟨by decide +kernel, by decide, tm3 (i := 183) (by decide +kernel) rfl, tm1 (i := 1) (by decide +kernel) rfl, ⟨by decide +kernel, by decide +kernel⟩, by decide +kernel⟩
theorem ok_X11_lowest : ev_okM M_X11_lowest 3 := ⟨by decide +kernel, by decide, tm3 (i := 141) (by decide +kernel) rfl, tm1 (i := 1) (by decide +kernel) rfl, ⟨by decide +kernel, by decide +kernel⟩, by decide +kernel⟩
theorem ok_X11_commonOf : ev_okM M_X11_commonOf 2 := ⟨by decide +kernel, by decide, tm3 (i := 147) (by decide +kernel) rfl, tm1 (i := 1) (by decide +kernel) rfl, ⟨by decide +kernel, by decide +kernel⟩, by decide +kernel⟩
theorem ok_X11_bends : ev_okM M_X11_bends 1 := ⟨by decide +kernel, by decide, tm4 (i := 63) (by decide +kernel) rfl, tm1 (i := 1) (by decide +kernel) rfl, ⟨by decide +kernel, by decide +kernel⟩, by decide +kernel⟩
theorem ok_X11_bend : ev_okM M_X11_bend 3 := ⟨by decide +kernel, by decide, tm4 (i := 67) (by decide +kernel) rfl, tm1 (i := 1) (by decide +kernel) rfl, ⟨by decide +kernel, by decide +kernel⟩, by decide +kernel⟩
theorem ok_X11_write : ev_okM M_X11_write 1 := ⟨by decide +kernel, by decide, tm4 (i := 75) (by decide +kernel) rfl, tm1 (i := 1) (by decide +kernel) rfl, ⟨by decide +kernel, by decide +kernel⟩, by decide +kernel⟩
theorem ok_X11_row : ev_okM M_X11_row 2 := ⟨by decide +kernel, by decide, tm4 (i := 84) (by decide +kernel) rfl, tm1 (i := 1) (by decide +kernel) rfl, ⟨by decide +kernel, by decide +kernel⟩, by decide +kernel⟩
theorem ok_X11_forge : ev_okM M_X11_forge 3 := ⟨by decide +kernel, by decide, tm4 (i := 88) (by decide +kernel) rfl, tm1 (i := 1) (by decide +kernel) rfl, ⟨by decide +kernel, by decide +kernel⟩, by decide +kernel⟩
theorem ok_X11_check : ev_okM M_X11_check 1 := ⟨by decide +kernel, by decide, tm4 (i := 98) (by decide +kernel) rfl, tm1 (i := 1) (by decide +kernel) rfl, ⟨by decide +kernel, by decide +kernel⟩, by decide +kernel⟩
theorem ok_X11_numberOrNo : ev_okM M_X11_numberOrNo 3 := ⟨by decide +kernel, by decide, tm4 (i := 70) (by decide +kernel) rfl, tm1 (i := 1) (by decide +kernel) rfl, ⟨by decide +kernel, by decide +kernel⟩, by decide +kernel⟩
theorem ok_X11_howWrong : ev_okM M_X11_howWrong 2 := ⟨by decide +kernel, by decide, tm4 (i := 102) (by decide +kernel) rfl, tm1 (i := 1) (by decide +kernel) rfl, ⟨by decide +kernel, by decide +kernel⟩, by decide +kernel⟩
theorem ok_X11_act : ev_okM M_X11_act 3 := ⟨by decide +kernel, by decide, tm4 (i := 115) (by decide +kernel) rfl, tm1 (i := 1) (by decide +kernel) rfl, ⟨by decide +kernel, by decide +kernel⟩, by decide +kernel⟩
theorem ok_X11_trace : ev_okM M_X11_trace 1 := ⟨by decide +kernel, by decide, tm4 (i := 139) (by decide +kernel) rfl, tm1 (i := 1) (by decide +kernel) rfl, ⟨by decide +kernel, by decide +kernel⟩, by decide +kernel⟩
theorem ok_X11_count : ev_okM M_X11_count 1 := ⟨by decide +kernel, by decide, tm4 (i := 143) (by decide +kernel) rfl, tm1 (i := 1) (by decide +kernel) rfl, ⟨by decide +kernel, by decide +kernel⟩, by decide +kernel⟩
theorem ok_X11_sheet : ev_okM M_X11_sheet 3 := ⟨by decide +kernel, by decide, tm4 (i := 147) (by decide +kernel) rfl, tm1 (i := 1) (by decide +kernel) rfl, ⟨by decide +kernel, by decide +kernel⟩, by decide +kernel⟩
theorem ok_X11_cell : ev_okM M_X11_cell 3 := ⟨by decide +kernel, by decide, tm4 (i := 162) (by decide +kernel) rfl, tm1 (i := 1) (by decide +kernel) rfl, ⟨by decide +kernel, by decide +kernel⟩, by decide +kernel⟩
theorem ok_X11_lay : ev_okM M_X11_lay 3 := ⟨by decide +kernel, by decide, tm4 (i := 170) (by decide +kernel) rfl, tm1 (i := 1) (by decide +kernel) rfl, ⟨by decide +kernel, by decide +kernel⟩, by decide +kernel⟩
theorem ok_X11_copy : ev_okM M_X11_copy 5 := ⟨by decide +kernel, by decide, tm4 (i := 175) (by decide +kernel) rfl, tm1 (i := 1) (by decide +kernel) rfl, ⟨by decide +kernel, by decide +kernel⟩, by decide +kernel⟩
theorem ok_X11_sheetAt : ev_okM M_X11_sheetAt 1 := ⟨by decide +kernel, by decide, tm4 (i := 151) (by decide +kernel) rfl, tm1 (i := 1) (by decide +kernel) rfl, ⟨by decide +kernel, by decide +kernel⟩, by decide +kernel⟩
theorem ok_X12_init : ev_okM M_X12_init 0 := ⟨by decide +kernel, by decide, tm4 (i := 181) (by decide +kernel) rfl, tm1 (i := 7) (by decide +kernel) rfl, ⟨by decide +kernel, by decide +kernel⟩, by decide +kernel⟩
theorem ok_X12_in : ev_okM M_X12_in 3 := ⟨by decide +kernel, by decide, tm5 (i := 74) (by decide +kernel) rfl, tm1 (i := 7) (by decide +kernel) rfl, ⟨by decide +kernel, by decide +kernel⟩, by decide +kernel⟩
theorem ok_X12_things : ev_okM M_X12_things 0 := ⟨by decide +kernel, by decide, tm5 (i := 59) (by decide +kernel) rfl, tm1 (i := 7) (by decide +kernel) rfl, ⟨by decide +kernel, by decide +kernel⟩, by decide +kernel⟩
theorem ok_X12_lines : ev_okM M_X12_lines 0 := ⟨by decide +kernel, by decide, tm5 (i := 81) (by decide +kernel) rfl, tm1 (i := 7) (by decide +kernel) rfl, ⟨by decide +kernel, by decide +kernel⟩, by decide +kernel⟩
theorem ok_X12_from : ev_okM M_X12_from 1 := ⟨by decide +kernel, by decide, tm5 (i := 159) (by decide +kernel) rfl, tm1 (i := 7) (by decide +kernel) rfl, ⟨by decide +kernel, by decide +kernel⟩, by decide +kernel⟩
theorem ok_X12_to : ev_okM M_X12_to 1 := ⟨by decide +kernel, by decide, tm5 (i := 163) (by decide +kernel) rfl, tm1 (i := 7) (by decide +kernel) rfl, ⟨by decide +kernel, by decide +kernel⟩, by decide +kernel⟩
theorem ok_X12_startOf : ev_okM M_X12_startOf 1 := ⟨by decide +kernel, by decide, tm5 (i := 183) (by decide +kernel) rfl, tm1 (i := 7) (by decide +kernel) rfl, ⟨by decide +kernel, by decide +kernel⟩, by decide +kernel⟩
theorem ok_X12_riseOf : ev_okM M_X12_riseOf 1 := ⟨by decide +kernel, by decide, tm5 (i := 187) (by decide +kernel) rfl, tm1 (i := 7) (by decide +kernel) rfl, ⟨by decide +kernel, by decide +kernel⟩, by decide +kernel⟩
theorem ok_X12_isThing : ev_okM M_X12_isThing 1 := ⟨by decide +kernel, by decide, tm5 (i := 71) (by decide +kernel) rfl, tm1 (i := 7) (by decide +kernel) rfl, ⟨by decide +kernel, by decide +kernel⟩, by decide +kernel⟩
theorem ok_X12_isOffer : ev_okM M_X12_isOffer 1 := ⟨by decide +kernel, by decide, tm5 (i := 113) (by decide +kernel) rfl, tm1 (i := 7) (by decide +kernel) rfl, ⟨by decide +kernel, by decide +kernel⟩, by decide +kernel⟩
theorem ok_X12_isPrice : ev_okM M_X12_isPrice 2 := ⟨by decide +kernel, by decide, tm5 (i := 206) (by decide +kernel) rfl, tm1 (i := 7) (by decide +kernel) rfl, ⟨by decide +kernel, by decide +kernel⟩, by decide +kernel⟩
theorem ok_X12_common : ev_okM M_X12_common 2 := ⟨by decide +kernel, by decide, tm5 (i := 213) (by decide +kernel) rfl, tm1 (i := 7) (by decide +kernel) rfl, ⟨by decide +kernel, by decide +kernel⟩, by decide +kernel⟩
theorem ok_X12_lowest : ev_okM M_X12_lowest 3 := ⟨by decide +kernel, by decide, tm5 (i := 210) (by decide +kernel) rfl, tm1 (i := 7) (by decide +kernel) rfl, ⟨by decide +kernel, by decide +kernel⟩, by decide +kernel⟩
theorem ok_X12_keeps : ev_okM M_X12_keeps 0 := ⟨by decide +kernel, by decide, tm5 (i := 63) (by decide +kernel) rfl, tm1 (i := 7) (by decide +kernel) rfl, ⟨by decide +kernel, by decide +kernel⟩, by decide +kernel⟩
theorem ok_X12_thing : ev_okM M_X12_thing 0 := ⟨by decide +kernel, by decide, tm5 (i := 55) (by decide +kernel) rfl, tm1 (i := 7) (by decide +kernel) rfl, ⟨by decide +kernel, by decide +kernel⟩, by decide +kernel⟩
theorem ok_X12_areTold : ev_okM M_X12_areTold 2 := ⟨by decide +kernel, by decide, tm5 (i := 77) (by decide +kernel) rfl, tm1 (i := 7) (by decide +kernel) rfl, ⟨by decide +kernel, by decide +kernel⟩, by decide +kernel⟩
theorem ok_X12_line : ev_okM M_X12_line 4 := ⟨by decide +kernel, by decide, tm5 (i := 67) (by decide +kernel) rfl, tm1 (i := 7) (by decide +kernel) rfl, ⟨by decide +kernel, by decide +kernel⟩, by decide +kernel⟩
theorem ok_X12_alter : ev_okM M_X12_alter 3 := ⟨by decide +kernel, by decide, tm5 (i := 85) (by decide +kernel) rfl, tm1 (i := 7) (by decide +kernel) rfl, ⟨by decide +kernel, by decide +kernel⟩, by decide +kernel⟩
theorem ok_X12_close : ev_okM M_X12_close 0 := ⟨by decide +kernel, by decide, tm5 (i := 89) (by decide +kernel) rfl, tm1 (i := 7) (by decide +kernel) rfl, ⟨by decide +kernel, by decide +kernel⟩, by decide +kernel⟩
theorem ok_X12_undo : ev_okM M_X12_undo 0 := ⟨by decide +kernel, by decide, tm5 (i := 93) (by decide +kernel) rfl, tm1 (i := 7) (by decide +kernel) rfl, ⟨by decide +kernel, by decide +kernel⟩, by decide +kernel⟩
theorem ok_X12_lineTold : ev_okM M_X12_lineTold 2 := ⟨by decide +kernel, by decide, tm5 (i := 97) (by decide +kernel) rfl, tm1 (i := 7) (by decide +kernel) rfl, ⟨by decide +kernel, by decide +kernel⟩, by decide +kernel⟩
theorem ok_X12_made : ev_okM M_X12_made 3 := ⟨by decide +kernel, by decide, tm5 (i := 105) (by decide +kernel) rfl, tm1 (i := 7) (by decide +kernel) rfl, ⟨by decide +kernel, by decide +kernel⟩, by decide +kernel⟩
theorem ok_X12_told : ev_okM M_X12_told 0 := ⟨by decide +kernel, by decide, tm5 (i := 101) (by decide +kernel) rfl, tm1 (i := 7) (by decide +kernel) rfl, ⟨by decide +kernel, by decide +kernel⟩, by decide +kernel⟩
theorem ok_X12_tell : ev_okM M_X12_tell 2 := ⟨by decide +kernel, by decide, tm5 (i := 109) (by decide +kernel) rfl, tm1 (i := 7) (by decide +kernel) rfl, ⟨by decide +kernel, by decide +kernel⟩, by decide +kernel⟩
theorem ok_X12_tree : ev_okM M_X12_tree 0 := ⟨by decide +kernel, by decide, tm5 (i := 117) (by decide +kernel) rfl, tm1 (i := 7) (by decide +kernel) rfl, ⟨by decide +kernel, by decide +kernel⟩, by decide +kernel⟩
theorem ok_X12_way : ev_okM M_X12_way 2 := ⟨by decide +kernel, by decide, tm5 (i := 121) (by decide +kernel) rfl, tm1 (i := 7) (by decide +kernel) rfl, ⟨by decide +kernel, by decide +kernel⟩, by decide +kernel⟩
theorem ok_X12_pairing : ev_okM M_X12_pairing 1 := ⟨by decide +kernel, by decide, tm5 (i := 125) (by decide +kernel) rfl, tm1 (i := 7) (by decide +kernel) rfl, ⟨by decide +kernel, by decide +kernel⟩, by decide +kernel⟩
theorem ok_X12_bits : ev_okM M_X12_bits 1 := ⟨by decide +kernel, by decide, tm5 (i := 151) (by decide +kernel) rfl, tm1 (i := 7) (by decide +kernel) rfl, ⟨by decide +kernel, by decide +kernel⟩, by decide +kernel⟩
theorem ok_X12_reached : ev_okM M_X12_reached 3 := ⟨by decide +kernel, by decide, tm5 (i := 155) (by decide +kernel) rfl, tm1 (i := 7) (by decide +kernel) rfl, ⟨by decide +kernel, by decide +kernel⟩, by decide +kernel⟩
theorem ok_X12_allThings : ev_okM M_X12_allThings 0 := ⟨by decide +kernel, by decide, tm5 (i := 167) (by decide +kernel) rfl, tm1 (i := 7) (by decide +kernel) rfl, ⟨by decide +kernel, by decide +kernel⟩, by decide +kernel⟩
theorem ok_X12_allLines : ev_okM M_X12_allLines 0 := ⟨by decide +kernel, by decide, tm5 (i := 144) (by decide +kernel) rfl, tm1 (i := 7) (by decide +kernel) rfl, ⟨by decide +kernel, by decide +kernel⟩, by decide +kernel⟩
theorem ok_X12_isTree : ev_okM M_X12_isTree 1 := ⟨by decide +kernel, by decide, tm5 (i := 148) (by decide +kernel) rfl, tm1 (i := 7) (by decide +kernel) rfl, ⟨by decide +kernel, by decide +kernel⟩, by decide +kernel⟩
theorem ok_X12_isWay : ev_okM M_X12_isWay 3 := ⟨by decide +kernel, by decide, tm5 (i := 171) (by decide +kernel) rfl, tm1 (i := 7) (by decide +kernel) rfl, ⟨by decide +kernel, by decide +kernel⟩, by decide +kernel⟩
theorem ok_X12_isPairing : ev_okM M_X12_isPairing 2 := ⟨by decide +kernel, by decide, tm5 (i := 175) (by decide +kernel) rfl, tm1 (i := 7) (by decide +kernel) rfl, ⟨by decide +kernel, by decide +kernel⟩, by decide +kernel⟩
theorem ok_X12_isTold : ev_okM M_X12_isTold 2 := ⟨by decide +kernel, by decide, tm5 (i := 179) (by decide +kernel) rfl, tm1 (i := 7) (by decide +kernel) rfl, ⟨by decide +kernel, by decide +kernel⟩, by decide +kernel⟩
theorem ok_X12_isChoice : ev_okM M_X12_isChoice 2 := ⟨by decide +kernel, by decide, tm5 (i := 140) (by decide +kernel) rfl, tm1 (i := 7) (by decide +kernel) rfl, ⟨by decide +kernel, by decide +kernel⟩, by decide +kernel⟩
theorem ok_X12_ordered : ev_okM M_X12_ordered 1 := ⟨by decide +kernel, by decide, tm5 (i := 136) (by decide +kernel) rfl, tm1 (i := 7) (by decide +kernel) rfl, ⟨by decide +kernel, by decide +kernel⟩, by decide +kernel⟩
theorem ok_X12_gathers : ev_okM M_X12_gathers 1 := ⟨by decide +kernel, by decide, tm5 (i := 133) (by decide +kernel) rfl, tm1 (i := 7) (by decide +kernel) rfl, ⟨by decide +kernel, by decide +kernel⟩, by decide +kernel⟩
theorem ok_X12_placeOf : ev_okM M_X12_placeOf 1 := ⟨by decide +kernel, by decide, tm6 (i := 29) (by decide +kernel) rfl, tm1 (i := 7) (by decide +kernel) rfl, ⟨by decide +kernel, by decide +kernel⟩, by decide +kernel⟩
theorem ok_X12_barsOf : ev_okM M_X12_barsOf 1 := ⟨by decide +kernel, by decide, tm5 (i := 191) (by decide +kernel) rfl, tm1 (i := 7) (by decide +kernel) rfl, ⟨by decide +kernel, by decide +kernel⟩, by decide +kernel⟩
theorem ok_X12_beside : ev_okM M_X12_beside 1 := ⟨by decide +kernel, by decide, tm5 (i := 195) (by decide +kernel) rfl, tm1 (i := 7) (by decide +kernel) rfl, ⟨by decide +kernel, by decide +kernel⟩, by decide +kernel⟩
theorem ok_X12_offerTold : ev_okM M_X12_offerTold 2 := ⟨by decide +kernel, by decide, tm5 (i := 129) (by decide +kernel) rfl, tm1 (i := 7) (by decide +kernel) rfl, ⟨by decide +kernel, by decide +kernel⟩, by decide +kernel⟩
theorem ok_X12_choice : ev_okM M_X12_choice 2 := ⟨by decide +kernel, by decide, tm5 (i := 199) (by decide +kernel) rfl, tm1 (i := 7) (by decide +kernel) rfl, ⟨by decide +kernel, by decide +kernel⟩, by decide +kernel⟩
theorem ok_X12_cost : ev_okM M_X12_cost 4 := ⟨by decide +kernel, by decide, tm5 (i := 203) (by decide +kernel) rfl, tm1 (i := 7) (by decide +kernel) rfl, ⟨by decide +kernel, by decide +kernel⟩, by decide +kernel⟩
theorem ok_X12_costAt : ev_okM M_X12_costAt 3 := ⟨by decide +kernel, by decide, tm5 (i := 229) (by decide +kernel) rfl, tm1 (i := 7) (by decide +kernel) rfl, ⟨by decide +kernel, by decide +kernel⟩, by decide +kernel⟩
theorem ok_X12_leastAt : ev_okM M_X12_leastAt 2 := ⟨by decide +kernel, by decide, tm5 (i := 225) (by decide +kernel) rfl, tm1 (i := 7) (by decide +kernel) rfl, ⟨by decide +kernel, by decide +kernel⟩, by decide +kernel⟩
theorem ok_X12_bestAt : ev_okM M_X12_bestAt 3 := ⟨by decide +kernel, by decide, tm5 (i := 221) (by decide +kernel) rfl, tm1 (i := 7) (by decide +kernel) rfl, ⟨by decide +kernel, by decide +kernel⟩, by decide +kernel⟩
theorem ok_X12_best : ev_okM M_X12_best 4 := ⟨by decide +kernel, by decide, tm5 (i := 217) (by decide +kernel) rfl, tm1 (i := 7) (by decide +kernel) rfl, ⟨by decide +kernel, by decide +kernel⟩, by decide +kernel⟩
theorem ok_X12_least : ev_okM M_X12_least 4 := ⟨by decide +kernel, by decide, tm5 (i := 233) (by decide +kernel) rfl, tm1 (i := 7) (by decide +kernel) rfl, ⟨by decide +kernel, by decide +kernel⟩, by decide +kernel⟩
theorem ok_X12_window : ev_okM M_X12_window 4 := ⟨by decide +kernel, by decide, tm5 (i := 237) (by decide +kernel) rfl, tm1 (i := 7) (by decide +kernel) rfl, ⟨by decide +kernel, by decide +kernel⟩, by decide +kernel⟩
theorem ok_X12_point : ev_okM M_X12_point 2 := ⟨by decide +kernel, by decide, tm6 (i := 13) (by decide +kernel) rfl, tm1 (i := 7) (by decide +kernel) rfl, ⟨by decide +kernel, by decide +kernel⟩, by decide +kernel⟩
theorem ok_X12_walks : ev_okM M_X12_walks 0 := ⟨by decide +kernel, by decide, tm6 (i := 9) (by decide +kernel) rfl, tm1 (i := 7) (by decide +kernel) rfl, ⟨by decide +kernel, by decide +kernel⟩, by decide +kernel⟩
theorem ok_X12_prepares : ev_okM M_X12_prepares 1 := ⟨by decide +kernel, by decide, tm6 (i := 5) (by decide +kernel) rfl, tm1 (i := 7) (by decide +kernel) rfl, ⟨by decide +kernel, by decide +kernel⟩, by decide +kernel⟩
theorem ok_X12_bends : ev_okM M_X12_bends 1 := ⟨by decide +kernel, by decide, tm6 (i := 1) (by decide +kernel) rfl, tm1 (i := 7) (by decide +kernel) rfl, ⟨by decide +kernel, by decide +kernel⟩, by decide +kernel⟩
theorem ok_X12_bendOf : ev_okM M_X12_bendOf 2 := ⟨by decide +kernel, by decide, tm6 (i := 21) (by decide +kernel) rfl, tm1 (i := 7) (by decide +kernel) rfl, ⟨by decide +kernel, by decide +kernel⟩, by decide +kernel⟩
theorem ok_X12_bend : ev_okM M_X12_bend 3 := ⟨by decide +kernel, by decide, tm6 (i := 17) (by decide +kernel) rfl, tm1 (i := 7) (by decide +kernel) rfl, ⟨by decide +kernel, by decide +kernel⟩, by decide +kernel⟩
theorem ok_X12_spans : ev_okM M_X12_spans 1 := ⟨by decide +kernel, by decide, tm6 (i := 33) (by decide +kernel) rfl, tm1 (i := 7) (by decide +kernel) rfl, ⟨by decide +kernel, by decide +kernel⟩, by decide +kernel⟩
theorem ok_X12_span : ev_okM M_X12_span 3 := ⟨by decide +kernel, by decide, tm6 (i := 25) (by decide +kernel) rfl, tm1 (i := 7) (by decide +kernel) rfl, ⟨by decide +kernel, by decide +kernel⟩, by decide +kernel⟩
theorem ok_X12_top : ev_okM M_X12_top 2 := ⟨by decide +kernel, by decide, tm6 (i := 37) (by decide +kernel) rfl, tm1 (i := 7) (by decide +kernel) rfl, ⟨by decide +kernel, by decide +kernel⟩, by decide +kernel⟩
theorem ok_X12_ratio : ev_okM M_X12_ratio 2 := ⟨by decide +kernel, by decide, tm6 (i := 41) (by decide +kernel) rfl, tm1 (i := 7) (by decide +kernel) rfl, ⟨by decide +kernel, by decide +kernel⟩, by decide +kernel⟩
theorem ok_X12_regrets : ev_okM M_X12_regrets 1 := ⟨by decide +kernel, by decide, tm6 (i := 49) (by decide +kernel) rfl, tm1 (i := 7) (by decide +kernel) rfl, ⟨by decide +kernel, by decide +kernel⟩, by decide +kernel⟩
theorem ok_X12_regret : ev_okM M_X12_regret 3 := ⟨by decide +kernel, by decide, tm6 (i := 45) (by decide +kernel) rfl, tm1 (i := 7) (by decide +kernel) rfl, ⟨by decide +kernel, by decide +kernel⟩, by decide +kernel⟩
theorem ok_X12_calm : ev_okM M_X12_calm 1 := ⟨by decide +kernel, by decide, tm6 (i := 53) (by decide +kernel) rfl, tm1 (i := 7) (by decide +kernel) rfl, ⟨by decide +kernel, by decide +kernel⟩, by decide +kernel⟩
theorem ok_X12_lineCost : ev_okM M_X12_lineCost 3 := ⟨by decide +kernel, by decide, tm6 (i := 65) (by decide +kernel) rfl, tm1 (i := 7) (by decide +kernel) rfl, ⟨by decide +kernel, by decide +kernel⟩, by decide +kernel⟩
theorem ok_X12_dearest : ev_okM M_X12_dearest 4 := ⟨by decide +kernel, by decide, tm6 (i := 61) (by decide +kernel) rfl, tm1 (i := 7) (by decide +kernel) rfl, ⟨by decide +kernel, by decide +kernel⟩, by decide +kernel⟩
theorem ok_X12_why : ev_okM M_X12_why 4 := ⟨by decide +kernel, by decide, tm6 (i := 57) (by decide +kernel) rfl, tm1 (i := 7) (by decide +kernel) rfl, ⟨by decide +kernel, by decide +kernel⟩, by decide +kernel⟩
theorem ok_X12_write : ev_okM M_X12_write 1 := ⟨by decide +kernel, by decide, tm6 (i := 69) (by decide +kernel) rfl, tm1 (i := 7) (by decide +kernel) rfl, ⟨by decide +kernel, by decide +kernel⟩, by decide +kernel⟩
theorem ok_X12_row : ev_okM M_X12_row 2 := ⟨by decide +kernel, by decide, tm6 (i := 73) (by decide +kernel) rfl, tm1 (i := 7) (by decide +kernel) rfl, ⟨by decide +kernel, by decide +kernel⟩, by decide +kernel⟩
theorem ok_X12_forge : ev_okM M_X12_forge 3 := ⟨by decide +kernel, by decide, tm6 (i := 77) (by decide +kernel) rfl, tm1 (i := 7) (by decide +kernel) rfl, ⟨by decide +kernel, by decide +kernel⟩, by decide +kernel⟩
theorem ok_X12_wrong : ev_okM M_X12_wrong 1 := ⟨by decide +kernel, by decide, tm6 (i := 87) (by decide +kernel) rfl, tm1 (i := 7) (by decide +kernel) rfl, ⟨by decide +kernel, by decide +kernel⟩, by decide +kernel⟩
theorem ok_X12_check : ev_okM M_X12_check 1 := ⟨by decide +kernel, by decide, tm6 (i := 83) (by decide +kernel) rfl, tm1 (i := 7) (by decide +kernel) rfl, ⟨by decide +kernel, by decide +kernel⟩, by decide +kernel⟩
theorem ok_X12_ran : ev_okM M_X12_ran 1 := ⟨by decide +kernel, by decide, tm6 (i := 106) (by decide +kernel) rfl, tm1 (i := 7) (by decide +kernel) rfl, ⟨by decide +kernel, by decide +kernel⟩, by decide +kernel⟩
theorem ok_X12_treeAsks : ev_okM M_X12_treeAsks 2 := ⟨by decide +kernel, by decide, tm6 (i := 102) (by decide +kernel) rfl, tm1 (i := 7) (by decide +kernel) rfl, ⟨by decide +kernel, by decide +kernel⟩, by decide +kernel⟩
theorem ok_X12_asks : ev_okM M_X12_asks 2 := ⟨by decide +kernel, by decide, tm6 (i := 98) (by decide +kernel) rfl, tm1 (i := 7) (by decide +kernel) rfl, ⟨by decide +kernel, by decide +kernel⟩, by decide +kernel⟩
theorem ok_X12_toldShows : ev_okM M_X12_toldShows 2 := ⟨by decide +kernel, by decide, tm6 (i := 114) (by decide +kernel) rfl, tm1 (i := 7) (by decide +kernel) rfl, ⟨by decide +kernel, by decide +kernel⟩, by decide +kernel⟩
theorem ok_X12_shows : ev_okM M_X12_shows 2 := ⟨by decide +kernel, by decide, tm6 (i := 110) (by decide +kernel) rfl, tm1 (i := 7) (by decide +kernel) rfl, ⟨by decide +kernel, by decide +kernel⟩, by decide +kernel⟩
theorem ok_X12_toldTurns : ev_okM M_X12_toldTurns 2 := ⟨by decide +kernel, by decide, tm6 (i := 122) (by decide +kernel) rfl, tm1 (i := 7) (by decide +kernel) rfl, ⟨by decide +kernel, by decide +kernel⟩, by decide +kernel⟩
theorem ok_X12_turns : ev_okM M_X12_turns 2 := ⟨by decide +kernel, by decide, tm6 (i := 118) (by decide +kernel) rfl, tm1 (i := 7) (by decide +kernel) rfl, ⟨by decide +kernel, by decide +kernel⟩, by decide +kernel⟩
theorem ok_X12_act : ev_okM M_X12_act 3 := ⟨by decide +kernel, by decide, tm6 (i := 94) (by decide +kernel) rfl, tm1 (i := 7) (by decide +kernel) rfl, ⟨by decide +kernel, by decide +kernel⟩, by decide +kernel⟩
theorem ok_X12_trace : ev_okM M_X12_trace 1 := ⟨by decide +kernel, by decide, tm6 (i := 126) (by decide +kernel) rfl, tm1 (i := 7) (by decide +kernel) rfl, ⟨by decide +kernel, by decide +kernel⟩, by decide +kernel⟩
theorem ok_X12_count : ev_okM M_X12_count 1 := ⟨by decide +kernel, by decide, tm6 (i := 130) (by decide +kernel) rfl, tm1 (i := 7) (by decide +kernel) rfl, ⟨by decide +kernel, by decide +kernel⟩, by decide +kernel⟩
theorem ok_X12_isSheet : ev_okM M_X12_isSheet 1 := ⟨by decide +kernel, by decide, tm6 (i := 137) (by decide +kernel) rfl, tm1 (i := 7) (by decide +kernel) rfl, ⟨by decide +kernel, by decide +kernel⟩, by decide +kernel⟩
theorem ok_X12_sheet : ev_okM M_X12_sheet 3 := ⟨by decide +kernel, by decide, tm6 (i := 134) (by decide +kernel) rfl, tm1 (i := 7) (by decide +kernel) rfl, ⟨by decide +kernel, by decide +kernel⟩, by decide +kernel⟩
theorem ok_X12_cell : ev_okM M_X12_cell 3 := ⟨by decide +kernel, by decide, tm6 (i := 141) (by decide +kernel) rfl, tm1 (i := 7) (by decide +kernel) rfl, ⟨by decide +kernel, by decide +kernel⟩, by decide +kernel⟩
theorem ok_X12_lay : ev_okM M_X12_lay 3 := ⟨by decide +kernel, by decide, tm6 (i := 145) (by decide +kernel) rfl, tm1 (i := 7) (by decide +kernel) rfl, ⟨by decide +kernel, by decide +kernel⟩, by decide +kernel⟩
theorem ok_X12_copy : ev_okM M_X12_copy 5 := ⟨by decide +kernel, by decide, tm6 (i := 150) (by decide +kernel) rfl, tm1 (i := 7) (by decide +kernel) rfl, ⟨by decide +kernel, by decide +kernel⟩, by decide +kernel⟩
theorem ok_X12_taken : ev_okM M_X12_taken 2 := ⟨by decide +kernel, by decide, tm6 (i := 154) (by decide +kernel) rfl, tm1 (i := 7) (by decide +kernel) rfl, ⟨by decide +kernel, by decide +kernel⟩, by decide +kernel⟩
theorem ok_J6_bitCount_0f7a4 : ev_okM M_J6_bitCount_0f7a4 1 := ⟨by decide +kernel, by decide, tm3 (i := 59) (by decide +kernel) rfl, tm1 (i := 17) (by decide +kernel) rfl, ⟨by decide +kernel, by decide +kernel⟩, by decide +kernel⟩
theorem ok_J7_fill_d0a16 : ev_okM M_J7_fill_d0a16 2 := ⟨by decide +kernel, by decide, tm4 (i := 158) (by decide +kernel) rfl, tm1 (i := 12) (by decide +kernel) rfl, ⟨by decide +kernel, by decide +kernel⟩, by decide +kernel⟩
theorem ok_J7_copyOf_59c91 : ev_okM M_J7_copyOf_59c91 2 := ⟨by decide +kernel, by decide, tm2 (i := 170) (by decide +kernel) rfl, tm1 (i := 12) (by decide +kernel) rfl, ⟨by decide +kernel, by decide +kernel⟩, by decide +kernel⟩
theorem fl_X2_9 : ev_FL RX2 9 2 0 := ⟨"PriceBench$Net", RX2, TX2, 11, rfl, by decide, tm1 (i := 32) (by decide +kernel) rfl, iev2, Or.inl rfl⟩
theorem fl_X4_38 : ev_FL RX4 38 2 0 := ⟨"PriceBench$Net", RX2, TX2, 11, rfl, by decide, tm1 (i := 33) (by decide +kernel) rfl, iev2, Or.inl rfl⟩
theorem fl_X8_35 : ev_FL RX8 35 2 0 := ⟨"PriceBench$Net", RX2, TX2, 11, rfl, by decide, tm1 (i := 34) (by decide +kernel) rfl, iev2, Or.inl rfl⟩
theorem fl_X9_44 : ev_FL RX9 44 2 0 := ⟨"PriceBench$Net", RX2, TX2, 11, rfl, by decide, tm1 (i := 35) (by decide +kernel) rfl, iev2, Or.inl rfl⟩
theorem fl_X2_15 : ev_FL RX2 15 2 1 := ⟨"PriceBench$Net", RX2, TX2, 11, rfl, by decide, tm1 (i := 36) (by decide +kernel) rfl, iev2, Or.inl rfl⟩
theorem fl_X4_42 : ev_FL RX4 42 2 1 := ⟨"PriceBench$Net", RX2, TX2, 11, rfl, by decide, tm1 (i := 37) (by decide +kernel) rfl, iev2, Or.inl rfl⟩
theorem fl_X9_40 : ev_FL RX9 40 2 1 := ⟨"PriceBench$Net", RX2, TX2, 11, rfl, by decide, tm1 (i := 38) (by decide +kernel) rfl, iev2, Or.inl rfl⟩
theorem fl_X8_43 : ev_FL RX8 43 2 1 := ⟨"PriceBench$Net", RX2, TX2, 11, rfl, by decide, tm1 (i := 39) (by decide +kernel) rfl, iev2, Or.inl rfl⟩
theorem fl_X2_18 : ev_FL RX2 18 2 2 := ⟨"PriceBench$Net", RX2, TX2, 11, rfl, by decide, tm1 (i := 40) (by decide +kernel) rfl, iev2, Or.inl rfl⟩
theorem fl_X1_32 : ev_FL RX1 32 2 2 := ⟨"PriceBench$Net", RX2, TX2, 11, rfl, by decide, tm1 (i := 41) (by decide +kernel) rfl, iev2, Or.inl rfl⟩
theorem fl_X11_179 : ev_FL RX11 179 2 2 := ⟨"PriceBench$Net", RX2, TX2, 11, rfl, by decide, tm1 (i := 42) (by decide +kernel) rfl, iev2, Or.inl rfl⟩
theorem fl_X2_21 : ev_FL RX2 21 2 3 := ⟨"PriceBench$Net", RX2, TX2, 11, rfl, by decide, tm1 (i := 43) (by decide +kernel) rfl, iev2, Or.inl rfl⟩
theorem fl_X1_41 : ev_FL RX1 41 2 3 := ⟨"PriceBench$Net", RX2, TX2, 11, rfl, by decide, tm1 (i := 44) (by decide +kernel) rfl, iev2, Or.inl rfl⟩
theorem fl_X11_186 : ev_FL RX11 186 2 3 := ⟨"PriceBench$Net", RX2, TX2, 11, rfl, by decide, tm1 (i := 45) (by decide +kernel) rfl, iev2, Or.inl rfl⟩
theorem fl_X8_9 : ev_FL RX8 9 2 4 := ⟨"PriceBench$Net", RX2, TX2, 11, rfl, by decide, tm1 (i := 46) (by decide +kernel) rfl, iev2, Or.inl rfl⟩
theorem fl_X2_28 : ev_FL RX2 28 2 4 := ⟨"PriceBench$Net", RX2, TX2, 11, rfl, by decide, tm1 (i := 47) (by decide +kernel) rfl, iev2, Or.inl rfl⟩
theorem fl_X9_18 : ev_FL RX9 18 2 4 := ⟨"PriceBench$Net", RX2, TX2, 11, rfl, by decide, tm1 (i := 48) (by decide +kernel) rfl, iev2, Or.inl rfl⟩
theorem fl_X11_87 : ev_FL RX11 87 2 4 := ⟨"PriceBench$Net", RX2, TX2, 11, rfl, by decide, tm1 (i := 49) (by decide +kernel) rfl, iev2, Or.inl rfl⟩
theorem fl_X2_31 : ev_FL RX2 31 2 5 := ⟨"PriceBench$Net", RX2, TX2, 11, rfl, by decide, tm1 (i := 50) (by decide +kernel) rfl, iev2, Or.inl rfl⟩
theorem fl_X4_35 : ev_FL RX4 35 2 5 := ⟨"PriceBench$Net", RX2, TX2, 11, rfl, by decide, tm1 (i := 51) (by decide +kernel) rfl, iev2, Or.inl rfl⟩
theorem fl_X7_23 : ev_FL RX7 23 2 5 := ⟨"PriceBench$Net", RX2, TX2, 11, rfl, by decide, tm1 (i := 52) (by decide +kernel) rfl, iev2, Or.inl rfl⟩
theorem fl_X8_32 : ev_FL RX8 32 2 5 := ⟨"PriceBench$Net", RX2, TX2, 11, rfl, by decide, tm1 (i := 53) (by decide +kernel) rfl, iev2, Or.inl rfl⟩
theorem fl_X9_37 : ev_FL RX9 37 2 5 := ⟨"PriceBench$Net", RX2, TX2, 11, rfl, by decide, tm1 (i := 54) (by decide +kernel) rfl, iev2, Or.inl rfl⟩
theorem fl_X11_77 : ev_FL RX11 77 2 5 := ⟨"PriceBench$Net", RX2, TX2, 11, rfl, by decide, tm1 (i := 55) (by decide +kernel) rfl, iev2, Or.inl rfl⟩
theorem fl_X2_24 : ev_FL RX2 24 2 6 := ⟨"PriceBench$Net", RX2, TX2, 11, rfl, by decide, tm1 (i := 56) (by decide +kernel) rfl, iev2, Or.inl rfl⟩
theorem fl_X11_84 : ev_FL RX11 84 2 6 := ⟨"PriceBench$Net", RX2, TX2, 11, rfl, by decide, tm1 (i := 57) (by decide +kernel) rfl, iev2, Or.inl rfl⟩
theorem fl_X3_38 : ev_FL RX3 38 2 7 := ⟨"PriceBench$Net", RX2, TX2, 11, rfl, by decide, tm1 (i := 58) (by decide +kernel) rfl, iev2, Or.inl rfl⟩
theorem fl_X2_55 : ev_FL RX2 55 2 7 := ⟨"PriceBench$Net", RX2, TX2, 11, rfl, by decide, tm1 (i := 59) (by decide +kernel) rfl, iev2, Or.inl rfl⟩
theorem fl_X2_42 : ev_FL RX2 42 2 8 := ⟨"PriceBench$Net", RX2, TX2, 11, rfl, by decide, tm1 (i := 60) (by decide +kernel) rfl, iev2, Or.inl rfl⟩
theorem fl_X2_45 : ev_FL RX2 45 2 9 := ⟨"PriceBench$Net", RX2, TX2, 11, rfl, by decide, tm1 (i := 61) (by decide +kernel) rfl, iev2, Or.inl rfl⟩
theorem fl_X2_48 : ev_FL RX2 48 2 10 := ⟨"PriceBench$Net", RX2, TX2, 11, rfl, by decide, tm1 (i := 62) (by decide +kernel) rfl, iev2, Or.inl rfl⟩
theorem fl_X10_7 : ev_FL RX10 7 9 0 := ⟨"PriceBench$Window", RX10, TX10, 5, rfl, by decide, tm1 (i := 95) (by decide +kernel) rfl, iev9, Or.inl rfl⟩
theorem fl_X3_58 : ev_FL RX3 58 9 0 := ⟨"PriceBench$Window", RX10, TX10, 5, rfl, by decide, tm1 (i := 96) (by decide +kernel) rfl, iev9, Or.inl rfl⟩
theorem fl_X1_73 : ev_FL RX1 73 9 0 := ⟨"PriceBench$Window", RX10, TX10, 5, rfl, by decide, tm1 (i := 97) (by decide +kernel) rfl, iev9, Or.inl rfl⟩
theorem fl_X11_241 : ev_FL RX11 241 9 0 := ⟨"PriceBench$Window", RX10, TX10, 5, rfl, by decide, tm1 (i := 98) (by decide +kernel) rfl, iev9, Or.inl rfl⟩
theorem fl_X10_13 : ev_FL RX10 13 9 1 := ⟨"PriceBench$Window", RX10, TX10, 5, rfl, by decide, tm1 (i := 99) (by decide +kernel) rfl, iev9, Or.inl rfl⟩
theorem fl_X3_61 : ev_FL RX3 61 9 1 := ⟨"PriceBench$Window", RX10, TX10, 5, rfl, by decide, tm1 (i := 100) (by decide +kernel) rfl, iev9, Or.inl rfl⟩
theorem fl_X1_78 : ev_FL RX1 78 9 1 := ⟨"PriceBench$Window", RX10, TX10, 5, rfl, by decide, tm1 (i := 101) (by decide +kernel) rfl, iev9, Or.inl rfl⟩
theorem fl_X11_244 : ev_FL RX11 244 9 1 := ⟨"PriceBench$Window", RX10, TX10, 5, rfl, by decide, tm1 (i := 102) (by decide +kernel) rfl, iev9, Or.inl rfl⟩
theorem fl_X10_16 : ev_FL RX10 16 9 2 := ⟨"PriceBench$Window", RX10, TX10, 5, rfl, by decide, tm1 (i := 103) (by decide +kernel) rfl, iev9, Or.inl rfl⟩
theorem fl_X3_82 : ev_FL RX3 82 9 2 := ⟨"PriceBench$Window", RX10, TX10, 5, rfl, by decide, tm1 (i := 104) (by decide +kernel) rfl, iev9, Or.inl rfl⟩
theorem fl_X1_85 : ev_FL RX1 85 9 2 := ⟨"PriceBench$Window", RX10, TX10, 5, rfl, by decide, tm1 (i := 105) (by decide +kernel) rfl, iev9, Or.inl rfl⟩
theorem fl_X11_262 : ev_FL RX11 262 9 2 := ⟨"PriceBench$Window", RX10, TX10, 5, rfl, by decide, tm1 (i := 106) (by decide +kernel) rfl, iev9, Or.inl rfl⟩
theorem fl_X10_19 : ev_FL RX10 19 9 3 := ⟨"PriceBench$Window", RX10, TX10, 5, rfl, by decide, tm1 (i := 107) (by decide +kernel) rfl, iev9, Or.inl rfl⟩
theorem fl_X3_85 : ev_FL RX3 85 9 3 := ⟨"PriceBench$Window", RX10, TX10, 5, rfl, by decide, tm1 (i := 108) (by decide +kernel) rfl, iev9, Or.inl rfl⟩
theorem fl_X1_88 : ev_FL RX1 88 9 3 := ⟨"PriceBench$Window", RX10, TX10, 5, rfl, by decide, tm1 (i := 109) (by decide +kernel) rfl, iev9, Or.inl rfl⟩
theorem fl_X11_265 : ev_FL RX11 265 9 3 := ⟨"PriceBench$Window", RX10, TX10, 5, rfl, by decide, tm1 (i := 110) (by decide +kernel) rfl, iev9, Or.inl rfl⟩
theorem fl_X10_22 : ev_FL RX10 22 9 4 := ⟨"PriceBench$Window", RX10, TX10, 5, rfl, by decide, tm1 (i := 111) (by decide +kernel) rfl, iev9, Or.inl rfl⟩
theorem fl_X3_50 : ev_FL RX3 50 9 4 := ⟨"PriceBench$Window", RX10, TX10, 5, rfl, by decide, tm1 (i := 112) (by decide +kernel) rfl, iev9, Or.inl rfl⟩
theorem fl_X5_9 : ev_FL RX5 9 4 0 := ⟨"PriceBench$Rows", RX5, TX5, 2, rfl, by decide, tm1 (i := 130) (by decide +kernel) rfl, iev4, Or.inl rfl⟩
theorem fl_X5_13 : ev_FL RX5 13 4 1 := ⟨"PriceBench$Rows", RX5, TX5, 2, rfl, by decide, tm1 (i := 131) (by decide +kernel) rfl, iev4, Or.inl rfl⟩
theorem fl_X11_247 : ev_FL RX11 247 4 1 := ⟨"PriceBench$Rows", RX5, TX5, 2, rfl, by decide, tm1 (i := 132) (by decide +kernel) rfl, iev4, Or.inl rfl⟩
theorem fl_X0_11 : ev_FL RX0 11 0 0 := ⟨"PriceBench$Acts", RX0, TX0, 2, rfl, by decide, tm1 (i := 144) (by decide +kernel) rfl, iev0, Or.inl rfl⟩
theorem fl_X11_315 : ev_FL RX11 315 0 0 := ⟨"PriceBench$Acts", RX0, TX0, 2, rfl, by decide, tm1 (i := 145) (by decide +kernel) rfl, iev0, Or.inl rfl⟩
theorem fl_X0_22 : ev_FL RX0 22 0 1 := ⟨"PriceBench$Acts", RX0, TX0, 2, rfl, by decide, tm1 (i := 146) (by decide +kernel) rfl, iev0, Or.inl rfl⟩
theorem fl_X11_312 : ev_FL RX11 312 0 1 := ⟨"PriceBench$Acts", RX0, TX0, 2, rfl, by decide, tm1 (i := 147) (by decide +kernel) rfl, iev0, Or.inl rfl⟩
theorem fl_X6_9 : ev_FL RX6 9 5 0 := ⟨"PriceBench$Sheet", RX6, TX6, 3, rfl, by decide, tm1 (i := 160) (by decide +kernel) rfl, iev5, Or.inl rfl⟩
theorem fl_X11_324 : ev_FL RX11 324 5 0 := ⟨"PriceBench$Sheet", RX6, TX6, 3, rfl, by decide, tm1 (i := 161) (by decide +kernel) rfl, iev5, Or.inl rfl⟩
theorem fl_X6_19 : ev_FL RX6 19 5 1 := ⟨"PriceBench$Sheet", RX6, TX6, 3, rfl, by decide, tm1 (i := 162) (by decide +kernel) rfl, iev5, Or.inl rfl⟩
theorem fl_X6_15 : ev_FL RX6 15 5 2 := ⟨"PriceBench$Sheet", RX6, TX6, 3, rfl, by decide, tm1 (i := 163) (by decide +kernel) rfl, iev5, Or.inl rfl⟩
theorem fl_X11_330 : ev_FL RX11 330 5 2 := ⟨"PriceBench$Sheet", RX6, TX6, 3, rfl, by decide, tm1 (i := 164) (by decide +kernel) rfl, iev5, Or.inl rfl⟩
theorem fl_X11_10 : ev_FL RX11 10 10 0 := ⟨"PriceBench", RX11, TX11, 8, rfl, by decide, tm1 (i := 173) (by decide +kernel) rfl, iev10, Or.inl rfl⟩
theorem fl_X11_18 : ev_FL RX11 18 10 1 := ⟨"PriceBench", RX11, TX11, 8, rfl, by decide, tm1 (i := 174) (by decide +kernel) rfl, iev10, Or.inl rfl⟩
theorem fl_X11_100 : ev_FL RX11 100 10 2 := ⟨"PriceBench", RX11, TX11, 8, rfl, by decide, tm1 (i := 175) (by decide +kernel) rfl, iev10, Or.inl rfl⟩
theorem fl_X11_25 : ev_FL RX11 25 10 3 := ⟨"PriceBench", RX11, TX11, 8, rfl, by decide, tm1 (i := 176) (by decide +kernel) rfl, iev10, Or.inl rfl⟩
theorem fl_X11_32 : ev_FL RX11 32 10 4 := ⟨"PriceBench", RX11, TX11, 8, rfl, by decide, tm1 (i := 177) (by decide +kernel) rfl, iev10, Or.inl rfl⟩
theorem fl_X11_39 : ev_FL RX11 39 10 5 := ⟨"PriceBench", RX11, TX11, 8, rfl, by decide, tm1 (i := 178) (by decide +kernel) rfl, iev10, Or.inl rfl⟩
theorem fl_X11_45 : ev_FL RX11 45 10 6 := ⟨"PriceBench", RX11, TX11, 8, rfl, by decide, tm1 (i := 179) (by decide +kernel) rfl, iev10, Or.inl rfl⟩
theorem fl_X11_49 : ev_FL RX11 49 10 7 := ⟨"PriceBench", RX11, TX11, 8, rfl, by decide, tm1 (i := 180) (by decide +kernel) rfl, iev10, Or.inl rfl⟩
theorem fl_X1_9 : ev_FL RX1 9 1 0 := ⟨"PriceBench$Choices", RX1, TX1, 4, rfl, by decide, tm2 (i := 61) (by decide +kernel) rfl, iev1, Or.inl rfl⟩
theorem fl_X3_92 : ev_FL RX3 92 1 0 := ⟨"PriceBench$Choices", RX1, TX1, 4, rfl, by decide, tm2 (i := 62) (by decide +kernel) rfl, iev1, Or.inl rfl⟩
theorem fl_X11_157 : ev_FL RX11 157 1 0 := ⟨"PriceBench$Choices", RX1, TX1, 4, rfl, by decide, tm2 (i := 63) (by decide +kernel) rfl, iev1, Or.inl rfl⟩
theorem fl_X1_15 : ev_FL RX1 15 1 1 := ⟨"PriceBench$Choices", RX1, TX1, 4, rfl, by decide, tm2 (i := 64) (by decide +kernel) rfl, iev1, Or.inl rfl⟩
theorem fl_X3_75 : ev_FL RX3 75 1 1 := ⟨"PriceBench$Choices", RX1, TX1, 4, rfl, by decide, tm2 (i := 65) (by decide +kernel) rfl, iev1, Or.inl rfl⟩
theorem fl_X11_227 : ev_FL RX11 227 1 1 := ⟨"PriceBench$Choices", RX1, TX1, 4, rfl, by decide, tm2 (i := 66) (by decide +kernel) rfl, iev1, Or.inl rfl⟩
theorem fl_X1_18 : ev_FL RX1 18 1 2 := ⟨"PriceBench$Choices", RX1, TX1, 4, rfl, by decide, tm2 (i := 67) (by decide +kernel) rfl, iev1, Or.inl rfl⟩
theorem fl_X3_79 : ev_FL RX3 79 1 2 := ⟨"PriceBench$Choices", RX1, TX1, 4, rfl, by decide, tm2 (i := 68) (by decide +kernel) rfl, iev1, Or.inl rfl⟩
theorem fl_X11_230 : ev_FL RX11 230 1 2 := ⟨"PriceBench$Choices", RX1, TX1, 4, rfl, by decide, tm2 (i := 69) (by decide +kernel) rfl, iev1, Or.inl rfl⟩
theorem fl_X1_21 : ev_FL RX1 21 1 3 := ⟨"PriceBench$Choices", RX1, TX1, 4, rfl, by decide, tm2 (i := 70) (by decide +kernel) rfl, iev1, Or.inl rfl⟩
theorem fl_X0_50 : ev_FL RX0 50 1 3 := ⟨"PriceBench$Choices", RX1, TX1, 4, rfl, by decide, tm2 (i := 71) (by decide +kernel) rfl, iev1, Or.inl rfl⟩
theorem fl_X3_68 : ev_FL RX3 68 1 3 := ⟨"PriceBench$Choices", RX1, TX1, 4, rfl, by decide, tm2 (i := 72) (by decide +kernel) rfl, iev1, Or.inl rfl⟩
theorem fl_X11_142 : ev_FL RX11 142 1 3 := ⟨"PriceBench$Choices", RX1, TX1, 4, rfl, by decide, tm2 (i := 73) (by decide +kernel) rfl, iev1, Or.inl rfl⟩
theorem fl_X7_9 : ev_FL RX7 9 6 6 := ⟨"PriceBench$Told", RX7, TX7, 8, rfl, by decide, tm2 (i := 85) (by decide +kernel) rfl, iev6, Or.inl rfl⟩
theorem fl_X7_15 : ev_FL RX7 15 6 7 := ⟨"PriceBench$Told", RX7, TX7, 8, rfl, by decide, tm2 (i := 86) (by decide +kernel) rfl, iev6, Or.inl rfl⟩
theorem fl_X3_32 {ci : Nat} (hc : ev_isO ci) : ev_FL RX3 32 ci 0 := by
  rcases hc with rfl | rfl | rfl | rfl
  · exact ⟨"PriceBench$Offer", RX4, TX4, 7, rfl, by decide, tm2 (i := 87) (by decide +kernel) rfl, iev3, Or.inl rfl⟩
  · exact ⟨"PriceBench$Offer", RX7, TX7, 8, rfl, by decide, tm2 (i := 87) (by decide +kernel) rfl, iev6, Or.inl rfl⟩
  · exact ⟨"PriceBench$Offer", RX8, TX8, 6, rfl, by decide, tm2 (i := 87) (by decide +kernel) rfl, iev7, Or.inl rfl⟩
  · exact ⟨"PriceBench$Offer", RX9, TX9, 8, rfl, by decide, tm2 (i := 87) (by decide +kernel) rfl, iev8, Or.inl rfl⟩
theorem fl_X0_55 {ci : Nat} (hc : ev_isO ci) : ev_FL RX0 55 ci 0 := by
  rcases hc with rfl | rfl | rfl | rfl
  · exact ⟨"PriceBench$Offer", RX4, TX4, 7, rfl, by decide, tm2 (i := 88) (by decide +kernel) rfl, iev3, Or.inl rfl⟩
  · exact ⟨"PriceBench$Offer", RX7, TX7, 8, rfl, by decide, tm2 (i := 88) (by decide +kernel) rfl, iev6, Or.inl rfl⟩
  · exact ⟨"PriceBench$Offer", RX8, TX8, 6, rfl, by decide, tm2 (i := 88) (by decide +kernel) rfl, iev7, Or.inl rfl⟩
  · exact ⟨"PriceBench$Offer", RX9, TX9, 8, rfl, by decide, tm2 (i := 88) (by decide +kernel) rfl, iev8, Or.inl rfl⟩
theorem fl_X3_35 {ci : Nat} (hc : ev_isO ci) : ev_FL RX3 35 ci 1 := by
  rcases hc with rfl | rfl | rfl | rfl
  · exact ⟨"PriceBench$Offer", RX4, TX4, 7, rfl, by decide, tm2 (i := 89) (by decide +kernel) rfl, iev3, Or.inl rfl⟩
  · exact ⟨"PriceBench$Offer", RX7, TX7, 8, rfl, by decide, tm2 (i := 89) (by decide +kernel) rfl, iev6, Or.inl rfl⟩
  · exact ⟨"PriceBench$Offer", RX8, TX8, 6, rfl, by decide, tm2 (i := 89) (by decide +kernel) rfl, iev7, Or.inl rfl⟩
  · exact ⟨"PriceBench$Offer", RX9, TX9, 8, rfl, by decide, tm2 (i := 89) (by decide +kernel) rfl, iev8, Or.inl rfl⟩
theorem fl_X0_26 {ci : Nat} (hc : ev_isO ci) : ev_FL RX0 26 ci 1 := by
  rcases hc with rfl | rfl | rfl | rfl
  · exact ⟨"PriceBench$Offer", RX4, TX4, 7, rfl, by decide, tm2 (i := 90) (by decide +kernel) rfl, iev3, Or.inl rfl⟩
  · exact ⟨"PriceBench$Offer", RX7, TX7, 8, rfl, by decide, tm2 (i := 90) (by decide +kernel) rfl, iev6, Or.inl rfl⟩
  · exact ⟨"PriceBench$Offer", RX8, TX8, 6, rfl, by decide, tm2 (i := 90) (by decide +kernel) rfl, iev7, Or.inl rfl⟩
  · exact ⟨"PriceBench$Offer", RX9, TX9, 8, rfl, by decide, tm2 (i := 90) (by decide +kernel) rfl, iev8, Or.inl rfl⟩
theorem fl_X11_135 {ci : Nat} (hc : ev_isO ci) : ev_FL RX11 135 ci 1 := by
  rcases hc with rfl | rfl | rfl | rfl
  · exact ⟨"PriceBench$Offer", RX4, TX4, 7, rfl, by decide, tm2 (i := 91) (by decide +kernel) rfl, iev3, Or.inl rfl⟩
  · exact ⟨"PriceBench$Offer", RX7, TX7, 8, rfl, by decide, tm2 (i := 91) (by decide +kernel) rfl, iev6, Or.inl rfl⟩
  · exact ⟨"PriceBench$Offer", RX8, TX8, 6, rfl, by decide, tm2 (i := 91) (by decide +kernel) rfl, iev7, Or.inl rfl⟩
  · exact ⟨"PriceBench$Offer", RX9, TX9, 8, rfl, by decide, tm2 (i := 91) (by decide +kernel) rfl, iev8, Or.inl rfl⟩
theorem fl_X3_12 {ci : Nat} (hc : ev_isO ci) : ev_FL RX3 12 ci 2 := by
  rcases hc with rfl | rfl | rfl | rfl
  · exact ⟨"PriceBench$Offer", RX4, TX4, 7, rfl, by decide, tm2 (i := 92) (by decide +kernel) rfl, iev3, Or.inl rfl⟩
  · exact ⟨"PriceBench$Offer", RX7, TX7, 8, rfl, by decide, tm2 (i := 92) (by decide +kernel) rfl, iev6, Or.inl rfl⟩
  · exact ⟨"PriceBench$Offer", RX8, TX8, 6, rfl, by decide, tm2 (i := 92) (by decide +kernel) rfl, iev7, Or.inl rfl⟩
  · exact ⟨"PriceBench$Offer", RX9, TX9, 8, rfl, by decide, tm2 (i := 92) (by decide +kernel) rfl, iev8, Or.inl rfl⟩
theorem fl_X4_25 : ev_FL RX4 25 3 2 := ⟨"PriceBench$Pairing", RX4, TX4, 7, rfl, by decide, tm2 (i := 93) (by decide +kernel) rfl, iev3, Or.inr (tm2 (i := 94) (by decide +kernel) rfl)⟩
theorem fl_X8_22 : ev_FL RX8 22 7 2 := ⟨"PriceBench$Tree", RX8, TX8, 6, rfl, by decide, tm2 (i := 95) (by decide +kernel) rfl, iev7, Or.inr (tm2 (i := 96) (by decide +kernel) rfl)⟩
theorem fl_X9_27 : ev_FL RX9 27 8 2 := ⟨"PriceBench$Way", RX9, TX9, 8, rfl, by decide, tm2 (i := 97) (by decide +kernel) rfl, iev8, Or.inr (tm2 (i := 98) (by decide +kernel) rfl)⟩
theorem fl_X7_28 : ev_FL RX7 28 6 2 := ⟨"PriceBench$Told", RX7, TX7, 8, rfl, by decide, tm2 (i := 99) (by decide +kernel) rfl, iev6, Or.inr (tm2 (i := 100) (by decide +kernel) rfl)⟩
theorem fl_X0_46 {ci : Nat} (hc : ev_isO ci) : ev_FL RX0 46 ci 2 := by
  rcases hc with rfl | rfl | rfl | rfl
  · exact ⟨"PriceBench$Offer", RX4, TX4, 7, rfl, by decide, tm2 (i := 101) (by decide +kernel) rfl, iev3, Or.inl rfl⟩
  · exact ⟨"PriceBench$Offer", RX7, TX7, 8, rfl, by decide, tm2 (i := 101) (by decide +kernel) rfl, iev6, Or.inl rfl⟩
  · exact ⟨"PriceBench$Offer", RX8, TX8, 6, rfl, by decide, tm2 (i := 101) (by decide +kernel) rfl, iev7, Or.inl rfl⟩
  · exact ⟨"PriceBench$Offer", RX9, TX9, 8, rfl, by decide, tm2 (i := 101) (by decide +kernel) rfl, iev8, Or.inl rfl⟩
theorem fl_X11_138 {ci : Nat} (hc : ev_isO ci) : ev_FL RX11 138 ci 2 := by
  rcases hc with rfl | rfl | rfl | rfl
  · exact ⟨"PriceBench$Offer", RX4, TX4, 7, rfl, by decide, tm2 (i := 102) (by decide +kernel) rfl, iev3, Or.inl rfl⟩
  · exact ⟨"PriceBench$Offer", RX7, TX7, 8, rfl, by decide, tm2 (i := 102) (by decide +kernel) rfl, iev6, Or.inl rfl⟩
  · exact ⟨"PriceBench$Offer", RX8, TX8, 6, rfl, by decide, tm2 (i := 102) (by decide +kernel) rfl, iev7, Or.inl rfl⟩
  · exact ⟨"PriceBench$Offer", RX9, TX9, 8, rfl, by decide, tm2 (i := 102) (by decide +kernel) rfl, iev8, Or.inl rfl⟩
theorem fl_X3_21 {ci : Nat} (hc : ev_isO ci) : ev_FL RX3 21 ci 3 := by
  rcases hc with rfl | rfl | rfl | rfl
  · exact ⟨"PriceBench$Offer", RX4, TX4, 7, rfl, by decide, tm2 (i := 103) (by decide +kernel) rfl, iev3, Or.inl rfl⟩
  · exact ⟨"PriceBench$Offer", RX7, TX7, 8, rfl, by decide, tm2 (i := 103) (by decide +kernel) rfl, iev6, Or.inl rfl⟩
  · exact ⟨"PriceBench$Offer", RX8, TX8, 6, rfl, by decide, tm2 (i := 103) (by decide +kernel) rfl, iev7, Or.inl rfl⟩
  · exact ⟨"PriceBench$Offer", RX9, TX9, 8, rfl, by decide, tm2 (i := 103) (by decide +kernel) rfl, iev8, Or.inl rfl⟩
theorem fl_X3_25 {ci : Nat} (hc : ev_isO ci) : ev_FL RX3 25 ci 4 := by
  rcases hc with rfl | rfl | rfl | rfl
  · exact ⟨"PriceBench$Offer", RX4, TX4, 7, rfl, by decide, tm2 (i := 104) (by decide +kernel) rfl, iev3, Or.inl rfl⟩
  · exact ⟨"PriceBench$Offer", RX7, TX7, 8, rfl, by decide, tm2 (i := 104) (by decide +kernel) rfl, iev6, Or.inl rfl⟩
  · exact ⟨"PriceBench$Offer", RX8, TX8, 6, rfl, by decide, tm2 (i := 104) (by decide +kernel) rfl, iev7, Or.inl rfl⟩
  · exact ⟨"PriceBench$Offer", RX9, TX9, 8, rfl, by decide, tm2 (i := 104) (by decide +kernel) rfl, iev8, Or.inl rfl⟩
theorem fl_X3_29 {ci : Nat} (hc : ev_isO ci) : ev_FL RX3 29 ci 5 := by
  rcases hc with rfl | rfl | rfl | rfl
  · exact ⟨"PriceBench$Offer", RX4, TX4, 7, rfl, by decide, tm2 (i := 105) (by decide +kernel) rfl, iev3, Or.inl rfl⟩
  · exact ⟨"PriceBench$Offer", RX7, TX7, 8, rfl, by decide, tm2 (i := 105) (by decide +kernel) rfl, iev6, Or.inl rfl⟩
  · exact ⟨"PriceBench$Offer", RX8, TX8, 6, rfl, by decide, tm2 (i := 105) (by decide +kernel) rfl, iev7, Or.inl rfl⟩
  · exact ⟨"PriceBench$Offer", RX9, TX9, 8, rfl, by decide, tm2 (i := 105) (by decide +kernel) rfl, iev8, Or.inl rfl⟩
theorem fl_X9_9 : ev_FL RX9 9 8 6 := ⟨"PriceBench$Way", RX9, TX9, 8, rfl, by decide, tm3 (i := 13) (by decide +kernel) rfl, iev8, Or.inl rfl⟩
theorem fl_X9_15 : ev_FL RX9 15 8 7 := ⟨"PriceBench$Way", RX9, TX9, 8, rfl, by decide, tm3 (i := 14) (by decide +kernel) rfl, iev8, Or.inl rfl⟩
theorem fl_X4_9 : ev_FL RX4 9 3 6 := ⟨"PriceBench$Pairing", RX4, TX4, 7, rfl, by decide, tm3 (i := 37) (by decide +kernel) rfl, iev3, Or.inl rfl⟩
theorem sl_X0_15 : Cond.fieldLink RX0 15 "PriceBench$Acts" "KIND_ABOVE" "[I" ∈ ev_tb := tm3 (i := 125) (by decide +kernel) rfl
theorem sl_X0_39 : Cond.fieldLink RX0 39 "PriceBench$Acts" "BODIES" "[I" ∈ ev_tb := tm4 (i := 130) (by decide +kernel) rfl
theorem fl_X12_7 : ev_FL RX12 7 11 0 := ⟨"PriceBenchModel", RX12, TX12, 36, rfl, by decide, tm4 (i := 183) (by decide +kernel) rfl, iev11, Or.inl rfl⟩
theorem fl_X12_13 : ev_FL RX12 13 11 1 := ⟨"PriceBenchModel", RX12, TX12, 36, rfl, by decide, tm4 (i := 184) (by decide +kernel) rfl, iev11, Or.inl rfl⟩
theorem fl_X12_96 : ev_FL RX12 96 11 2 := ⟨"PriceBenchModel", RX12, TX12, 36, rfl, by decide, tm4 (i := 185) (by decide +kernel) rfl, iev11, Or.inl rfl⟩
theorem fl_X12_89 : ev_FL RX12 89 11 3 := ⟨"PriceBenchModel", RX12, TX12, 36, rfl, by decide, tm4 (i := 186) (by decide +kernel) rfl, iev11, Or.inl rfl⟩
theorem fl_X12_16 : ev_FL RX12 16 11 4 := ⟨"PriceBenchModel", RX12, TX12, 36, rfl, by decide, tm4 (i := 187) (by decide +kernel) rfl, iev11, Or.inl rfl⟩
theorem fl_X12_19 : ev_FL RX12 19 11 5 := ⟨"PriceBenchModel", RX12, TX12, 36, rfl, by decide, tm4 (i := 188) (by decide +kernel) rfl, iev11, Or.inl rfl⟩
theorem fl_X12_22 : ev_FL RX12 22 11 6 := ⟨"PriceBenchModel", RX12, TX12, 36, rfl, by decide, tm4 (i := 189) (by decide +kernel) rfl, iev11, Or.inl rfl⟩
theorem fl_X12_25 : ev_FL RX12 25 11 7 := ⟨"PriceBenchModel", RX12, TX12, 36, rfl, by decide, tm4 (i := 190) (by decide +kernel) rfl, iev11, Or.inl rfl⟩
theorem fl_X12_28 : ev_FL RX12 28 11 8 := ⟨"PriceBenchModel", RX12, TX12, 36, rfl, by decide, tm4 (i := 191) (by decide +kernel) rfl, iev11, Or.inl rfl⟩
theorem fl_X12_195 : ev_FL RX12 195 11 9 := ⟨"PriceBenchModel", RX12, TX12, 36, rfl, by decide, tm4 (i := 192) (by decide +kernel) rfl, iev11, Or.inl rfl⟩
theorem fl_X12_31 : ev_FL RX12 31 11 10 := ⟨"PriceBenchModel", RX12, TX12, 36, rfl, by decide, tm4 (i := 193) (by decide +kernel) rfl, iev11, Or.inl rfl⟩
theorem fl_X12_35 : ev_FL RX12 35 11 11 := ⟨"PriceBenchModel", RX12, TX12, 36, rfl, by decide, tm4 (i := 194) (by decide +kernel) rfl, iev11, Or.inl rfl⟩
theorem fl_X12_38 : ev_FL RX12 38 11 12 := ⟨"PriceBenchModel", RX12, TX12, 36, rfl, by decide, tm4 (i := 195) (by decide +kernel) rfl, iev11, Or.inl rfl⟩
theorem fl_X12_251 : ev_FL RX12 251 11 13 := ⟨"PriceBenchModel", RX12, TX12, 36, rfl, by decide, tm4 (i := 196) (by decide +kernel) rfl, iev11, Or.inl rfl⟩
theorem fl_X12_41 : ev_FL RX12 41 11 14 := ⟨"PriceBenchModel", RX12, TX12, 36, rfl, by decide, tm4 (i := 197) (by decide +kernel) rfl, iev11, Or.inl rfl⟩
theorem fl_X12_45 : ev_FL RX12 45 11 15 := ⟨"PriceBenchModel", RX12, TX12, 36, rfl, by decide, tm4 (i := 198) (by decide +kernel) rfl, iev11, Or.inl rfl⟩
theorem fl_X12_265 : ev_FL RX12 265 11 16 := ⟨"PriceBenchModel", RX12, TX12, 36, rfl, by decide, tm4 (i := 199) (by decide +kernel) rfl, iev11, Or.inl rfl⟩
theorem fl_X12_48 : ev_FL RX12 48 11 17 := ⟨"PriceBenchModel", RX12, TX12, 36, rfl, by decide, tm4 (i := 200) (by decide +kernel) rfl, iev11, Or.inl rfl⟩
theorem fl_X12_51 : ev_FL RX12 51 11 18 := ⟨"PriceBenchModel", RX12, TX12, 36, rfl, by decide, tm4 (i := 201) (by decide +kernel) rfl, iev11, Or.inl rfl⟩
theorem fl_X12_54 : ev_FL RX12 54 11 19 := ⟨"PriceBenchModel", RX12, TX12, 36, rfl, by decide, tm4 (i := 202) (by decide +kernel) rfl, iev11, Or.inl rfl⟩
theorem fl_X12_150 : ev_FL RX12 150 11 20 := ⟨"PriceBenchModel", RX12, TX12, 36, rfl, by decide, tm4 (i := 203) (by decide +kernel) rfl, iev11, Or.inl rfl⟩
theorem fl_X12_57 : ev_FL RX12 57 11 21 := ⟨"PriceBenchModel", RX12, TX12, 36, rfl, by decide, tm4 (i := 204) (by decide +kernel) rfl, iev11, Or.inl rfl⟩
theorem fl_X12_60 : ev_FL RX12 60 11 22 := ⟨"PriceBenchModel", RX12, TX12, 36, rfl, by decide, tm4 (i := 205) (by decide +kernel) rfl, iev11, Or.inl rfl⟩
theorem fl_X12_63 : ev_FL RX12 63 11 23 := ⟨"PriceBenchModel", RX12, TX12, 36, rfl, by decide, tm4 (i := 206) (by decide +kernel) rfl, iev11, Or.inl rfl⟩
theorem fl_X12_198 : ev_FL RX12 198 11 24 := ⟨"PriceBenchModel", RX12, TX12, 36, rfl, by decide, tm4 (i := 207) (by decide +kernel) rfl, iev11, Or.inl rfl⟩
theorem fl_X12_66 : ev_FL RX12 66 11 25 := ⟨"PriceBenchModel", RX12, TX12, 36, rfl, by decide, tm4 (i := 208) (by decide +kernel) rfl, iev11, Or.inl rfl⟩
theorem fl_X12_69 : ev_FL RX12 69 11 26 := ⟨"PriceBenchModel", RX12, TX12, 36, rfl, by decide, tm4 (i := 209) (by decide +kernel) rfl, iev11, Or.inl rfl⟩
theorem fl_X12_72 : ev_FL RX12 72 11 27 := ⟨"PriceBenchModel", RX12, TX12, 36, rfl, by decide, tm4 (i := 210) (by decide +kernel) rfl, iev11, Or.inl rfl⟩
theorem fl_X12_215 : ev_FL RX12 215 11 28 := ⟨"PriceBenchModel", RX12, TX12, 36, rfl, by decide, tm4 (i := 211) (by decide +kernel) rfl, iev11, Or.inl rfl⟩
theorem fl_X12_219 : ev_FL RX12 219 11 29 := ⟨"PriceBenchModel", RX12, TX12, 36, rfl, by decide, tm4 (i := 212) (by decide +kernel) rfl, iev11, Or.inl rfl⟩
theorem fl_X12_222 : ev_FL RX12 222 11 30 := ⟨"PriceBenchModel", RX12, TX12, 36, rfl, by decide, tm4 (i := 213) (by decide +kernel) rfl, iev11, Or.inl rfl⟩
theorem fl_X12_225 : ev_FL RX12 225 11 31 := ⟨"PriceBenchModel", RX12, TX12, 36, rfl, by decide, tm4 (i := 214) (by decide +kernel) rfl, iev11, Or.inl rfl⟩
theorem fl_X12_234 : ev_FL RX12 234 11 32 := ⟨"PriceBenchModel", RX12, TX12, 36, rfl, by decide, tm4 (i := 215) (by decide +kernel) rfl, iev11, Or.inl rfl⟩
theorem fl_X12_237 : ev_FL RX12 237 11 33 := ⟨"PriceBenchModel", RX12, TX12, 36, rfl, by decide, tm4 (i := 216) (by decide +kernel) rfl, iev11, Or.inl rfl⟩
theorem fl_X12_271 : ev_FL RX12 271 11 34 := ⟨"PriceBenchModel", RX12, TX12, 36, rfl, by decide, tm4 (i := 217) (by decide +kernel) rfl, iev11, Or.inl rfl⟩
theorem fl_X12_75 : ev_FL RX12 75 11 35 := ⟨"PriceBenchModel", RX12, TX12, 36, rfl, by decide, tm4 (i := 218) (by decide +kernel) rfl, iev11, Or.inl rfl⟩
theorem fp_X0_11 : ev_FP RX0 11 0 0 (.array .int) true := ⟨"PriceBench$Acts", RX0, TX0, 2, tyX0, rfl, by decide, tm1 (i := 144) (by decide +kernel) rfl, iev0, rfl, tyX0_ok, nmX0, rfl, (fun _ => rfl), by decide +kernel⟩
theorem fp_X0_22 : ev_FP RX0 22 0 1 .int false := ⟨"PriceBench$Acts", RX0, TX0, 2, tyX0, rfl, by decide, tm1 (i := 146) (by decide +kernel) rfl, iev0, rfl, tyX0_ok, nmX0, rfl, (fun h => by cases h), by decide +kernel⟩
theorem fp_X1_9 : ev_FP RX1 9 1 0 (.array .int) false := ⟨"PriceBench$Choices", RX1, TX1, 4, tyX1, rfl, by decide, tm2 (i := 61) (by decide +kernel) rfl, iev1, rfl, tyX1_ok, nmX1, rfl, (fun h => by cases h), by decide +kernel⟩
theorem fp_X1_15 : ev_FP RX1 15 1 1 (.array .int) false := ⟨"PriceBench$Choices", RX1, TX1, 4, tyX1, rfl, by decide, tm2 (i := 64) (by decide +kernel) rfl, iev1, rfl, tyX1_ok, nmX1, rfl, (fun h => by cases h), by decide +kernel⟩
theorem fp_X1_18 : ev_FP RX1 18 1 2 (.array .int) false := ⟨"PriceBench$Choices", RX1, TX1, 4, tyX1, rfl, by decide, tm2 (i := 67) (by decide +kernel) rfl, iev1, rfl, tyX1_ok, nmX1, rfl, (fun h => by cases h), by decide +kernel⟩
theorem fp_X1_21 : ev_FP RX1 21 1 3 .int false := ⟨"PriceBench$Choices", RX1, TX1, 4, tyX1, rfl, by decide, tm2 (i := 70) (by decide +kernel) rfl, iev1, rfl, tyX1_ok, nmX1, rfl, (fun h => by cases h), by decide +kernel⟩
theorem fp_X10_7 : ev_FP RX10 7 9 0 .int false := ⟨"PriceBench$Window", RX10, TX10, 5, tyX10, rfl, by decide, tm1 (i := 95) (by decide +kernel) rfl, iev9, rfl, tyX10_ok, nmX10, rfl, (fun h => by cases h), by decide +kernel⟩
theorem fp_X10_13 : ev_FP RX10 13 9 1 .int false := ⟨"PriceBench$Window", RX10, TX10, 5, tyX10, rfl, by decide, tm1 (i := 99) (by decide +kernel) rfl, iev9, rfl, tyX10_ok, nmX10, rfl, (fun h => by cases h), by decide +kernel⟩
theorem fp_X10_16 : ev_FP RX10 16 9 2 .int false := ⟨"PriceBench$Window", RX10, TX10, 5, tyX10, rfl, by decide, tm1 (i := 103) (by decide +kernel) rfl, iev9, rfl, tyX10_ok, nmX10, rfl, (fun h => by cases h), by decide +kernel⟩
theorem fp_X10_19 : ev_FP RX10 19 9 3 .int false := ⟨"PriceBench$Window", RX10, TX10, 5, tyX10, rfl, by decide, tm1 (i := 107) (by decide +kernel) rfl, iev9, rfl, tyX10_ok, nmX10, rfl, (fun h => by cases h), by decide +kernel⟩
theorem fp_X10_22 : ev_FP RX10 22 9 4 .int false := ⟨"PriceBench$Window", RX10, TX10, 5, tyX10, rfl, by decide, tm1 (i := 111) (by decide +kernel) rfl, iev9, rfl, tyX10_ok, nmX10, rfl, (fun h => by cases h), by decide +kernel⟩
theorem fp_X11_10 : ev_FP RX11 10 10 0 (.object "PriceBench$Net") true := ⟨"PriceBench", RX11, TX11, 8, tyX11, rfl, by decide, tm1 (i := 173) (by decide +kernel) rfl, iev10, rfl, tyX11_ok, nmX11, rfl, (fun _ => rfl), by decide +kernel⟩
theorem fp_X11_18 : ev_FP RX11 18 10 1 (.array (.object "PriceBench$Offer")) true := ⟨"PriceBench", RX11, TX11, 8, tyX11, rfl, by decide, tm1 (i := 174) (by decide +kernel) rfl, iev10, rfl, tyX11_ok, nmX11, rfl, (fun _ => rfl), by decide +kernel⟩
theorem fp_X11_25 : ev_FP RX11 25 10 3 (.object "PriceBench$Window") true := ⟨"PriceBench", RX11, TX11, 8, tyX11, rfl, by decide, tm1 (i := 176) (by decide +kernel) rfl, iev10, rfl, tyX11_ok, nmX11, rfl, (fun _ => rfl), by decide +kernel⟩
theorem fp_X11_32 : ev_FP RX11 32 10 4 (.object "PriceBench$Rows") true := ⟨"PriceBench", RX11, TX11, 8, tyX11, rfl, by decide, tm1 (i := 177) (by decide +kernel) rfl, iev10, rfl, tyX11_ok, nmX11, rfl, (fun _ => rfl), by decide +kernel⟩
theorem fp_X11_39 : ev_FP RX11 39 10 5 (.object "PriceBench$Acts") true := ⟨"PriceBench", RX11, TX11, 8, tyX11, rfl, by decide, tm1 (i := 178) (by decide +kernel) rfl, iev10, rfl, tyX11_ok, nmX11, rfl, (fun _ => rfl), by decide +kernel⟩
theorem fp_X11_45 : ev_FP RX11 45 10 6 (.array (.object "PriceBench$Sheet")) true := ⟨"PriceBench", RX11, TX11, 8, tyX11, rfl, by decide, tm1 (i := 179) (by decide +kernel) rfl, iev10, rfl, tyX11_ok, nmX11, rfl, (fun _ => rfl), by decide +kernel⟩
theorem fp_X11_49 : ev_FP RX11 49 10 7 (.array .long) true := ⟨"PriceBench", RX11, TX11, 8, tyX11, rfl, by decide, tm1 (i := 180) (by decide +kernel) rfl, iev10, rfl, tyX11_ok, nmX11, rfl, (fun _ => rfl), by decide +kernel⟩
theorem fp_X11_100 : ev_FP RX11 100 10 2 .int false := ⟨"PriceBench", RX11, TX11, 8, tyX11, rfl, by decide, tm1 (i := 175) (by decide +kernel) rfl, iev10, rfl, tyX11_ok, nmX11, rfl, (fun h => by cases h), by decide +kernel⟩
theorem fp_X12_7 : ev_FP RX12 7 11 0 (.array .int) true := ⟨"PriceBenchModel", RX12, TX12, 36, tyX12, rfl, by decide, tm4 (i := 183) (by decide +kernel) rfl, iev11, rfl, tyX12_ok, nmX12, rfl, (fun _ => rfl), by decide +kernel⟩
theorem fp_X12_13 : ev_FP RX12 13 11 1 (.array .int) true := ⟨"PriceBenchModel", RX12, TX12, 36, tyX12, rfl, by decide, tm4 (i := 184) (by decide +kernel) rfl, iev11, rfl, tyX12_ok, nmX12, rfl, (fun _ => rfl), by decide +kernel⟩
theorem fp_X12_16 : ev_FP RX12 16 11 4 (.array .int) true := ⟨"PriceBenchModel", RX12, TX12, 36, tyX12, rfl, by decide, tm4 (i := 187) (by decide +kernel) rfl, iev11, rfl, tyX12_ok, nmX12, rfl, (fun _ => rfl), by decide +kernel⟩
theorem fp_X12_19 : ev_FP RX12 19 11 5 (.array .int) true := ⟨"PriceBenchModel", RX12, TX12, 36, tyX12, rfl, by decide, tm4 (i := 188) (by decide +kernel) rfl, iev11, rfl, tyX12_ok, nmX12, rfl, (fun _ => rfl), by decide +kernel⟩
theorem fp_X12_22 : ev_FP RX12 22 11 6 (.array .int) true := ⟨"PriceBenchModel", RX12, TX12, 36, tyX12, rfl, by decide, tm4 (i := 189) (by decide +kernel) rfl, iev11, rfl, tyX12_ok, nmX12, rfl, (fun _ => rfl), by decide +kernel⟩
theorem fp_X12_25 : ev_FP RX12 25 11 7 (.array .int) true := ⟨"PriceBenchModel", RX12, TX12, 36, tyX12, rfl, by decide, tm4 (i := 190) (by decide +kernel) rfl, iev11, rfl, tyX12_ok, nmX12, rfl, (fun _ => rfl), by decide +kernel⟩
theorem fp_X12_28 : ev_FP RX12 28 11 8 (.array .int) true := ⟨"PriceBenchModel", RX12, TX12, 36, tyX12, rfl, by decide, tm4 (i := 191) (by decide +kernel) rfl, iev11, rfl, tyX12_ok, nmX12, rfl, (fun _ => rfl), by decide +kernel⟩
theorem fp_X12_31 : ev_FP RX12 31 11 10 .int false := ⟨"PriceBenchModel", RX12, TX12, 36, tyX12, rfl, by decide, tm4 (i := 193) (by decide +kernel) rfl, iev11, rfl, tyX12_ok, nmX12, rfl, (fun h => by cases h), by decide +kernel⟩
theorem fp_X12_35 : ev_FP RX12 35 11 11 .int false := ⟨"PriceBenchModel", RX12, TX12, 36, tyX12, rfl, by decide, tm4 (i := 194) (by decide +kernel) rfl, iev11, rfl, tyX12_ok, nmX12, rfl, (fun h => by cases h), by decide +kernel⟩
theorem fp_X12_38 : ev_FP RX12 38 11 12 .int false := ⟨"PriceBenchModel", RX12, TX12, 36, tyX12, rfl, by decide, tm4 (i := 195) (by decide +kernel) rfl, iev11, rfl, tyX12_ok, nmX12, rfl, (fun h => by cases h), by decide +kernel⟩
theorem fp_X12_41 : ev_FP RX12 41 11 14 (.array .long) true := ⟨"PriceBenchModel", RX12, TX12, 36, tyX12, rfl, by decide, tm4 (i := 197) (by decide +kernel) rfl, iev11, rfl, tyX12_ok, nmX12, rfl, (fun _ => rfl), by decide +kernel⟩
theorem fp_X12_45 : ev_FP RX12 45 11 15 (.array .int) true := ⟨"PriceBenchModel", RX12, TX12, 36, tyX12, rfl, by decide, tm4 (i := 198) (by decide +kernel) rfl, iev11, rfl, tyX12_ok, nmX12, rfl, (fun _ => rfl), by decide +kernel⟩
theorem fp_X12_48 : ev_FP RX12 48 11 17 (.array .int) true := ⟨"PriceBenchModel", RX12, TX12, 36, tyX12, rfl, by decide, tm4 (i := 200) (by decide +kernel) rfl, iev11, rfl, tyX12_ok, nmX12, rfl, (fun _ => rfl), by decide +kernel⟩
theorem fp_X12_51 : ev_FP RX12 51 11 18 (.array .int) true := ⟨"PriceBenchModel", RX12, TX12, 36, tyX12, rfl, by decide, tm4 (i := 201) (by decide +kernel) rfl, iev11, rfl, tyX12_ok, nmX12, rfl, (fun _ => rfl), by decide +kernel⟩
theorem fp_X12_54 : ev_FP RX12 54 11 19 (.array .long) true := ⟨"PriceBenchModel", RX12, TX12, 36, tyX12, rfl, by decide, tm4 (i := 202) (by decide +kernel) rfl, iev11, rfl, tyX12_ok, nmX12, rfl, (fun _ => rfl), by decide +kernel⟩
theorem fp_X12_57 : ev_FP RX12 57 11 21 (.array .int) true := ⟨"PriceBenchModel", RX12, TX12, 36, tyX12, rfl, by decide, tm4 (i := 204) (by decide +kernel) rfl, iev11, rfl, tyX12_ok, nmX12, rfl, (fun _ => rfl), by decide +kernel⟩
theorem fp_X12_60 : ev_FP RX12 60 11 22 (.array .int) true := ⟨"PriceBenchModel", RX12, TX12, 36, tyX12, rfl, by decide, tm4 (i := 205) (by decide +kernel) rfl, iev11, rfl, tyX12_ok, nmX12, rfl, (fun _ => rfl), by decide +kernel⟩
theorem fp_X12_63 : ev_FP RX12 63 11 23 (.array .int) true := ⟨"PriceBenchModel", RX12, TX12, 36, tyX12, rfl, by decide, tm4 (i := 206) (by decide +kernel) rfl, iev11, rfl, tyX12_ok, nmX12, rfl, (fun _ => rfl), by decide +kernel⟩
theorem fp_X12_66 : ev_FP RX12 66 11 25 (.array .long) true := ⟨"PriceBenchModel", RX12, TX12, 36, tyX12, rfl, by decide, tm4 (i := 208) (by decide +kernel) rfl, iev11, rfl, tyX12_ok, nmX12, rfl, (fun _ => rfl), by decide +kernel⟩
theorem fp_X12_69 : ev_FP RX12 69 11 26 (.array .long) true := ⟨"PriceBenchModel", RX12, TX12, 36, tyX12, rfl, by decide, tm4 (i := 209) (by decide +kernel) rfl, iev11, rfl, tyX12_ok, nmX12, rfl, (fun _ => rfl), by decide +kernel⟩
theorem fp_X12_72 : ev_FP RX12 72 11 27 (.array .long) true := ⟨"PriceBenchModel", RX12, TX12, 36, tyX12, rfl, by decide, tm4 (i := 210) (by decide +kernel) rfl, iev11, rfl, tyX12_ok, nmX12, rfl, (fun _ => rfl), by decide +kernel⟩
theorem fp_X12_75 : ev_FP RX12 75 11 35 (.array .long) true := ⟨"PriceBenchModel", RX12, TX12, 36, tyX12, rfl, by decide, tm4 (i := 218) (by decide +kernel) rfl, iev11, rfl, tyX12_ok, nmX12, rfl, (fun _ => rfl), by decide +kernel⟩
theorem fp_X12_89 : ev_FP RX12 89 11 3 .int false := ⟨"PriceBenchModel", RX12, TX12, 36, tyX12, rfl, by decide, tm4 (i := 186) (by decide +kernel) rfl, iev11, rfl, tyX12_ok, nmX12, rfl, (fun h => by cases h), by decide +kernel⟩
theorem fp_X12_96 : ev_FP RX12 96 11 2 .boolean false := ⟨"PriceBenchModel", RX12, TX12, 36, tyX12, rfl, by decide, tm4 (i := 185) (by decide +kernel) rfl, iev11, rfl, tyX12_ok, nmX12, rfl, (fun h => by cases h), by decide +kernel⟩
theorem fp_X12_150 : ev_FP RX12 150 11 20 .int false := ⟨"PriceBenchModel", RX12, TX12, 36, tyX12, rfl, by decide, tm4 (i := 203) (by decide +kernel) rfl, iev11, rfl, tyX12_ok, nmX12, rfl, (fun h => by cases h), by decide +kernel⟩
theorem fp_X12_195 : ev_FP RX12 195 11 9 .int false := ⟨"PriceBenchModel", RX12, TX12, 36, tyX12, rfl, by decide, tm4 (i := 192) (by decide +kernel) rfl, iev11, rfl, tyX12_ok, nmX12, rfl, (fun h => by cases h), by decide +kernel⟩
theorem fp_X12_198 : ev_FP RX12 198 11 24 .int false := ⟨"PriceBenchModel", RX12, TX12, 36, tyX12, rfl, by decide, tm4 (i := 207) (by decide +kernel) rfl, iev11, rfl, tyX12_ok, nmX12, rfl, (fun h => by cases h), by decide +kernel⟩
theorem fp_X12_215 : ev_FP RX12 215 11 28 .long false := ⟨"PriceBenchModel", RX12, TX12, 36, tyX12, rfl, by decide, tm4 (i := 211) (by decide +kernel) rfl, iev11, rfl, tyX12_ok, nmX12, rfl, (fun h => by cases h), by decide +kernel⟩
theorem fp_X12_219 : ev_FP RX12 219 11 29 .long false := ⟨"PriceBenchModel", RX12, TX12, 36, tyX12, rfl, by decide, tm4 (i := 212) (by decide +kernel) rfl, iev11, rfl, tyX12_ok, nmX12, rfl, (fun h => by cases h), by decide +kernel⟩
theorem fp_X12_222 : ev_FP RX12 222 11 30 .long false := ⟨"PriceBenchModel", RX12, TX12, 36, tyX12, rfl, by decide, tm4 (i := 213) (by decide +kernel) rfl, iev11, rfl, tyX12_ok, nmX12, rfl, (fun h => by cases h), by decide +kernel⟩
theorem fp_X12_225 : ev_FP RX12 225 11 31 .long false := ⟨"PriceBenchModel", RX12, TX12, 36, tyX12, rfl, by decide, tm4 (i := 214) (by decide +kernel) rfl, iev11, rfl, tyX12_ok, nmX12, rfl, (fun h => by cases h), by decide +kernel⟩
theorem fp_X12_234 : ev_FP RX12 234 11 32 .long false := ⟨"PriceBenchModel", RX12, TX12, 36, tyX12, rfl, by decide, tm4 (i := 215) (by decide +kernel) rfl, iev11, rfl, tyX12_ok, nmX12, rfl, (fun h => by cases h), by decide +kernel⟩
theorem fp_X12_237 : ev_FP RX12 237 11 33 .long false := ⟨"PriceBenchModel", RX12, TX12, 36, tyX12, rfl, by decide, tm4 (i := 216) (by decide +kernel) rfl, iev11, rfl, tyX12_ok, nmX12, rfl, (fun h => by cases h), by decide +kernel⟩
theorem fp_X12_251 : ev_FP RX12 251 11 13 .int false := ⟨"PriceBenchModel", RX12, TX12, 36, tyX12, rfl, by decide, tm4 (i := 196) (by decide +kernel) rfl, iev11, rfl, tyX12_ok, nmX12, rfl, (fun h => by cases h), by decide +kernel⟩
theorem fp_X12_265 : ev_FP RX12 265 11 16 .int false := ⟨"PriceBenchModel", RX12, TX12, 36, tyX12, rfl, by decide, tm4 (i := 199) (by decide +kernel) rfl, iev11, rfl, tyX12_ok, nmX12, rfl, (fun h => by cases h), by decide +kernel⟩
theorem fp_X12_271 : ev_FP RX12 271 11 34 .int false := ⟨"PriceBenchModel", RX12, TX12, 36, tyX12, rfl, by decide, tm4 (i := 217) (by decide +kernel) rfl, iev11, rfl, tyX12_ok, nmX12, rfl, (fun h => by cases h), by decide +kernel⟩
theorem fp_X2_9 : ev_FP RX2 9 2 0 (.array .int) true := ⟨"PriceBench$Net", RX2, TX2, 11, tyX2, rfl, by decide, tm1 (i := 32) (by decide +kernel) rfl, iev2, rfl, tyX2_ok, nmX2, rfl, (fun _ => rfl), by decide +kernel⟩
theorem fp_X2_15 : ev_FP RX2 15 2 1 (.array .int) true := ⟨"PriceBench$Net", RX2, TX2, 11, tyX2, rfl, by decide, tm1 (i := 36) (by decide +kernel) rfl, iev2, rfl, tyX2_ok, nmX2, rfl, (fun _ => rfl), by decide +kernel⟩
theorem fp_X2_18 : ev_FP RX2 18 2 2 (.array .int) true := ⟨"PriceBench$Net", RX2, TX2, 11, tyX2, rfl, by decide, tm1 (i := 40) (by decide +kernel) rfl, iev2, rfl, tyX2_ok, nmX2, rfl, (fun _ => rfl), by decide +kernel⟩
theorem fp_X2_21 : ev_FP RX2 21 2 3 (.array .int) true := ⟨"PriceBench$Net", RX2, TX2, 11, tyX2, rfl, by decide, tm1 (i := 43) (by decide +kernel) rfl, iev2, rfl, tyX2_ok, nmX2, rfl, (fun _ => rfl), by decide +kernel⟩
theorem fp_X2_24 : ev_FP RX2 24 2 6 .int false := ⟨"PriceBench$Net", RX2, TX2, 11, tyX2, rfl, by decide, tm1 (i := 56) (by decide +kernel) rfl, iev2, rfl, tyX2_ok, nmX2, rfl, (fun h => by cases h), by decide +kernel⟩
theorem fp_X2_28 : ev_FP RX2 28 2 4 .int false := ⟨"PriceBench$Net", RX2, TX2, 11, tyX2, rfl, by decide, tm1 (i := 47) (by decide +kernel) rfl, iev2, rfl, tyX2_ok, nmX2, rfl, (fun h => by cases h), by decide +kernel⟩
theorem fp_X2_31 : ev_FP RX2 31 2 5 .int false := ⟨"PriceBench$Net", RX2, TX2, 11, tyX2, rfl, by decide, tm1 (i := 50) (by decide +kernel) rfl, iev2, rfl, tyX2_ok, nmX2, rfl, (fun h => by cases h), by decide +kernel⟩
theorem fp_X2_42 : ev_FP RX2 42 2 8 .int false := ⟨"PriceBench$Net", RX2, TX2, 11, tyX2, rfl, by decide, tm1 (i := 60) (by decide +kernel) rfl, iev2, rfl, tyX2_ok, nmX2, rfl, (fun h => by cases h), by decide +kernel⟩
theorem fp_X2_45 : ev_FP RX2 45 2 9 .int false := ⟨"PriceBench$Net", RX2, TX2, 11, tyX2, rfl, by decide, tm1 (i := 61) (by decide +kernel) rfl, iev2, rfl, tyX2_ok, nmX2, rfl, (fun h => by cases h), by decide +kernel⟩
theorem fp_X2_48 : ev_FP RX2 48 2 10 .int false := ⟨"PriceBench$Net", RX2, TX2, 11, tyX2, rfl, by decide, tm1 (i := 62) (by decide +kernel) rfl, iev2, rfl, tyX2_ok, nmX2, rfl, (fun h => by cases h), by decide +kernel⟩
theorem fp_X2_55 : ev_FP RX2 55 2 7 .int false := ⟨"PriceBench$Net", RX2, TX2, 11, tyX2, rfl, by decide, tm1 (i := 59) (by decide +kernel) rfl, iev2, rfl, tyX2_ok, nmX2, rfl, (fun h => by cases h), by decide +kernel⟩
theorem fp_X3_12 {ci : Nat} (hc : ev_isO ci) : ev_FP RX3 12 ci 2 (.object "PriceBench$Choices") true := by
  rcases hc with rfl | rfl | rfl | rfl
  · exact ⟨"PriceBench$Offer", RX4, TX4, 7, tyX4, rfl, by decide, tm2 (i := 92) (by decide +kernel) rfl, iev3, rfl, tyX4_ok, nmX4, rfl, (fun _ => rfl), by decide +kernel⟩
  · exact ⟨"PriceBench$Offer", RX7, TX7, 8, tyX7, rfl, by decide, tm2 (i := 92) (by decide +kernel) rfl, iev6, rfl, tyX7_ok, nmX7, rfl, (fun _ => rfl), by decide +kernel⟩
  · exact ⟨"PriceBench$Offer", RX8, TX8, 6, tyX8, rfl, by decide, tm2 (i := 92) (by decide +kernel) rfl, iev7, rfl, tyX8_ok, nmX8, rfl, (fun _ => rfl), by decide +kernel⟩
  · exact ⟨"PriceBench$Offer", RX9, TX9, 8, tyX9, rfl, by decide, tm2 (i := 92) (by decide +kernel) rfl, iev8, rfl, tyX9_ok, nmX9, rfl, (fun _ => rfl), by decide +kernel⟩
theorem fp_X3_21 {ci : Nat} (hc : ev_isO ci) : ev_FP RX3 21 ci 3 (.object "PriceBench$Rows") true := by
  rcases hc with rfl | rfl | rfl | rfl
  · exact ⟨"PriceBench$Offer", RX4, TX4, 7, tyX4, rfl, by decide, tm2 (i := 103) (by decide +kernel) rfl, iev3, rfl, tyX4_ok, nmX4, rfl, (fun _ => rfl), by decide +kernel⟩
  · exact ⟨"PriceBench$Offer", RX7, TX7, 8, tyX7, rfl, by decide, tm2 (i := 103) (by decide +kernel) rfl, iev6, rfl, tyX7_ok, nmX7, rfl, (fun _ => rfl), by decide +kernel⟩
  · exact ⟨"PriceBench$Offer", RX8, TX8, 6, tyX8, rfl, by decide, tm2 (i := 103) (by decide +kernel) rfl, iev7, rfl, tyX8_ok, nmX8, rfl, (fun _ => rfl), by decide +kernel⟩
  · exact ⟨"PriceBench$Offer", RX9, TX9, 8, tyX9, rfl, by decide, tm2 (i := 103) (by decide +kernel) rfl, iev8, rfl, tyX9_ok, nmX9, rfl, (fun _ => rfl), by decide +kernel⟩
theorem fp_X3_25 {ci : Nat} (hc : ev_isO ci) : ev_FP RX3 25 ci 4 .int false := by
  rcases hc with rfl | rfl | rfl | rfl
  · exact ⟨"PriceBench$Offer", RX4, TX4, 7, tyX4, rfl, by decide, tm2 (i := 104) (by decide +kernel) rfl, iev3, rfl, tyX4_ok, nmX4, rfl, (fun h => by cases h), by decide +kernel⟩
  · exact ⟨"PriceBench$Offer", RX7, TX7, 8, tyX7, rfl, by decide, tm2 (i := 104) (by decide +kernel) rfl, iev6, rfl, tyX7_ok, nmX7, rfl, (fun h => by cases h), by decide +kernel⟩
  · exact ⟨"PriceBench$Offer", RX8, TX8, 6, tyX8, rfl, by decide, tm2 (i := 104) (by decide +kernel) rfl, iev7, rfl, tyX8_ok, nmX8, rfl, (fun h => by cases h), by decide +kernel⟩
  · exact ⟨"PriceBench$Offer", RX9, TX9, 8, tyX9, rfl, by decide, tm2 (i := 104) (by decide +kernel) rfl, iev8, rfl, tyX9_ok, nmX9, rfl, (fun h => by cases h), by decide +kernel⟩
theorem fp_X3_29 {ci : Nat} (hc : ev_isO ci) : ev_FP RX3 29 ci 5 .int false := by
  rcases hc with rfl | rfl | rfl | rfl
  · exact ⟨"PriceBench$Offer", RX4, TX4, 7, tyX4, rfl, by decide, tm2 (i := 105) (by decide +kernel) rfl, iev3, rfl, tyX4_ok, nmX4, rfl, (fun h => by cases h), by decide +kernel⟩
  · exact ⟨"PriceBench$Offer", RX7, TX7, 8, tyX7, rfl, by decide, tm2 (i := 105) (by decide +kernel) rfl, iev6, rfl, tyX7_ok, nmX7, rfl, (fun h => by cases h), by decide +kernel⟩
  · exact ⟨"PriceBench$Offer", RX8, TX8, 6, tyX8, rfl, by decide, tm2 (i := 105) (by decide +kernel) rfl, iev7, rfl, tyX8_ok, nmX8, rfl, (fun h => by cases h), by decide +kernel⟩
  · exact ⟨"PriceBench$Offer", RX9, TX9, 8, tyX9, rfl, by decide, tm2 (i := 105) (by decide +kernel) rfl, iev8, rfl, tyX9_ok, nmX9, rfl, (fun h => by cases h), by decide +kernel⟩
theorem fp_X3_32 {ci : Nat} (hc : ev_isO ci) : ev_FP RX3 32 ci 0 .int true := by
  rcases hc with rfl | rfl | rfl | rfl
  · exact ⟨"PriceBench$Offer", RX4, TX4, 7, tyX4, rfl, by decide, tm2 (i := 87) (by decide +kernel) rfl, iev3, rfl, tyX4_ok, nmX4, rfl, (fun _ => rfl), by decide +kernel⟩
  · exact ⟨"PriceBench$Offer", RX7, TX7, 8, tyX7, rfl, by decide, tm2 (i := 87) (by decide +kernel) rfl, iev6, rfl, tyX7_ok, nmX7, rfl, (fun _ => rfl), by decide +kernel⟩
  · exact ⟨"PriceBench$Offer", RX8, TX8, 6, tyX8, rfl, by decide, tm2 (i := 87) (by decide +kernel) rfl, iev7, rfl, tyX8_ok, nmX8, rfl, (fun _ => rfl), by decide +kernel⟩
  · exact ⟨"PriceBench$Offer", RX9, TX9, 8, tyX9, rfl, by decide, tm2 (i := 87) (by decide +kernel) rfl, iev8, rfl, tyX9_ok, nmX9, rfl, (fun _ => rfl), by decide +kernel⟩
theorem fp_X3_35 {ci : Nat} (hc : ev_isO ci) : ev_FP RX3 35 ci 1 .int true := by
  rcases hc with rfl | rfl | rfl | rfl
  · exact ⟨"PriceBench$Offer", RX4, TX4, 7, tyX4, rfl, by decide, tm2 (i := 89) (by decide +kernel) rfl, iev3, rfl, tyX4_ok, nmX4, rfl, (fun _ => rfl), by decide +kernel⟩
  · exact ⟨"PriceBench$Offer", RX7, TX7, 8, tyX7, rfl, by decide, tm2 (i := 89) (by decide +kernel) rfl, iev6, rfl, tyX7_ok, nmX7, rfl, (fun _ => rfl), by decide +kernel⟩
  · exact ⟨"PriceBench$Offer", RX8, TX8, 6, tyX8, rfl, by decide, tm2 (i := 89) (by decide +kernel) rfl, iev7, rfl, tyX8_ok, nmX8, rfl, (fun _ => rfl), by decide +kernel⟩
  · exact ⟨"PriceBench$Offer", RX9, TX9, 8, tyX9, rfl, by decide, tm2 (i := 89) (by decide +kernel) rfl, iev8, rfl, tyX9_ok, nmX9, rfl, (fun _ => rfl), by decide +kernel⟩
theorem fp_X4_9 : ev_FP RX4 9 3 6 .int true := ⟨"PriceBench$Pairing", RX4, TX4, 7, tyX4, rfl, by decide, tm3 (i := 37) (by decide +kernel) rfl, iev3, rfl, tyX4_ok, nmX4, rfl, (fun _ => rfl), by decide +kernel⟩
theorem fp_X5_9 : ev_FP RX5 9 4 0 (.array .int) false := ⟨"PriceBench$Rows", RX5, TX5, 2, tyX5, rfl, by decide, tm1 (i := 130) (by decide +kernel) rfl, iev4, rfl, tyX5_ok, nmX5, rfl, (fun h => by cases h), by decide +kernel⟩
theorem fp_X5_13 : ev_FP RX5 13 4 1 .int false := ⟨"PriceBench$Rows", RX5, TX5, 2, tyX5, rfl, by decide, tm1 (i := 131) (by decide +kernel) rfl, iev4, rfl, tyX5_ok, nmX5, rfl, (fun h => by cases h), by decide +kernel⟩
theorem fp_X6_9 : ev_FP RX6 9 5 0 .int false := ⟨"PriceBench$Sheet", RX6, TX6, 3, tyX6, rfl, by decide, tm1 (i := 160) (by decide +kernel) rfl, iev5, rfl, tyX6_ok, nmX6, rfl, (fun h => by cases h), by decide +kernel⟩
theorem fp_X6_15 : ev_FP RX6 15 5 2 (.array .long) true := ⟨"PriceBench$Sheet", RX6, TX6, 3, tyX6, rfl, by decide, tm1 (i := 163) (by decide +kernel) rfl, iev5, rfl, tyX6_ok, nmX6, rfl, (fun _ => rfl), by decide +kernel⟩
theorem fp_X6_19 : ev_FP RX6 19 5 1 .int false := ⟨"PriceBench$Sheet", RX6, TX6, 3, tyX6, rfl, by decide, tm1 (i := 162) (by decide +kernel) rfl, iev5, rfl, tyX6_ok, nmX6, rfl, (fun h => by cases h), by decide +kernel⟩
theorem fp_X7_9 : ev_FP RX7 9 6 6 (.array .int) true := ⟨"PriceBench$Told", RX7, TX7, 8, tyX7, rfl, by decide, tm2 (i := 85) (by decide +kernel) rfl, iev6, rfl, tyX7_ok, nmX7, rfl, (fun _ => rfl), by decide +kernel⟩
theorem fp_X7_15 : ev_FP RX7 15 6 7 .int false := ⟨"PriceBench$Told", RX7, TX7, 8, tyX7, rfl, by decide, tm2 (i := 86) (by decide +kernel) rfl, iev6, rfl, tyX7_ok, nmX7, rfl, (fun h => by cases h), by decide +kernel⟩
theorem fp_X9_9 : ev_FP RX9 9 8 6 .int true := ⟨"PriceBench$Way", RX9, TX9, 8, tyX9, rfl, by decide, tm3 (i := 13) (by decide +kernel) rfl, iev8, rfl, tyX9_ok, nmX9, rfl, (fun _ => rfl), by decide +kernel⟩
theorem fp_X9_15 : ev_FP RX9 15 8 7 .int true := ⟨"PriceBench$Way", RX9, TX9, 8, tyX9, rfl, by decide, tm3 (i := 14) (by decide +kernel) rfl, iev8, rfl, tyX9_ok, nmX9, rfl, (fun _ => rfl), by decide +kernel⟩
def ev_v0 : Nat → Value := fun k => match k with
  | 0 => .null
  | _ => .int 0
def ev_v1 : Nat → Value := fun k => match k with
  | 0 => .null
  | 1 => .null
  | 2 => .null
  | _ => .int 0
def ev_v2 : Nat → Value := fun k => match k with
  | 0 => .null
  | 1 => .null
  | 2 => .null
  | 3 => .null
  | 4 => .int 0
  | 5 => .int 0
  | 6 => .int 0
  | 7 => .int 0
  | 8 => .int 0
  | 9 => .int 0
  | _ => .int 0
def ev_v3 : Nat → Value := fun k => match k with
  | 0 => .int 0
  | 1 => .int 0
  | 2 => .null
  | 3 => .null
  | 4 => .int 0
  | 5 => .int 0
  | _ => .int 0
def ev_v4 : Nat → Value := fun k => match k with
  | 0 => .null
  | _ => .int 0
def ev_v5 : Nat → Value := fun k => match k with
  | 0 => .int 0
  | 1 => .int 0
  | _ => .null
def ev_v6 : Nat → Value := fun k => match k with
  | 0 => .int 0
  | 1 => .int 0
  | 2 => .null
  | 3 => .null
  | 4 => .int 0
  | 5 => .int 0
  | 6 => .null
  | _ => .int 0
def ev_v7 : Nat → Value := fun k => match k with
  | 0 => .int 0
  | 1 => .int 0
  | 2 => .null
  | 3 => .null
  | 4 => .int 0
  | _ => .int 0
def ev_v8 : Nat → Value := fun k => match k with
  | 0 => .int 0
  | 1 => .int 0
  | 2 => .null
  | 3 => .null
  | 4 => .int 0
  | 5 => .int 0
  | 6 => .int 0
  | _ => .int 0
def ev_v9 : Nat → Value := fun k => match k with
  | 0 => .int 0
  | 1 => .int 0
  | 2 => .int 0
  | 3 => .int 0
  | _ => .int 0
def ev_v10 : Nat → Value := fun k => match k with
  | 0 => .null
  | 1 => .null
  | 2 => .int 0
  | 3 => .null
  | 4 => .null
  | 5 => .null
  | 6 => .null
  | _ => .null
def ev_v11 : Nat → Value := fun k => match k with
  | 0 => .null
  | 1 => .null
  | 2 => .int 0
  | 3 => .int 0
  | 4 => .null
  | 5 => .null
  | 6 => .null
  | 7 => .null
  | 8 => .null
  | 9 => .int 0
  | 10 => .int 0
  | 11 => .int 0
  | 12 => .int 0
  | 13 => .int 0
  | 14 => .null
  | 15 => .null
  | 16 => .int 0
  | 17 => .null
  | 18 => .null
  | 19 => .null
  | 20 => .int 0
  | 21 => .null
  | 22 => .null
  | 23 => .null
  | 24 => .int 0
  | 25 => .null
  | 26 => .null
  | 27 => .null
  | 28 => .long 0
  | 29 => .long 0
  | 30 => .long 0
  | 31 => .long 0
  | 32 => .long 0
  | 33 => .long 0
  | 34 => .int 0
  | _ => .null
theorem nw_L_7 : ev_NW RL 7 10 8 ev_v10 := ⟨RX11, TX11, tyX11, rfl, iev10, tyX11_ok, tm1 (i := 18) (by decide +kernel) rfl, tm1 (i := 19) (by decide +kernel) rfl, tm1 (i := 1) (by decide +kernel) rfl, by decide +kernel⟩
theorem nw_L_10 : ev_NW RL 10 11 36 ev_v11 := ⟨RX12, TX12, tyX12, rfl, iev11, tyX12_ok, tm4 (i := 177) (by decide +kernel) rfl, tm4 (i := 178) (by decide +kernel) rfl, tm1 (i := 7) (by decide +kernel) rfl, by decide +kernel⟩
theorem nw_X11_7 : ev_NW RX11 7 2 11 ev_v2 := ⟨RX2, TX2, tyX2, rfl, iev2, tyX2_ok, tm1 (i := 26) (by decide +kernel) rfl, tm1 (i := 27) (by decide +kernel) rfl, tm1 (i := 2) (by decide +kernel) rfl, by decide +kernel⟩
theorem nw_X11_22 : ev_NW RX11 22 9 5 ev_v9 := ⟨RX10, TX10, tyX10, rfl, iev9, tyX10_ok, tm1 (i := 89) (by decide +kernel) rfl, tm1 (i := 90) (by decide +kernel) rfl, tm1 (i := 3) (by decide +kernel) rfl, by decide +kernel⟩
theorem nw_X11_29 : ev_NW RX11 29 4 2 ev_v4 := ⟨RX5, TX5, tyX5, rfl, iev4, tyX5_ok, tm1 (i := 124) (by decide +kernel) rfl, tm1 (i := 125) (by decide +kernel) rfl, tm1 (i := 4) (by decide +kernel) rfl, by decide +kernel⟩
theorem nw_X11_36 : ev_NW RX11 36 0 2 ev_v0 := ⟨RX0, TX0, tyX0, rfl, iev0, tyX0_ok, tm1 (i := 138) (by decide +kernel) rfl, tm1 (i := 139) (by decide +kernel) rfl, tm1 (i := 5) (by decide +kernel) rfl, by decide +kernel⟩
theorem nw_X11_43 : ev_NW RX11 43 5 3 ev_v5 := ⟨RX6, TX6, tyX6, rfl, iev5, tyX6_ok, tm1 (i := 153) (by decide +kernel) rfl, tm1 (i := 155) (by decide +kernel) rfl, tm1 (i := 6) (by decide +kernel) rfl, by decide +kernel⟩
theorem nw_X11_103 : ev_NW RX11 103 6 8 ev_v6 := ⟨RX7, TX7, tyX7, rfl, iev6, tyX7_ok, tm2 (i := 46) (by decide +kernel) rfl, tm2 (i := 47) (by decide +kernel) rfl, tm1 (i := 9) (by decide +kernel) rfl, by decide +kernel⟩
theorem nw_X11_120 : ev_NW RX11 120 7 6 ev_v7 := ⟨RX8, TX8, tyX8, rfl, iev7, tyX8_ok, tm2 (i := 230) (by decide +kernel) rfl, tm2 (i := 231) (by decide +kernel) rfl, tm1 (i := 15) (by decide +kernel) rfl, by decide +kernel⟩
theorem nw_X11_123 : ev_NW RX11 123 8 8 ev_v8 := ⟨RX9, TX9, tyX9, rfl, iev8, tyX9_ok, tm3 (i := 7) (by decide +kernel) rfl, tm3 (i := 8) (by decide +kernel) rfl, tm1 (i := 16) (by decide +kernel) rfl, by decide +kernel⟩
theorem nw_X11_130 : ev_NW RX11 130 3 7 ev_v3 := ⟨RX4, TX4, tyX4, rfl, iev3, tyX4_ok, tm3 (i := 31) (by decide +kernel) rfl, tm3 (i := 32) (by decide +kernel) rfl, tm1 (i := 11) (by decide +kernel) rfl, by decide +kernel⟩
theorem nw_X3_9 : ev_NW RX3 9 1 4 ev_v1 := ⟨RX1, TX1, tyX1, rfl, iev1, tyX1_ok, tm2 (i := 55) (by decide +kernel) rfl, tm2 (i := 56) (by decide +kernel) rfl, tm1 (i := 10) (by decide +kernel) rfl, by decide +kernel⟩
theorem nw_X3_18 : ev_NW RX3 18 4 2 ev_v4 := ⟨RX5, TX5, tyX5, rfl, iev4, tyX5_ok, tm2 (i := 83) (by decide +kernel) rfl, tm1 (i := 125) (by decide +kernel) rfl, tm1 (i := 4) (by decide +kernel) rfl, by decide +kernel⟩
theorem cl_L_7 : Cond.classLink RL 7 "PriceBench" ∈ ev_tb := tm1 (i := 18) (by decide +kernel) rfl
theorem cl_X11_7 : Cond.classLink RX11 7 "PriceBench$Net" ∈ ev_tb := tm1 (i := 26) (by decide +kernel) rfl
theorem cl_X11_16 : Cond.classLink RX11 16 "PriceBench$Offer" ∈ ev_tb := tm1 (i := 87) (by decide +kernel) rfl
theorem cl_X11_22 : Cond.classLink RX11 22 "PriceBench$Window" ∈ ev_tb := tm1 (i := 89) (by decide +kernel) rfl
theorem cl_X11_29 : Cond.classLink RX11 29 "PriceBench$Rows" ∈ ev_tb := tm1 (i := 124) (by decide +kernel) rfl
theorem cl_X11_36 : Cond.classLink RX11 36 "PriceBench$Acts" ∈ ev_tb := tm1 (i := 138) (by decide +kernel) rfl
theorem cl_X11_43 : Cond.classLink RX11 43 "PriceBench$Sheet" ∈ ev_tb := tm1 (i := 153) (by decide +kernel) rfl
theorem cl_X11_103 : Cond.classLink RX11 103 "PriceBench$Told" ∈ ev_tb := tm2 (i := 46) (by decide +kernel) rfl
theorem cl_X3_9 : Cond.classLink RX3 9 "PriceBench$Choices" ∈ ev_tb := tm2 (i := 55) (by decide +kernel) rfl
theorem cl_X3_18 : Cond.classLink RX3 18 "PriceBench$Rows" ∈ ev_tb := tm2 (i := 83) (by decide +kernel) rfl
theorem cl_J7_317 : Cond.classLink RJ7 317 "[I" ∈ ev_tb := tm2 (i := 177) (by decide +kernel) rfl
theorem cl_X11_120 : Cond.classLink RX11 120 "PriceBench$Tree" ∈ ev_tb := tm2 (i := 230) (by decide +kernel) rfl
theorem cl_X11_123 : Cond.classLink RX11 123 "PriceBench$Way" ∈ ev_tb := tm3 (i := 7) (by decide +kernel) rfl
theorem cl_X11_130 : Cond.classLink RX11 130 "PriceBench$Pairing" ∈ ev_tb := tm3 (i := 31) (by decide +kernel) rfl
theorem cl_L_10 : Cond.classLink RL 10 "PriceBenchModel" ∈ ev_tb := tm4 (i := 177) (by decide +kernel) rfl
theorem al_J7_150 : Cond.methodLink RJ7 150 arraycopyName ∈ ev_tb := tm2 (i := 181) (by decide +kernel) rfl
theorem jl_J7_304 : Cond.methodLink RJ7 304 yJ9_min_7cf53 ∈ ev_tb := tm2 (i := 178) (by decide +kernel) rfl
theorem ci_L_9 : ev_CI RL 9 M_X11_init 0 := ⟨ok_X11_init, tm1 (i := 20) (by decide +kernel) rfl, tm1 (i := 21) (by decide +kernel) rfl, rfl, rfl⟩
theorem ci_L_12 : ev_CI RL 12 M_X12_init 0 := ⟨ok_X12_init, tm4 (i := 179) (by decide +kernel) rfl, tm4 (i := 180) (by decide +kernel) rfl, rfl, rfl⟩
theorem cv_L_13 : ev_CV RL 13 10 M_X11_thing 0 := ⟨ok_X11_thing, ⟨_, _, rfl⟩, tm1 (i := 198) (by decide +kernel) rfl, tm1 (i := 199) (by decide +kernel) rfl, tm1 (i := 200) (by decide +kernel) rfl⟩
theorem cv_L_17 : ev_CV RL 17 11 M_X12_thing 0 := ⟨ok_X12_thing, ⟨_, _, rfl⟩, tm5 (i := 52) (by decide +kernel) rfl, tm5 (i := 53) (by decide +kernel) rfl, tm5 (i := 54) (by decide +kernel) rfl⟩
theorem cv_L_18 : ev_CV RL 18 10 M_X11_line 4 := ⟨ok_X11_line, ⟨_, _, rfl⟩, tm1 (i := 210) (by decide +kernel) rfl, tm1 (i := 211) (by decide +kernel) rfl, tm1 (i := 212) (by decide +kernel) rfl⟩
theorem cv_L_22 : ev_CV RL 22 11 M_X12_line 4 := ⟨ok_X12_line, ⟨_, _, rfl⟩, tm5 (i := 64) (by decide +kernel) rfl, tm5 (i := 65) (by decide +kernel) rfl, tm5 (i := 66) (by decide +kernel) rfl⟩
theorem cv_L_23 : ev_CV RL 23 10 M_X11_alter 3 := ⟨ok_X11_alter, ⟨_, _, rfl⟩, tm1 (i := 225) (by decide +kernel) rfl, tm1 (i := 226) (by decide +kernel) rfl, tm1 (i := 227) (by decide +kernel) rfl⟩
theorem cv_L_27 : ev_CV RL 27 11 M_X12_alter 3 := ⟨ok_X12_alter, ⟨_, _, rfl⟩, tm5 (i := 82) (by decide +kernel) rfl, tm5 (i := 83) (by decide +kernel) rfl, tm5 (i := 84) (by decide +kernel) rfl⟩
theorem cv_L_28 : ev_CV RL 28 10 M_X11_close 0 := ⟨ok_X11_close, ⟨_, _, rfl⟩, tm1 (i := 238) (by decide +kernel) rfl, tm1 (i := 239) (by decide +kernel) rfl, tm2 (i := 0) (by decide +kernel) rfl⟩
theorem cv_L_31 : ev_CV RL 31 11 M_X12_close 0 := ⟨ok_X12_close, ⟨_, _, rfl⟩, tm5 (i := 86) (by decide +kernel) rfl, tm5 (i := 87) (by decide +kernel) rfl, tm5 (i := 88) (by decide +kernel) rfl⟩
theorem cv_L_32 : ev_CV RL 32 10 M_X11_undo 0 := ⟨ok_X11_undo, ⟨_, _, rfl⟩, tm2 (i := 6) (by decide +kernel) rfl, tm2 (i := 7) (by decide +kernel) rfl, tm2 (i := 8) (by decide +kernel) rfl⟩
theorem cv_L_35 : ev_CV RL 35 11 M_X12_undo 0 := ⟨ok_X12_undo, ⟨_, _, rfl⟩, tm5 (i := 90) (by decide +kernel) rfl, tm5 (i := 91) (by decide +kernel) rfl, tm5 (i := 92) (by decide +kernel) rfl⟩
theorem cv_L_36 : ev_CV RL 36 10 M_X11_lineTold 2 := ⟨ok_X11_lineTold, ⟨_, _, rfl⟩, tm2 (i := 34) (by decide +kernel) rfl, tm2 (i := 35) (by decide +kernel) rfl, tm2 (i := 36) (by decide +kernel) rfl⟩
theorem cv_L_40 : ev_CV RL 40 11 M_X12_lineTold 2 := ⟨ok_X12_lineTold, ⟨_, _, rfl⟩, tm5 (i := 94) (by decide +kernel) rfl, tm5 (i := 95) (by decide +kernel) rfl, tm5 (i := 96) (by decide +kernel) rfl⟩
theorem cv_L_41 : ev_CV RL 41 10 M_X11_told 0 := ⟨ok_X11_told, ⟨_, _, rfl⟩, tm2 (i := 42) (by decide +kernel) rfl, tm2 (i := 43) (by decide +kernel) rfl, tm2 (i := 44) (by decide +kernel) rfl⟩
theorem cv_L_44 : ev_CV RL 44 11 M_X12_told 0 := ⟨ok_X12_told, ⟨_, _, rfl⟩, tm5 (i := 98) (by decide +kernel) rfl, tm5 (i := 99) (by decide +kernel) rfl, tm5 (i := 100) (by decide +kernel) rfl⟩
theorem cv_L_45 : ev_CV RL 45 10 M_X11_tell 2 := ⟨ok_X11_tell, ⟨_, _, rfl⟩, tm2 (i := 127) (by decide +kernel) rfl, tm2 (i := 128) (by decide +kernel) rfl, tm2 (i := 129) (by decide +kernel) rfl⟩
theorem cv_L_48 : ev_CV RL 48 11 M_X12_tell 2 := ⟨ok_X12_tell, ⟨_, _, rfl⟩, tm5 (i := 106) (by decide +kernel) rfl, tm5 (i := 107) (by decide +kernel) rfl, tm5 (i := 108) (by decide +kernel) rfl⟩
theorem cv_L_49 : ev_CV RL 49 10 M_X11_tree 0 := ⟨ok_X11_tree, ⟨_, _, rfl⟩, tm2 (i := 226) (by decide +kernel) rfl, tm2 (i := 227) (by decide +kernel) rfl, tm2 (i := 228) (by decide +kernel) rfl⟩
theorem cv_L_52 : ev_CV RL 52 11 M_X12_tree 0 := ⟨ok_X12_tree, ⟨_, _, rfl⟩, tm5 (i := 114) (by decide +kernel) rfl, tm5 (i := 115) (by decide +kernel) rfl, tm5 (i := 116) (by decide +kernel) rfl⟩
theorem cv_L_53 : ev_CV RL 53 10 M_X11_way 2 := ⟨ok_X11_way, ⟨_, _, rfl⟩, tm3 (i := 3) (by decide +kernel) rfl, tm3 (i := 4) (by decide +kernel) rfl, tm3 (i := 5) (by decide +kernel) rfl⟩
theorem cv_L_56 : ev_CV RL 56 11 M_X12_way 2 := ⟨ok_X12_way, ⟨_, _, rfl⟩, tm5 (i := 118) (by decide +kernel) rfl, tm5 (i := 119) (by decide +kernel) rfl, tm5 (i := 120) (by decide +kernel) rfl⟩
theorem cv_L_57 : ev_CV RL 57 10 M_X11_pairing 1 := ⟨ok_X11_pairing, ⟨_, _, rfl⟩, tm3 (i := 26) (by decide +kernel) rfl, tm3 (i := 27) (by decide +kernel) rfl, tm3 (i := 28) (by decide +kernel) rfl⟩
theorem cv_L_61 : ev_CV RL 61 11 M_X12_pairing 1 := ⟨ok_X12_pairing, ⟨_, _, rfl⟩, tm5 (i := 122) (by decide +kernel) rfl, tm5 (i := 123) (by decide +kernel) rfl, tm5 (i := 124) (by decide +kernel) rfl⟩
theorem cv_L_62 : ev_CV RL 62 10 M_X11_offerTold 2 := ⟨ok_X11_offerTold, ⟨_, _, rfl⟩, tm3 (i := 47) (by decide +kernel) rfl, tm3 (i := 48) (by decide +kernel) rfl, tm3 (i := 49) (by decide +kernel) rfl⟩
theorem cv_L_65 : ev_CV RL 65 11 M_X12_offerTold 2 := ⟨ok_X12_offerTold, ⟨_, _, rfl⟩, tm5 (i := 126) (by decide +kernel) rfl, tm5 (i := 127) (by decide +kernel) rfl, tm5 (i := 128) (by decide +kernel) rfl⟩
theorem cv_L_66 : ev_CV RL 66 10 M_X11_choice 2 := ⟨ok_X11_choice, ⟨_, _, rfl⟩, tm3 (i := 114) (by decide +kernel) rfl, tm3 (i := 115) (by decide +kernel) rfl, tm3 (i := 116) (by decide +kernel) rfl⟩
theorem cv_L_69 : ev_CV RL 69 11 M_X12_choice 2 := ⟨ok_X12_choice, ⟨_, _, rfl⟩, tm5 (i := 196) (by decide +kernel) rfl, tm5 (i := 197) (by decide +kernel) rfl, tm5 (i := 198) (by decide +kernel) rfl⟩
theorem cv_L_70 : ev_CV RL 70 10 M_X11_cost 4 := ⟨ok_X11_cost, ⟨_, _, rfl⟩, tm3 (i := 130) (by decide +kernel) rfl, tm3 (i := 131) (by decide +kernel) rfl, tm3 (i := 132) (by decide +kernel) rfl⟩
theorem cv_L_74 : ev_CV RL 74 11 M_X12_cost 4 := ⟨ok_X12_cost, ⟨_, _, rfl⟩, tm5 (i := 200) (by decide +kernel) rfl, tm5 (i := 201) (by decide +kernel) rfl, tm5 (i := 202) (by decide +kernel) rfl⟩
theorem cv_L_75 : ev_CV RL 75 10 M_X11_best 4 := ⟨ok_X11_best, ⟨_, _, rfl⟩, tm3 (i := 148) (by decide +kernel) rfl, tm3 (i := 149) (by decide +kernel) rfl, tm3 (i := 150) (by decide +kernel) rfl⟩
theorem cv_L_78 : ev_CV RL 78 11 M_X12_best 4 := ⟨ok_X12_best, ⟨_, _, rfl⟩, tm5 (i := 214) (by decide +kernel) rfl, tm5 (i := 215) (by decide +kernel) rfl, tm5 (i := 216) (by decide +kernel) rfl⟩
theorem cv_L_79 : ev_CV RL 79 10 M_X11_least 4 := ⟨ok_X11_least, ⟨_, _, rfl⟩, tm3 (i := 164) (by decide +kernel) rfl, tm3 (i := 165) (by decide +kernel) rfl, tm3 (i := 166) (by decide +kernel) rfl⟩
theorem cv_L_82 : ev_CV RL 82 11 M_X12_least 4 := ⟨ok_X12_least, ⟨_, _, rfl⟩, tm5 (i := 230) (by decide +kernel) rfl, tm5 (i := 231) (by decide +kernel) rfl, tm5 (i := 232) (by decide +kernel) rfl⟩
theorem cv_L_83 : ev_CV RL 83 10 M_X11_window 4 := ⟨ok_X11_window, ⟨_, _, rfl⟩, tm3 (i := 177) (by decide +kernel) rfl, tm3 (i := 178) (by decide +kernel) rfl, tm3 (i := 179) (by decide +kernel) rfl⟩
theorem cv_L_86 : ev_CV RL 86 11 M_X12_window 4 := ⟨ok_X12_window, ⟨_, _, rfl⟩, tm5 (i := 234) (by decide +kernel) rfl, tm5 (i := 235) (by decide +kernel) rfl, tm5 (i := 236) (by decide +kernel) rfl⟩
theorem cv_L_87 : ev_CV RL 87 10 M_X11_bends 1 := ⟨ok_X11_bends, ⟨_, _, rfl⟩, tm4 (i := 60) (by decide +kernel) rfl, tm4 (i := 61) (by decide +kernel) rfl, tm4 (i := 62) (by decide +kernel) rfl⟩
theorem cv_L_90 : ev_CV RL 90 11 M_X12_bends 1 := ⟨ok_X12_bends, ⟨_, _, rfl⟩, tm5 (i := 238) (by decide +kernel) rfl, tm5 (i := 239) (by decide +kernel) rfl, tm6 (i := 0) (by decide +kernel) rfl⟩
theorem cv_L_91 : ev_CV RL 91 10 M_X11_bend 3 := ⟨ok_X11_bend, ⟨_, _, rfl⟩, tm4 (i := 64) (by decide +kernel) rfl, tm4 (i := 65) (by decide +kernel) rfl, tm4 (i := 66) (by decide +kernel) rfl⟩
theorem cv_L_95 : ev_CV RL 95 11 M_X12_bend 3 := ⟨ok_X12_bend, ⟨_, _, rfl⟩, tm6 (i := 14) (by decide +kernel) rfl, tm6 (i := 15) (by decide +kernel) rfl, tm6 (i := 16) (by decide +kernel) rfl⟩
theorem cv_L_96 : ev_CV RL 96 10 M_X11_span 3 := ⟨ok_X11_span, ⟨_, _, rfl⟩, tm3 (i := 188) (by decide +kernel) rfl, tm3 (i := 189) (by decide +kernel) rfl, tm3 (i := 190) (by decide +kernel) rfl⟩
theorem cv_L_99 : ev_CV RL 99 11 M_X12_span 3 := ⟨ok_X12_span, ⟨_, _, rfl⟩, tm6 (i := 22) (by decide +kernel) rfl, tm6 (i := 23) (by decide +kernel) rfl, tm6 (i := 24) (by decide +kernel) rfl⟩
theorem cv_L_100 : ev_CV RL 100 10 M_X11_top 2 := ⟨ok_X11_top, ⟨_, _, rfl⟩, tm3 (i := 205) (by decide +kernel) rfl, tm3 (i := 206) (by decide +kernel) rfl, tm3 (i := 207) (by decide +kernel) rfl⟩
theorem cv_L_104 : ev_CV RL 104 11 M_X12_top 2 := ⟨ok_X12_top, ⟨_, _, rfl⟩, tm6 (i := 34) (by decide +kernel) rfl, tm6 (i := 35) (by decide +kernel) rfl, tm6 (i := 36) (by decide +kernel) rfl⟩
theorem cv_L_105 : ev_CV RL 105 10 M_X11_ratio 2 := ⟨ok_X11_ratio, ⟨_, _, rfl⟩, tm4 (i := 17) (by decide +kernel) rfl, tm4 (i := 18) (by decide +kernel) rfl, tm4 (i := 19) (by decide +kernel) rfl⟩
theorem cv_L_108 : ev_CV RL 108 11 M_X12_ratio 2 := ⟨ok_X12_ratio, ⟨_, _, rfl⟩, tm6 (i := 38) (by decide +kernel) rfl, tm6 (i := 39) (by decide +kernel) rfl, tm6 (i := 40) (by decide +kernel) rfl⟩
theorem cv_L_109 : ev_CV RL 109 10 M_X11_regret 3 := ⟨ok_X11_regret, ⟨_, _, rfl⟩, tm4 (i := 25) (by decide +kernel) rfl, tm4 (i := 26) (by decide +kernel) rfl, tm4 (i := 27) (by decide +kernel) rfl⟩
theorem cv_L_112 : ev_CV RL 112 11 M_X12_regret 3 := ⟨ok_X12_regret, ⟨_, _, rfl⟩, tm6 (i := 42) (by decide +kernel) rfl, tm6 (i := 43) (by decide +kernel) rfl, tm6 (i := 44) (by decide +kernel) rfl⟩
theorem cv_L_113 : ev_CV RL 113 10 M_X11_calm 1 := ⟨ok_X11_calm, ⟨_, _, rfl⟩, tm4 (i := 34) (by decide +kernel) rfl, tm4 (i := 35) (by decide +kernel) rfl, tm4 (i := 36) (by decide +kernel) rfl⟩
theorem cv_L_116 : ev_CV RL 116 11 M_X12_calm 1 := ⟨ok_X12_calm, ⟨_, _, rfl⟩, tm6 (i := 50) (by decide +kernel) rfl, tm6 (i := 51) (by decide +kernel) rfl, tm6 (i := 52) (by decide +kernel) rfl⟩
theorem cv_L_117 : ev_CV RL 117 10 M_X11_why 4 := ⟨ok_X11_why, ⟨_, _, rfl⟩, tm4 (i := 42) (by decide +kernel) rfl, tm4 (i := 43) (by decide +kernel) rfl, tm4 (i := 44) (by decide +kernel) rfl⟩
theorem cv_L_120 : ev_CV RL 120 11 M_X12_why 4 := ⟨ok_X12_why, ⟨_, _, rfl⟩, tm6 (i := 54) (by decide +kernel) rfl, tm6 (i := 55) (by decide +kernel) rfl, tm6 (i := 56) (by decide +kernel) rfl⟩
theorem cv_L_121 : ev_CV RL 121 10 M_X11_write 1 := ⟨ok_X11_write, ⟨_, _, rfl⟩, tm4 (i := 72) (by decide +kernel) rfl, tm4 (i := 73) (by decide +kernel) rfl, tm4 (i := 74) (by decide +kernel) rfl⟩
theorem cv_L_124 : ev_CV RL 124 11 M_X12_write 1 := ⟨ok_X12_write, ⟨_, _, rfl⟩, tm6 (i := 66) (by decide +kernel) rfl, tm6 (i := 67) (by decide +kernel) rfl, tm6 (i := 68) (by decide +kernel) rfl⟩
theorem cv_L_125 : ev_CV RL 125 10 M_X11_row 2 := ⟨ok_X11_row, ⟨_, _, rfl⟩, tm4 (i := 81) (by decide +kernel) rfl, tm4 (i := 82) (by decide +kernel) rfl, tm4 (i := 83) (by decide +kernel) rfl⟩
theorem cv_L_128 : ev_CV RL 128 11 M_X12_row 2 := ⟨ok_X12_row, ⟨_, _, rfl⟩, tm6 (i := 70) (by decide +kernel) rfl, tm6 (i := 71) (by decide +kernel) rfl, tm6 (i := 72) (by decide +kernel) rfl⟩
theorem cv_L_129 : ev_CV RL 129 10 M_X11_forge 3 := ⟨ok_X11_forge, ⟨_, _, rfl⟩, tm4 (i := 85) (by decide +kernel) rfl, tm4 (i := 86) (by decide +kernel) rfl, tm4 (i := 87) (by decide +kernel) rfl⟩
theorem cv_L_132 : ev_CV RL 132 11 M_X12_forge 3 := ⟨ok_X12_forge, ⟨_, _, rfl⟩, tm6 (i := 74) (by decide +kernel) rfl, tm6 (i := 75) (by decide +kernel) rfl, tm6 (i := 76) (by decide +kernel) rfl⟩
theorem cv_L_133 : ev_CV RL 133 10 M_X11_check 1 := ⟨ok_X11_check, ⟨_, _, rfl⟩, tm4 (i := 95) (by decide +kernel) rfl, tm4 (i := 96) (by decide +kernel) rfl, tm4 (i := 97) (by decide +kernel) rfl⟩
theorem cv_L_136 : ev_CV RL 136 11 M_X12_check 1 := ⟨ok_X12_check, ⟨_, _, rfl⟩, tm6 (i := 80) (by decide +kernel) rfl, tm6 (i := 81) (by decide +kernel) rfl, tm6 (i := 82) (by decide +kernel) rfl⟩
theorem cv_L_137 : ev_CV RL 137 10 M_X11_act 3 := ⟨ok_X11_act, ⟨_, _, rfl⟩, tm4 (i := 112) (by decide +kernel) rfl, tm4 (i := 113) (by decide +kernel) rfl, tm4 (i := 114) (by decide +kernel) rfl⟩
theorem cv_L_140 : ev_CV RL 140 11 M_X12_act 3 := ⟨ok_X12_act, ⟨_, _, rfl⟩, tm6 (i := 91) (by decide +kernel) rfl, tm6 (i := 92) (by decide +kernel) rfl, tm6 (i := 93) (by decide +kernel) rfl⟩
theorem cv_L_141 : ev_CV RL 141 10 M_X11_trace 1 := ⟨ok_X11_trace, ⟨_, _, rfl⟩, tm4 (i := 136) (by decide +kernel) rfl, tm4 (i := 137) (by decide +kernel) rfl, tm4 (i := 138) (by decide +kernel) rfl⟩
theorem cv_L_144 : ev_CV RL 144 11 M_X12_trace 1 := ⟨ok_X12_trace, ⟨_, _, rfl⟩, tm6 (i := 123) (by decide +kernel) rfl, tm6 (i := 124) (by decide +kernel) rfl, tm6 (i := 125) (by decide +kernel) rfl⟩
theorem cv_L_145 : ev_CV RL 145 10 M_X11_count 1 := ⟨ok_X11_count, ⟨_, _, rfl⟩, tm4 (i := 140) (by decide +kernel) rfl, tm4 (i := 141) (by decide +kernel) rfl, tm4 (i := 142) (by decide +kernel) rfl⟩
theorem cv_L_148 : ev_CV RL 148 11 M_X12_count 1 := ⟨ok_X12_count, ⟨_, _, rfl⟩, tm6 (i := 127) (by decide +kernel) rfl, tm6 (i := 128) (by decide +kernel) rfl, tm6 (i := 129) (by decide +kernel) rfl⟩
theorem cv_L_149 : ev_CV RL 149 10 M_X11_sheet 3 := ⟨ok_X11_sheet, ⟨_, _, rfl⟩, tm4 (i := 144) (by decide +kernel) rfl, tm4 (i := 145) (by decide +kernel) rfl, tm4 (i := 146) (by decide +kernel) rfl⟩
theorem cv_L_152 : ev_CV RL 152 11 M_X12_sheet 3 := ⟨ok_X12_sheet, ⟨_, _, rfl⟩, tm6 (i := 131) (by decide +kernel) rfl, tm6 (i := 132) (by decide +kernel) rfl, tm6 (i := 133) (by decide +kernel) rfl⟩
theorem cv_L_153 : ev_CV RL 153 10 M_X11_cell 3 := ⟨ok_X11_cell, ⟨_, _, rfl⟩, tm4 (i := 159) (by decide +kernel) rfl, tm4 (i := 160) (by decide +kernel) rfl, tm4 (i := 161) (by decide +kernel) rfl⟩
theorem cv_L_156 : ev_CV RL 156 11 M_X12_cell 3 := ⟨ok_X12_cell, ⟨_, _, rfl⟩, tm6 (i := 138) (by decide +kernel) rfl, tm6 (i := 139) (by decide +kernel) rfl, tm6 (i := 140) (by decide +kernel) rfl⟩
theorem cv_L_157 : ev_CV RL 157 10 M_X11_lay 3 := ⟨ok_X11_lay, ⟨_, _, rfl⟩, tm4 (i := 167) (by decide +kernel) rfl, tm4 (i := 168) (by decide +kernel) rfl, tm4 (i := 169) (by decide +kernel) rfl⟩
theorem cv_L_160 : ev_CV RL 160 11 M_X12_lay 3 := ⟨ok_X12_lay, ⟨_, _, rfl⟩, tm6 (i := 142) (by decide +kernel) rfl, tm6 (i := 143) (by decide +kernel) rfl, tm6 (i := 144) (by decide +kernel) rfl⟩
theorem cv_L_161 : ev_CV RL 161 10 M_X11_copy 5 := ⟨ok_X11_copy, ⟨_, _, rfl⟩, tm4 (i := 172) (by decide +kernel) rfl, tm4 (i := 173) (by decide +kernel) rfl, tm4 (i := 174) (by decide +kernel) rfl⟩
theorem cv_L_165 : ev_CV RL 165 11 M_X12_copy 5 := ⟨ok_X12_copy, ⟨_, _, rfl⟩, tm6 (i := 147) (by decide +kernel) rfl, tm6 (i := 148) (by decide +kernel) rfl, tm6 (i := 149) (by decide +kernel) rfl⟩
theorem cv_L_166 : ev_CV RL 166 10 M_X11_taken 2 := ⟨ok_X11_taken, ⟨_, _, rfl⟩, tm3 (i := 118) (by decide +kernel) rfl, tm3 (i := 119) (by decide +kernel) rfl, tm3 (i := 120) (by decide +kernel) rfl⟩
theorem cv_L_169 : ev_CV RL 169 11 M_X12_taken 2 := ⟨ok_X12_taken, ⟨_, _, rfl⟩, tm6 (i := 151) (by decide +kernel) rfl, tm6 (i := 152) (by decide +kernel) rfl, tm6 (i := 153) (by decide +kernel) rfl⟩
theorem ol_X0_3 : Cond.methodLink RX0 3 Lib.objectInit ∈ ev_tb := tm1 (i := 143) (by decide +kernel) rfl
theorem cs_X0_18 : ev_CS RX0 18 M_X0_kindAbove 1 := ⟨ok_X0_kindAbove, tm3 (i := 127) (by decide +kernel) rfl, tm3 (i := 128) (by decide +kernel) rfl⟩
theorem cs_X0_31 : ev_CS RX0 31 M_X0_play 6 := ⟨ok_X0_play, tm4 (i := 124) (by decide +kernel) rfl, tm4 (i := 125) (by decide +kernel) rfl⟩
theorem cs_X0_35 : ev_CS RX0 35 M_X0_kindWithBody 2 := ⟨ok_X0_kindWithBody, tm4 (i := 127) (by decide +kernel) rfl, tm4 (i := 128) (by decide +kernel) rfl⟩
theorem cv_X0_42 : ev_CV RX0 42 0 M_X0_note 1 := ⟨ok_X0_note, ⟨_, _, rfl⟩, tm4 (i := 132) (by decide +kernel) rfl, tm4 (i := 134) (by decide +kernel) rfl, tms (i := 13) (by decide +kernel) rfl⟩
theorem ol_X1_3 : Cond.methodLink RX1 3 Lib.objectInit ∈ ev_tb := tm2 (i := 60) (by decide +kernel) rfl
theorem cv_X1_25 : ev_CV RX1 25 1 M_X1_widen 0 := ⟨ok_X1_widen, ⟨_, _, rfl⟩, tm2 (i := 164) (by decide +kernel) rfl, tm2 (i := 166) (by decide +kernel) rfl, tms (i := 4) (by decide +kernel) rfl⟩
theorem cs_X1_28 : ev_CS RX1 28 M_X1_comesAhead 2 := ⟨ok_X1_comesAhead, tm2 (i := 184) (by decide +kernel) rfl, tm2 (i := 185) (by decide +kernel) rfl⟩
theorem cv_X1_37 : ev_CV RX1 37 2 M_X2_sumOver 2 := ⟨ok_X2_sumOver, ⟨_, _, rfl⟩, tm2 (i := 187) (by decide +kernel) rfl, tm2 (i := 188) (by decide +kernel) rfl, tm2 (i := 189) (by decide +kernel) rfl⟩
theorem cs_X1_44 : ev_CS RX1 44 M_J7_copyOf_59c91 2 := ⟨ok_J7_copyOf_59c91, tm2 (i := 168) (by decide +kernel) rfl, tm2 (i := 169) (by decide +kernel) rfl⟩
theorem cv_X1_50 : ev_CV RX1 50 1 M_X1_costAt 3 := ⟨ok_X1_costAt, ⟨_, _, rfl⟩, tm3 (i := 156) (by decide +kernel) rfl, tm3 (i := 157) (by decide +kernel) rfl, tm3 (i := 158) (by decide +kernel) rfl⟩
theorem cv_X1_54 : ev_CV RX1 54 1 M_X1_leadsAmongLike 3 := ⟨ok_X1_leadsAmongLike, ⟨_, _, rfl⟩, tm3 (i := 160) (by decide +kernel) rfl, tm3 (i := 162) (by decide +kernel) rfl, tms (i := 5) (by decide +kernel) rfl⟩
theorem cv_X1_58 : ev_CV RX1 58 1 M_X1_cheapestAt 3 := ⟨ok_X1_cheapestAt, ⟨_, _, rfl⟩, tm3 (i := 176) (by decide +kernel) rfl, tm3 (i := 153) (by decide +kernel) rfl, tm3 (i := 154) (by decide +kernel) rfl⟩
theorem cv_X1_62 : ev_CV RX1 62 1 M_X1_meetsSooner 3 := ⟨ok_X1_meetsSooner, ⟨_, _, rfl⟩, tm3 (i := 234) (by decide +kernel) rfl, tm3 (i := 236) (by decide +kernel) rfl, tms (i := 8) (by decide +kernel) rfl⟩
theorem cs_X1_65 : ev_CSN RX1 65 M_X11_isLess 4 := ⟨ok_X11_isLess, ⟨"PriceBench", List.mem_filter.mpr ⟨tn3 (i := 203) (by decide +kernel), rfl⟩⟩, tm3 (i := 182) (by decide +kernel) rfl⟩
theorem cs_X1_69 : ev_CSN RX1 69 M_X11_lowest 3 := ⟨ok_X11_lowest, ⟨"PriceBench", List.mem_filter.mpr ⟨tn3 (i := 204) (by decide +kernel), rfl⟩⟩, tm3 (i := 140) (by decide +kernel) rfl⟩
theorem cv_X1_81 : ev_CV RX1 81 1 M_X1_leastAt 2 := ⟨ok_X1_leastAt, ⟨_, _, rfl⟩, tm4 (i := 33) (by decide +kernel) rfl, tm3 (i := 173) (by decide +kernel) rfl, tm3 (i := 174) (by decide +kernel) rfl⟩
theorem ol_X10_1 : Cond.methodLink RX10 1 Lib.objectInit ∈ ev_tb := tm1 (i := 94) (by decide +kernel) rfl
theorem cs_X10_25 : ev_CSN RX10 25 M_X11_isLess 4 := ⟨ok_X11_isLess, ⟨"PriceBench", List.mem_filter.mpr ⟨tn4 (i := 110) (by decide +kernel), rfl⟩⟩, tm3 (i := 182) (by decide +kernel) rfl⟩
theorem ol_X11_1 : Cond.methodLink RX11 1 Lib.objectInit ∈ ev_tb := tm1 (i := 23) (by decide +kernel) rfl
theorem ci_X11_9 : ev_CIN RX11 9 M_X2_init 0 := ⟨ok_X2_init, ⟨"PriceBench", List.mem_filter.mpr ⟨tn1 (i := 28) (by decide +kernel), rfl⟩⟩, tm1 (i := 29) (by decide +kernel) rfl, rfl, rfl⟩
theorem ci_X11_24 : ev_CIN RX11 24 M_X10_init 0 := ⟨ok_X10_init, ⟨"PriceBench", List.mem_filter.mpr ⟨tn1 (i := 91) (by decide +kernel), rfl⟩⟩, tm1 (i := 92) (by decide +kernel) rfl, rfl, rfl⟩
theorem ci_X11_31 : ev_CIN RX11 31 M_X5_init 0 := ⟨ok_X5_init, ⟨"PriceBench", List.mem_filter.mpr ⟨tn1 (i := 126) (by decide +kernel), rfl⟩⟩, tm1 (i := 127) (by decide +kernel) rfl, rfl, rfl⟩
theorem ci_X11_38 : ev_CIN RX11 38 M_X0_init 0 := ⟨ok_X0_init, ⟨"PriceBench", List.mem_filter.mpr ⟨tn1 (i := 140) (by decide +kernel), rfl⟩⟩, tm1 (i := 141) (by decide +kernel) rfl, rfl, rfl⟩
theorem ci_X11_53 : ev_CIN RX11 53 M_X6_init 0 := ⟨ok_X6_init, ⟨"PriceBench", List.mem_filter.mpr ⟨tn1 (i := 156) (by decide +kernel), rfl⟩⟩, tm1 (i := 157) (by decide +kernel) rfl, rfl, rfl⟩
theorem cv_X11_54 : ev_CV RX11 54 2 M_X2_addThing 0 := ⟨ok_X2_addThing, ⟨_, _, rfl⟩, tm1 (i := 202) (by decide +kernel) rfl, tm1 (i := 203) (by decide +kernel) rfl, tm1 (i := 204) (by decide +kernel) rfl⟩
theorem cv_X11_58 : ev_CV RX11 58 2 M_X2_isThing 1 := ⟨ok_X2_isThing, ⟨_, _, rfl⟩, tm1 (i := 214) (by decide +kernel) rfl, tm1 (i := 215) (by decide +kernel) rfl, tm1 (i := 216) (by decide +kernel) rfl⟩
theorem cs_X11_62 : ev_CS RX11 62 M_X11_isLineCost 2 := ⟨ok_X11_isLineCost, tm1 (i := 218) (by decide +kernel) rfl, tm1 (i := 219) (by decide +kernel) rfl⟩
theorem cv_X11_66 : ev_CV RX11 66 2 M_X2_addLine 4 := ⟨ok_X2_addLine, ⟨_, _, rfl⟩, tm1 (i := 221) (by decide +kernel) rfl, tm1 (i := 222) (by decide +kernel) rfl, tm1 (i := 223) (by decide +kernel) rfl⟩
theorem cv_X11_70 : ev_CV RX11 70 2 M_X2_isLine 1 := ⟨ok_X2_isLine, ⟨_, _, rfl⟩, tm1 (i := 229) (by decide +kernel) rfl, tm1 (i := 230) (by decide +kernel) rfl, tm1 (i := 231) (by decide +kernel) rfl⟩
theorem cv_X11_73 : ev_CV RX11 73 2 M_X2_changeLine 3 := ⟨ok_X2_changeLine, ⟨_, _, rfl⟩, tm1 (i := 233) (by decide +kernel) rfl, tm1 (i := 234) (by decide +kernel) rfl, tm1 (i := 235) (by decide +kernel) rfl⟩
theorem cv_X11_81 : ev_CV RX11 81 2 M_X2_dropLine 0 := ⟨ok_X2_dropLine, ⟨_, _, rfl⟩, tm2 (i := 2) (by decide +kernel) rfl, tm2 (i := 3) (by decide +kernel) rfl, tm2 (i := 4) (by decide +kernel) rfl⟩
theorem cv_X11_90 : ev_CV RX11 90 10 M_X11_someOfferNeeds 1 := ⟨ok_X11_someOfferNeeds, ⟨_, _, rfl⟩, tm2 (i := 10) (by decide +kernel) rfl, tm2 (i := 12) (by decide +kernel) rfl, tms (i := 1) (by decide +kernel) rfl⟩
theorem cv_X11_93 : ev_CV RX11 93 2 M_X2_stepBack 0 := ⟨ok_X2_stepBack, ⟨_, _, rfl⟩, tm2 (i := 29) (by decide +kernel) rfl, tm2 (i := 30) (by decide +kernel) rfl, tm2 (i := 31) (by decide +kernel) rfl⟩
theorem cv_X11_96 : ev_CV RX11 96 2 M_X2_numberOf 2 := ⟨ok_X2_numberOf, ⟨_, _, rfl⟩, tm2 (i := 38) (by decide +kernel) rfl, tm2 (i := 39) (by decide +kernel) rfl, tm2 (i := 40) (by decide +kernel) rfl⟩
theorem ci_X11_105 : ev_CI RX11 105 M_X7_init 1 := ⟨ok_X7_init, tm2 (i := 48) (by decide +kernel) rfl, tm2 (i := 49) (by decide +kernel) rfl, rfl, rfl⟩
theorem cv_X11_108 : ev_CV RX11 108 10 M_X11_addOffer 1 := ⟨ok_X11_addOffer, ⟨_, _, rfl⟩, tm2 (i := 123) (by decide +kernel) rfl, tm2 (i := 125) (by decide +kernel) rfl, tms (i := 2) (by decide +kernel) rfl⟩
theorem cv_X11_112 : ev_CV RX11 112 10 M_X11_offerAt 1 := ⟨ok_X11_offerAt, ⟨_, _, rfl⟩, tm2 (i := 131) (by decide +kernel) rfl, tm2 (i := 133) (by decide +kernel) rfl, tms (i := 3) (by decide +kernel) rfl⟩
theorem cv_X11_116 : ev_CV RX11 116 6 M_X7_take 1 := ⟨ok_X7_take, ⟨_, _, rfl⟩, tm2 (i := 216) (by decide +kernel) rfl, tm2 (i := 217) (by decide +kernel) rfl, tm2 (i := 218) (by decide +kernel) rfl⟩
theorem ci_X11_122 : ev_CI RX11 122 M_X8_init 1 := ⟨ok_X8_init, tm2 (i := 232) (by decide +kernel) rfl, tm2 (i := 233) (by decide +kernel) rfl, rfl, rfl⟩
theorem ci_X11_125 : ev_CI RX11 125 M_X9_init 3 := ⟨ok_X9_init, tm3 (i := 9) (by decide +kernel) rfl, tm3 (i := 10) (by decide +kernel) rfl, rfl, rfl⟩
theorem cv_X11_127 : ev_CV RX11 127 2 M_X2_allThings 0 := ⟨ok_X2_allThings, ⟨_, _, rfl⟩, tm3 (i := 30) (by decide +kernel) rfl, tm2 (i := 154) (by decide +kernel) rfl, tm2 (i := 155) (by decide +kernel) rfl⟩
theorem ci_X11_132 : ev_CI RX11 132 M_X4_init 2 := ⟨ok_X4_init, tm3 (i := 33) (by decide +kernel) rfl, tm3 (i := 34) (by decide +kernel) rfl, rfl, rfl⟩
theorem cu_X11_147_3 : ev_CU RX11 147 3 M_X4_barsIn 1 := ⟨ok_X4_barsIn, RX4, "PriceBench$Offer", ⟨"PriceBench$Offer", "barsIn", "(LPriceBench$Net;)I"⟩, TX4, 7, rfl, tm3 (i := 51) (by decide +kernel) rfl, tm3 (i := 53) (by decide +kernel) rfl, tm3 (i := 54) (by decide +kernel) rfl, tm3 (i := 55) (by decide +kernel) rfl, ⟨by decide +kernel, by decide +kernel⟩, by decide +kernel, Or.inr (List.mem_filter.mpr ⟨tn3 (i := 52) (by decide +kernel), rfl⟩)⟩
theorem cu_X11_147_6 : ev_CU RX11 147 6 M_X7_barsIn 1 := ⟨ok_X7_barsIn, RX7, "PriceBench$Offer", ⟨"PriceBench$Offer", "barsIn", "(LPriceBench$Net;)I"⟩, TX7, 8, rfl, tm3 (i := 51) (by decide +kernel) rfl, tm3 (i := 53) (by decide +kernel) rfl, tm3 (i := 67) (by decide +kernel) rfl, tm3 (i := 68) (by decide +kernel) rfl, ⟨by decide +kernel, by decide +kernel⟩, by decide +kernel, Or.inr (List.mem_filter.mpr ⟨tn3 (i := 52) (by decide +kernel), rfl⟩)⟩
theorem cu_X11_147_7 : ev_CU RX11 147 7 M_X8_barsIn 1 := ⟨ok_X8_barsIn, RX8, "PriceBench$Offer", ⟨"PriceBench$Offer", "barsIn", "(LPriceBench$Net;)I"⟩, TX8, 6, rfl, tm3 (i := 51) (by decide +kernel) rfl, tm3 (i := 53) (by decide +kernel) rfl, tm3 (i := 70) (by decide +kernel) rfl, tm3 (i := 71) (by decide +kernel) rfl, ⟨by decide +kernel, by decide +kernel⟩, by decide +kernel, Or.inr (List.mem_filter.mpr ⟨tn3 (i := 52) (by decide +kernel), rfl⟩)⟩
theorem cu_X11_147_8 : ev_CU RX11 147 8 M_X9_barsIn 1 := ⟨ok_X9_barsIn, RX9, "PriceBench$Offer", ⟨"PriceBench$Offer", "barsIn", "(LPriceBench$Net;)I"⟩, TX9, 8, rfl, tm3 (i := 51) (by decide +kernel) rfl, tm3 (i := 53) (by decide +kernel) rfl, tm3 (i := 77) (by decide +kernel) rfl, tm3 (i := 78) (by decide +kernel) rfl, ⟨by decide +kernel, by decide +kernel⟩, by decide +kernel, Or.inr (List.mem_filter.mpr ⟨tn3 (i := 52) (by decide +kernel), rfl⟩)⟩
theorem cu_X11_151_3 : ev_CU RX11 151 3 M_X4_firstNumber 0 := ⟨ok_X4_firstNumber, RX4, "PriceBench$Offer", ⟨"PriceBench$Offer", "firstNumber", "()I"⟩, TX4, 7, rfl, tm3 (i := 84) (by decide +kernel) rfl, tm3 (i := 86) (by decide +kernel) rfl, tm3 (i := 87) (by decide +kernel) rfl, tm3 (i := 88) (by decide +kernel) rfl, ⟨by decide +kernel, by decide +kernel⟩, by decide +kernel, Or.inr (List.mem_filter.mpr ⟨tn3 (i := 85) (by decide +kernel), rfl⟩)⟩
theorem cu_X11_151_6 : ev_CU RX11 151 6 M_X7_firstNumber 0 := ⟨ok_X7_firstNumber, RX7, "PriceBench$Offer", ⟨"PriceBench$Offer", "firstNumber", "()I"⟩, TX7, 8, rfl, tm3 (i := 84) (by decide +kernel) rfl, tm3 (i := 86) (by decide +kernel) rfl, tm3 (i := 90) (by decide +kernel) rfl, tm3 (i := 91) (by decide +kernel) rfl, ⟨by decide +kernel, by decide +kernel⟩, by decide +kernel, Or.inr (List.mem_filter.mpr ⟨tn3 (i := 85) (by decide +kernel), rfl⟩)⟩
theorem cu_X11_151_7 : ev_CU RX11 151 7 M_X8_firstNumber 0 := ⟨ok_X8_firstNumber, RX8, "PriceBench$Offer", ⟨"PriceBench$Offer", "firstNumber", "()I"⟩, TX8, 6, rfl, tm3 (i := 84) (by decide +kernel) rfl, tm3 (i := 86) (by decide +kernel) rfl, tm3 (i := 93) (by decide +kernel) rfl, tm3 (i := 94) (by decide +kernel) rfl, ⟨by decide +kernel, by decide +kernel⟩, by decide +kernel, Or.inr (List.mem_filter.mpr ⟨tn3 (i := 85) (by decide +kernel), rfl⟩)⟩
theorem cu_X11_151_8 : ev_CU RX11 151 8 M_X9_firstNumber 0 := ⟨ok_X9_firstNumber, RX9, "PriceBench$Offer", ⟨"PriceBench$Offer", "firstNumber", "()I"⟩, TX9, 8, rfl, tm3 (i := 84) (by decide +kernel) rfl, tm3 (i := 86) (by decide +kernel) rfl, tm3 (i := 96) (by decide +kernel) rfl, tm3 (i := 97) (by decide +kernel) rfl, ⟨by decide +kernel, by decide +kernel⟩, by decide +kernel, Or.inr (List.mem_filter.mpr ⟨tn3 (i := 85) (by decide +kernel), rfl⟩)⟩
theorem cu_X11_154_3 : ev_CU RX11 154 3 M_X4_secondNumber 0 := ⟨ok_X4_secondNumber, RX4, "PriceBench$Offer", ⟨"PriceBench$Offer", "secondNumber", "()I"⟩, TX4, 7, rfl, tm3 (i := 99) (by decide +kernel) rfl, tm3 (i := 101) (by decide +kernel) rfl, tm3 (i := 102) (by decide +kernel) rfl, tm3 (i := 103) (by decide +kernel) rfl, ⟨by decide +kernel, by decide +kernel⟩, by decide +kernel, Or.inr (List.mem_filter.mpr ⟨tn3 (i := 100) (by decide +kernel), rfl⟩)⟩
theorem cu_X11_154_6 : ev_CU RX11 154 6 M_X7_secondNumber 0 := ⟨ok_X7_secondNumber, RX7, "PriceBench$Offer", ⟨"PriceBench$Offer", "secondNumber", "()I"⟩, TX7, 8, rfl, tm3 (i := 99) (by decide +kernel) rfl, tm3 (i := 101) (by decide +kernel) rfl, tm3 (i := 105) (by decide +kernel) rfl, tm3 (i := 106) (by decide +kernel) rfl, ⟨by decide +kernel, by decide +kernel⟩, by decide +kernel, Or.inr (List.mem_filter.mpr ⟨tn3 (i := 100) (by decide +kernel), rfl⟩)⟩
theorem cu_X11_154_7 : ev_CU RX11 154 7 M_X8_secondNumber 0 := ⟨ok_X8_secondNumber, RX8, "PriceBench$Offer", ⟨"PriceBench$Offer", "secondNumber", "()I"⟩, TX8, 6, rfl, tm3 (i := 99) (by decide +kernel) rfl, tm3 (i := 101) (by decide +kernel) rfl, tm3 (i := 108) (by decide +kernel) rfl, tm3 (i := 109) (by decide +kernel) rfl, ⟨by decide +kernel, by decide +kernel⟩, by decide +kernel, Or.inr (List.mem_filter.mpr ⟨tn3 (i := 100) (by decide +kernel), rfl⟩)⟩
theorem cu_X11_154_8 : ev_CU RX11 154 8 M_X9_secondNumber 0 := ⟨ok_X9_secondNumber, RX9, "PriceBench$Offer", ⟨"PriceBench$Offer", "secondNumber", "()I"⟩, TX9, 8, rfl, tm3 (i := 99) (by decide +kernel) rfl, tm3 (i := 101) (by decide +kernel) rfl, tm3 (i := 111) (by decide +kernel) rfl, tm3 (i := 112) (by decide +kernel) rfl, ⟨by decide +kernel, by decide +kernel⟩, by decide +kernel, Or.inr (List.mem_filter.mpr ⟨tn3 (i := 100) (by decide +kernel), rfl⟩)⟩
theorem cs_X11_161 : ev_CS RX11 161 M_X0_isUnder 2 := ⟨ok_X0_isUnder, tm3 (i := 122) (by decide +kernel) rfl, tm3 (i := 123) (by decide +kernel) rfl⟩
theorem cu_X11_164_3 : ev_CU RX11 164 3 M_X3_renewChoices 1 := ⟨ok_X3_renewChoices, RX4, "PriceBench$Offer", ⟨"PriceBench$Offer", "renewChoices", "(LPriceBench$Net;)V"⟩, TX4, 7, rfl, tm2 (i := 135) (by decide +kernel) rfl, tm2 (i := 137) (by decide +kernel) rfl, tm2 (i := 138) (by decide +kernel) rfl, tm2 (i := 136) (by decide +kernel) rfl, ⟨by decide +kernel, by decide +kernel⟩, by decide +kernel, Or.inl rfl⟩
theorem cu_X11_164_6 : ev_CU RX11 164 6 M_X3_renewChoices 1 := ⟨ok_X3_renewChoices, RX7, "PriceBench$Offer", ⟨"PriceBench$Offer", "renewChoices", "(LPriceBench$Net;)V"⟩, TX7, 8, rfl, tm2 (i := 135) (by decide +kernel) rfl, tm2 (i := 137) (by decide +kernel) rfl, tm2 (i := 139) (by decide +kernel) rfl, tm2 (i := 136) (by decide +kernel) rfl, ⟨by decide +kernel, by decide +kernel⟩, by decide +kernel, Or.inl rfl⟩
theorem cu_X11_164_7 : ev_CU RX11 164 7 M_X3_renewChoices 1 := ⟨ok_X3_renewChoices, RX8, "PriceBench$Offer", ⟨"PriceBench$Offer", "renewChoices", "(LPriceBench$Net;)V"⟩, TX8, 6, rfl, tm2 (i := 135) (by decide +kernel) rfl, tm2 (i := 137) (by decide +kernel) rfl, tm2 (i := 140) (by decide +kernel) rfl, tm2 (i := 136) (by decide +kernel) rfl, ⟨by decide +kernel, by decide +kernel⟩, by decide +kernel, Or.inl rfl⟩
theorem cu_X11_164_8 : ev_CU RX11 164 8 M_X3_renewChoices 1 := ⟨ok_X3_renewChoices, RX9, "PriceBench$Offer", ⟨"PriceBench$Offer", "renewChoices", "(LPriceBench$Net;)V"⟩, TX9, 8, rfl, tm2 (i := 135) (by decide +kernel) rfl, tm2 (i := 137) (by decide +kernel) rfl, tm2 (i := 141) (by decide +kernel) rfl, tm2 (i := 136) (by decide +kernel) rfl, ⟨by decide +kernel, by decide +kernel⟩, by decide +kernel, Or.inl rfl⟩
theorem cu_X11_164 {ci : Nat} (hc : ev_isO ci) : ev_CU RX11 164 ci M_X3_renewChoices 1 := by
  rcases hc with rfl | rfl | rfl | rfl
  · exact cu_X11_164_3
  · exact cu_X11_164_6
  · exact cu_X11_164_7
  · exact cu_X11_164_8
theorem cv_X11_168 : ev_CV RX11 168 1 M_X1_placeOf 1 := ⟨ok_X1_placeOf, ⟨_, _, rfl⟩, tm3 (i := 195) (by decide +kernel) rfl, tm3 (i := 196) (by decide +kernel) rfl, tm3 (i := 197) (by decide +kernel) rfl⟩
theorem cu_X11_171_3 : ev_CU RX11 171 3 M_X4_needs 1 := ⟨ok_X4_needs, RX4, "PriceBench$Offer", ⟨"PriceBench$Offer", "needs", "(I)Z"⟩, TX4, 7, rfl, tm2 (i := 14) (by decide +kernel) rfl, tm2 (i := 16) (by decide +kernel) rfl, tm2 (i := 17) (by decide +kernel) rfl, tm2 (i := 18) (by decide +kernel) rfl, ⟨by decide +kernel, by decide +kernel⟩, by decide +kernel, Or.inr (List.mem_filter.mpr ⟨tn2 (i := 15) (by decide +kernel), rfl⟩)⟩
theorem cu_X11_171_6 : ev_CU RX11 171 6 M_X7_needs 1 := ⟨ok_X7_needs, RX7, "PriceBench$Offer", ⟨"PriceBench$Offer", "needs", "(I)Z"⟩, TX7, 8, rfl, tm2 (i := 14) (by decide +kernel) rfl, tm2 (i := 16) (by decide +kernel) rfl, tm2 (i := 20) (by decide +kernel) rfl, tm2 (i := 21) (by decide +kernel) rfl, ⟨by decide +kernel, by decide +kernel⟩, by decide +kernel, Or.inr (List.mem_filter.mpr ⟨tn2 (i := 15) (by decide +kernel), rfl⟩)⟩
theorem cu_X11_171_7 : ev_CU RX11 171 7 M_X8_needs 1 := ⟨ok_X8_needs, RX8, "PriceBench$Offer", ⟨"PriceBench$Offer", "needs", "(I)Z"⟩, TX8, 6, rfl, tm2 (i := 14) (by decide +kernel) rfl, tm2 (i := 16) (by decide +kernel) rfl, tm2 (i := 23) (by decide +kernel) rfl, tm2 (i := 24) (by decide +kernel) rfl, ⟨by decide +kernel, by decide +kernel⟩, by decide +kernel, Or.inr (List.mem_filter.mpr ⟨tn2 (i := 15) (by decide +kernel), rfl⟩)⟩
theorem cu_X11_171_8 : ev_CU RX11 171 8 M_X9_needs 1 := ⟨ok_X9_needs, RX9, "PriceBench$Offer", ⟨"PriceBench$Offer", "needs", "(I)Z"⟩, TX9, 8, rfl, tm2 (i := 14) (by decide +kernel) rfl, tm2 (i := 16) (by decide +kernel) rfl, tm2 (i := 26) (by decide +kernel) rfl, tm2 (i := 27) (by decide +kernel) rfl, ⟨by decide +kernel, by decide +kernel⟩, by decide +kernel, Or.inr (List.mem_filter.mpr ⟨tn2 (i := 15) (by decide +kernel), rfl⟩)⟩
theorem cs_X11_174 : ev_CS RX11 174 M_X11_isPrice 2 := ⟨ok_X11_isPrice, tm3 (i := 134) (by decide +kernel) rfl, tm3 (i := 135) (by decide +kernel) rfl⟩
theorem cv_X11_182 : ev_CV RX11 182 2 M_X2_sumOver 2 := ⟨ok_X2_sumOver, ⟨_, _, rfl⟩, tm3 (i := 138) (by decide +kernel) rfl, tm2 (i := 188) (by decide +kernel) rfl, tm2 (i := 189) (by decide +kernel) rfl⟩
theorem cs_X11_189 : ev_CS RX11 189 M_X11_lowest 3 := ⟨ok_X11_lowest, tm3 (i := 139) (by decide +kernel) rfl, tm3 (i := 140) (by decide +kernel) rfl⟩
theorem cv_X11_193 : ev_CV RX11 193 1 M_X1_cheapestAt 3 := ⟨ok_X1_cheapestAt, ⟨_, _, rfl⟩, tm3 (i := 152) (by decide +kernel) rfl, tm3 (i := 153) (by decide +kernel) rfl, tm3 (i := 154) (by decide +kernel) rfl⟩
theorem cv_X11_197 : ev_CV RX11 197 10 M_X11_offerWithChoices 1 := ⟨ok_X11_offerWithChoices, ⟨_, _, rfl⟩, tm3 (i := 168) (by decide +kernel) rfl, tm3 (i := 170) (by decide +kernel) rfl, tms (i := 6) (by decide +kernel) rfl⟩
theorem cv_X11_200 : ev_CV RX11 200 1 M_X1_leastAt 2 := ⟨ok_X1_leastAt, ⟨_, _, rfl⟩, tm3 (i := 172) (by decide +kernel) rfl, tm3 (i := 173) (by decide +kernel) rfl, tm3 (i := 174) (by decide +kernel) rfl⟩
theorem cs_X11_204 : ev_CS RX11 204 M_X11_isLess 4 := ⟨ok_X11_isLess, tm3 (i := 181) (by decide +kernel) rfl, tm3 (i := 182) (by decide +kernel) rfl⟩
theorem cv_X11_208 : ev_CV RX11 208 9 M_X10_become 4 := ⟨ok_X10_become, ⟨_, _, rfl⟩, tm3 (i := 184) (by decide +kernel) rfl, tm3 (i := 185) (by decide +kernel) rfl, tm3 (i := 186) (by decide +kernel) rfl⟩
theorem cs_X11_212 : ev_CS RX11 212 M_X11_placeIn 2 := ⟨ok_X11_placeIn, tm3 (i := 192) (by decide +kernel) rfl, tm3 (i := 193) (by decide +kernel) rfl⟩
theorem cv_X11_216 : ev_CV RX11 216 1 M_X1_findSpan 2 := ⟨ok_X1_findSpan, ⟨_, _, rfl⟩, tm3 (i := 199) (by decide +kernel) rfl, tm3 (i := 200) (by decide +kernel) rfl, tm3 (i := 201) (by decide +kernel) rfl⟩
theorem cv_X11_220 : ev_CV RX11 220 10 M_X11_findTop 1 := ⟨ok_X11_findTop, ⟨_, _, rfl⟩, tm3 (i := 209) (by decide +kernel) rfl, tm3 (i := 211) (by decide +kernel) rfl, tms (i := 7) (by decide +kernel) rfl⟩
theorem cv_X11_224 : ev_CV RX11 224 1 M_X1_leastRatio 0 := ⟨ok_X1_leastRatio, ⟨_, _, rfl⟩, tm4 (i := 21) (by decide +kernel) rfl, tm4 (i := 22) (by decide +kernel) rfl, tm4 (i := 23) (by decide +kernel) rfl⟩
theorem cv_X11_233 : ev_CV RX11 233 1 M_X1_findRegret 3 := ⟨ok_X1_findRegret, ⟨_, _, rfl⟩, tm4 (i := 29) (by decide +kernel) rfl, tm4 (i := 30) (by decide +kernel) rfl, tm4 (i := 31) (by decide +kernel) rfl⟩
theorem cu_X11_237_3 : ev_CU RX11 237 3 M_X3_bendsIn 1 := ⟨ok_X3_bendsIn, RX4, "PriceBench$Offer", ⟨"PriceBench$Offer", "bendsIn", "(LPriceBench$Window;)LPriceBench$Rows;"⟩, TX4, 7, rfl, tm3 (i := 213) (by decide +kernel) rfl, tm3 (i := 215) (by decide +kernel) rfl, tm3 (i := 216) (by decide +kernel) rfl, tm3 (i := 214) (by decide +kernel) rfl, ⟨by decide +kernel, by decide +kernel⟩, by decide +kernel, Or.inl rfl⟩
theorem cu_X11_237_6 : ev_CU RX11 237 6 M_X3_bendsIn 1 := ⟨ok_X3_bendsIn, RX7, "PriceBench$Offer", ⟨"PriceBench$Offer", "bendsIn", "(LPriceBench$Window;)LPriceBench$Rows;"⟩, TX7, 8, rfl, tm3 (i := 213) (by decide +kernel) rfl, tm3 (i := 215) (by decide +kernel) rfl, tm3 (i := 217) (by decide +kernel) rfl, tm3 (i := 214) (by decide +kernel) rfl, ⟨by decide +kernel, by decide +kernel⟩, by decide +kernel, Or.inl rfl⟩
theorem cu_X11_237_7 : ev_CU RX11 237 7 M_X3_bendsIn 1 := ⟨ok_X3_bendsIn, RX8, "PriceBench$Offer", ⟨"PriceBench$Offer", "bendsIn", "(LPriceBench$Window;)LPriceBench$Rows;"⟩, TX8, 6, rfl, tm3 (i := 213) (by decide +kernel) rfl, tm3 (i := 215) (by decide +kernel) rfl, tm3 (i := 218) (by decide +kernel) rfl, tm3 (i := 214) (by decide +kernel) rfl, ⟨by decide +kernel, by decide +kernel⟩, by decide +kernel, Or.inl rfl⟩
theorem cu_X11_237_8 : ev_CU RX11 237 8 M_X3_bendsIn 1 := ⟨ok_X3_bendsIn, RX9, "PriceBench$Offer", ⟨"PriceBench$Offer", "bendsIn", "(LPriceBench$Window;)LPriceBench$Rows;"⟩, TX9, 8, rfl, tm3 (i := 213) (by decide +kernel) rfl, tm3 (i := 215) (by decide +kernel) rfl, tm3 (i := 219) (by decide +kernel) rfl, tm3 (i := 214) (by decide +kernel) rfl, ⟨by decide +kernel, by decide +kernel⟩, by decide +kernel, Or.inl rfl⟩
theorem cu_X11_237 {ci : Nat} (hc : ev_isO ci) : ev_CU RX11 237 ci M_X3_bendsIn 1 := by
  rcases hc with rfl | rfl | rfl | rfl
  · exact cu_X11_237_3
  · exact cu_X11_237_6
  · exact cu_X11_237_7
  · exact cu_X11_237_8
theorem cv_X11_248 : ev_CV RX11 248 4 M_X5_number 2 := ⟨ok_X5_number, ⟨_, _, rfl⟩, tm4 (i := 9) (by decide +kernel) rfl, tm4 (i := 10) (by decide +kernel) rfl, tm4 (i := 11) (by decide +kernel) rfl⟩
theorem cv_X11_251 : ev_CV RX11 251 10 M_X11_isCalmer 3 := ⟨ok_X11_isCalmer, ⟨_, _, rfl⟩, tm4 (i := 38) (by decide +kernel) rfl, tm4 (i := 40) (by decide +kernel) rfl, tms (i := 10) (by decide +kernel) rfl⟩
theorem cv_X11_255 : ev_CV RX11 255 2 M_X2_dearestBetween 4 := ⟨ok_X2_dearestBetween, ⟨_, _, rfl⟩, tm4 (i := 46) (by decide +kernel) rfl, tm4 (i := 47) (by decide +kernel) rfl, tm4 (i := 48) (by decide +kernel) rfl⟩
theorem cv_X11_258 : ev_CV RX11 258 2 M_X2_lineCost 3 := ⟨ok_X2_lineCost, ⟨_, _, rfl⟩, tm4 (i := 59) (by decide +kernel) rfl, tm4 (i := 56) (by decide +kernel) rfl, tm4 (i := 57) (by decide +kernel) rfl⟩
theorem jl_X11_268 : Cond.methodLink RX11 268 yJ9_abs_067f4 ∈ ev_tb := tm3 (i := 142) (by decide +kernel) rfl
theorem cs_X11_274 : ev_CS RX11 274 M_X11_commonOf 2 := ⟨ok_X11_commonOf, tm3 (i := 145) (by decide +kernel) rfl, tm3 (i := 146) (by decide +kernel) rfl⟩
theorem cs_X11_278 : ev_CS RX11 278 M_X11_numberOrNo 3 := ⟨ok_X11_numberOrNo, tm4 (i := 68) (by decide +kernel) rfl, tm4 (i := 69) (by decide +kernel) rfl⟩
theorem cv_X11_282 : ev_CV RX11 282 4 M_X5_becomeLike 1 := ⟨ok_X5_becomeLike, ⟨_, _, rfl⟩, tm4 (i := 76) (by decide +kernel) rfl, tm4 (i := 77) (by decide +kernel) rfl, tm4 (i := 78) (by decide +kernel) rfl⟩
theorem cv_X11_286 : ev_CV RX11 286 4 M_X5_has 2 := ⟨ok_X5_has, ⟨_, _, rfl⟩, tm4 (i := 71) (by decide +kernel) rfl, tm4 (i := 14) (by decide +kernel) rfl, tm4 (i := 15) (by decide +kernel) rfl⟩
theorem cv_X11_291 : ev_CV RX11 291 4 M_X5_set 3 := ⟨ok_X5_set, ⟨_, _, rfl⟩, tm4 (i := 91) (by decide +kernel) rfl, tm4 (i := 92) (by decide +kernel) rfl, tm4 (i := 93) (by decide +kernel) rfl⟩
theorem cv_X11_294 : ev_CV RX11 294 10 M_X11_howWrong 2 := ⟨ok_X11_howWrong, ⟨_, _, rfl⟩, tm4 (i := 99) (by decide +kernel) rfl, tm4 (i := 101) (by decide +kernel) rfl, tms (i := 12) (by decide +kernel) rfl⟩
theorem jl_X11_298 : Cond.methodLink RX11 298 yJ9_abs_0f7a4 ∈ ev_tb := tm4 (i := 103) (by decide +kernel) rfl
theorem cv_X11_300 : ev_CV RX11 300 9 M_X10_holdsInside 2 := ⟨ok_X10_holdsInside, ⟨_, _, rfl⟩, tm4 (i := 106) (by decide +kernel) rfl, tm4 (i := 107) (by decide +kernel) rfl, tm4 (i := 108) (by decide +kernel) rfl⟩
theorem cv_X11_303 : ev_CV RX11 303 1 M_X1_costAt 3 := ⟨ok_X1_costAt, ⟨_, _, rfl⟩, tm4 (i := 111) (by decide +kernel) rfl, tm3 (i := 157) (by decide +kernel) rfl, tm3 (i := 158) (by decide +kernel) rfl⟩
theorem cv_X11_306 : ev_CV RX11 306 0 M_X0_forget 0 := ⟨ok_X0_forget, ⟨_, _, rfl⟩, tm4 (i := 116) (by decide +kernel) rfl, tm4 (i := 117) (by decide +kernel) rfl, tm4 (i := 118) (by decide +kernel) rfl⟩
theorem cv_X11_309 : ev_CV RX11 309 0 M_X0_start 3 := ⟨ok_X0_start, ⟨_, _, rfl⟩, tm4 (i := 120) (by decide +kernel) rfl, tm4 (i := 121) (by decide +kernel) rfl, tm4 (i := 122) (by decide +kernel) rfl⟩
theorem cv_X11_318 : ev_CV RX11 318 10 M_X11_sheetAt 1 := ⟨ok_X11_sheetAt, ⟨_, _, rfl⟩, tm4 (i := 148) (by decide +kernel) rfl, tm4 (i := 150) (by decide +kernel) rfl, tms (i := 14) (by decide +kernel) rfl⟩
theorem cv_X11_322 : ev_CV RX11 322 5 M_X6_become 2 := ⟨ok_X6_become, ⟨_, _, rfl⟩, tm4 (i := 152) (by decide +kernel) rfl, tm4 (i := 153) (by decide +kernel) rfl, tm4 (i := 154) (by decide +kernel) rfl⟩
theorem cv_X11_327 : ev_CV RX11 327 5 M_X6_holds 2 := ⟨ok_X6_holds, ⟨_, _, rfl⟩, tm4 (i := 163) (by decide +kernel) rfl, tm4 (i := 164) (by decide +kernel) rfl, tm4 (i := 165) (by decide +kernel) rfl⟩
theorem cv_X11_333 : ev_CV RX11 333 10 M_X11_line 4 := ⟨ok_X11_line, ⟨_, _, rfl⟩, tm4 (i := 171) (by decide +kernel) rfl, tm1 (i := 211) (by decide +kernel) rfl, tm1 (i := 212) (by decide +kernel) rfl⟩
theorem al_X11_336 : Cond.methodLink RX11 336 arraycopyName ∈ ev_tb := tm4 (i := 176) (by decide +kernel) rfl
theorem ol_X12_1 : Cond.methodLink RX12 1 Lib.objectInit ∈ ev_tb := tm4 (i := 182) (by decide +kernel) rfl
theorem cv_X12_78 : ev_CV RX12 78 11 M_X12_lines 0 := ⟨ok_X12_lines, ⟨_, _, rfl⟩, tm5 (i := 78) (by decide +kernel) rfl, tm5 (i := 80) (by decide +kernel) rfl, tms (i := 18) (by decide +kernel) rfl⟩
theorem cv_X12_82 : ev_CV RX12 82 11 M_X12_things 0 := ⟨ok_X12_things, ⟨_, _, rfl⟩, tm5 (i := 56) (by decide +kernel) rfl, tm5 (i := 58) (by decide +kernel) rfl, tms (i := 15) (by decide +kernel) rfl⟩
theorem cs_X12_85 : ev_CS RX12 85 M_X12_in 3 := ⟨ok_X12_in, tm5 (i := 72) (by decide +kernel) rfl, tm5 (i := 73) (by decide +kernel) rfl⟩
theorem cs_X12_92 : ev_CS RX12 92 M_X12_common 2 := ⟨ok_X12_common, tm5 (i := 211) (by decide +kernel) rfl, tm5 (i := 212) (by decide +kernel) rfl⟩
theorem cv_X12_100 : ev_CV RX12 100 11 M_X12_keeps 0 := ⟨ok_X12_keeps, ⟨_, _, rfl⟩, tm5 (i := 60) (by decide +kernel) rfl, tm5 (i := 62) (by decide +kernel) rfl, tms (i := 16) (by decide +kernel) rfl⟩
theorem cv_X12_103 : ev_CV RX12 103 11 M_X12_isThing 1 := ⟨ok_X12_isThing, ⟨_, _, rfl⟩, tm5 (i := 68) (by decide +kernel) rfl, tm5 (i := 70) (by decide +kernel) rfl, tms (i := 17) (by decide +kernel) rfl⟩
theorem cs_X12_107 : ev_CS RX12 107 M_X12_areTold 2 := ⟨ok_X12_areTold, tm5 (i := 75) (by decide +kernel) rfl, tm5 (i := 76) (by decide +kernel) rfl⟩
theorem cv_X12_111 : ev_CV RX12 111 11 M_X12_made 3 := ⟨ok_X12_made, ⟨_, _, rfl⟩, tm5 (i := 102) (by decide +kernel) rfl, tm5 (i := 104) (by decide +kernel) rfl, tms (i := 19) (by decide +kernel) rfl⟩
theorem cv_X12_115 : ev_CV RX12 115 11 M_X12_isOffer 1 := ⟨ok_X12_isOffer, ⟨_, _, rfl⟩, tm5 (i := 110) (by decide +kernel) rfl, tm5 (i := 112) (by decide +kernel) rfl, tms (i := 20) (by decide +kernel) rfl⟩
theorem cv_X12_118 : ev_CV RX12 118 11 M_X12_from 1 := ⟨ok_X12_from, ⟨_, _, rfl⟩, tm5 (i := 156) (by decide +kernel) rfl, tm5 (i := 158) (by decide +kernel) rfl, tms (i := 26) (by decide +kernel) rfl⟩
theorem cv_X12_122 : ev_CV RX12 122 11 M_X12_to 1 := ⟨ok_X12_to, ⟨_, _, rfl⟩, tm5 (i := 160) (by decide +kernel) rfl, tm5 (i := 162) (by decide +kernel) rfl, tms (i := 27) (by decide +kernel) rfl⟩
theorem cs_X12_125 : ev_CS RX12 125 M_X12_bits 1 := ⟨ok_X12_bits, tm5 (i := 149) (by decide +kernel) rfl, tm5 (i := 150) (by decide +kernel) rfl⟩
theorem cv_X12_128 : ev_CV RX12 128 11 M_X12_reached 3 := ⟨ok_X12_reached, ⟨_, _, rfl⟩, tm5 (i := 152) (by decide +kernel) rfl, tm5 (i := 154) (by decide +kernel) rfl, tms (i := 25) (by decide +kernel) rfl⟩
theorem cv_X12_132 : ev_CV RX12 132 11 M_X12_allThings 0 := ⟨ok_X12_allThings, ⟨_, _, rfl⟩, tm5 (i := 164) (by decide +kernel) rfl, tm5 (i := 166) (by decide +kernel) rfl, tms (i := 28) (by decide +kernel) rfl⟩
theorem cv_X12_135 : ev_CV RX12 135 11 M_X12_allLines 0 := ⟨ok_X12_allLines, ⟨_, _, rfl⟩, tm5 (i := 141) (by decide +kernel) rfl, tm5 (i := 143) (by decide +kernel) rfl, tms (i := 23) (by decide +kernel) rfl⟩
theorem cv_X12_138 : ev_CV RX12 138 11 M_X12_isTree 1 := ⟨ok_X12_isTree, ⟨_, _, rfl⟩, tm5 (i := 145) (by decide +kernel) rfl, tm5 (i := 147) (by decide +kernel) rfl, tms (i := 24) (by decide +kernel) rfl⟩
theorem cv_X12_141 : ev_CV RX12 141 11 M_X12_isWay 3 := ⟨ok_X12_isWay, ⟨_, _, rfl⟩, tm5 (i := 168) (by decide +kernel) rfl, tm5 (i := 170) (by decide +kernel) rfl, tms (i := 29) (by decide +kernel) rfl⟩
theorem cv_X12_144 : ev_CV RX12 144 11 M_X12_isPairing 2 := ⟨ok_X12_isPairing, ⟨_, _, rfl⟩, tm5 (i := 172) (by decide +kernel) rfl, tm5 (i := 174) (by decide +kernel) rfl, tms (i := 30) (by decide +kernel) rfl⟩
theorem cv_X12_147 : ev_CV RX12 147 11 M_X12_isTold 2 := ⟨ok_X12_isTold, ⟨_, _, rfl⟩, tm5 (i := 176) (by decide +kernel) rfl, tm5 (i := 178) (by decide +kernel) rfl, tms (i := 31) (by decide +kernel) rfl⟩
theorem cs_X12_153 : ev_CS RX12 153 M_X12_ordered 1 := ⟨ok_X12_ordered, tm5 (i := 134) (by decide +kernel) rfl, tm5 (i := 135) (by decide +kernel) rfl⟩
theorem cv_X12_156 : ev_CV RX12 156 11 M_X12_isChoice 2 := ⟨ok_X12_isChoice, ⟨_, _, rfl⟩, tm5 (i := 137) (by decide +kernel) rfl, tm5 (i := 139) (by decide +kernel) rfl, tms (i := 22) (by decide +kernel) rfl⟩
theorem cv_X12_159 : ev_CV RX12 159 11 M_X12_startOf 1 := ⟨ok_X12_startOf, ⟨_, _, rfl⟩, tm5 (i := 180) (by decide +kernel) rfl, tm5 (i := 182) (by decide +kernel) rfl, tms (i := 32) (by decide +kernel) rfl⟩
theorem cv_X12_162 : ev_CV RX12 162 11 M_X12_riseOf 1 := ⟨ok_X12_riseOf, ⟨_, _, rfl⟩, tm5 (i := 184) (by decide +kernel) rfl, tm5 (i := 186) (by decide +kernel) rfl, tms (i := 33) (by decide +kernel) rfl⟩
theorem cv_X12_165 : ev_CV RX12 165 11 M_X12_beside 1 := ⟨ok_X12_beside, ⟨_, _, rfl⟩, tm5 (i := 192) (by decide +kernel) rfl, tm5 (i := 194) (by decide +kernel) rfl, tms (i := 35) (by decide +kernel) rfl⟩
theorem cv_X12_168 : ev_CV RX12 168 11 M_X12_gathers 1 := ⟨ok_X12_gathers, ⟨_, _, rfl⟩, tm5 (i := 130) (by decide +kernel) rfl, tm5 (i := 132) (by decide +kernel) rfl, tms (i := 21) (by decide +kernel) rfl⟩
theorem cv_X12_172 : ev_CV RX12 172 11 M_X12_barsOf 1 := ⟨ok_X12_barsOf, ⟨_, _, rfl⟩, tm5 (i := 188) (by decide +kernel) rfl, tm5 (i := 190) (by decide +kernel) rfl, tms (i := 34) (by decide +kernel) rfl⟩
theorem cs_X12_175 : ev_CS RX12 175 M_X12_isPrice 2 := ⟨ok_X12_isPrice, tm5 (i := 204) (by decide +kernel) rfl, tm5 (i := 205) (by decide +kernel) rfl⟩
theorem cs_X12_180 : ev_CS RX12 180 M_X12_lowest 3 := ⟨ok_X12_lowest, tm5 (i := 208) (by decide +kernel) rfl, tm5 (i := 209) (by decide +kernel) rfl⟩
theorem cv_X12_184 : ev_CV RX12 184 11 M_X12_costAt 3 := ⟨ok_X12_costAt, ⟨_, _, rfl⟩, tm5 (i := 226) (by decide +kernel) rfl, tm5 (i := 228) (by decide +kernel) rfl, tms (i := 38) (by decide +kernel) rfl⟩
theorem cv_X12_188 : ev_CV RX12 188 11 M_X12_leastAt 2 := ⟨ok_X12_leastAt, ⟨_, _, rfl⟩, tm5 (i := 222) (by decide +kernel) rfl, tm5 (i := 224) (by decide +kernel) rfl, tms (i := 37) (by decide +kernel) rfl⟩
theorem cv_X12_191 : ev_CV RX12 191 11 M_X12_bestAt 3 := ⟨ok_X12_bestAt, ⟨_, _, rfl⟩, tm5 (i := 218) (by decide +kernel) rfl, tm5 (i := 220) (by decide +kernel) rfl, tms (i := 36) (by decide +kernel) rfl⟩
theorem cv_X12_201 : ev_CV RX12 201 11 M_X12_point 2 := ⟨ok_X12_point, ⟨_, _, rfl⟩, tm6 (i := 10) (by decide +kernel) rfl, tm6 (i := 12) (by decide +kernel) rfl, tms (i := 41) (by decide +kernel) rfl⟩
theorem cv_X12_205 : ev_CV RX12 205 11 M_X12_walks 0 := ⟨ok_X12_walks, ⟨_, _, rfl⟩, tm6 (i := 6) (by decide +kernel) rfl, tm6 (i := 8) (by decide +kernel) rfl, tms (i := 40) (by decide +kernel) rfl⟩
theorem cv_X12_208 : ev_CV RX12 208 11 M_X12_prepares 1 := ⟨ok_X12_prepares, ⟨_, _, rfl⟩, tm6 (i := 2) (by decide +kernel) rfl, tm6 (i := 4) (by decide +kernel) rfl, tms (i := 39) (by decide +kernel) rfl⟩
theorem cv_X12_211 : ev_CV RX12 211 11 M_X12_bendOf 2 := ⟨ok_X12_bendOf, ⟨_, _, rfl⟩, tm6 (i := 18) (by decide +kernel) rfl, tm6 (i := 20) (by decide +kernel) rfl, tms (i := 42) (by decide +kernel) rfl⟩
theorem cv_X12_228 : ev_CV RX12 228 11 M_X12_placeOf 1 := ⟨ok_X12_placeOf, ⟨_, _, rfl⟩, tm6 (i := 26) (by decide +kernel) rfl, tm6 (i := 28) (by decide +kernel) rfl, tms (i := 43) (by decide +kernel) rfl⟩
theorem cv_X12_231 : ev_CV RX12 231 11 M_X12_spans 1 := ⟨ok_X12_spans, ⟨_, _, rfl⟩, tm6 (i := 30) (by decide +kernel) rfl, tm6 (i := 32) (by decide +kernel) rfl, tms (i := 44) (by decide +kernel) rfl⟩
theorem cv_X12_240 : ev_CV RX12 240 11 M_X12_regrets 1 := ⟨ok_X12_regrets, ⟨_, _, rfl⟩, tm6 (i := 46) (by decide +kernel) rfl, tm6 (i := 48) (by decide +kernel) rfl, tms (i := 45) (by decide +kernel) rfl⟩
theorem cv_X12_243 : ev_CV RX12 243 11 M_X12_lineCost 3 := ⟨ok_X12_lineCost, ⟨_, _, rfl⟩, tm6 (i := 62) (by decide +kernel) rfl, tm6 (i := 64) (by decide +kernel) rfl, tms (i := 47) (by decide +kernel) rfl⟩
theorem cv_X12_247 : ev_CV RX12 247 11 M_X12_dearest 4 := ⟨ok_X12_dearest, ⟨_, _, rfl⟩, tm6 (i := 58) (by decide +kernel) rfl, tm6 (i := 60) (by decide +kernel) rfl, tms (i := 46) (by decide +kernel) rfl⟩
theorem cv_X12_262 : ev_CV RX12 262 11 M_X12_wrong 1 := ⟨ok_X12_wrong, ⟨_, _, rfl⟩, tm6 (i := 84) (by decide +kernel) rfl, tm6 (i := 86) (by decide +kernel) rfl, tms (i := 48) (by decide +kernel) rfl⟩
theorem cv_X12_268 : ev_CV RX12 268 11 M_X12_ran 1 := ⟨ok_X12_ran, ⟨_, _, rfl⟩, tm6 (i := 103) (by decide +kernel) rfl, tm6 (i := 105) (by decide +kernel) rfl, tms (i := 51) (by decide +kernel) rfl⟩
theorem cv_X12_274 : ev_CV RX12 274 11 M_X12_treeAsks 2 := ⟨ok_X12_treeAsks, ⟨_, _, rfl⟩, tm6 (i := 99) (by decide +kernel) rfl, tm6 (i := 101) (by decide +kernel) rfl, tms (i := 50) (by decide +kernel) rfl⟩
theorem cv_X12_278 : ev_CV RX12 278 11 M_X12_asks 2 := ⟨ok_X12_asks, ⟨_, _, rfl⟩, tm6 (i := 95) (by decide +kernel) rfl, tm6 (i := 97) (by decide +kernel) rfl, tms (i := 49) (by decide +kernel) rfl⟩
theorem cv_X12_281 : ev_CV RX12 281 11 M_X12_toldShows 2 := ⟨ok_X12_toldShows, ⟨_, _, rfl⟩, tm6 (i := 111) (by decide +kernel) rfl, tm6 (i := 113) (by decide +kernel) rfl, tms (i := 53) (by decide +kernel) rfl⟩
theorem cv_X12_284 : ev_CV RX12 284 11 M_X12_shows 2 := ⟨ok_X12_shows, ⟨_, _, rfl⟩, tm6 (i := 107) (by decide +kernel) rfl, tm6 (i := 109) (by decide +kernel) rfl, tms (i := 52) (by decide +kernel) rfl⟩
theorem cv_X12_287 : ev_CV RX12 287 11 M_X12_toldTurns 2 := ⟨ok_X12_toldTurns, ⟨_, _, rfl⟩, tm6 (i := 119) (by decide +kernel) rfl, tm6 (i := 121) (by decide +kernel) rfl, tms (i := 55) (by decide +kernel) rfl⟩
theorem cv_X12_290 : ev_CV RX12 290 11 M_X12_turns 2 := ⟨ok_X12_turns, ⟨_, _, rfl⟩, tm6 (i := 115) (by decide +kernel) rfl, tm6 (i := 117) (by decide +kernel) rfl, tms (i := 54) (by decide +kernel) rfl⟩
theorem cs_X12_293 : ev_CS RX12 293 M_X12_isSheet 1 := ⟨ok_X12_isSheet, tm6 (i := 135) (by decide +kernel) rfl, tm6 (i := 136) (by decide +kernel) rfl⟩
theorem cv_X12_296 : ev_CV RX12 296 11 M_X12_line 4 := ⟨ok_X12_line, ⟨_, _, rfl⟩, tm6 (i := 146) (by decide +kernel) rfl, tm5 (i := 65) (by decide +kernel) rfl, tm5 (i := 66) (by decide +kernel) rfl⟩
theorem ol_X2_3 : Cond.methodLink RX2 3 Lib.objectInit ∈ ev_tb := tm1 (i := 31) (by decide +kernel) rfl
theorem cv_X2_34 : ev_CV RX2 34 2 M_X2_changed 1 := ⟨ok_X2_changed, ⟨_, _, rfl⟩, tm1 (i := 206) (by decide +kernel) rfl, tm1 (i := 208) (by decide +kernel) rfl, tms (i := 0) (by decide +kernel) rfl⟩
theorem cv_X2_38 : ev_CV RX2 38 2 M_X2_isLine 1 := ⟨ok_X2_isLine, ⟨_, _, rfl⟩, tm1 (i := 237) (by decide +kernel) rfl, tm1 (i := 230) (by decide +kernel) rfl, tm1 (i := 231) (by decide +kernel) rfl⟩
theorem cv_X2_51 : ev_CV RX2 51 2 M_X2_changeLine 3 := ⟨ok_X2_changeLine, ⟨_, _, rfl⟩, tm2 (i := 33) (by decide +kernel) rfl, tm1 (i := 234) (by decide +kernel) rfl, tm1 (i := 235) (by decide +kernel) rfl⟩
theorem cv_X2_58 : ev_CV RX2 58 2 M_X2_isBetween 3 := ⟨ok_X2_isBetween, ⟨_, _, rfl⟩, tm4 (i := 50) (by decide +kernel) rfl, tm4 (i := 52) (by decide +kernel) rfl, tms (i := 11) (by decide +kernel) rfl⟩
theorem cv_X2_62 : ev_CV RX2 62 2 M_X2_lineCost 3 := ⟨ok_X2_lineCost, ⟨_, _, rfl⟩, tm4 (i := 55) (by decide +kernel) rfl, tm4 (i := 56) (by decide +kernel) rfl, tm4 (i := 57) (by decide +kernel) rfl⟩
theorem cv_X2_66 : ev_CV RX2 66 2 M_X2_hangingWith 2 := ⟨ok_X2_hangingWith, ⟨_, _, rfl⟩, tm4 (i := 54) (by decide +kernel) rfl, tm3 (i := 74) (by decide +kernel) rfl, tm3 (i := 75) (by decide +kernel) rfl⟩
theorem ol_X3_3 : Cond.methodLink RX3 3 Lib.objectInit ∈ ev_tb := tm2 (i := 54) (by decide +kernel) rfl
theorem ci_X3_11 : ev_CIN RX3 11 M_X1_init 0 := ⟨ok_X1_init, ⟨"PriceBench", List.mem_filter.mpr ⟨tn2 (i := 57) (by decide +kernel), rfl⟩⟩, tm2 (i := 58) (by decide +kernel) rfl, rfl, rfl⟩
theorem ci_X3_20 : ev_CIN RX3 20 M_X5_init 0 := ⟨ok_X5_init, ⟨"PriceBench", List.mem_filter.mpr ⟨tn2 (i := 84) (by decide +kernel), rfl⟩⟩, tm1 (i := 127) (by decide +kernel) rfl, rfl, rfl⟩
theorem cv_X3_43 : ev_CV RX3 43 1 M_X1_clear 0 := ⟨ok_X1_clear, ⟨_, _, rfl⟩, tm2 (i := 143) (by decide +kernel) rfl, tm2 (i := 144) (by decide +kernel) rfl, tm2 (i := 145) (by decide +kernel) rfl⟩
theorem cu_X3_46_3 : ev_CU RX3 46 3 M_X4_gather 1 := ⟨ok_X4_gather, RX4, "PriceBench$Offer", ⟨"PriceBench$Offer", "gather", "(LPriceBench$Net;)V"⟩, TX4, 7, rfl, tm2 (i := 147) (by decide +kernel) rfl, tm2 (i := 149) (by decide +kernel) rfl, tm2 (i := 150) (by decide +kernel) rfl, tm2 (i := 151) (by decide +kernel) rfl, ⟨by decide +kernel, by decide +kernel⟩, by decide +kernel, Or.inr (List.mem_filter.mpr ⟨tn2 (i := 148) (by decide +kernel), rfl⟩)⟩
theorem cu_X3_46_6 : ev_CU RX3 46 6 M_X7_gather 1 := ⟨ok_X7_gather, RX7, "PriceBench$Offer", ⟨"PriceBench$Offer", "gather", "(LPriceBench$Net;)V"⟩, TX7, 8, rfl, tm2 (i := 147) (by decide +kernel) rfl, tm2 (i := 149) (by decide +kernel) rfl, tm2 (i := 191) (by decide +kernel) rfl, tm2 (i := 192) (by decide +kernel) rfl, ⟨by decide +kernel, by decide +kernel⟩, by decide +kernel, Or.inr (List.mem_filter.mpr ⟨tn2 (i := 148) (by decide +kernel), rfl⟩)⟩
theorem cu_X3_46_7 : ev_CU RX3 46 7 M_X8_gather 1 := ⟨ok_X8_gather, RX8, "PriceBench$Offer", ⟨"PriceBench$Offer", "gather", "(LPriceBench$Net;)V"⟩, TX8, 6, rfl, tm2 (i := 147) (by decide +kernel) rfl, tm2 (i := 149) (by decide +kernel) rfl, tm2 (i := 195) (by decide +kernel) rfl, tm2 (i := 196) (by decide +kernel) rfl, ⟨by decide +kernel, by decide +kernel⟩, by decide +kernel, Or.inr (List.mem_filter.mpr ⟨tn2 (i := 148) (by decide +kernel), rfl⟩)⟩
theorem cu_X3_46_8 : ev_CU RX3 46 8 M_X9_gather 1 := ⟨ok_X9_gather, RX9, "PriceBench$Offer", ⟨"PriceBench$Offer", "gather", "(LPriceBench$Net;)V"⟩, TX9, 8, rfl, tm2 (i := 147) (by decide +kernel) rfl, tm2 (i := 149) (by decide +kernel) rfl, tm2 (i := 209) (by decide +kernel) rfl, tm2 (i := 210) (by decide +kernel) rfl, ⟨by decide +kernel, by decide +kernel⟩, by decide +kernel, Or.inr (List.mem_filter.mpr ⟨tn2 (i := 148) (by decide +kernel), rfl⟩)⟩
theorem cv_X3_53 : ev_CV RX3 53 4 M_X5_clear 0 := ⟨ok_X5_clear, ⟨_, _, rfl⟩, tm3 (i := 221) (by decide +kernel) rfl, tm3 (i := 222) (by decide +kernel) rfl, tm3 (i := 223) (by decide +kernel) rfl⟩
theorem cu_X3_54_3 : ev_CU RX3 54 3 M_X3_findBends 1 := ⟨ok_X3_findBends, RX4, "PriceBench$Offer", ⟨"PriceBench$Offer", "findBends", "(LPriceBench$Window;)V"⟩, TX4, 7, rfl, tm3 (i := 225) (by decide +kernel) rfl, tm6 (i := 155) (by decide +kernel) rfl, ev_memx (List.mem_of_getElem? (i := 0) rfl) rfl, tm3 (i := 227) (by decide +kernel) rfl, ⟨by decide +kernel, by decide +kernel⟩, by decide +kernel, Or.inl rfl⟩
theorem cu_X3_54_6 : ev_CU RX3 54 6 M_X3_findBends 1 := ⟨ok_X3_findBends, RX7, "PriceBench$Offer", ⟨"PriceBench$Offer", "findBends", "(LPriceBench$Window;)V"⟩, TX7, 8, rfl, tm3 (i := 225) (by decide +kernel) rfl, tm6 (i := 155) (by decide +kernel) rfl, ev_memx (List.mem_of_getElem? (i := 1) rfl) rfl, tm3 (i := 227) (by decide +kernel) rfl, ⟨by decide +kernel, by decide +kernel⟩, by decide +kernel, Or.inl rfl⟩
theorem cu_X3_54_7 : ev_CU RX3 54 7 M_X3_findBends 1 := ⟨ok_X3_findBends, RX8, "PriceBench$Offer", ⟨"PriceBench$Offer", "findBends", "(LPriceBench$Window;)V"⟩, TX8, 6, rfl, tm3 (i := 225) (by decide +kernel) rfl, tm6 (i := 155) (by decide +kernel) rfl, ev_memx (List.mem_of_getElem? (i := 2) rfl) rfl, tm3 (i := 227) (by decide +kernel) rfl, ⟨by decide +kernel, by decide +kernel⟩, by decide +kernel, Or.inl rfl⟩
theorem cu_X3_54_8 : ev_CU RX3 54 8 M_X3_findBends 1 := ⟨ok_X3_findBends, RX9, "PriceBench$Offer", ⟨"PriceBench$Offer", "findBends", "(LPriceBench$Window;)V"⟩, TX9, 8, rfl, tm3 (i := 225) (by decide +kernel) rfl, tm6 (i := 155) (by decide +kernel) rfl, ev_memx (List.mem_of_getElem? (i := 3) rfl) rfl, tm3 (i := 227) (by decide +kernel) rfl, ⟨by decide +kernel, by decide +kernel⟩, by decide +kernel, Or.inl rfl⟩
theorem cu_X3_54 {ci : Nat} (hc : ev_isO ci) : ev_CU RX3 54 ci M_X3_findBends 1 := by
  rcases hc with rfl | rfl | rfl | rfl
  · exact cu_X3_54_3
  · exact cu_X3_54_6
  · exact cu_X3_54_7
  · exact cu_X3_54_8
theorem cv_X3_64 : ev_CV RX3 64 1 M_X1_cheapestAt 3 := ⟨ok_X1_cheapestAt, ⟨_, _, rfl⟩, tm3 (i := 229) (by decide +kernel) rfl, tm3 (i := 153) (by decide +kernel) rfl, tm3 (i := 154) (by decide +kernel) rfl⟩
theorem cv_X3_71 : ev_CV RX3 71 1 M_X1_nextAbove 1 := ⟨ok_X1_nextAbove, ⟨_, _, rfl⟩, tm3 (i := 230) (by decide +kernel) rfl, tm3 (i := 231) (by decide +kernel) rfl, tm3 (i := 232) (by decide +kernel) rfl⟩
theorem cs_X3_88 : ev_CSN RX3 88 M_X11_isLess 4 := ⟨ok_X11_isLess, ⟨"PriceBench", List.mem_filter.mpr ⟨tn3 (i := 238) (by decide +kernel), rfl⟩⟩, tm3 (i := 182) (by decide +kernel) rfl⟩
theorem cv_X3_95 : ev_CV RX3 95 4 M_X5_put 4 := ⟨ok_X5_put, ⟨_, _, rfl⟩, tm3 (i := 239) (by decide +kernel) rfl, tm4 (i := 0) (by decide +kernel) rfl, tm4 (i := 1) (by decide +kernel) rfl⟩
theorem ci_X4_3 : ev_CI RX4 3 M_X3_init 2 := ⟨ok_X3_init, tm3 (i := 36) (by decide +kernel) rfl, tm2 (i := 52) (by decide +kernel) rfl, rfl, rfl⟩
theorem cv_X4_15 : ev_CV RX4 15 2 M_X2_allThings 0 := ⟨ok_X2_allThings, ⟨_, _, rfl⟩, tm2 (i := 153) (by decide +kernel) rfl, tm2 (i := 154) (by decide +kernel) rfl, tm2 (i := 155) (by decide +kernel) rfl⟩
theorem cs_X4_21 : ev_CS RX4 21 M_X4_pair 5 := ⟨ok_X4_pair, tm2 (i := 157) (by decide +kernel) rfl, tm2 (i := 158) (by decide +kernel) rfl⟩
theorem cv_X4_29 : ev_CV RX4 29 1 M_X1_put 2 := ⟨ok_X1_put, ⟨_, _, rfl⟩, tm2 (i := 160) (by decide +kernel) rfl, tm2 (i := 161) (by decide +kernel) rfl, tm2 (i := 162) (by decide +kernel) rfl⟩
theorem cs_X4_45 : ev_CS RX4 45 M_J6_bitCount_0f7a4 1 := ⟨ok_J6_bitCount_0f7a4, tm3 (i := 57) (by decide +kernel) rfl, tm3 (i := 58) (by decide +kernel) rfl⟩
theorem cv_X4_51 : ev_CV RX4 51 2 M_X2_beside 2 := ⟨ok_X2_beside, ⟨_, _, rfl⟩, tm3 (i := 63) (by decide +kernel) rfl, tm3 (i := 64) (by decide +kernel) rfl, tm3 (i := 65) (by decide +kernel) rfl⟩
theorem ol_X5_1 : Cond.methodLink RX5 1 Lib.objectInit ∈ ev_tb := tm1 (i := 129) (by decide +kernel) rfl
theorem cv_X5_17 : ev_CV RX5 17 4 M_X5_has 2 := ⟨ok_X5_has, ⟨_, _, rfl⟩, tm4 (i := 13) (by decide +kernel) rfl, tm4 (i := 14) (by decide +kernel) rfl, tm4 (i := 15) (by decide +kernel) rfl⟩
theorem cv_X5_21 : ev_CV RX5 21 4 M_X5_makeRoomFor 1 := ⟨ok_X5_makeRoomFor, ⟨_, _, rfl⟩, tm4 (i := 3) (by decide +kernel) rfl, tm4 (i := 5) (by decide +kernel) rfl, tms (i := 9) (by decide +kernel) rfl⟩
theorem cs_X5_25 : ev_CSN RX5 25 M_X11_lowest 3 := ⟨ok_X11_lowest, ⟨"PriceBench", List.mem_filter.mpr ⟨tn4 (i := 8) (by decide +kernel), rfl⟩⟩, tm3 (i := 140) (by decide +kernel) rfl⟩
theorem al_X5_31 : Cond.methodLink RX5 31 arraycopyName ∈ ev_tb := tm4 (i := 80) (by decide +kernel) rfl
theorem cs_X5_37 : ev_CS RX5 37 M_J7_copyOf_59c91 2 := ⟨ok_J7_copyOf_59c91, tm4 (i := 7) (by decide +kernel) rfl, tm2 (i := 169) (by decide +kernel) rfl⟩
theorem ol_X6_3 : Cond.methodLink RX6 3 Lib.objectInit ∈ ev_tb := tm1 (i := 159) (by decide +kernel) rfl
theorem cs_X6_22 : ev_CS RX6 22 M_J7_fill_d0a16 2 := ⟨ok_J7_fill_d0a16, tm4 (i := 156) (by decide +kernel) rfl, tm4 (i := 157) (by decide +kernel) rfl⟩
theorem ci_X7_3 : ev_CI RX7 3 M_X3_init 2 := ⟨ok_X3_init, tm2 (i := 51) (by decide +kernel) rfl, tm2 (i := 52) (by decide +kernel) rfl, rfl, rfl⟩
theorem cu_X7_19_6 : ev_CU RX7 19 6 M_X3_outdate 0 := ⟨ok_X3_outdate, RX7, "PriceBench$Offer", ⟨"PriceBench$Told", "outdate", "()V"⟩, TX7, 8, rfl, tm2 (i := 220) (by decide +kernel) rfl, tm2 (i := 221) (by decide +kernel) rfl, tm2 (i := 223) (by decide +kernel) rfl, tm2 (i := 224) (by decide +kernel) rfl, ⟨by decide +kernel, by decide +kernel⟩, by decide +kernel, Or.inl rfl⟩
theorem cv_X7_32 : ev_CV RX7 32 1 M_X1_put 2 := ⟨ok_X1_put, ⟨_, _, rfl⟩, tm2 (i := 194) (by decide +kernel) rfl, tm2 (i := 161) (by decide +kernel) rfl, tm2 (i := 162) (by decide +kernel) rfl⟩
theorem ci_X8_3 : ev_CI RX8 3 M_X3_init 2 := ⟨ok_X3_init, tm2 (i := 235) (by decide +kernel) rfl, tm2 (i := 52) (by decide +kernel) rfl, rfl, rfl⟩
theorem cs_X8_18 : ev_CS RX8 18 M_X8_grow 6 := ⟨ok_X8_grow, tm2 (i := 199) (by decide +kernel) rfl, tm2 (i := 200) (by decide +kernel) rfl⟩
theorem cv_X8_26 : ev_CV RX8 26 1 M_X1_put 2 := ⟨ok_X1_put, ⟨_, _, rfl⟩, tm2 (i := 202) (by decide +kernel) rfl, tm2 (i := 161) (by decide +kernel) rfl, tm2 (i := 162) (by decide +kernel) rfl⟩
theorem cs_X8_39 : ev_CS RX8 39 M_X8_groupOf 2 := ⟨ok_X8_groupOf, tm2 (i := 203) (by decide +kernel) rfl, tm2 (i := 204) (by decide +kernel) rfl⟩
theorem cs_X8_46 : ev_CS RX8 46 M_X8_join 4 := ⟨ok_X8_join, tm2 (i := 206) (by decide +kernel) rfl, tm2 (i := 207) (by decide +kernel) rfl⟩
theorem cv_X8_50 : ev_CV RX8 50 2 M_X2_hangingWith 2 := ⟨ok_X2_hangingWith, ⟨_, _, rfl⟩, tm3 (i := 73) (by decide +kernel) rfl, tm3 (i := 74) (by decide +kernel) rfl, tm3 (i := 75) (by decide +kernel) rfl⟩
theorem ci_X9_3 : ev_CI RX9 3 M_X3_init 2 := ⟨ok_X3_init, tm3 (i := 12) (by decide +kernel) rfl, tm2 (i := 52) (by decide +kernel) rfl, rfl, rfl⟩
theorem cs_X9_23 : ev_CS RX9 23 M_X9_walk 6 := ⟨ok_X9_walk, tm2 (i := 212) (by decide +kernel) rfl, tm2 (i := 213) (by decide +kernel) rfl⟩
theorem cv_X9_31 : ev_CV RX9 31 1 M_X1_put 2 := ⟨ok_X1_put, ⟨_, _, rfl⟩, tm2 (i := 215) (by decide +kernel) rfl, tm2 (i := 161) (by decide +kernel) rfl, tm2 (i := 162) (by decide +kernel) rfl⟩
theorem cv_X9_47 : ev_CV RX9 47 2 M_X2_ledToFrom 1 := ⟨ok_X2_ledToFrom, ⟨_, _, rfl⟩, tm3 (i := 80) (by decide +kernel) rfl, tm3 (i := 81) (by decide +kernel) rfl, tm3 (i := 82) (by decide +kernel) rfl⟩
theorem kc_X8_17 : Cond.constant RX8 17 (1754760 : Int32) ∈ lw_tbl := tn2 (i := 198) (by decide +kernel)
theorem kc_J6_265 : Cond.constant RJ6 265 (1431655765 : Int32) ∈ lw_tbl := tn3 (i := 60) (by decide +kernel)
theorem kc_J6_266 : Cond.constant RJ6 266 (858993459 : Int32) ∈ lw_tbl := tn3 (i := 61) (by decide +kernel)
theorem kc_J6_267 : Cond.constant RJ6 267 (252645135 : Int32) ∈ lw_tbl := tn3 (i := 62) (by decide +kernel)
theorem kc_X11_177 : Cond.constantLong RX11 177 (-4611686018427387904 : Int64) ∈ lw_tbl := tn3 (i := 137) (by decide +kernel)
theorem kc_X11_289 : Cond.constant RX11 289 (-1000000 : Int32) ∈ lw_tbl := tn4 (i := 89) (by decide +kernel)
theorem kc_X11_290 : Cond.constant RX11 290 (1000000 : Int32) ∈ lw_tbl := tn4 (i := 90) (by decide +kernel)
theorem kc_X12_178 : Cond.constantLong RX12 178 (-4611686018427387904 : Int64) ∈ lw_tbl := tn5 (i := 207) (by decide +kernel)
theorem kc_X12_254 : Cond.constant RX12 254 (-1000000 : Int32) ∈ lw_tbl := tn6 (i := 78) (by decide +kernel)
theorem kc_X12_255 : Cond.constant RX12 255 (1000000 : Int32) ∈ lw_tbl := tn6 (i := 79) (by decide +kernel)
theorem kc_X12_256 : Cond.constantLong RX12 256 (-10000 : Int64) ∈ lw_tbl := tn6 (i := 88) (by decide +kernel)
theorem kc_X12_258 : Cond.constantLong RX12 258 (10000 : Int64) ∈ lw_tbl := tn6 (i := 89) (by decide +kernel)
theorem kc_X12_260 : Cond.constantLong RX12 260 (1000 : Int64) ∈ lw_tbl := tn6 (i := 90) (by decide +kernel)
