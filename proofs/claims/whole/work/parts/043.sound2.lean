/-! SOUNDNESS OF THE PURE MACHINE, part 2: what the tables must say of an operation; one operation -/
def stR : List (String × Nat × String) := [("DeadStick$Text", 92, "left right slower faster if or and not height speed heading tick ground houses clear "), ("DeadStickModel", 39, "left"), ("DeadStickModel", 41, "right"), ("DeadStickModel", 43, "slower"), ("DeadStickModel", 45, "faster"), ("DeadStickModel", 51, "height"), ("DeadStickModel", 53, "speed"), ("DeadStickModel", 55, "heading"), ("DeadStickModel", 57, "tick"), ("DeadStickModel", 59, "ground"), ("DeadStickModel", 61, "houses"), ("DeadStickModel", 63, "clear"), ("DeadStickModel", 320, "if"), ("DeadStickModel", 303, "not"), ("DeadStickModel", 293, "and"), ("DeadStickModel", 285, "or")]
def csR : List (String × String) := [("DeadStick$Land", "EAST"), ("DeadStick$Land", "SOUTH"), ("DeadStick$Asks", "ABOVE"), ("DeadStick$Asks", "BODIES")]
abbrev xMi : Type := MethodName × ByteArray × Nat × Option FieldType × Bool × Nat
def xmi : List xMi := [(yX0_isUnder, cX0_isUnder, 5, some .boolean, false, 3),
  (yX0_answer, cX0_answer, 7, some .int, false, 6),
  (yX0_above, cX0_above, 1, some .int, true, 1),
  (yX0_body, cX0_body, 2, some .int, true, 2),
  (yX0_asked, cX0_asked, 7, some .int, false, 5),
  (yX0_run, cX0_run, 4, some .int, false, 4),
  (yX0_quotient, cX0_quotient, 3, some .int, false, 3),
  (yX1_asItStands, cX1_asItStands, 5, some .int, false, 2),
  (yX1_greatest, cX1_greatest, 2, some .int, false, 2),
  (yX1_inOrder, cX1_inOrder, 6, some .int, false, 3),
  (yX1_weigh, cX1_weigh, 7, none, false, 2),
  (yX1_firstBest, cX1_firstBest, 5, some .int, false, 3),
  (yX1_counting, cX1_counting, 3, some .int, true, 3),
  (yX2_told, cX2_told, 2, some .int, false, 2),
  (yX2_become, cX2_become, 3, none, false, 3),
  (yX2_become_, cX2_become_, 2, none, false, 2),
  (yX3_byPlan, cX3_byPlan, 6, none, false, 4),
  (yX3_byHands, cX3_byHands, 4, none, false, 2),
  (yX3_begin, cX3_begin, 2, none, false, 2),
  (yX3_go, cX3_go, 5, none, false, 4),
  (yX3_told, cX3_told, 5, some .int, false, 3),
  (yX4_has, cX4_has, 2, some .boolean, false, 2),
  (yX4_begin, cX4_begin, 1, none, false, 1),
  (yX4_open, cX4_open, 2, none, false, 2),
  (yX4_add, cX4_add, 3, none, false, 2),
  (yX4_coded, cX4_coded, 3, some .int, true, 3),
  (yX4_holds, cX4_holds, 11, some .boolean, false, 4),
  (yX4_compared, cX4_compared, 3, some .int, true, 3),
  (yX4_value, cX4_value, 3, some .int, true, 3),
  (yX4_chosen, cX4_chosen, 6, some .int, false, 4),
  (yX4_become, cX4_become, 2, none, false, 2),
  (yX5_cells, cX5_cells, 1, some .int, false, 1),
  (yX5_has, cX5_has, 2, some .boolean, false, 2),
  (yX5_groundOf, cX5_groundOf, 2, some .int, false, 2),
  (yX5_housesOf, cX5_housesOf, 2, some .int, false, 2),
  (yX5_tableOf, cX5_tableOf, 2, some .int, false, 2),
  (yX5_flatten, cX5_flatten, 3, none, false, 3),
  (yX5_lie, cX5_lie, 4, none, false, 4),
  (yX5_isDown, cX5_isDown, 2, some .boolean, false, 2),
  (yX5_headingBehind, cX5_headingBehind, 2, some .int, true, 2),
  (yX5_speedBehind, cX5_speedBehind, 2, some .int, true, 2),
  (yX5_ahead, cX5_ahead, 8, some .int, false, 4),
  (yX5_loss, cX5_loss, 5, some .int, false, 4),
  (yX5_mayBe, cX5_mayBe, 4, some .boolean, false, 3),
  (yX5_move, cX5_move, 3, none, false, 3),
  (yX5_become, cX5_become, 2, none, false, 2),
  (yX6_search, cX6_search, 8, none, false, 4),
  (yX6_spread, cX6_spread, 12, none, false, 4),
  (yX6_offer, cX6_offer, 6, none, false, 5),
  (yX6_placeOf, cX6_placeOf, 3, some .int, true, 3),
  (yX6_isPlace, cX6_isPlace, 1, some .boolean, true, 1),
  (yX6_isHeight, cX6_isHeight, 1, some .boolean, true, 1),
  (yX6_chain, cX6_chain, 4, none, false, 3),
  (yX6_unchain, cX6_unchain, 5, none, false, 3),
  (yX6_greatest, cX6_greatest, 8, some .int, false, 3),
  (yX7_has, cX7_has, 2, some .boolean, false, 2),
  (yX7_opened, cX7_opened, 1, some .int, false, 1),
  (yX7_number, cX7_number, 3, some .int, false, 3),
  (yX7_become, cX7_become, 4, none, false, 4),
  (yX7_sum, cX7_sum, 4, some .int, false, 2),
  (yX7_sumOfSet, cX7_sumOfSet, 5, some .int, false, 3),
  (yX7_become_, cX7_become_, 2, none, false, 2),
  (yX8_renew, cX8_renew, 3, none, false, 3),
  (yX8_has, cX8_has, 2, some .boolean, false, 2),
  (yX8_number, cX8_number, 2, some .int, false, 2),
  (yX8_take, cX8_take, 3, none, false, 3),
  (yX8_refusal, cX8_refusal, 2, some .int, false, 2),
  (yX8_isAllWithin, cX8_isAllWithin, 4, some .boolean, false, 3),
  (yX9_isAdded, cX9_isAdded, 5, some .boolean, false, 3),
  (yX9_fault, cX9_fault, 3, some .int, false, 1),
  (yX9_split, cX9_split, 6, none, false, 1),
  (yX9_add, cX9_add, 4, none, false, 4),
  (yX9_at, cX9_at, 2, some .int, false, 2),
  (yX9_isLetter, cX9_isLetter, 1, some .boolean, true, 1),
  (yX9_isDigit, cX9_isDigit, 1, some .boolean, true, 1),
  (yX9_digits, cX9_digits, 5, some .int, false, 3),
  (yX9_word, cX9_word, 8, some .int, false, 3),
  (yX9_look, cX9_look, 2, none, false, 2),
  (yX9_isLine, cX9_isLine, 1, some .boolean, false, 1),
  (yX9_isCond, cX9_isCond, 3, some .boolean, false, 2),
  (yX9_isAll, cX9_isAll, 3, some .boolean, false, 2),
  (yX9_isOne, cX9_isOne, 4, some .boolean, false, 2),
  (yX9_isInBrackets, cX9_isInBrackets, 2, some .boolean, false, 2),
  (yX9_isComparison, cX9_isComparison, 3, some .boolean, false, 1),
  (yX9_isValue, cX9_isValue, 1, some .boolean, false, 1),
  (yX9_value, cX9_value, 1, some .int, false, 1),
  (yX9_isWord, cX9_isWord, 2, some .boolean, false, 2),
  (yX9_isByte, cX9_isByte, 2, some .boolean, false, 2),
  (yX10_become, cX10_become, 2, none, false, 2),
  (yX10_isGood, cX10_isGood, 4, some .boolean, false, 4),
  (yX10_endFor, cX10_endFor, 3, some .int, false, 2),
  (yX10_costsDown, cX10_costsDown, 4, some .int, false, 3),
  (yX10_orStraight, cX10_orStraight, 3, some .int, false, 3),
  (yX10_planned, cX10_planned, 3, some .int, false, 3),
  (yX10_given, cX10_given, 5, some .int, false, 3),
  (yX10_actByHands, cX10_actByHands, 4, some .int, false, 2),
  (yX11_land, cX11_land, 3, some .int, false, 3),
  (yX11_lay, cX11_lay, 7, some .int, false, 3),
  (yX11_cellOf, cX11_cellOf, 3, some .int, false, 3),
  (yX11_craft, cX11_craft, 4, some .int, false, 3),
  (yX11_mostOfCraft, cX11_mostOfCraft, 2, some .int, false, 2),
  (yX11_craftOf, cX11_craftOf, 3, some .int, false, 2),
  (yX11_table, cX11_table, 6, some .int, false, 3),
  (yX11_fly, cX11_fly, 2, some .int, false, 2),
  (yX11_isFlownNow, cX11_isFlownNow, 2, some .boolean, false, 2),
  (yX11_acts, cX11_acts, 3, some .int, false, 1),
  (yX11_end, cX11_end, 7, some .int, false, 6),
  (yX11_endOf, cX11_endOf, 3, some .int, false, 3),
  (yX11_spare, cX11_spare, 3, some .int, false, 2),
  (yX11_late, cX11_late, 4, some .int, false, 2),
  (yX11_can, cX11_can, 3, some .int, false, 1),
  (yX11_bestEnd, cX11_bestEnd, 5, some .int, false, 1),
  (yX11_plan, cX11_plan, 6, some .int, false, 2),
  (yX11_planOf, cX11_planOf, 4, some .int, false, 3),
  (yX11_scene, cX11_scene, 6, some .int, false, 5),
  (yX11_flown, cX11_flown, 4, some .int, false, 4),
  (yX11_odds, cX11_odds, 6, some .int, false, 4),
  (yX11_mean, cX11_mean, 3, some .int, false, 3),
  (yX11_costsInAll, cX11_costsInAll, 4, some .int, false, 2),
  (yX11_bestPlan, cX11_bestPlan, 5, some .int, false, 1),
  (yX11_feed, cX11_feed, 4, some .int, false, 3),
  (yX11_read, cX11_read, 2, some .int, false, 1),
  (yX11_line, cX11_line, 3, some .int, false, 3),
  (yX11_hand, cX11_hand, 1, some .int, false, 1),
  (yX11_ruled, cX11_ruled, 2, some .int, false, 2),
  (yX11_prove, cX11_prove, 2, some .int, false, 2),
  (yX11_row, cX11_row, 3, some .int, false, 3),
  (yX11_alterRow, cX11_alterRow, 5, some .int, false, 4),
  (yX11_judge, cX11_judge, 3, some .int, false, 1),
  (yX11_step, cX11_step, 5, some .int, false, 4),
  (yX11_worth, cX11_worth, 2, some .int, false, 2),
  (yX11_order, cX11_order, 2, some .int, false, 2),
  (yX11_job, cX11_job, 3, some .int, false, 2),
  (yX11_shared, cX11_shared, 8, some .int, false, 2),
  (yX11_trial, cX11_trial, 5, some .int, false, 4),
  (yX11_fair, cX11_fair, 9, some .int, false, 5),
  (yX11_sheet, cX11_sheet, 4, some .int, false, 4),
  (yX11_put, cX11_put, 5, some .int, false, 4),
  (yX11_item, cX11_item, 6, some .int, false, 4),
  (yX11_flies, cX11_flies, 8, some .int, false, 4),
  (yX11_shelf, cX11_shelf, 4, some .int, false, 4),
  (yX11_heldRow, cX11_heldRow, 3, some .int, false, 3),
  (yX11_held, cX11_held, 5, some .int, false, 5),
  (yX11_formOn, cX11_formOn, 3, some .int, false, 2),
  (yX11_taken, cX11_taken, 5, some .int, false, 3),
  (yX11_ask, cX11_ask, 7, some .int, false, 4),
  (yX11_trace, cX11_trace, 2, some .int, false, 2),
  (yX11_many, cX11_many, 2, some .int, false, 2),
  (yX11_keep, cX11_keep, 1, some .int, false, 1),
  (yX11_again, cX11_again, 1, some .int, false, 1),
  (yX11_isWithin, cX11_isWithin, 3, some .boolean, true, 3),
  (yX11_isSheet, cX11_isSheet, 2, some .boolean, false, 2),
  (yX11_ofFraction, cX11_ofFraction, 7, some .int, true, 3),
  (yX12_within, cX12_within, 3, some .boolean, true, 3),
  (yX12_is, cX12_is, 3, some .boolean, false, 3),
  (yX12_become, cX12_become, 4, some .int, false, 3),
  (yX12_cells, cX12_cells, 1, some .int, false, 1),
  (yX12_isCell, cX12_isCell, 2, some .boolean, false, 2),
  (yX12_isAct, cX12_isAct, 1, some .boolean, true, 1),
  (yX12_land, cX12_land, 4, some .int, false, 3),
  (yX12_lay, cX12_lay, 5, some .int, false, 3),
  (yX12_cellOf, cX12_cellOf, 3, some .int, false, 3),
  (yX12_craft, cX12_craft, 4, some .int, false, 3),
  (yX12_craftOf, cX12_craftOf, 2, some .int, false, 2),
  (yX12_table, cX12_table, 4, some .int, false, 3),
  (yX12_begin, cX12_begin, 1, none, false, 1),
  (yX12_isDown, cX12_isDown, 1, some .boolean, false, 1),
  (yX12_turned, cX12_turned, 2, some .int, true, 2),
  (yX12_changed, cX12_changed, 2, some .int, true, 2),
  (yX12_ahead, cX12_ahead, 6, some .int, false, 4),
  (yX12_mayBe, cX12_mayBe, 3, some .boolean, false, 2),
  (yX12_act, cX12_act, 4, none, false, 2),
  (yX12_end, cX12_end, 3, some .int, false, 3),
  (yX12_isGood, cX12_isGood, 3, some .boolean, false, 3),
  (yX12_comesTo, cX12_comesTo, 2, some .int, false, 1),
  (yX12_isFlown, cX12_isFlown, 2, some .boolean, false, 2),
  (yX12_fly, cX12_fly, 2, some .int, false, 2),
  (yX12_acts, cX12_acts, 3, some .int, false, 1),
  (yX12_end_, cX12_end_, 8, some .int, false, 6),
  (yX12_endOf, cX12_endOf, 3, some .int, false, 3),
  (yX12_comes, cX12_comes, 3, none, false, 3),
  (yX12_reach, cX12_reach, 5, none, false, 1),
  (yX12_heightAt, cX12_heightAt, 4, some .int, false, 2),
  (yX12_spare, cX12_spare, 3, some .int, false, 2),
  (yX12_canBehind, cX12_canBehind, 4, some .boolean, false, 3),
  (yX12_late, cX12_late, 5, some .int, false, 2),
  (yX12_canBe, cX12_canBe, 3, some .int, false, 1),
  (yX12_can, cX12_can, 1, some .int, false, 1),
  (yX12_costAt, cX12_costAt, 2, some .int, false, 2),
  (yX12_bestEnd, cX12_bestEnd, 4, some .int, false, 1),
  (yX12_plan, cX12_plan, 5, some .int, false, 2),
  (yX12_planned, cX12_planned, 2, some .int, false, 2),
  (yX12_planOf, cX12_planOf, 3, some .int, false, 3),
  (yX12_scene, cX12_scene, 7, some .int, false, 5),
  (yX12_scene_, cX12_scene_, 3, some .int, false, 3),
  (yX12_goOn, cX12_goOn, 3, none, false, 3),
  (yX12_flownFor, cX12_flownFor, 2, some .int, false, 2),
  (yX12_plannedAt, cX12_plannedAt, 2, some .int, false, 2),
  (yX12_flyPlan, cX12_flyPlan, 5, none, false, 3),
  (yX12_told, cX12_told, 3, some .int, false, 2),
  (yX12_flown, cX12_flown, 4, some .int, false, 4),
  (yX12_divisor, cX12_divisor, 5, some .int, true, 2),
  (yX12_part, cX12_part, 4, some .int, true, 3),
  (yX12_weights, cX12_weights, 3, some .int, false, 1),
  (yX12_odds, cX12_odds, 6, some .int, false, 4),
  (yX12_costOf, cX12_costOf, 4, some .int, false, 2),
  (yX12_mean, cX12_mean, 3, some .int, false, 3),
  (yX12_bestPlan, cX12_bestPlan, 5, some .int, false, 1),
  (yX12_feed, cX12_feed, 5, some .int, false, 3),
  (yX12_isIn, cX12_isIn, 4, some .boolean, false, 4),
  (yX12_next, cX12_next, 1, none, false, 1),
  (yX12_isName, cX12_isName, 4, some .boolean, false, 2),
  (yX12_nameOf, cX12_nameOf, 4, some .int, false, 2),
  (yX12_isSign, cX12_isSign, 2, some .boolean, false, 2),
  (yX12_need, cX12_need, 2, none, false, 2),
  (yX12_codes, cX12_codes, 2, none, false, 2),
  (yX12_either, cX12_either, 1, none, false, 1),
  (yX12_all, cX12_all, 1, none, false, 1),
  (yX12_value, cX12_value, 5, some .int, false, 1),
  (yX12_one, cX12_one, 5, none, false, 1),
  (yX12_read, cX12_read, 3, some .int, false, 1),
  (yX12_valueOf, cX12_valueOf, 2, some .int, false, 2),
  (yX12_holds, cX12_holds, 8, some .boolean, false, 2),
  (yX12_line, cX12_line, 3, some .int, false, 3),
  (yX12_firstOf, cX12_firstOf, 4, some .int, false, 2),
  (yX12_handed, cX12_handed, 1, some .int, false, 1),
  (yX12_hand, cX12_hand, 2, some .int, false, 1),
  (yX12_ruled, cX12_ruled, 3, some .int, false, 2),
  (yX12_prove, cX12_prove, 3, some .int, false, 2),
  (yX12_row, cX12_row, 3, some .int, false, 3),
  (yX12_alterRow, cX12_alterRow, 5, some .int, false, 4),
  (yX12_judge, cX12_judge, 2, some .int, false, 1),
  (yX12_step, cX12_step, 5, some .int, false, 4),
  (yX12_counts, cX12_counts, 5, some .int, false, 3),
  (yX12_findOrder, cX12_findOrder, 4, none, false, 1),
  (yX12_follows, cX12_follows, 3, some .int, false, 2),
  (yX12_worth, cX12_worth, 4, some .int, false, 2),
  (yX12_order, cX12_order, 4, some .int, false, 2),
  (yX12_job, cX12_job, 3, some .int, false, 2),
  (yX12_shared, cX12_shared, 8, some .int, false, 2),
  (yX12_trial, cX12_trial, 5, some .int, false, 4),
  (yX12_fair, cX12_fair, 8, some .int, false, 5),
  (yX12_isFour, cX12_isFour, 1, some .boolean, true, 1),
  (yX12_sheet, cX12_sheet, 5, some .int, false, 4),
  (yX12_put, cX12_put, 4, some .int, false, 4),
  (yX12_notOf, cX12_notOf, 3, some .int, false, 3),
  (yX12_item, cX12_item, 5, some .int, false, 4),
  (yX12_flies, cX12_flies, 8, some .int, false, 4),
  (yX12_shelf, cX12_shelf, 6, some .int, false, 4),
  (yX12_formOn, cX12_formOn, 3, some .int, false, 2),
  (yX12_above, cX12_above, 1, some .int, true, 1),
  (yX12_taken, cX12_taken, 4, some .int, false, 3),
  (yX12_began, cX12_began, 2, none, false, 2),
  (yX12_hasOwn, cX12_hasOwn, 2, some .boolean, true, 2),
  (yX12_answer, cX12_answer, 3, some .int, false, 3),
  (yX12_bodyFrom, cX12_bodyFrom, 5, some .int, false, 4),
  (yX12_body, cX12_body, 7, some .int, false, 4),
  (yX12_ask, cX12_ask, 6, some .int, false, 4),
  (yX12_trace, cX12_trace, 2, some .int, false, 2),
  (yX12_many, cX12_many, 2, some .int, false, 2),
  (yX12_keep, cX12_keep, 2, some .int, false, 1),
  (yX12_again, cX12_again, 2, some .int, false, 1),
  (yJ0_length_8abf5, cJ0_length_8abf5, 1, some .int, false, 1),
  (yJ0_charAt_5068e, cJ0_charAt_5068e, 2, some .char, false, 2),
  (yJ0_coder_7d493, cJ0_coder_7d493, 1, some .byte, false, 1),
  (yJ0_isLatin1_aae02, cJ0_isLatin1_aae02, 1, some .boolean, false, 1),
  (yJ0_checkIndex_df160, cJ0_checkIndex_df160, 2, none, true, 2),
  (yJ1_charAt_3b067, cJ1_charAt_3b067, 2, some .char, true, 2),
  (yJ7_fill_53178, cJ7_fill_53178, 4, none, true, 2),
  (yJ3_checkIndex_8e157, cJ3_checkIndex_8e157, 3, some .int, true, 3)]
def xin (w : Cond) : Bool := decide (w ∈ lw_tbl) && goodWord w
theorem xin_mem {w : Cond} (h : xin w = true) : w ∈ xTs := by
  rw [xin, Bool.and_eq_true, decide_eq_true_eq] at h
  exact List.mem_filter.mpr h
/-- the words in pieces, and one by its place there -/
def xtc (j : Nat) : List Cond := match j with
  | 0 => tables_1_1
  | 1 => tables_1_2
  | 2 => tables_1_3
  | 3 => tables_1_4
  | 4 => tables_1_5
  | 5 => tables_1_6
  | 6 => tables_1_7
  | _ => k2_sels lw_privs
theorem xtc_in (j : Nat) {w : Cond} (h : w ∈ xtc j) : w ∈ lw_tbl := by
  have e : ∀ w, w ∈ tables_1 → w ∈ lw_tbl := fun w h => List.mem_append_right _ h
  have t : ∀ w, (w ∈ tables_1_1 ∨ w ∈ tables_1_2 ∨ w ∈ tables_1_3 ∨ w ∈ tables_1_4 ∨ w ∈ tables_1_5 ∨ w ∈ tables_1_6 ∨ w ∈ tables_1_7) → w ∈ lw_tbl := fun w h => e w (by
    unfold tables_1
    simp only [List.mem_append]
    exact h)
  unfold xtc at h
  split at h
  · exact t w (Or.inl h)
  · exact t w (Or.inr (Or.inl h))
  · exact t w (Or.inr (Or.inr (Or.inl h)))
  · exact t w (Or.inr (Or.inr (Or.inr (Or.inl h))))
  · exact t w (Or.inr (Or.inr (Or.inr (Or.inr (Or.inl h)))))
  · exact t w (Or.inr (Or.inr (Or.inr (Or.inr (Or.inr (Or.inl h))))))
  · exact t w (Or.inr (Or.inr (Or.inr (Or.inr (Or.inr (Or.inr h))))))
  · exact List.mem_append_left _ h
theorem xat_mem {α : Type} : ∀ (l : List α) (i : Nat) (a : α), xat l i = some a → a ∈ l := by
  intro l
  induction l with
  | nil => intro i a h; cases h
  | cons b l ih =>
    intro i a h
    cases i with
    | zero => cases h; exact List.mem_cons_self
    | succ i => exact List.mem_cons_of_mem _ (ih i a h)
def xinq (q : Nat) (w : Cond) : Bool := decide (xat (xtc (q / 1000)) (q % 1000) = some w) && goodWord w
theorem xinq_mem {q : Nat} {w : Cond} (h : xinq q w = true) : w ∈ xTs := by
  rw [xinq, Bool.and_eq_true, decide_eq_true_eq] at h
  exact List.mem_filter.mpr ⟨xtc_in _ (xat_mem _ _ _ h.1), h.2⟩
def xinp (sw : List (Int32 × Nat)) (w : Cond) : Bool := match sw with
  | [] => false
  | a :: _ => xinq a.2 w
theorem xinp_mem {sw : List (Int32 × Nat)} {w : Cond} (h : xinp sw w = true) : w ∈ xTs := by
  cases sw with
  | nil => cases h
  | cons a sw => exact xinq_mem h
def xst (x : Int) (d : Nat) : List (Int32 × Nat) → Nat
  | [] => d
  | (v, t) :: l => if x = v.toInt then t else xst x d l
theorem xsw_st {x : Int32} {k : Nat → xO} {d : Nat} : ∀ (l : List (Int32 × Nat)), xsw x k d l = k (xst x.toInt d l) := by
  intro l
  induction l with
  | nil => rfl
  | cons a l ih =>
    obtain ⟨v, t⟩ := a
    simp only [xsw, xst]
    by_cases e : x = v
    · subst e; simp
    · have : ¬ x.toInt = v.toInt := fun q => e (Int32.toInt_inj.mp q)
      rw [if_neg e, if_neg this, ih]
theorem xst_out {x : Int} {d : Nat} : ∀ (l : List (Int32 × Nat)), (∀ q ∈ l, x ≠ q.1.toInt) → xst x d l = d := by
  intro l
  induction l with
  | nil => intro _; rfl
  | cons a l ih =>
    obtain ⟨v, t⟩ := a
    intro h
    rw [xst, if_neg (h (v, t) List.mem_cons_self)]
    exact ih fun q hq => h q (List.mem_cons_of_mem _ hq)
def xdc (cc : ByteArray) (pc : Nat) (i : Instr) (len nx : Nat) : Bool := decide (decode cc pc = .ok (i, len)) && decide (nx = pc + len)
theorem xdc_s {cc : ByteArray} {pc len nx : Nat} {i : Instr} (h : xdc cc pc i len nx = true) : decode cc pc = .ok (i, len) ∧ nx = pc + len := by
  simpa [xdc] using h
/-- a field's link -/
def xfk (sw : List (Int32 × Nat)) (own : String) (idx a b : Nat) : Bool := match xat clX (a - 16) with
  | none => false
  | some q => decide (16 ≤ a) && decide (b < q.2.2) && xinp sw (.fieldLink own idx (q.2.1 b).1 (q.2.1 b).2.1 (q.2.1 b).2.2.1)
def xck (own : String) (rt : Option FieldType) (cc : ByteArray) (nL pc : Nat) (op : xOp) : Bool :=
  match op with
  | (i, nx, a, b, c, d, z, sw) =>
    match i with
    | .iconst v => xdc cc pc i 1 nx && decide (Int32.ofInt v = z)
    | .bipush v => xdc cc pc i 2 nx && decide ((Int8.ofInt v).toInt32 = z)
    | .sipush v => xdc cc pc i 3 nx && decide ((Int16.ofInt v).toInt32 = z)
    | .ldc v => xdc cc pc i 2 nx && decide (b < 16) && decide ((xnd ("", 0, "") stR b).1 = own) && decide ((xnd ("", 0, "") stR b).2.1 = v)
    | .ldc_w v => xdc cc pc i 3 nx && decide (b < 16) && decide ((xnd ("", 0, "") stR b).1 = own) && decide ((xnd ("", 0, "") stR b).2.1 = v)
    | .ldc2_w v => xdc cc pc i 3 nx && xinp sw (.constantLong own v (Int64.ofNat a))
    | .iload_n v => xdc cc pc i 1 nx && decide ((v : Nat) = a)
    | .iload v => xdc cc pc i 2 nx && decide (v = a)
    | .lload_n v => xdc cc pc i 1 nx && decide ((v : Nat) = a)
    | .aload_n v => xdc cc pc i 1 nx && decide ((v : Nat) = a)
    | .aload v => xdc cc pc i 2 nx && decide (v = a)
    | .istore_n v => xdc cc pc i 1 nx && decide ((v : Nat) = a) && decide (a < nL)
    | .istore v => xdc cc pc i 2 nx && decide (v = a) && decide (a < nL)
    | .astore_n v => xdc cc pc i 1 nx && decide ((v : Nat) = a) && decide (a < nL)
    | .astore v => xdc cc pc i 2 nx && decide (v = a) && decide (a < nL)
    | .iinc v u => xdc cc pc i 3 nx && decide (v = a) && decide (a < nL) && decide (Int32.ofInt u = z)
    | .iadd => xdc cc pc i 1 nx
    | .isub => xdc cc pc i 1 nx
    | .imul => xdc cc pc i 1 nx
    | .iand => xdc cc pc i 1 nx
    | .ior => xdc cc pc i 1 nx
    | .ixor => xdc cc pc i 1 nx
    | .idiv => xdc cc pc i 1 nx
    | .irem => xdc cc pc i 1 nx
    | .ineg => xdc cc pc i 1 nx
    | .ishl => xdc cc pc i 1 nx
    | .ishr => xdc cc pc i 1 nx
    | .iushr => xdc cc pc i 1 nx
    | .i2l => xdc cc pc i 1 nx
    | .l2i => xdc cc pc i 1 nx
    | .i2b => xdc cc pc i 1 nx
    | .i2s => xdc cc pc i 1 nx
    | .i2c => xdc cc pc i 1 nx
    | .land => xdc cc pc i 1 nx
    | .lshr => xdc cc pc i 1 nx
    | .lushr => xdc cc pc i 1 nx
    | .dup => xdc cc pc i 1 nx
    | .dup2 => xdc cc pc i 1 nx
    | .pop => xdc cc pc i 1 nx
    | .if_icmp _ o => xdc cc pc i 3 nx && decide ((pc : Int) + o = (a : Int))
    | .ifCond _ o => xdc cc pc i 3 nx && decide ((pc : Int) + o = (a : Int))
    | .goto o => xdc cc pc i 3 nx && decide ((pc : Int) + o = (a : Int))
    | .tableswitch f u v os => decide (decode cc pc = .ok (i, nx - pc)) && decide ((pc : Int) + f = (a : Int)) && decide (os.size = (v - u + 1).toNat) && sw.all (fun q => decide (u ≤ q.1.toInt) && decide (q.1.toInt ≤ v))
        && (List.range os.size).all (fun j => match os[j]? with
          | some o => decide ((pc : Int) + o = (xst (u + (j : Int)) a sw : Int))
          | none => false)
    | .lookupswitch f ps => decide (decode cc pc = .ok (i, nx - pc)) && decide ((pc : Int) + f = (a : Int)) && (ps.toList.zip (ps.toList.drop 1)).all (fun (a, next) => a.1 < next.1) && decide (ps.toList = sw.map (fun q => (q.1.toInt, (q.2 : Int) - (pc : Int))))
    | .getfield v => xdc cc pc i 3 nx && (if a = 5 then (if c = 98 then decide (z = 0) && xinp sw (.fieldLink own v "java/lang/String" "coder" "B") else decide (c = 9) && decide (d = 0) && xinp sw (.fieldLink own v "java/lang/String" "value" "[B"))
        else xfk sw own v a b && (if c = 0 then decide (xat (fsX a) b = some (0, 0, 0)) else decide (c ≠ 98) && decide (xat (fsX a) b = some (1, c, d))))
    | .putfield v => xdc cc pc i 3 nx && xfk sw own v a b && decide (xat (fsX a) b = some (0, 0, 0)) && (match xat clX (a - 16) with
        | none => false
        | some q => decide ((q.2.1 b).2.2.2 = false) && decide ((q.2.1 b).2.2.1 = (if c = 0 then "I" else "Z")))
    | .getstatic v => xdc cc pc i 3 nx && (if a = 99 then decide (z = 1) && xinp sw (.fieldLink own v "java/lang/String" "COMPACT_STRINGS" "Z") else if a = 0 then decide (b = 0) && xinp sw (.fieldLink own v "jdk/internal/util/Preconditions" "SIOOBE_FORMATTER" "Ljava/util/function/BiFunction;")
        else decide (a = 4) && decide (b < 4) && xinp sw (.fieldLink own v (xnd ("", "") csR b).1 (xnd ("", "") csR b).2 "[I"))
    | .iaload => xdc cc pc i 1 nx
    | .iastore => xdc cc pc i 1 nx
    | .baload => xdc cc pc i 1 nx
    | .bastore => xdc cc pc i 1 nx
    | .aaload => xdc cc pc i 1 nx
    | .arraylength => xdc cc pc i 1 nx
    | .invokevirtual v => xdc cc pc i 3 nx && (match xat xmi a with
        | none => decide (9999 = a)
        | some y => xinp sw (.methodLink own v y.1) && decide (y.2.2.2.2.1 = false) && decide (b = y.2.2.2.2.2) && decide (0 < b) && (if c = 0 then decide (y.2.2.2.1 = none) else decide (y.2.2.2.1 ≠ none))
          && (if d = 5 then decide (y.1.cls = "java/lang/String") else decide (16 ≤ d) && (match xat clX (d - 16) with
            | none => false
            | some q => decide (q.1 = y.1.cls))))
    | .invokestatic v => xdc cc pc i 3 nx && (if c = 2 then xinp sw (.methodLink own v Lib.Math.max.name) else if c = 3 then xinp sw (.methodLink own v Lib.Math.min.name) else if c = 4 then xinp sw (.methodLink own v arraycopyName) else match xat xmi a with
        | none => decide (9999 = a)
        | some y => (if d = 1 then decide (own = RX8 ∧ v = 36 ∧ y.1 = yX11_isWithin) else xinp sw (.methodLink own v y.1)) && decide (y.2.2.2.2.1 = true) && decide (b = y.2.2.2.2.2) && (if c = 0 then decide (y.2.2.2.1 = none) else decide (y.2.2.2.1 ≠ none)))
    | .ireturn => xdc cc pc i 1 nx && (if c = 0 then decide (rt = some .int) else if c = 1 then decide (rt = some .boolean) || decide (rt = some .byte) else decide (rt = some .char))
    | .return_ => xdc cc pc i 1 nx && decide (rt = none)
    | _ => decide (9999 = 9999)

/-- what stands outside: constant arrays, statics, texts -/
def xBg (G : xG) (A : Nat → Prop) (s : State) : Prop :=
  (∀ i, i < 4 → va_T .int (gac G i) (klX i) (fun j => .int (kcX i j)) A s s.heap) ∧
  (∀ i, i < 4 → va_Z (xnd ("", "") csR i).1 (xnd ("", "") csR i).2 "[I" (.ref (gac G i)) A s s.heap) ∧
  va_Z "java/lang/String" "COMPACT_STRINGS" "Z" (.int 1) A s s.heap ∧
  va_Z "jdk/internal/util/Preconditions" "SIOOBE_FORMATTER" "Ljava/util/function/BiFunction;" (gov G) A s s.heap ∧
  (∀ i, i < 16 → va_O "java/lang/String" (gas G i) A s s.heap ∧ va_OF "java/lang/String" "coder" "B" (.int 0) (gas G i) A s s.heap ∧ va_OF "java/lang/String" "value" "[B" (.ref (gav G i)) (gas G i) A s s.heap ∧ va_T .byte (gav G i) (slX i) (fun j => .int (sbX i j)) A s s.heap) ∧
  (∀ i, i < 16 → vk_R (xnd ("", 0, "") stR i).1 (xnd ("", 0, "") stR i).2.1 (xnd ("", 0, "") stR i).2.2 (gas G i) s) ∧ va_Nw (.methodLinkNest RX8 36 yX11_isWithin "DeadStick") s
theorem xBg_to {G : xG} {A : Nat → Prop} {s U : State} {H : Heap} {locs : List Loc} (hB : xBg G A s) (hS : va_S A s.heap H locs) (hU : U.heap = H) (hW : s.WarmedH U.vm) : xBg G A U := by
  obtain ⟨h1, h2, h3, h4, h5, h6, h7⟩ := hB
  subst hU
  refine ⟨fun i hi => ((h1 i hi).kept hS.2.1).moved hW.alike, fun i hi => ((h2 i hi).kept hS.2.1).moved hW.alike, (h3.kept hS.2.1).moved hW.alike, (h4.kept hS.2.1).moved hW.alike, fun i hi => ?_, fun i hi => (h6 i hi).warm hW, h7.warmM hW⟩
  obtain ⟨a1, a2, a3, a4⟩ := h5 i hi
  exact ⟨(a1.kept hS.2.1).moved hW.alike, (a2.kept hS.2.1).moved hW.alike, (a3.kept hS.2.1).moved hW.alike, (a4.kept hS.2.1).moved hW.alike⟩
/-- the layout's part lo .. lo + n is closed -/
def xlay (lo n : Nat) (tg : List Nat) : Prop := ∀ o, lo ≤ o → o < lo + n →
  (kdX o = 1 ∨ kdX o = 2 ∨ kdX o = 3 ∨ kdX o = 6 ∨ kdX o = 7 ∨ (16 ≤ kdX o ∧ kdX o < 29)) ∧
  (kdX o < 16 → kdX o ∈ tg) ∧
  (16 ≤ kdX o → ∀ q ∈ fsX (kdX o), q.1 = 0 ∨ (lo ≤ o + q.2.2 ∧ o + q.2.2 < lo + n ∧ kdX (o + q.2.2) = q.2.1)) ∧
  (kdX o = 6 → ∀ i, i < lenX o → lo ≤ o + 1 + 2 * i ∧ o + 1 + 2 * i < lo + n ∧ kdX (o + 1 + 2 * i) = 24) ∧
  (kdX o = 7 → ∀ i, i < lenX o → scX o i < 16) ∧ lenX o < 2147483648
def xGo (G : xG) (lo n : Nat) (tg : List Nat) : Prop := (∀ i j, i < n → j < n → gad G (lo + i) = gad G (lo + j) → i = j) ∧ (gov G).category = 1 ∧ xlay lo n tg
theorem xGo_D {G : xG} {lo n : Nat} {tg : List Nat} (hG : xGo G lo n tg) (h : xH) : va_D (xA G lo n) (xwd G lo n h) := by
  have at' : ∀ {i : Nat} {q : Nat × va_E}, (xwd G lo n h)[i]? = some q → i < n ∧ q = (gad G (lo + i), xen G h (lo + i)) := by
    intro i q hq
    by_cases hi : i < n
    · simp [xwd, List.getElem?_map, List.getElem?_range hi] at hq
      exact ⟨hi, hq.symm⟩
    · simp [xwd, hi] at hq
  refine ⟨fun i j a b ha hb he => ?_, fun i a ha => ?_⟩
  · obtain ⟨hi, rfl⟩ := at' ha
    obtain ⟨hj, rfl⟩ := at' hb
    exact hG.1 i j hi hj he
  · obtain ⟨hi, rfl⟩ := at' ha
    exact ⟨i, hi, rfl⟩
def xCx (p : Program) (R : Room) (s : State) (m : MethodId) (args : Array Value) (c : Code) (own : String) (cc : ByteArray) (nL : Nat) (G : xG) (lo n : Nat) (tg : List Nat) : Prop :=
  p.tables.exec = Jvm.exec ∧ c.code = cc ∧ c.maxLocals = nL ∧ s.vm.findClass own = some m.cls ∧ (∀ w ∈ xTs, w.before args s = true) ∧ va_K (gD G) clX (xtys G tg) s ∧ xBg G (xA G lo n) s ∧ xGo G lo n tg ∧ 1 ≤ R.frames ∧ 60 ≤ R.locals
/-- from this place on, at this pure state, the machine comes to Q -/
def xJ (p : Program) (l : Launch) (e : Env) (R : Room) (s : State) (m : MethodId) (args : Array Value) (below : List Frame) (meth : Method) (c : Code) (nL : Nat) (G : xG) (lo n : Nat) (Q : State → Prop) (pc : Nat) (ls : List (Option xV)) (st : List xV) (h : xH) : Prop :=
  ∀ (H : Heap) (locs : List Loc) (lsA : Array Slot), xokl lo n ls → xoks lo n st → va_P (gD G) clX (xwd G lo n h) H → va_S (xA G lo n) s.heap H locs → xls G nL lsA ls → W p l e R s m args below meth c H locs 0 0 Q (F0 m pc lsA (st.map (xcv G)))
/-! inversions -/

theorem xs1_i {st : List xV} {f : Int32 → List xV → xO} {r : Int32 × xH} (hk : xs1 st f = some r) : ∃ (x : Int32) (u : List xV), st = xI x :: u ∧ f x u = some r := by
  unfold xs1 at hk
  split at hk
  · exact ⟨_, _, rfl, hk⟩
  · cases hk
theorem xs2_i {st : List xV} {f : Int32 → Int32 → List xV → xO} {r : Int32 × xH} (hk : xs2 st f = some r) : ∃ (y : Int32) (x : Int32) (u : List xV), st = xI y :: xI x :: u ∧ f y x u = some r := by
  unfold xs2 at hk
  split at hk
  · exact ⟨_, _, _, rfl, hk⟩
  · cases hk
theorem xsL_i {st : List xV} {f : Int64 → List xV → xO} {r : Int32 × xH} (hk : xsL st f = some r) : ∃ (x : Int64) (u : List xV), st = xL x :: u ∧ f x u = some r := by
  unfold xsL at hk
  split at hk
  · exact ⟨_, _, rfl, hk⟩
  · cases hk
theorem xsLL_i {st : List xV} {f : Int64 → Int64 → List xV → xO} {r : Int32 × xH} (hk : xsLL st f = some r) : ∃ (y : Int64) (x : Int64) (u : List xV), st = xL y :: xL x :: u ∧ f y x u = some r := by
  unfold xsLL at hk
  split at hk
  · exact ⟨_, _, _, rfl, hk⟩
  · cases hk
theorem xsIL_i {st : List xV} {f : Int32 → Int64 → List xV → xO} {r : Int32 × xH} (hk : xsIL st f = some r) : ∃ (y : Int32) (x : Int64) (u : List xV), st = xI y :: xL x :: u ∧ f y x u = some r := by
  unfold xsIL at hk
  split at hk
  · exact ⟨_, _, _, rfl, hk⟩
  · cases hk
theorem xsR_i {st : List xV} {f : Nat → Nat → List xV → xO} {r : Int32 × xH} (hk : xsR st f = some r) : ∃ (t : Nat) (o : Nat) (u : List xV), st = xR t o :: u ∧ f t o u = some r := by
  unfold xsR at hk
  split at hk
  · exact ⟨_, _, _, rfl, hk⟩
  · cases hk
theorem xsIR_i {st : List xV} {f : Int32 → Nat → Nat → List xV → xO} {r : Int32 × xH} (hk : xsIR st f = some r) : ∃ (x : Int32) (t : Nat) (o : Nat) (u : List xV), st = xI x :: xR t o :: u ∧ f x t o u = some r := by
  unfold xsIR at hk
  split at hk
  · exact ⟨_, _, _, _, rfl, hk⟩
  · cases hk
theorem xsIIR_i {st : List xV} {f : Int32 → Int32 → Nat → Nat → List xV → xO} {r : Int32 × xH} (hk : xsIIR st f = some r) : ∃ (x : Int32) (i : Int32) (t : Nat) (o : Nat) (u : List xV), st = xI x :: xI i :: xR t o :: u ∧ f x i t o u = some r := by
  unfold xsIIR at hk
  split at hk
  · exact ⟨_, _, _, _, _, rfl, hk⟩
  · cases hk
theorem xsCp_i {st : List xV} {f : Int32 → Int32 → Nat → Nat → Int32 → Nat → Nat → List xV → xO} {r : Int32 × xH} (hk : xsCp st f = some r) : ∃ (n : Int32) (e : Int32) (t1 : Nat) (o1 : Nat) (g : Int32) (t0 : Nat) (o0 : Nat) (u : List xV), st = xI n :: xI e :: xR t1 o1 :: xI g :: xR t0 o0 :: u ∧ f n e t1 o1 g t0 o0 u = some r := by
  unfold xsCp at hk
  split at hk
  · exact ⟨_, _, _, _, _, _, _, _, rfl, hk⟩
  · cases hk
theorem xlI_i {ls : List (Option xV)} {a : Nat} {f : Int32 → xO} {r : Int32 × xH} (hk : xlI ls a f = some r) : ∃ (x : Int32), xget ls a = some (xI x) ∧ f x = some r := by
  unfold xlI at hk
  split at hk
  · rename_i hg
    exact ⟨_,  hg, hk⟩
  · cases hk
theorem xlL_i {ls : List (Option xV)} {a : Nat} {f : Int64 → xO} {r : Int32 × xH} (hk : xlL ls a f = some r) : ∃ (x : Int64), xget ls a = some (xL x) ∧ f x = some r := by
  unfold xlL at hk
  split at hk
  · rename_i hg
    exact ⟨_,  hg, hk⟩
  · cases hk
theorem xlR_i {ls : List (Option xV)} {a : Nat} {f : Nat → Nat → xO} {r : Int32 × xH} (hk : xlR ls a f = some r) : ∃ (t : Nat) (o : Nat), xget ls a = some (xR t o) ∧ f t o = some r := by
  unfold xlR at hk
  split at hk
  · rename_i hg
    exact ⟨_, _,  hg, hk⟩
  · cases hk
theorem fa_nge {x y : Int32} (h : y ≤ x) (h2 : x < y) : False := by
  rw [Int32.le_iff_toInt_le] at h
  rw [Int32.lt_iff_toInt_lt] at h2
  omega
theorem fa_ngl {x y : Int32} (h : ¬ y ≤ x) : x < y := by
  rw [Int32.le_iff_toInt_le] at h
  rw [Int32.lt_iff_toInt_lt]
  omega
theorem xgd_i {b : Bool} {o : xO} {r : Int32 × xH} (hk : xgd b o = some r) : b = true ∧ o = some r := by
  cases b with
  | true => exact ⟨rfl, hk⟩
  | false => cases hk
theorem xnb_i {i : Int32} {N : Nat} {o : xO} {r : Int32 × xH} (hk : xnb i N o = some r) : vp_in i N ∧ o = some r := by
  unfold xnb at hk
  split at hk
  · cases hk
  · rename_i hq
    exact ⟨hq, hk⟩
theorem xcl_i {q : Option (List xV × List xV)} {f : List xV → List xV → xO} {r : Int32 × xH} (hk : xcl q f = some r) : ∃ a, q = some a ∧ f a.1 a.2 = some r := by
  cases q with
  | none => cases hk
  | some a => exact ⟨a, rfl, hk⟩
theorem xbd_i {q : xO} {f : Int32 → xH → xO} {r : Int32 × xH} (hk : xbd q f = some r) : ∃ a, q = some a ∧ f a.1 a.2 = some r := by
  cases q with
  | none => cases hk
  | some a => exact ⟨a, rfl, hk⟩
theorem xoks_c {lo n : Nat} {v : xV} {st : List xV} : xoks lo n (v :: st) ↔ xok lo n v ∧ xoks lo n st := by
  unfold xoks
  exact List.forall_mem_cons
theorem xoks_I {lo n : Nat} {x : Int32} {st : List xV} (h : xoks lo n st) : xoks lo n (xI x :: st) := xoks_c.mpr ⟨trivial, h⟩
theorem xoks_L {lo n : Nat} {x : Int64} {st : List xV} (h : xoks lo n st) : xoks lo n (xL x :: st) := xoks_c.mpr ⟨trivial, h⟩
theorem xoks_t {lo n : Nat} {v : xV} {st : List xV} (h : xoks lo n (v :: st)) : xoks lo n st := (xoks_c.mp h).2
theorem xb01_n {x : Int32} (h : xb01 x = true) : x = 0 ∨ x = 1 := by
  simpa [xb01] using h
section

variable {p : Program} {l : Launch} {e : Env} {R : Room} {s : State} {m : MethodId} {args : Array Value} {below : List Frame} {meth : Method} {c : Code} {own : String} {cc : ByteArray} {nL : Nat} {G : xG} {lo n : Nat} {tg : List Nat} {Q : State → Prop} {rt : Option FieldType}
variable {pc nx : Nat} {ls : List (Option xV)} {st : List xV} {h : xH} {r : Int32 × xH} {k : Nat → List (Option xV) → List xV → xH → xO}

theorem xj_iconst (Cx : xCx p R s m args c own cc nL G lo n tg) (K : ∀ pc ls st h, k pc ls st h = some r → xJ p l e R s m args below meth c nL G lo n Q pc ls st h) {v : Int} {z : Int32} (hd : decode cc pc = .ok (.iconst v, 1)) (hn : nx = pc + 1) (hv : Int32.ofInt v = z) (hk : (k nx ls (xI z :: st) h) = some r) : xJ p l e R s m args below meth c nL G lo n Q pc ls st h := by
  obtain ⟨hx, hb, hml, hown, hts, hKK, hBg, hGo, hfr, hlo⟩ := id Cx
  subst hn
  intro H locs lsA ho hs hP hS hL
  exact lv_iconst hx hb hd hv (K _ _ _ _ hk H locs lsA ho (xoks_I hs) hP hS hL)
theorem xj_bipush (Cx : xCx p R s m args c own cc nL G lo n tg) (K : ∀ pc ls st h, k pc ls st h = some r → xJ p l e R s m args below meth c nL G lo n Q pc ls st h) {v : Int} {z : Int32} (hd : decode cc pc = .ok (.bipush v, 2)) (hn : nx = pc + 2) (hv : (Int8.ofInt v).toInt32 = z) (hk : (k nx ls (xI z :: st) h) = some r) : xJ p l e R s m args below meth c nL G lo n Q pc ls st h := by
  obtain ⟨hx, hb, hml, hown, hts, hKK, hBg, hGo, hfr, hlo⟩ := id Cx
  subst hn
  intro H locs lsA ho hs hP hS hL
  exact lv_bipush hx hb hd hv (K _ _ _ _ hk H locs lsA ho (xoks_I hs) hP hS hL)
theorem xj_sipush (Cx : xCx p R s m args c own cc nL G lo n tg) (K : ∀ pc ls st h, k pc ls st h = some r → xJ p l e R s m args below meth c nL G lo n Q pc ls st h) {v : Int} {z : Int32} (hd : decode cc pc = .ok (.sipush v, 3)) (hn : nx = pc + 3) (hv : (Int16.ofInt v).toInt32 = z) (hk : (k nx ls (xI z :: st) h) = some r) : xJ p l e R s m args below meth c nL G lo n Q pc ls st h := by
  obtain ⟨hx, hb, hml, hown, hts, hKK, hBg, hGo, hfr, hlo⟩ := id Cx
  subst hn
  intro H locs lsA ho hs hP hS hL
  exact lv_sipush hx hb hd hv (K _ _ _ _ hk H locs lsA ho (xoks_I hs) hP hS hL)
theorem xj_iload_n (Cx : xCx p R s m args c own cc nL G lo n tg) (K : ∀ pc ls st h, k pc ls st h = some r → xJ p l e R s m args below meth c nL G lo n Q pc ls st h) {a : Nat} {v : Fin 4} (hv : (v : Nat) = a) (hd : decode cc pc = .ok (.iload_n v, 1)) (hn : nx = pc + 1) (hk : (xlI ls a fun x => k nx ls (xI x :: st) h) = some r) : xJ p l e R s m args below meth c nL G lo n Q pc ls st h := by
  obtain ⟨hx, hb, hml, hown, hts, hKK, hBg, hGo, hfr, hlo⟩ := id Cx
  subst hn
  intro H locs lsA ho hs hP hS hL
  obtain ⟨x, hg, hk⟩ := xlI_i hk
  have hla := hL.2.2 _ _ hg
  exact lv_iload_n hx hb hd hv hla (K _ _ _ _ hk H locs lsA ho (xoks_I hs) hP hS hL)
theorem xj_iload (Cx : xCx p R s m args c own cc nL G lo n tg) (K : ∀ pc ls st h, k pc ls st h = some r → xJ p l e R s m args below meth c nL G lo n Q pc ls st h) {a : Nat} {v : Nat} (hv : v = a) (hd : decode cc pc = .ok (.iload v, 2)) (hn : nx = pc + 2) (hk : (xlI ls a fun x => k nx ls (xI x :: st) h) = some r) : xJ p l e R s m args below meth c nL G lo n Q pc ls st h := by
  obtain ⟨hx, hb, hml, hown, hts, hKK, hBg, hGo, hfr, hlo⟩ := id Cx
  subst hn
  subst hv
  intro H locs lsA ho hs hP hS hL
  obtain ⟨x, hg, hk⟩ := xlI_i hk
  have hla := hL.2.2 _ _ hg
  exact lv_iload hx hb hd hla (K _ _ _ _ hk H locs lsA ho (xoks_I hs) hP hS hL)
theorem xj_lload_n (Cx : xCx p R s m args c own cc nL G lo n tg) (K : ∀ pc ls st h, k pc ls st h = some r → xJ p l e R s m args below meth c nL G lo n Q pc ls st h) {a : Nat} {v : Fin 4} (hv : (v : Nat) = a) (hd : decode cc pc = .ok (.lload_n v, 1)) (hn : nx = pc + 1) (hk : (xlL ls a fun x => k nx ls (xL x :: st) h) = some r) : xJ p l e R s m args below meth c nL G lo n Q pc ls st h := by
  obtain ⟨hx, hb, hml, hown, hts, hKK, hBg, hGo, hfr, hlo⟩ := id Cx
  subst hn
  intro H locs lsA ho hs hP hS hL
  obtain ⟨x, hg, hk⟩ := xlL_i hk
  have hla := hL.2.2 _ _ hg
  exact lv_lload_n hx hb hd hv hla (K _ _ _ _ hk H locs lsA ho (xoks_L hs) hP hS hL)
theorem xj_aload_n (Cx : xCx p R s m args c own cc nL G lo n tg) (K : ∀ pc ls st h, k pc ls st h = some r → xJ p l e R s m args below meth c nL G lo n Q pc ls st h) {a : Nat} {v : Fin 4} (hv : (v : Nat) = a) (hd : decode cc pc = .ok (.aload_n v, 1)) (hn : nx = pc + 1) (hk : (xlR ls a fun t o => xgd (!Nat.beq t 0) (k nx ls (xR t o :: st) h)) = some r) : xJ p l e R s m args below meth c nL G lo n Q pc ls st h := by
  obtain ⟨hx, hb, hml, hown, hts, hKK, hBg, hGo, hfr, hlo⟩ := id Cx
  subst hn
  intro H locs lsA ho hs hP hS hL
  obtain ⟨t, o, hg, hk⟩ := xlR_i hk
  obtain ⟨ht, hk⟩ := xgd_i hk
  have ht : t ≠ 0 := fun q => by subst q; cases ht
  have hla := hL.2.2 _ _ hg
  rw [xcv_R ht] at hla
  have h9 := K _ _ _ _ hk H locs lsA ho (xoks_c.mpr ⟨ho _ _ hg, hs⟩) hP hS hL
  rw [List.map_cons, xcv_R ht] at h9
  exact lv_aload_n hx hb hd hv hla h9
theorem xj_aload (Cx : xCx p R s m args c own cc nL G lo n tg) (K : ∀ pc ls st h, k pc ls st h = some r → xJ p l e R s m args below meth c nL G lo n Q pc ls st h) {a : Nat} {v : Nat} (hv : v = a) (hd : decode cc pc = .ok (.aload v, 2)) (hn : nx = pc + 2) (hk : (xlR ls a fun t o => xgd (!Nat.beq t 0) (k nx ls (xR t o :: st) h)) = some r) : xJ p l e R s m args below meth c nL G lo n Q pc ls st h := by
  obtain ⟨hx, hb, hml, hown, hts, hKK, hBg, hGo, hfr, hlo⟩ := id Cx
  subst hn
  subst hv
  intro H locs lsA ho hs hP hS hL
  obtain ⟨t, o, hg, hk⟩ := xlR_i hk
  obtain ⟨ht, hk⟩ := xgd_i hk
  have ht : t ≠ 0 := fun q => by subst q; cases ht
  have hla := hL.2.2 _ _ hg
  rw [xcv_R ht] at hla
  have h9 := K _ _ _ _ hk H locs lsA ho (xoks_c.mpr ⟨ho _ _ hg, hs⟩) hP hS hL
  rw [List.map_cons, xcv_R ht] at h9
  exact lv_aload hx hb hd hla h9
theorem xj_istore_n (Cx : xCx p R s m args c own cc nL G lo n tg) (K : ∀ pc ls st h, k pc ls st h = some r → xJ p l e R s m args below meth c nL G lo n Q pc ls st h) {a : Nat} {v : Fin 4} (hv : (v : Nat) = a) (ha : a < nL) (hd : decode cc pc = .ok (.istore_n v, 1)) (hn : nx = pc + 1) (hk : (xs1 st fun x st => xgd (!xlg ls a) (k nx (xset ls a (some (xI x))) st h)) = some r) : xJ p l e R s m args below meth c nL G lo n Q pc ls st h := by
  obtain ⟨hx, hb, hml, hown, hts, hKK, hBg, hGo, hfr, hlo⟩ := id Cx
  subst hn
  intro H locs lsA ho hs hP hS hL
  obtain ⟨x, u, hst, hk2⟩ := xs1_i hk
  subst hst
  obtain ⟨hg, hk2⟩ := xgd_i hk2
  simp only [Bool.not_eq_true'] at hg
  exact lv_istore_n hx hb hd hv (xls_has hL) ha rfl (fun lsB hB => K _ _ _ _ hk2 H locs lsB (xokl_set ho trivial) (xoks_t hs) hP hS (xls_store (w := xI x) hGo.2.1 hg hB))
theorem xj_istore (Cx : xCx p R s m args c own cc nL G lo n tg) (K : ∀ pc ls st h, k pc ls st h = some r → xJ p l e R s m args below meth c nL G lo n Q pc ls st h) {a : Nat} {v : Nat} (hv : v = a) (ha : a < nL) (hd : decode cc pc = .ok (.istore v, 2)) (hn : nx = pc + 2) (hk : (xs1 st fun x st => xgd (!xlg ls a) (k nx (xset ls a (some (xI x))) st h)) = some r) : xJ p l e R s m args below meth c nL G lo n Q pc ls st h := by
  obtain ⟨hx, hb, hml, hown, hts, hKK, hBg, hGo, hfr, hlo⟩ := id Cx
  subst hn
  subst hv
  intro H locs lsA ho hs hP hS hL
  obtain ⟨x, u, hst, hk2⟩ := xs1_i hk
  subst hst
  obtain ⟨hg, hk2⟩ := xgd_i hk2
  simp only [Bool.not_eq_true'] at hg
  exact lv_istore hx hb hd  (xls_has hL) ha rfl (fun lsB hB => K _ _ _ _ hk2 H locs lsB (xokl_set ho trivial) (xoks_t hs) hP hS (xls_store (w := xI x) hGo.2.1 hg hB))
theorem xj_astore_n (Cx : xCx p R s m args c own cc nL G lo n tg) (K : ∀ pc ls st h, k pc ls st h = some r → xJ p l e R s m args below meth c nL G lo n Q pc ls st h) {a : Nat} {v : Fin 4} (hv : (v : Nat) = a) (ha : a < nL) (hd : decode cc pc = .ok (.astore_n v, 1)) (hn : nx = pc + 1) (hk : (xsR st fun t o st => xgd (!Nat.beq t 0 && !xlg ls a) (k nx (xset ls a (some (xR t o))) st h)) = some r) : xJ p l e R s m args below meth c nL G lo n Q pc ls st h := by
  obtain ⟨hx, hb, hml, hown, hts, hKK, hBg, hGo, hfr, hlo⟩ := id Cx
  subst hn
  intro H locs lsA ho hs hP hS hL
  obtain ⟨t, o, u, hst, hk2⟩ := xsR_i hk
  subst hst
  obtain ⟨hg, hk2⟩ := xgd_i hk2
  simp only [Bool.and_eq_true, Bool.not_eq_true'] at hg
  have ht : t ≠ 0 := fun q => by subst q; cases hg.1
  have hg := hg.2
  rw [List.map_cons, xcv_R ht]
  exact lv_astore_n hx hb hd hv (xls_has hL) ha rfl (fun lsB hB => K _ _ _ _ hk2 H locs lsB (xokl_set ho (xoks_c.mp hs).1) (xoks_t hs) hP hS (xls_store (w := xR t o) hGo.2.1 hg (by rw [xcv_R ht]; exact hB)))
theorem xj_astore (Cx : xCx p R s m args c own cc nL G lo n tg) (K : ∀ pc ls st h, k pc ls st h = some r → xJ p l e R s m args below meth c nL G lo n Q pc ls st h) {a : Nat} {v : Nat} (hv : v = a) (ha : a < nL) (hd : decode cc pc = .ok (.astore v, 2)) (hn : nx = pc + 2) (hk : (xsR st fun t o st => xgd (!Nat.beq t 0 && !xlg ls a) (k nx (xset ls a (some (xR t o))) st h)) = some r) : xJ p l e R s m args below meth c nL G lo n Q pc ls st h := by
  obtain ⟨hx, hb, hml, hown, hts, hKK, hBg, hGo, hfr, hlo⟩ := id Cx
  subst hn
  subst hv
  intro H locs lsA ho hs hP hS hL
  obtain ⟨t, o, u, hst, hk2⟩ := xsR_i hk
  subst hst
  obtain ⟨hg, hk2⟩ := xgd_i hk2
  simp only [Bool.and_eq_true, Bool.not_eq_true'] at hg
  have ht : t ≠ 0 := fun q => by subst q; cases hg.1
  have hg := hg.2
  rw [List.map_cons, xcv_R ht]
  exact lv_astore hx hb hd  (xls_has hL) ha rfl (fun lsB hB => K _ _ _ _ hk2 H locs lsB (xokl_set ho (xoks_c.mp hs).1) (xoks_t hs) hP hS (xls_store (w := xR t o) hGo.2.1 hg (by rw [xcv_R ht]; exact hB)))
theorem xj_iinc (Cx : xCx p R s m args c own cc nL G lo n tg) (K : ∀ pc ls st h, k pc ls st h = some r → xJ p l e R s m args below meth c nL G lo n Q pc ls st h) {a : Nat} {u : Int} {z : Int32} (ha : a < nL) (hz : Int32.ofInt u = z) (hd : decode cc pc = .ok (.iinc a u, 3)) (hn : nx = pc + 3) (hk : (xlI ls a fun x => xgd (!xlg ls a) (k nx (xset ls a (some (xI (x + z)))) st h)) = some r) : xJ p l e R s m args below meth c nL G lo n Q pc ls st h := by
  obtain ⟨hx, hb, hml, hown, hts, hKK, hBg, hGo, hfr, hlo⟩ := id Cx
  subst hn
  intro H locs lsA ho hs hP hS hL
  obtain ⟨x, hq, hk⟩ := xlI_i hk
  obtain ⟨hg, hk⟩ := xgd_i hk
  have hg : xlg ls a = false := by simpa using hg
  have hm := xkn_in (G := G) ls 0 a _ hq
  rw [Nat.zero_add] at hm
  obtain ⟨j, hj⟩ := List.getElem?_of_mem hm
  exact lv_iinc (k := j) hx hb hd (xls_has hL) hj (by rw [hz]) ha rfl (fun lsB hB => K _ _ _ _ hk H locs lsB (xokl_set ho trivial) hs hP hS (xls_store (w := xI (x + z)) hGo.2.1 hg hB))
theorem xj_iadd (Cx : xCx p R s m args c own cc nL G lo n tg) (K : ∀ pc ls st h, k pc ls st h = some r → xJ p l e R s m args below meth c nL G lo n Q pc ls st h) (hd : decode cc pc = .ok (.iadd, 1)) (hn : nx = pc + 1) (hk : (xs2 st fun y x st => k nx ls (xI (x + y) :: st) h) = some r) : xJ p l e R s m args below meth c nL G lo n Q pc ls st h := by
  obtain ⟨hx, hb, hml, hown, hts, hKK, hBg, hGo, hfr, hlo⟩ := id Cx
  subst hn
  intro H locs lsA ho hs hP hS hL
  obtain ⟨y, x, u, hst, hk2⟩ := xs2_i hk
  subst hst
  exact lv_iadd hx hb hd (K _ _ _ _ hk2 H locs lsA ho (xoks_I (xoks_t (xoks_t hs))) hP hS hL)
theorem xj_isub (Cx : xCx p R s m args c own cc nL G lo n tg) (K : ∀ pc ls st h, k pc ls st h = some r → xJ p l e R s m args below meth c nL G lo n Q pc ls st h) (hd : decode cc pc = .ok (.isub, 1)) (hn : nx = pc + 1) (hk : (xs2 st fun y x st => k nx ls (xI (x - y) :: st) h) = some r) : xJ p l e R s m args below meth c nL G lo n Q pc ls st h := by
  obtain ⟨hx, hb, hml, hown, hts, hKK, hBg, hGo, hfr, hlo⟩ := id Cx
  subst hn
  intro H locs lsA ho hs hP hS hL
  obtain ⟨y, x, u, hst, hk2⟩ := xs2_i hk
  subst hst
  exact lv_isub hx hb hd (K _ _ _ _ hk2 H locs lsA ho (xoks_I (xoks_t (xoks_t hs))) hP hS hL)
theorem xj_imul (Cx : xCx p R s m args c own cc nL G lo n tg) (K : ∀ pc ls st h, k pc ls st h = some r → xJ p l e R s m args below meth c nL G lo n Q pc ls st h) (hd : decode cc pc = .ok (.imul, 1)) (hn : nx = pc + 1) (hk : (xs2 st fun y x st => k nx ls (xI (x * y) :: st) h) = some r) : xJ p l e R s m args below meth c nL G lo n Q pc ls st h := by
  obtain ⟨hx, hb, hml, hown, hts, hKK, hBg, hGo, hfr, hlo⟩ := id Cx
  subst hn
  intro H locs lsA ho hs hP hS hL
  obtain ⟨y, x, u, hst, hk2⟩ := xs2_i hk
  subst hst
  exact lv_imul hx hb hd (K _ _ _ _ hk2 H locs lsA ho (xoks_I (xoks_t (xoks_t hs))) hP hS hL)
theorem xj_iand (Cx : xCx p R s m args c own cc nL G lo n tg) (K : ∀ pc ls st h, k pc ls st h = some r → xJ p l e R s m args below meth c nL G lo n Q pc ls st h) (hd : decode cc pc = .ok (.iand, 1)) (hn : nx = pc + 1) (hk : (xs2 st fun y x st => k nx ls (xI (x &&& y) :: st) h) = some r) : xJ p l e R s m args below meth c nL G lo n Q pc ls st h := by
  obtain ⟨hx, hb, hml, hown, hts, hKK, hBg, hGo, hfr, hlo⟩ := id Cx
  subst hn
  intro H locs lsA ho hs hP hS hL
  obtain ⟨y, x, u, hst, hk2⟩ := xs2_i hk
  subst hst
  exact lv_iand hx hb hd (K _ _ _ _ hk2 H locs lsA ho (xoks_I (xoks_t (xoks_t hs))) hP hS hL)
theorem xj_ior (Cx : xCx p R s m args c own cc nL G lo n tg) (K : ∀ pc ls st h, k pc ls st h = some r → xJ p l e R s m args below meth c nL G lo n Q pc ls st h) (hd : decode cc pc = .ok (.ior, 1)) (hn : nx = pc + 1) (hk : (xs2 st fun y x st => k nx ls (xI (x ||| y) :: st) h) = some r) : xJ p l e R s m args below meth c nL G lo n Q pc ls st h := by
  obtain ⟨hx, hb, hml, hown, hts, hKK, hBg, hGo, hfr, hlo⟩ := id Cx
  subst hn
  intro H locs lsA ho hs hP hS hL
  obtain ⟨y, x, u, hst, hk2⟩ := xs2_i hk
  subst hst
  exact lv_ior hx hb hd (K _ _ _ _ hk2 H locs lsA ho (xoks_I (xoks_t (xoks_t hs))) hP hS hL)
theorem xj_ixor (Cx : xCx p R s m args c own cc nL G lo n tg) (K : ∀ pc ls st h, k pc ls st h = some r → xJ p l e R s m args below meth c nL G lo n Q pc ls st h) (hd : decode cc pc = .ok (.ixor, 1)) (hn : nx = pc + 1) (hk : (xs2 st fun y x st => k nx ls (xI (x ^^^ y) :: st) h) = some r) : xJ p l e R s m args below meth c nL G lo n Q pc ls st h := by
  obtain ⟨hx, hb, hml, hown, hts, hKK, hBg, hGo, hfr, hlo⟩ := id Cx
  subst hn
  intro H locs lsA ho hs hP hS hL
  obtain ⟨y, x, u, hst, hk2⟩ := xs2_i hk
  subst hst
  exact lv_ixor hx hb hd (K _ _ _ _ hk2 H locs lsA ho (xoks_I (xoks_t (xoks_t hs))) hP hS hL)
theorem xj_ishl (Cx : xCx p R s m args c own cc nL G lo n tg) (K : ∀ pc ls st h, k pc ls st h = some r → xJ p l e R s m args below meth c nL G lo n Q pc ls st h) (hd : decode cc pc = .ok (.ishl, 1)) (hn : nx = pc + 1) (hk : (xs2 st fun y x st => k nx ls (xI (x <<< (y &&& 31)) :: st) h) = some r) : xJ p l e R s m args below meth c nL G lo n Q pc ls st h := by
  obtain ⟨hx, hb, hml, hown, hts, hKK, hBg, hGo, hfr, hlo⟩ := id Cx
  subst hn
  intro H locs lsA ho hs hP hS hL
  obtain ⟨y, x, u, hst, hk2⟩ := xs2_i hk
  subst hst
  exact lv_ishl hx hb hd (K _ _ _ _ hk2 H locs lsA ho (xoks_I (xoks_t (xoks_t hs))) hP hS hL)
theorem xj_ishr (Cx : xCx p R s m args c own cc nL G lo n tg) (K : ∀ pc ls st h, k pc ls st h = some r → xJ p l e R s m args below meth c nL G lo n Q pc ls st h) (hd : decode cc pc = .ok (.ishr, 1)) (hn : nx = pc + 1) (hk : (xs2 st fun y x st => k nx ls (xI (x >>> (y &&& 31)) :: st) h) = some r) : xJ p l e R s m args below meth c nL G lo n Q pc ls st h := by
  obtain ⟨hx, hb, hml, hown, hts, hKK, hBg, hGo, hfr, hlo⟩ := id Cx
  subst hn
  intro H locs lsA ho hs hP hS hL
  obtain ⟨y, x, u, hst, hk2⟩ := xs2_i hk
  subst hst
  exact lv_ishr hx hb hd (K _ _ _ _ hk2 H locs lsA ho (xoks_I (xoks_t (xoks_t hs))) hP hS hL)
theorem xj_iushr (Cx : xCx p R s m args c own cc nL G lo n tg) (K : ∀ pc ls st h, k pc ls st h = some r → xJ p l e R s m args below meth c nL G lo n Q pc ls st h) (hd : decode cc pc = .ok (.iushr, 1)) (hn : nx = pc + 1) (hk : (xs2 st fun y x st => k nx ls (xI (x.toUInt32 >>> (y.toUInt32 &&& Int32.toUInt32 31)).toInt32 :: st) h) = some r) : xJ p l e R s m args below meth c nL G lo n Q pc ls st h := by
  obtain ⟨hx, hb, hml, hown, hts, hKK, hBg, hGo, hfr, hlo⟩ := id Cx
  subst hn
  intro H locs lsA ho hs hP hS hL
  obtain ⟨y, x, u, hst, hk2⟩ := xs2_i hk
  subst hst
  exact lv_iushr hx hb hd rfl (K _ _ _ _ hk2 H locs lsA ho (xoks_I (xoks_t (xoks_t hs))) hP hS hL)
theorem xj_idiv (Cx : xCx p R s m args c own cc nL G lo n tg) (K : ∀ pc ls st h, k pc ls st h = some r → xJ p l e R s m args below meth c nL G lo n Q pc ls st h) (hd : decode cc pc = .ok (.idiv, 1)) (hn : nx = pc + 1) (hk : (xs2 st fun y x st => if y = 0 then none else k nx ls (xI (x / y) :: st) h) = some r) : xJ p l e R s m args below meth c nL G lo n Q pc ls st h := by
  obtain ⟨hx, hb, hml, hown, hts, hKK, hBg, hGo, hfr, hlo⟩ := id Cx
  subst hn
  intro H locs lsA ho hs hP hS hL
  obtain ⟨y, x, u, hst, hk2⟩ := xs2_i hk
  subst hst
  by_cases hy : y = 0
  · rw [if_pos hy] at hk2; cases hk2
  · rw [if_neg hy] at hk2
    exact lv_idiv hx hb hd hy (K _ _ _ _ hk2 H locs lsA ho (xoks_I (xoks_t (xoks_t hs))) hP hS hL)
theorem xj_irem (Cx : xCx p R s m args c own cc nL G lo n tg) (K : ∀ pc ls st h, k pc ls st h = some r → xJ p l e R s m args below meth c nL G lo n Q pc ls st h) (hd : decode cc pc = .ok (.irem, 1)) (hn : nx = pc + 1) (hk : (xs2 st fun y x st => if y = 0 then none else k nx ls (xI (x - x / y * y) :: st) h) = some r) : xJ p l e R s m args below meth c nL G lo n Q pc ls st h := by
  obtain ⟨hx, hb, hml, hown, hts, hKK, hBg, hGo, hfr, hlo⟩ := id Cx
  subst hn
  intro H locs lsA ho hs hP hS hL
  obtain ⟨y, x, u, hst, hk2⟩ := xs2_i hk
  subst hst
  by_cases hy : y = 0
  · rw [if_pos hy] at hk2; cases hk2
  · rw [if_neg hy] at hk2
    exact lv_irem hx hb hd hy (K _ _ _ _ hk2 H locs lsA ho (xoks_I (xoks_t (xoks_t hs))) hP hS hL)
theorem xj_ineg (Cx : xCx p R s m args c own cc nL G lo n tg) (K : ∀ pc ls st h, k pc ls st h = some r → xJ p l e R s m args below meth c nL G lo n Q pc ls st h) (hd : decode cc pc = .ok (.ineg, 1)) (hn : nx = pc + 1) (hk : (xs1 st fun x st => k nx ls (xI (-x) :: st) h) = some r) : xJ p l e R s m args below meth c nL G lo n Q pc ls st h := by
  obtain ⟨hx, hb, hml, hown, hts, hKK, hBg, hGo, hfr, hlo⟩ := id Cx
  subst hn
  intro H locs lsA ho hs hP hS hL
  obtain ⟨x, u, hst, hk2⟩ := xs1_i hk
  subst hst
  exact lv_ineg hx hb hd  (K _ _ _ _ hk2 H locs lsA ho (xoks_I (xoks_t hs)) hP hS hL)
theorem xj_i2l (Cx : xCx p R s m args c own cc nL G lo n tg) (K : ∀ pc ls st h, k pc ls st h = some r → xJ p l e R s m args below meth c nL G lo n Q pc ls st h) (hd : decode cc pc = .ok (.i2l, 1)) (hn : nx = pc + 1) (hk : (xs1 st fun x st => k nx ls (xL (x.toInt64) :: st) h) = some r) : xJ p l e R s m args below meth c nL G lo n Q pc ls st h := by
  obtain ⟨hx, hb, hml, hown, hts, hKK, hBg, hGo, hfr, hlo⟩ := id Cx
  subst hn
  intro H locs lsA ho hs hP hS hL
  obtain ⟨x, u, hst, hk2⟩ := xs1_i hk
  subst hst
  exact lv_i2l hx hb hd rfl (K _ _ _ _ hk2 H locs lsA ho (xoks_L (xoks_t hs)) hP hS hL)
theorem xj_l2i (Cx : xCx p R s m args c own cc nL G lo n tg) (K : ∀ pc ls st h, k pc ls st h = some r → xJ p l e R s m args below meth c nL G lo n Q pc ls st h) (hd : decode cc pc = .ok (.l2i, 1)) (hn : nx = pc + 1) (hk : (xsL st fun x st => k nx ls (xI (x.toInt32) :: st) h) = some r) : xJ p l e R s m args below meth c nL G lo n Q pc ls st h := by
  obtain ⟨hx, hb, hml, hown, hts, hKK, hBg, hGo, hfr, hlo⟩ := id Cx
  subst hn
  intro H locs lsA ho hs hP hS hL
  obtain ⟨x, u, hst, hk2⟩ := xsL_i hk
  subst hst
  exact lv_l2i hx hb hd rfl (K _ _ _ _ hk2 H locs lsA ho (xoks_I (xoks_t hs)) hP hS hL)
theorem xj_i2b (Cx : xCx p R s m args c own cc nL G lo n tg) (K : ∀ pc ls st h, k pc ls st h = some r → xJ p l e R s m args below meth c nL G lo n Q pc ls st h) (hd : decode cc pc = .ok (.i2b, 1)) (hn : nx = pc + 1) (hk : (xs1 st fun x st => k nx ls (xI (x.toInt8.toInt32) :: st) h) = some r) : xJ p l e R s m args below meth c nL G lo n Q pc ls st h := by
  obtain ⟨hx, hb, hml, hown, hts, hKK, hBg, hGo, hfr, hlo⟩ := id Cx
  subst hn
  intro H locs lsA ho hs hP hS hL
  obtain ⟨x, u, hst, hk2⟩ := xs1_i hk
  subst hst
  exact lv_i2b hx hb hd rfl (K _ _ _ _ hk2 H locs lsA ho (xoks_I (xoks_t hs)) hP hS hL)
theorem xj_i2s (Cx : xCx p R s m args c own cc nL G lo n tg) (K : ∀ pc ls st h, k pc ls st h = some r → xJ p l e R s m args below meth c nL G lo n Q pc ls st h) (hd : decode cc pc = .ok (.i2s, 1)) (hn : nx = pc + 1) (hk : (xs1 st fun x st => k nx ls (xI (x.toInt16.toInt32) :: st) h) = some r) : xJ p l e R s m args below meth c nL G lo n Q pc ls st h := by
  obtain ⟨hx, hb, hml, hown, hts, hKK, hBg, hGo, hfr, hlo⟩ := id Cx
  subst hn
  intro H locs lsA ho hs hP hS hL
  obtain ⟨x, u, hst, hk2⟩ := xs1_i hk
  subst hst
  exact lv_i2s hx hb hd rfl (K _ _ _ _ hk2 H locs lsA ho (xoks_I (xoks_t hs)) hP hS hL)
theorem xj_i2c (Cx : xCx p R s m args c own cc nL G lo n tg) (K : ∀ pc ls st h, k pc ls st h = some r → xJ p l e R s m args below meth c nL G lo n Q pc ls st h) (hd : decode cc pc = .ok (.i2c, 1)) (hn : nx = pc + 1) (hk : (xs1 st fun x st => k nx ls (xI (xch x) :: st) h) = some r) : xJ p l e R s m args below meth c nL G lo n Q pc ls st h := by
  obtain ⟨hx, hb, hml, hown, hts, hKK, hBg, hGo, hfr, hlo⟩ := id Cx
  subst hn
  intro H locs lsA ho hs hP hS hL
  obtain ⟨x, u, hst, hk2⟩ := xs1_i hk
  subst hst
  exact lv_i2c hx hb hd rfl (K _ _ _ _ hk2 H locs lsA ho (xoks_I (xoks_t hs)) hP hS hL)
theorem xj_land (Cx : xCx p R s m args c own cc nL G lo n tg) (K : ∀ pc ls st h, k pc ls st h = some r → xJ p l e R s m args below meth c nL G lo n Q pc ls st h) (hd : decode cc pc = .ok (.land, 1)) (hn : nx = pc + 1) (hk : (xsLL st fun y x st => k nx ls (xL (x &&& y) :: st) h) = some r) : xJ p l e R s m args below meth c nL G lo n Q pc ls st h := by
  obtain ⟨hx, hb, hml, hown, hts, hKK, hBg, hGo, hfr, hlo⟩ := id Cx
  subst hn
  intro H locs lsA ho hs hP hS hL
  obtain ⟨y, x, u, hst, hk2⟩ := xsLL_i hk
  subst hst
  exact lv_land hx hb hd (K _ _ _ _ hk2 H locs lsA ho (xoks_L (xoks_t (xoks_t hs))) hP hS hL)
theorem xj_lshr (Cx : xCx p R s m args c own cc nL G lo n tg) (K : ∀ pc ls st h, k pc ls st h = some r → xJ p l e R s m args below meth c nL G lo n Q pc ls st h) (hd : decode cc pc = .ok (.lshr, 1)) (hn : nx = pc + 1) (hk : (xsIL st fun y x st => k nx ls (xL (x >>> (y.toInt64 &&& 63)) :: st) h) = some r) : xJ p l e R s m args below meth c nL G lo n Q pc ls st h := by
  obtain ⟨hx, hb, hml, hown, hts, hKK, hBg, hGo, hfr, hlo⟩ := id Cx
  subst hn
  intro H locs lsA ho hs hP hS hL
  obtain ⟨y, x, u, hst, hk2⟩ := xsIL_i hk
  subst hst
  exact lv_lshr hx hb hd rfl (K _ _ _ _ hk2 H locs lsA ho (xoks_L (xoks_t (xoks_t hs))) hP hS hL)
theorem xj_lushr (Cx : xCx p R s m args c own cc nL G lo n tg) (K : ∀ pc ls st h, k pc ls st h = some r → xJ p l e R s m args below meth c nL G lo n Q pc ls st h) (hd : decode cc pc = .ok (.lushr, 1)) (hn : nx = pc + 1) (hk : (xsIL st fun y x st => k nx ls (xL ((x.toUInt64 >>> (y.toInt64.toUInt64 &&& Int64.toUInt64 63)).toInt64) :: st) h) = some r) : xJ p l e R s m args below meth c nL G lo n Q pc ls st h := by
  obtain ⟨hx, hb, hml, hown, hts, hKK, hBg, hGo, hfr, hlo⟩ := id Cx
  subst hn
  intro H locs lsA ho hs hP hS hL
  obtain ⟨y, x, u, hst, hk2⟩ := xsIL_i hk
  subst hst
  exact lv_lushr hx hb hd rfl (K _ _ _ _ hk2 H locs lsA ho (xoks_L (xoks_t (xoks_t hs))) hP hS hL)
theorem xj_dup (Cx : xCx p R s m args c own cc nL G lo n tg) (K : ∀ pc ls st h, k pc ls st h = some r → xJ p l e R s m args below meth c nL G lo n Q pc ls st h) (hd : decode cc pc = .ok (.dup, 1)) (hn : nx = pc + 1) (hk : (xsD st (fun x st => k nx ls (xI x :: xI x :: st) h) (fun t o st => k nx ls (xR t o :: xR t o :: st) h)) = some r) : xJ p l e R s m args below meth c nL G lo n Q pc ls st h := by
  obtain ⟨hx, hb, hml, hown, hts, hKK, hBg, hGo, hfr, hlo⟩ := id Cx
  subst hn
  intro H locs lsA ho hs hP hS hL
  unfold xsD at hk
  split at hk
  · rename_i x u
    exact lv_dup hx hb hd rfl (K _ _ _ _ hk H locs lsA ho (xoks_I hs) hP hS hL)
  · rename_i t o u
    exact lv_dup hx hb hd (xcv_cat1 (v := xR t o) hGo.2.1 (fun x q => by cases q)) (K _ _ _ _ hk H locs lsA ho (xoks_c.mpr ⟨(xoks_c.mp hs).1, hs⟩) hP hS hL)
  · cases hk
theorem xj_dup2 (Cx : xCx p R s m args c own cc nL G lo n tg) (K : ∀ pc ls st h, k pc ls st h = some r → xJ p l e R s m args below meth c nL G lo n Q pc ls st h) (hd : decode cc pc = .ok (.dup2, 1)) (hn : nx = pc + 1) (hk : (xsIR st fun x t o st => k nx ls (xI x :: xR t o :: xI x :: xR t o :: st) h) = some r) : xJ p l e R s m args below meth c nL G lo n Q pc ls st h := by
  obtain ⟨hx, hb, hml, hown, hts, hKK, hBg, hGo, hfr, hlo⟩ := id Cx
  subst hn
  intro H locs lsA ho hs hP hS hL
  obtain ⟨x, t, o, u, hst, hk2⟩ := xsIR_i hk
  subst hst
  exact lv_dup2_11 hx hb hd rfl (xcv_cat1 (v := xR t o) hGo.2.1 (fun x q => by cases q)) (K _ _ _ _ hk2 H locs lsA ho (xoks_I (xoks_c.mpr ⟨(xoks_c.mp (xoks_t hs)).1, hs⟩)) hP hS hL)
theorem xj_pop (Cx : xCx p R s m args c own cc nL G lo n tg) (K : ∀ pc ls st h, k pc ls st h = some r → xJ p l e R s m args below meth c nL G lo n Q pc ls st h) (hd : decode cc pc = .ok (.pop, 1)) (hn : nx = pc + 1) (hk : (xs1 st fun _ st => k nx ls st h) = some r) : xJ p l e R s m args below meth c nL G lo n Q pc ls st h := by
  obtain ⟨hx, hb, hml, hown, hts, hKK, hBg, hGo, hfr, hlo⟩ := id Cx
  subst hn
  intro H locs lsA ho hs hP hS hL
  obtain ⟨x, u, hst, hk2⟩ := xs1_i hk
  subst hst
  exact lv_pop hx hb hd rfl (K _ _ _ _ hk2 H locs lsA ho (xoks_t hs) hP hS hL)
theorem xj_icmp (Cx : xCx p R s m args c own cc nL G lo n tg) (K : ∀ pc ls st h, k pc ls st h = some r → xJ p l e R s m args below meth c nL G lo n Q pc ls st h) {cd : Jvm.ClassFile.Cond} {a : Nat} {o : Int} (ht : (pc : Int) + o = (a : Int)) (hd : decode cc pc = .ok (.if_icmp cd o, 3)) (hn : nx = pc + 3) (hk : (xs2 st fun y x st => xbr cd x y (k a ls st h) (k nx ls st h)) = some r) : xJ p l e R s m args below meth c nL G lo n Q pc ls st h := by
  obtain ⟨hx, hb, hml, hown, hts, hKK, hBg, hGo, hfr, hlo⟩ := id Cx
  subst hn
  intro H locs lsA ho hs hP hS hL
  obtain ⟨y, x, u, hst, hk2⟩ := xs2_i hk
  subst hst
  have hs' : xoks lo n u := xoks_t (xoks_t hs)
  cases cd with
  | eq =>
    simp only [xbr] at hk2
    refine lv_icmp_eq hx hb hd ht (fun q => ?_) (fun q => ?_)
    · exact K _ _ _ _ (by
        rw [if_pos q] at hk2; exact hk2) H locs lsA ho hs' hP hS hL
    · exact K _ _ _ _ (by
        rw [if_neg q] at hk2; exact hk2) H locs lsA ho hs' hP hS hL
  | ne =>
    simp only [xbr] at hk2
    refine lv_icmp_ne hx hb hd ht (fun q => ?_) (fun q => ?_)
    · exact K _ _ _ _ (by
        rw [if_neg q] at hk2; exact hk2) H locs lsA ho hs' hP hS hL
    · exact K _ _ _ _ (by
        rw [if_pos q] at hk2; exact hk2) H locs lsA ho hs' hP hS hL
  | lt =>
    simp only [xbr] at hk2
    refine lv_icmp_lt hx hb hd ht (fun q => ?_) (fun q => ?_)
    · exact K _ _ _ _ (by
        rw [if_pos q] at hk2; exact hk2) H locs lsA ho hs' hP hS hL
    · exact K _ _ _ _ (by
        rw [if_neg q] at hk2; exact hk2) H locs lsA ho hs' hP hS hL
  | ge =>
    simp only [xbr] at hk2
    refine lv_icmp_ge hx hb hd ht (fun q => ?_) (fun q => ?_)
    · exact K _ _ _ _ (by
        rw [if_neg (fun q2 => fa_nge q q2)] at hk2; exact hk2) H locs lsA ho hs' hP hS hL
    · exact K _ _ _ _ (by
        rw [if_pos (fa_ngl q)] at hk2; exact hk2) H locs lsA ho hs' hP hS hL
  | gt =>
    simp only [xbr] at hk2
    refine lv_icmp_gt hx hb hd ht (fun q => ?_) (fun q => ?_)
    · exact K _ _ _ _ (by
        rw [if_pos q] at hk2; exact hk2) H locs lsA ho hs' hP hS hL
    · exact K _ _ _ _ (by
        rw [if_neg q] at hk2; exact hk2) H locs lsA ho hs' hP hS hL
  | le =>
    simp only [xbr] at hk2
    refine lv_icmp_le hx hb hd ht (fun q => ?_) (fun q => ?_)
    · exact K _ _ _ _ (by
        rw [if_neg (fun q2 => fa_nge q q2)] at hk2; exact hk2) H locs lsA ho hs' hP hS hL
    · exact K _ _ _ _ (by
        rw [if_pos (fa_ngl q)] at hk2; exact hk2) H locs lsA ho hs' hP hS hL
theorem xj_ifc (Cx : xCx p R s m args c own cc nL G lo n tg) (K : ∀ pc ls st h, k pc ls st h = some r → xJ p l e R s m args below meth c nL G lo n Q pc ls st h) {cd : Jvm.ClassFile.Cond} {a : Nat} {o : Int} (ht : (pc : Int) + o = (a : Int)) (hd : decode cc pc = .ok (.ifCond cd o, 3)) (hn : nx = pc + 3) (hk : (xs1 st fun x st => xbr cd x 0 (k a ls st h) (k nx ls st h)) = some r) : xJ p l e R s m args below meth c nL G lo n Q pc ls st h := by
  obtain ⟨hx, hb, hml, hown, hts, hKK, hBg, hGo, hfr, hlo⟩ := id Cx
  subst hn
  intro H locs lsA ho hs hP hS hL
  obtain ⟨x, u, hst, hk2⟩ := xs1_i hk
  subst hst
  have hs' : xoks lo n u := xoks_t hs
  cases cd with
  | eq =>
    simp only [xbr] at hk2
    refine lv_if_eq hx hb hd ht (fun q => ?_) (fun q => ?_)
    · exact K _ _ _ _ (by
        rw [if_pos q] at hk2; exact hk2) H locs lsA ho hs' hP hS hL
    · exact K _ _ _ _ (by
        rw [if_neg q] at hk2; exact hk2) H locs lsA ho hs' hP hS hL
  | ne =>
    simp only [xbr] at hk2
    refine lv_if_ne hx hb hd ht (fun q => ?_) (fun q => ?_)
    · exact K _ _ _ _ (by
        rw [if_neg q] at hk2; exact hk2) H locs lsA ho hs' hP hS hL
    · exact K _ _ _ _ (by
        rw [if_pos q] at hk2; exact hk2) H locs lsA ho hs' hP hS hL
  | lt =>
    simp only [xbr] at hk2
    refine lv_if_lt hx hb hd ht (fun q => ?_) (fun q => ?_)
    · exact K _ _ _ _ (by
        rw [if_pos q] at hk2; exact hk2) H locs lsA ho hs' hP hS hL
    · exact K _ _ _ _ (by
        rw [if_neg q] at hk2; exact hk2) H locs lsA ho hs' hP hS hL
  | ge =>
    simp only [xbr] at hk2
    refine lv_if_ge hx hb hd ht (fun q => ?_) (fun q => ?_)
    · exact K _ _ _ _ (by
        rw [if_neg (fun q2 => fa_nge q q2)] at hk2; exact hk2) H locs lsA ho hs' hP hS hL
    · exact K _ _ _ _ (by
        rw [if_pos (fa_ngl q)] at hk2; exact hk2) H locs lsA ho hs' hP hS hL
  | gt =>
    simp only [xbr] at hk2
    refine lv_if_gt hx hb hd ht (fun q => ?_) (fun q => ?_)
    · exact K _ _ _ _ (by
        rw [if_pos q] at hk2; exact hk2) H locs lsA ho hs' hP hS hL
    · exact K _ _ _ _ (by
        rw [if_neg q] at hk2; exact hk2) H locs lsA ho hs' hP hS hL
  | le =>
    simp only [xbr] at hk2
    refine lv_if_le hx hb hd ht (fun q => ?_) (fun q => ?_)
    · exact K _ _ _ _ (by
        rw [if_neg (fun q2 => fa_nge q q2)] at hk2; exact hk2) H locs lsA ho hs' hP hS hL
    · exact K _ _ _ _ (by
        rw [if_pos (fa_ngl q)] at hk2; exact hk2) H locs lsA ho hs' hP hS hL
theorem xj_goto (Cx : xCx p R s m args c own cc nL G lo n tg) (K : ∀ pc ls st h, k pc ls st h = some r → xJ p l e R s m args below meth c nL G lo n Q pc ls st h) {a : Nat} {o : Int} (ht : (pc : Int) + o = (a : Int)) (hd : decode cc pc = .ok (.goto o, 3)) (hk : (k a ls st h) = some r) : xJ p l e R s m args below meth c nL G lo n Q pc ls st h := by
  obtain ⟨hx, hb, hml, hown, hts, hKK, hBg, hGo, hfr, hlo⟩ := id Cx
  intro H locs lsA ho hs hP hS hL
  exact lv_goto hx hb hd ht (K _ _ _ _ hk H locs lsA ho hs hP hS hL)
end
