theorem ax_all_split {α : Type} (f : α → Bool) (n : Nat) (l : List α) (h1 : (l.take n).all f = true) (h2 : (l.drop n).all f = true) : l.all f = true := by
  rw [← List.take_append_drop n l, List.all_append, h1, h2]
  rfl
theorem ax_okM_all : (ax_pr.zip ax_mm).all (fun q => ax_okM q.1 q.2) = true := by
  refine ax_all_split _ 5 _ ax_okM_0 ?_
  refine ax_all_split _ 5 _ ax_okM_5 ?_
  rw [List.drop_drop]
  refine ax_all_split _ 5 _ ax_okM_10 ?_
  rw [List.drop_drop]
  refine ax_all_split _ 5 _ ax_okM_15 ?_
  rw [List.drop_drop]
  refine ax_all_split _ 5 _ ax_okM_20 ?_
  rw [List.drop_drop]
  refine ax_all_split _ 5 _ ax_okM_25 ?_
  rw [List.drop_drop]
  refine ax_all_split _ 5 _ ax_okM_30 ?_
  rw [List.drop_drop]
  refine ax_all_split _ 5 _ ax_okM_35 ?_
  rw [List.drop_drop]
  refine ax_all_split _ 5 _ ax_okM_40 ?_
  rw [List.drop_drop]
  refine ax_all_split _ 5 _ ax_okM_45 ?_
  rw [List.drop_drop]
  refine ax_all_split _ 5 _ ax_okM_50 ?_
  rw [List.drop_drop]
  refine ax_all_split _ 5 _ ax_okM_55 ?_
  rw [List.drop_drop]
  refine ax_all_split _ 5 _ ax_okM_60 ?_
  rw [List.drop_drop]
  refine ax_all_split _ 5 _ ax_okM_65 ?_
  rw [List.drop_drop]
  refine ax_all_split _ 5 _ ax_okM_70 ?_
  rw [List.drop_drop]
  refine ax_all_split _ 5 _ ax_okM_75 ?_
  rw [List.drop_drop]
  refine ax_all_split _ 5 _ ax_okM_80 ?_
  rw [List.drop_drop]
  refine ax_all_split _ 5 _ ax_okM_85 ?_
  rw [List.drop_drop]
  refine ax_all_split _ 5 _ ax_okM_90 ?_
  rw [List.drop_drop]
  refine ax_all_split _ 5 _ ax_okM_95 ?_
  rw [List.drop_drop]
  refine ax_all_split _ 5 _ ax_okM_100 ?_
  rw [List.drop_drop]
  refine ax_all_split _ 5 _ ax_okM_105 ?_
  rw [List.drop_drop]
  refine ax_all_split _ 5 _ ax_okM_110 ?_
  rw [List.drop_drop]
  refine ax_all_split _ 5 _ ax_okM_115 ?_
  rw [List.drop_drop]
  refine ax_all_split _ 5 _ ax_okM_120 ?_
  rw [List.drop_drop]
  exact ax_okM_125
theorem oi_ML_init : tb_ML_init.all (ax_okI prog_1_method_1_code 1) = true := by
  unfold tb_ML_init
  simp only [List.all_append, oi_ML_init_1, oi_ML_init_2, Bool.and_self]
theorem oi_ML_maker : tb_ML_maker.all (ax_okI prog_1_method_3_code 4) = true := by
  unfold tb_ML_maker
  simp only [List.all_append, oi_ML_maker_1, oi_ML_maker_2, Bool.and_self]
theorem oi_ML_thing : tb_ML_thing.all (ax_okI prog_1_method_4_code 5) = true := by
  unfold tb_ML_thing
  simp only [List.all_append, oi_ML_thing_1, oi_ML_thing_2, Bool.and_self]
theorem oi_ML_at : tb_ML_at.all (ax_okI prog_1_method_5_code 6) = true := by
  unfold tb_ML_at
  simp only [List.all_append, oi_ML_at_1, oi_ML_at_2, Bool.and_self]
theorem oi_ML_remark : tb_ML_remark.all (ax_okI prog_1_method_7_code 4) = true := by
  unfold tb_ML_remark
  simp only [List.all_append, oi_ML_remark_1, oi_ML_remark_2, Bool.and_self]
theorem oi_ML_share : tb_ML_share.all (ax_okI prog_1_method_10_code 8) = true := by
  unfold tb_ML_share
  simp only [List.all_append, oi_ML_share_1, oi_ML_share_2, Bool.and_self]
theorem oi_ML_balance : tb_ML_balance.all (ax_okI prog_1_method_11_code 8) = true := by
  unfold tb_ML_balance
  simp only [List.all_append, oi_ML_balance_1, oi_ML_balance_2, Bool.and_self]
theorem oi_ML_copper : tb_ML_copper.all (ax_okI prog_1_method_13_code 7) = true := by
  unfold tb_ML_copper
  simp only [List.all_append, oi_ML_copper_1, oi_ML_copper_2, Bool.and_self]
theorem oi_ML_best : tb_ML_best.all (ax_okI prog_1_method_14_code 9) = true := by
  unfold tb_ML_best
  simp only [List.all_append, oi_ML_best_1, oi_ML_best_2, Bool.and_self]
theorem oi_ML_order : tb_ML_order.all (ax_okI prog_1_method_15_code 12) = true := by
  unfold tb_ML_order
  simp only [List.all_append, oi_ML_order_1, oi_ML_order_2, Bool.and_self]
theorem oi_ML_clear : tb_ML_clear.all (ax_okI prog_1_method_17_code 2) = true := by
  unfold tb_ML_clear
  simp only [List.all_append, oi_ML_clear_1, oi_ML_clear_2, Bool.and_self]
theorem oi_Bd_add : tb_Bd_add.all (ax_okI prog_2_method_2_code 4) = true := by
  unfold tb_Bd_add
  simp only [List.all_append, oi_Bd_add_1, oi_Bd_add_2, Bool.and_self]
theorem oi_Bd_move : tb_Bd_move.all (ax_okI prog_2_method_4_code 5) = true := by
  unfold tb_Bd_move
  simp only [List.all_append, oi_Bd_move_1, oi_Bd_move_2, Bool.and_self]
theorem oi_Ce_tell : tb_Ce_tell.all (ax_okI prog_3_method_3_code 7) = true := by
  unfold tb_Ce_tell
  simp only [List.all_append, oi_Ce_tell_1, oi_Ce_tell_2, Bool.and_self]
theorem oi_Ce_units : tb_Ce_units.all (ax_okI prog_3_method_5_code 5) = true := by
  unfold tb_Ce_units
  simp only [List.all_append, oi_Ce_units_1, oi_Ce_units_2, Bool.and_self]
theorem oi_Gr_addStep : tb_Gr_addStep.all (ax_okI prog_4_method_3_code 4) = true := by
  unfold tb_Gr_addStep
  simp only [List.all_append, oi_Gr_addStep_1, oi_Gr_addStep_2, Bool.and_self]
theorem oi_Gr_priceOf : tb_Gr_priceOf.all (ax_okI prog_4_method_6_code 8) = true := by
  unfold tb_Gr_priceOf
  simp only [List.all_append, oi_Gr_priceOf_1, oi_Gr_priceOf_2, Bool.and_self]
theorem oi_Or_add : tb_Or_add.all (ax_okI prog_6_method_2_code 9) = true := by
  unfold tb_Or_add
  simp only [List.all_append, oi_Or_add_1, oi_Or_add_2, oi_Or_add_3, Bool.and_self]
theorem oi_Qu_add : tb_Qu_add.all (ax_okI prog_7_method_2_code 5) = true := by
  unfold tb_Qu_add
  simp only [List.all_append, oi_Qu_add_1, oi_Qu_add_2, Bool.and_self]
theorem oi_Re_collect : tb_Re_collect.all (ax_okI prog_8_method_2_code 5) = true := by
  unfold tb_Re_collect
  simp only [List.all_append, oi_Re_collect_1, oi_Re_collect_2, Bool.and_self]
theorem oi_Tx_readNumber : tb_Tx_readNumber.all (ax_okI prog_9_method_5_code 3) = true := by
  unfold tb_Tx_readNumber
  simp only [List.all_append, oi_Tx_readNumber_1, oi_Tx_readNumber_2, Bool.and_self]
theorem oi_Tx_readOffer : tb_Tx_readOffer.all (ax_okI prog_9_method_6_code 5) = true := by
  unfold tb_Tx_readOffer
  simp only [List.all_append, oi_Tx_readOffer_1, oi_Tx_readOffer_2, Bool.and_self]
theorem oi_Tx_readGrade : tb_Tx_readGrade.all (ax_okI prog_9_method_7_code 3) = true := by
  unfold tb_Tx_readGrade
  simp only [List.all_append, oi_Tx_readGrade_1, oi_Tx_readGrade_2, Bool.and_self]
theorem oi_Tx_readSteps : tb_Tx_readSteps.all (ax_okI prog_9_method_9_code 5) = true := by
  unfold tb_Tx_readSteps
  simp only [List.all_append, oi_Tx_readSteps_1, oi_Tx_readSteps_2, Bool.and_self]
theorem oi_Tx_readWhole : tb_Tx_readWhole.all (ax_okI prog_9_method_11_code 3) = true := by
  unfold tb_Tx_readWhole
  simp only [List.all_append, oi_Tx_readWhole_1, oi_Tx_readWhole_2, Bool.and_self]
theorem oi_Mo_init : tb_Mo_init.all (ax_okI prog_11_method_1_code 1) = true := by
  unfold tb_Mo_init
  simp only [List.all_append, oi_Mo_init_1, oi_Mo_init_2, oi_Mo_init_3, Bool.and_self]
theorem oi_Mo_empty : tb_Mo_empty.all (ax_okI prog_11_method_2_code 2) = true := by
  unfold tb_Mo_empty
  simp only [List.all_append, oi_Mo_empty_1, oi_Mo_empty_2, Bool.and_self]
theorem oi_Mo_whole : tb_Mo_whole.all (ax_okI prog_11_method_9_code 4) = true := by
  unfold tb_Mo_whole
  simp only [List.all_append, oi_Mo_whole_1, oi_Mo_whole_2, Bool.and_self]
theorem oi_Mo_readClass : tb_Mo_readClass.all (ax_okI prog_11_method_11_code 13) = true := by
  unfold tb_Mo_readClass
  simp only [List.all_append, oi_Mo_readClass_1, oi_Mo_readClass_2, oi_Mo_readClass_3, oi_Mo_readClass_4, oi_Mo_readClass_5, oi_Mo_readClass_6, oi_Mo_readClass_7, Bool.and_self]
theorem oi_Mo_copyClasses : tb_Mo_copyClasses.all (ax_okI prog_11_method_12_code 4) = true := by
  unfold tb_Mo_copyClasses
  simp only [List.all_append, oi_Mo_copyClasses_1, oi_Mo_copyClasses_2, Bool.and_self]
theorem oi_Mo_maker : tb_Mo_maker.all (ax_okI prog_11_method_13_code 3) = true := by
  unfold tb_Mo_maker
  simp only [List.all_append, oi_Mo_maker_1, oi_Mo_maker_2, oi_Mo_maker_3, oi_Mo_maker_4, Bool.and_self]
theorem oi_Mo_thing : tb_Mo_thing.all (ax_okI prog_11_method_15_code 6) = true := by
  unfold tb_Mo_thing
  simp only [List.all_append, oi_Mo_thing_1, oi_Mo_thing_2, oi_Mo_thing_3, Bool.and_self]
theorem oi_Mo_at : tb_Mo_at.all (ax_okI prog_11_method_17_code 6) = true := by
  unfold tb_Mo_at
  simp only [List.all_append, oi_Mo_at_1, oi_Mo_at_2, Bool.and_self]
theorem oi_Mo_beyond : tb_Mo_beyond.all (ax_okI prog_11_method_18_code 6) = true := by
  unfold tb_Mo_beyond
  simp only [List.all_append, oi_Mo_beyond_1, oi_Mo_beyond_2, Bool.and_self]
theorem oi_Mo_run : tb_Mo_run.all (ax_okI prog_11_method_23_code 4) = true := by
  unfold tb_Mo_run
  simp only [List.all_append, oi_Mo_run_1, oi_Mo_run_2, Bool.and_self]
theorem oi_Mo_remark : tb_Mo_remark.all (ax_okI prog_11_method_24_code 4) = true := by
  unfold tb_Mo_remark
  simp only [List.all_append, oi_Mo_remark_1, oi_Mo_remark_2, Bool.and_self]
theorem oi_Mo_priceOf : tb_Mo_priceOf.all (ax_okI prog_11_method_27_code 8) = true := by
  unfold tb_Mo_priceOf
  simp only [List.all_append, oi_Mo_priceOf_1, oi_Mo_priceOf_2, Bool.and_self]
theorem oi_Mo_share : tb_Mo_share.all (ax_okI prog_11_method_29_code 6) = true := by
  unfold tb_Mo_share
  simp only [List.all_append, oi_Mo_share_1, oi_Mo_share_2, Bool.and_self]
theorem oi_Mo_best : tb_Mo_best.all (ax_okI prog_11_method_30_code 8) = true := by
  unfold tb_Mo_best
  simp only [List.all_append, oi_Mo_best_1, oi_Mo_best_2, Bool.and_self]
theorem oi_Mo_copper : tb_Mo_copper.all (ax_okI prog_11_method_32_code 10) = true := by
  unfold tb_Mo_copper
  simp only [List.all_append, oi_Mo_copper_1, oi_Mo_copper_2, oi_Mo_copper_3, Bool.and_self]
theorem oi_Mo_balance : tb_Mo_balance.all (ax_okI prog_11_method_33_code 15) = true := by
  unfold tb_Mo_balance
  simp only [List.all_append, oi_Mo_balance_1, oi_Mo_balance_2, oi_Mo_balance_3, oi_Mo_balance_4, Bool.and_self]
theorem oi_Mo_quote : tb_Mo_quote.all (ax_okI prog_11_method_34_code 4) = true := by
  unfold tb_Mo_quote
  simp only [List.all_append, oi_Mo_quote_1, oi_Mo_quote_2, Bool.and_self]
theorem oi_Mo_order : tb_Mo_order.all (ax_okI prog_11_method_35_code 12) = true := by
  unfold tb_Mo_order
  simp only [List.all_append, oi_Mo_order_1, oi_Mo_order_2, oi_Mo_order_3, oi_Mo_order_4, oi_Mo_order_5, Bool.and_self]
theorem oi_Mo_history : tb_Mo_history.all (ax_okI prog_11_method_36_code 3) = true := by
  unfold tb_Mo_history
  simp only [List.all_append, oi_Mo_history_1, oi_Mo_history_2, Bool.and_self]
theorem oi_La_law : tb_La_law.all (ax_okI code 8) = true := by
  unfold tb_La_law
  simp only [List.all_append, oi_La_law_1, oi_La_law_2, oi_La_law_3, oi_La_law_4, oi_La_law_5, oi_La_law_6, oi_La_law_7, oi_La_law_8, oi_La_law_9, oi_La_law_10, oi_La_law_11, oi_La_law_12, oi_La_law_13, oi_La_law_14, oi_La_law_15, oi_La_law_16, oi_La_law_17, oi_La_law_18, oi_La_law_19, oi_La_law_20, oi_La_law_21, oi_La_law_22, oi_La_law_23, oi_La_law_24, oi_La_law_25, oi_La_law_26, oi_La_law_27, oi_La_law_28, oi_La_law_29, oi_La_law_30, oi_La_law_31, oi_La_law_32, oi_La_law_33, oi_La_law_34, Bool.and_self]
theorem ax_oi_all : ∀ q ∈ ax_pr.zip ax_mm, q.1.2.2.1.all (ax_okI q.2.2.1 q.2.2.2.1) = true :=
  List.forall_mem_cons.mpr ⟨oi_ML_init, List.forall_mem_cons.mpr ⟨oi_ML_unit, List.forall_mem_cons.mpr ⟨oi_ML_maker, List.forall_mem_cons.mpr ⟨oi_ML_thing, List.forall_mem_cons.mpr ⟨oi_ML_at, List.forall_mem_cons.mpr ⟨oi_ML_run, List.forall_mem_cons.mpr ⟨oi_ML_remark, List.forall_mem_cons.mpr ⟨oi_ML_least, List.forall_mem_cons.mpr ⟨oi_ML_price, List.forall_mem_cons.mpr ⟨oi_ML_share, List.forall_mem_cons.mpr ⟨oi_ML_balance, List.forall_mem_cons.mpr ⟨oi_ML_quote, List.forall_mem_cons.mpr ⟨oi_ML_copper, List.forall_mem_cons.mpr ⟨oi_ML_best, List.forall_mem_cons.mpr ⟨oi_ML_order, List.forall_mem_cons.mpr ⟨oi_ML_history, List.forall_mem_cons.mpr ⟨oi_ML_clear, List.forall_mem_cons.mpr ⟨oi_ML_keepOffer, List.forall_mem_cons.mpr ⟨oi_ML_offerOf, List.forall_mem_cons.mpr ⟨oi_ML_gradeOf, List.forall_mem_cons.mpr ⟨oi_ML_checkQuantity, List.forall_mem_cons.mpr ⟨oi_ML_isNoLayer, List.forall_mem_cons.mpr ⟨oi_ML_commonDivisor, List.forall_mem_cons.mpr ⟨oi_Bd_init, List.forall_mem_cons.mpr ⟨oi_Bd_add, List.forall_mem_cons.mpr ⟨oi_Bd_hasNo, List.forall_mem_cons.mpr ⟨oi_Bd_move, List.forall_mem_cons.mpr ⟨oi_Bd_excess, List.forall_mem_cons.mpr ⟨oi_Bd_isMadeBy, List.forall_mem_cons.mpr ⟨oi_Bd_part, List.forall_mem_cons.mpr ⟨oi_Bd_forget, List.forall_mem_cons.mpr ⟨oi_Ce_init, List.forall_mem_cons.mpr ⟨oi_Ce_isNoCell, List.forall_mem_cons.mpr ⟨oi_Ce_tell, List.forall_mem_cons.mpr ⟨oi_Ce_aboveMean, List.forall_mem_cons.mpr ⟨oi_Ce_units, List.forall_mem_cons.mpr ⟨oi_Ce_forget, List.forall_mem_cons.mpr ⟨oi_Gr_init, List.forall_mem_cons.mpr ⟨oi_Gr_setLimit, List.forall_mem_cons.mpr ⟨oi_Gr_addStep, List.forall_mem_cons.mpr ⟨oi_Gr_setDays, List.forall_mem_cons.mpr ⟨oi_Gr_excess, List.forall_mem_cons.mpr ⟨oi_Gr_priceOf, List.forall_mem_cons.mpr ⟨oi_Of_init, List.forall_mem_cons.mpr ⟨oi_Of_add, List.forall_mem_cons.mpr ⟨oi_Of_gradeAt, List.forall_mem_cons.mpr ⟨oi_Of_leastFor, List.forall_mem_cons.mpr ⟨oi_Or_init, List.forall_mem_cons.mpr ⟨oi_Or_add, List.forall_mem_cons.mpr ⟨oi_Or_hasNo, List.forall_mem_cons.mpr ⟨oi_Or_part, List.forall_mem_cons.mpr ⟨oi_Or_forget, List.forall_mem_cons.mpr ⟨oi_Qu_init, List.forall_mem_cons.mpr ⟨oi_Qu_add, List.forall_mem_cons.mpr ⟨oi_Qu_latest, List.forall_mem_cons.mpr ⟨oi_Qu_offerAt, List.forall_mem_cons.mpr ⟨oi_Qu_forget, List.forall_mem_cons.mpr ⟨oi_Re_init, List.forall_mem_cons.mpr ⟨oi_Re_collect, List.forall_mem_cons.mpr ⟨oi_Re_thingOf, List.forall_mem_cons.mpr ⟨oi_Re_excessOf, List.forall_mem_cons.mpr ⟨oi_Re_forget, List.forall_mem_cons.mpr ⟨oi_Tx_init, List.forall_mem_cons.mpr ⟨oi_Tx_add, List.forall_mem_cons.mpr ⟨oi_Tx_forget, List.forall_mem_cons.mpr ⟨oi_Tx_place, List.forall_mem_cons.mpr ⟨oi_Tx_readNumber, List.forall_mem_cons.mpr ⟨oi_Tx_readOffer, List.forall_mem_cons.mpr ⟨oi_Tx_readGrade, List.forall_mem_cons.mpr ⟨oi_Tx_readLimits, List.forall_mem_cons.mpr ⟨oi_Tx_readSteps, List.forall_mem_cons.mpr ⟨oi_Tx_readDays, List.forall_mem_cons.mpr ⟨oi_Tx_readWhole, List.forall_mem_cons.mpr ⟨oi_Tx_passes, List.forall_mem_cons.mpr ⟨oi_Tx_next, List.forall_mem_cons.mpr ⟨oi_Tx_isDigit, List.forall_mem_cons.mpr ⟨oi_Mo_init, List.forall_mem_cons.mpr ⟨oi_Mo_empty, List.forall_mem_cons.mpr ⟨oi_Mo_thrown, List.forall_mem_cons.mpr ⟨oi_Mo_clear, List.forall_mem_cons.mpr ⟨oi_Mo_unit, List.forall_mem_cons.mpr ⟨oi_Mo_now, List.forall_mem_cons.mpr ⟨oi_Mo_expect, List.forall_mem_cons.mpr ⟨oi_Mo_isDigit, List.forall_mem_cons.mpr ⟨oi_Mo_whole, List.forall_mem_cons.mpr ⟨oi_Mo_place, List.forall_mem_cons.mpr ⟨oi_Mo_readClass, List.forall_mem_cons.mpr ⟨oi_Mo_copyClasses, List.forall_mem_cons.mpr ⟨oi_Mo_maker, List.forall_mem_cons.mpr ⟨oi_Mo_isLayer, List.forall_mem_cons.mpr ⟨oi_Mo_thing, List.forall_mem_cons.mpr ⟨oi_Mo_isPlace, List.forall_mem_cons.mpr ⟨oi_Mo_at, List.forall_mem_cons.mpr ⟨oi_Mo_beyond, List.forall_mem_cons.mpr ⟨oi_Mo_makes, List.forall_mem_cons.mpr ⟨oi_Mo_leastOf, List.forall_mem_cons.mpr ⟨oi_Mo_isMaker, List.forall_mem_cons.mpr ⟨oi_Mo_isClass, List.forall_mem_cons.mpr ⟨oi_Mo_run, List.forall_mem_cons.mpr ⟨oi_Mo_remark, List.forall_mem_cons.mpr ⟨oi_Mo_least, List.forall_mem_cons.mpr ⟨oi_Mo_isQuantity, List.forall_mem_cons.mpr ⟨oi_Mo_priceOf, List.forall_mem_cons.mpr ⟨oi_Mo_price, List.forall_mem_cons.mpr ⟨oi_Mo_share, List.forall_mem_cons.mpr ⟨oi_Mo_best, List.forall_mem_cons.mpr ⟨oi_Mo_isCell, List.forall_mem_cons.mpr ⟨oi_Mo_copper, List.forall_mem_cons.mpr ⟨oi_Mo_balance, List.forall_mem_cons.mpr ⟨oi_Mo_quote, List.forall_mem_cons.mpr ⟨oi_Mo_order, List.forall_mem_cons.mpr ⟨oi_Mo_history, List.forall_mem_cons.mpr ⟨oi_La_thing, List.forall_mem_cons.mpr ⟨oi_La_at, List.forall_mem_cons.mpr ⟨oi_La_run, List.forall_mem_cons.mpr ⟨oi_La_remark, List.forall_mem_cons.mpr ⟨oi_La_least, List.forall_mem_cons.mpr ⟨oi_La_price, List.forall_mem_cons.mpr ⟨oi_La_share, List.forall_mem_cons.mpr ⟨oi_La_balance, List.forall_mem_cons.mpr ⟨oi_La_quote, List.forall_mem_cons.mpr ⟨oi_La_copper, List.forall_mem_cons.mpr ⟨oi_La_best, List.forall_mem_cons.mpr ⟨oi_La_order, List.forall_mem_cons.mpr ⟨oi_La_history, List.forall_mem_cons.mpr ⟨oi_La_law, List.forall_mem_cons.mpr ⟨oi_Ar_fill, List.forall_mem_cons.mpr ⟨oi_Ma_maxI, List.forall_mem_cons.mpr ⟨oi_Ma_maxL, List.forall_mem_cons.mpr ⟨oi_Ma_absL, fun _ h => absurd h List.not_mem_nil⟩⟩⟩⟩⟩⟩⟩⟩⟩⟩⟩⟩⟩⟩⟩⟩⟩⟩⟩⟩⟩⟩⟩⟩⟩⟩⟩⟩⟩⟩⟩⟩⟩⟩⟩⟩⟩⟩⟩⟩⟩⟩⟩⟩⟩⟩⟩⟩⟩⟩⟩⟩⟩⟩⟩⟩⟩⟩⟩⟩⟩⟩⟩⟩⟩⟩⟩⟩⟩⟩⟩⟩⟩⟩⟩⟩⟩⟩⟩⟩⟩⟩⟩⟩⟩⟩⟩⟩⟩⟩⟩⟩⟩⟩⟩⟩⟩⟩⟩⟩⟩⟩⟩⟩⟩⟩⟩⟩⟩⟩⟩⟩⟩⟩⟩⟩⟩⟩⟩⟩⟩⟩⟩⟩⟩⟩⟩⟩⟩⟩
theorem ax_zip_in {mi : Nat} {M : ax_M} {q : MethodName × ByteArray × Nat × Nat × Nat} (hpr : ax_pr[mi]? = some M) (hmm : ax_mm[mi]? = some q) : (M, q) ∈ ax_pr.zip ax_mm := by
  refine List.mem_of_getElem? (i := mi) ?_
  rw [List.getElem?_zip_eq_some]
  exact ⟨hpr, hmm⟩
theorem ax_cd_all : ∀ q ∈ ax_pr.zip ax_mm, ax_codeOk q.1 q.2 :=
  List.forall_mem_cons.mpr ⟨Or.inr (Or.inl ⟨rfl, cd_ML_init⟩), List.forall_mem_cons.mpr ⟨Or.inr (Or.inl ⟨rfl, cd_ML_unit⟩), List.forall_mem_cons.mpr ⟨Or.inr (Or.inl ⟨rfl, cd_ML_maker⟩), List.forall_mem_cons.mpr ⟨Or.inr (Or.inl ⟨rfl, cd_ML_thing⟩), List.forall_mem_cons.mpr ⟨Or.inr (Or.inl ⟨rfl, cd_ML_at⟩), List.forall_mem_cons.mpr ⟨Or.inr (Or.inl ⟨rfl, cd_ML_run⟩), List.forall_mem_cons.mpr ⟨Or.inr (Or.inl ⟨rfl, cd_ML_remark⟩), List.forall_mem_cons.mpr ⟨Or.inr (Or.inl ⟨rfl, cd_ML_least⟩), List.forall_mem_cons.mpr ⟨Or.inr (Or.inl ⟨rfl, cd_ML_price⟩), List.forall_mem_cons.mpr ⟨Or.inr (Or.inl ⟨rfl, cd_ML_share⟩), List.forall_mem_cons.mpr ⟨Or.inr (Or.inl ⟨rfl, cd_ML_balance⟩), List.forall_mem_cons.mpr ⟨Or.inr (Or.inl ⟨rfl, cd_ML_quote⟩), List.forall_mem_cons.mpr ⟨Or.inr (Or.inl ⟨rfl, cd_ML_copper⟩), List.forall_mem_cons.mpr ⟨Or.inr (Or.inl ⟨rfl, cd_ML_best⟩), List.forall_mem_cons.mpr ⟨Or.inr (Or.inl ⟨rfl, cd_ML_order⟩), List.forall_mem_cons.mpr ⟨Or.inr (Or.inl ⟨rfl, cd_ML_history⟩), List.forall_mem_cons.mpr ⟨Or.inr (Or.inl ⟨rfl, cd_ML_clear⟩), List.forall_mem_cons.mpr ⟨Or.inr (Or.inl ⟨rfl, cd_ML_keepOffer⟩), List.forall_mem_cons.mpr ⟨Or.inr (Or.inl ⟨rfl, cd_ML_offerOf⟩), List.forall_mem_cons.mpr ⟨Or.inr (Or.inl ⟨rfl, cd_ML_gradeOf⟩), List.forall_mem_cons.mpr ⟨Or.inr (Or.inl ⟨rfl, cd_ML_checkQuantity⟩), List.forall_mem_cons.mpr ⟨Or.inr (Or.inl ⟨rfl, cd_ML_isNoLayer⟩), List.forall_mem_cons.mpr ⟨Or.inr (Or.inl ⟨rfl, cd_ML_commonDivisor⟩), List.forall_mem_cons.mpr ⟨Or.inr (Or.inl ⟨rfl, cd_Bd_init⟩), List.forall_mem_cons.mpr ⟨Or.inr (Or.inl ⟨rfl, cd_Bd_add⟩), List.forall_mem_cons.mpr ⟨Or.inr (Or.inl ⟨rfl, cd_Bd_hasNo⟩), List.forall_mem_cons.mpr ⟨Or.inr (Or.inl ⟨rfl, cd_Bd_move⟩), List.forall_mem_cons.mpr ⟨Or.inr (Or.inl ⟨rfl, cd_Bd_excess⟩), List.forall_mem_cons.mpr ⟨Or.inr (Or.inl ⟨rfl, cd_Bd_isMadeBy⟩), List.forall_mem_cons.mpr ⟨Or.inr (Or.inl ⟨rfl, cd_Bd_part⟩), List.forall_mem_cons.mpr ⟨Or.inr (Or.inl ⟨rfl, cd_Bd_forget⟩), List.forall_mem_cons.mpr ⟨Or.inr (Or.inl ⟨rfl, cd_Ce_init⟩), List.forall_mem_cons.mpr ⟨Or.inr (Or.inl ⟨rfl, cd_Ce_isNoCell⟩), List.forall_mem_cons.mpr ⟨Or.inr (Or.inl ⟨rfl, cd_Ce_tell⟩), List.forall_mem_cons.mpr ⟨Or.inr (Or.inl ⟨rfl, cd_Ce_aboveMean⟩), List.forall_mem_cons.mpr ⟨Or.inr (Or.inl ⟨rfl, cd_Ce_units⟩), List.forall_mem_cons.mpr ⟨Or.inr (Or.inl ⟨rfl, cd_Ce_forget⟩), List.forall_mem_cons.mpr ⟨Or.inr (Or.inl ⟨rfl, cd_Gr_init⟩), List.forall_mem_cons.mpr ⟨Or.inr (Or.inl ⟨rfl, cd_Gr_setLimit⟩), List.forall_mem_cons.mpr ⟨Or.inr (Or.inl ⟨rfl, cd_Gr_addStep⟩), List.forall_mem_cons.mpr ⟨Or.inr (Or.inl ⟨rfl, cd_Gr_setDays⟩), List.forall_mem_cons.mpr ⟨Or.inr (Or.inl ⟨rfl, cd_Gr_excess⟩), List.forall_mem_cons.mpr ⟨Or.inr (Or.inl ⟨rfl, cd_Gr_priceOf⟩), List.forall_mem_cons.mpr ⟨Or.inr (Or.inl ⟨rfl, cd_Of_init⟩), List.forall_mem_cons.mpr ⟨Or.inr (Or.inl ⟨rfl, cd_Of_add⟩), List.forall_mem_cons.mpr ⟨Or.inr (Or.inl ⟨rfl, cd_Of_gradeAt⟩), List.forall_mem_cons.mpr ⟨Or.inr (Or.inl ⟨rfl, cd_Of_leastFor⟩), List.forall_mem_cons.mpr ⟨Or.inr (Or.inl ⟨rfl, cd_Or_init⟩), List.forall_mem_cons.mpr ⟨Or.inr (Or.inl ⟨rfl, cd_Or_add⟩), List.forall_mem_cons.mpr ⟨Or.inr (Or.inl ⟨rfl, cd_Or_hasNo⟩), List.forall_mem_cons.mpr ⟨Or.inr (Or.inl ⟨rfl, cd_Or_part⟩), List.forall_mem_cons.mpr ⟨Or.inr (Or.inl ⟨rfl, cd_Or_forget⟩), List.forall_mem_cons.mpr ⟨Or.inr (Or.inl ⟨rfl, cd_Qu_init⟩), List.forall_mem_cons.mpr ⟨Or.inr (Or.inl ⟨rfl, cd_Qu_add⟩), List.forall_mem_cons.mpr ⟨Or.inr (Or.inl ⟨rfl, cd_Qu_latest⟩), List.forall_mem_cons.mpr ⟨Or.inr (Or.inl ⟨rfl, cd_Qu_offerAt⟩), List.forall_mem_cons.mpr ⟨Or.inr (Or.inl ⟨rfl, cd_Qu_forget⟩), List.forall_mem_cons.mpr ⟨Or.inr (Or.inl ⟨rfl, cd_Re_init⟩), List.forall_mem_cons.mpr ⟨Or.inr (Or.inl ⟨rfl, cd_Re_collect⟩), List.forall_mem_cons.mpr ⟨Or.inr (Or.inl ⟨rfl, cd_Re_thingOf⟩), List.forall_mem_cons.mpr ⟨Or.inr (Or.inl ⟨rfl, cd_Re_excessOf⟩), List.forall_mem_cons.mpr ⟨Or.inr (Or.inl ⟨rfl, cd_Re_forget⟩), List.forall_mem_cons.mpr ⟨Or.inr (Or.inl ⟨rfl, cd_Tx_init⟩), List.forall_mem_cons.mpr ⟨Or.inr (Or.inl ⟨rfl, cd_Tx_add⟩), List.forall_mem_cons.mpr ⟨Or.inr (Or.inl ⟨rfl, cd_Tx_forget⟩), List.forall_mem_cons.mpr ⟨Or.inr (Or.inl ⟨rfl, cd_Tx_place⟩), List.forall_mem_cons.mpr ⟨Or.inr (Or.inl ⟨rfl, cd_Tx_readNumber⟩), List.forall_mem_cons.mpr ⟨Or.inr (Or.inl ⟨rfl, cd_Tx_readOffer⟩), List.forall_mem_cons.mpr ⟨Or.inr (Or.inl ⟨rfl, cd_Tx_readGrade⟩), List.forall_mem_cons.mpr ⟨Or.inr (Or.inl ⟨rfl, cd_Tx_readLimits⟩), List.forall_mem_cons.mpr ⟨Or.inr (Or.inl ⟨rfl, cd_Tx_readSteps⟩), List.forall_mem_cons.mpr ⟨Or.inr (Or.inl ⟨rfl, cd_Tx_readDays⟩), List.forall_mem_cons.mpr ⟨Or.inr (Or.inl ⟨rfl, cd_Tx_readWhole⟩), List.forall_mem_cons.mpr ⟨Or.inr (Or.inl ⟨rfl, cd_Tx_passes⟩), List.forall_mem_cons.mpr ⟨Or.inr (Or.inl ⟨rfl, cd_Tx_next⟩), List.forall_mem_cons.mpr ⟨Or.inr (Or.inl ⟨rfl, cd_Tx_isDigit⟩), List.forall_mem_cons.mpr ⟨Or.inr (Or.inl ⟨rfl, cd_Mo_init⟩), List.forall_mem_cons.mpr ⟨Or.inr (Or.inl ⟨rfl, cd_Mo_empty⟩), List.forall_mem_cons.mpr ⟨Or.inr (Or.inl ⟨rfl, cd_Mo_thrown⟩), List.forall_mem_cons.mpr ⟨Or.inr (Or.inl ⟨rfl, cd_Mo_clear⟩), List.forall_mem_cons.mpr ⟨Or.inr (Or.inl ⟨rfl, cd_Mo_unit⟩), List.forall_mem_cons.mpr ⟨Or.inr (Or.inl ⟨rfl, cd_Mo_now⟩), List.forall_mem_cons.mpr ⟨Or.inr (Or.inl ⟨rfl, cd_Mo_expect⟩), List.forall_mem_cons.mpr ⟨Or.inr (Or.inl ⟨rfl, cd_Mo_isDigit⟩), List.forall_mem_cons.mpr ⟨Or.inr (Or.inl ⟨rfl, cd_Mo_whole⟩), List.forall_mem_cons.mpr ⟨Or.inr (Or.inl ⟨rfl, cd_Mo_place⟩), List.forall_mem_cons.mpr ⟨Or.inr (Or.inl ⟨rfl, cd_Mo_readClass⟩), List.forall_mem_cons.mpr ⟨Or.inr (Or.inl ⟨rfl, cd_Mo_copyClasses⟩), List.forall_mem_cons.mpr ⟨Or.inr (Or.inl ⟨rfl, cd_Mo_maker⟩), List.forall_mem_cons.mpr ⟨Or.inr (Or.inl ⟨rfl, cd_Mo_isLayer⟩), List.forall_mem_cons.mpr ⟨Or.inr (Or.inl ⟨rfl, cd_Mo_thing⟩), List.forall_mem_cons.mpr ⟨Or.inr (Or.inl ⟨rfl, cd_Mo_isPlace⟩), List.forall_mem_cons.mpr ⟨Or.inr (Or.inl ⟨rfl, cd_Mo_at⟩), List.forall_mem_cons.mpr ⟨Or.inr (Or.inl ⟨rfl, cd_Mo_beyond⟩), List.forall_mem_cons.mpr ⟨Or.inr (Or.inl ⟨rfl, cd_Mo_makes⟩), List.forall_mem_cons.mpr ⟨Or.inr (Or.inl ⟨rfl, cd_Mo_leastOf⟩), List.forall_mem_cons.mpr ⟨Or.inr (Or.inl ⟨rfl, cd_Mo_isMaker⟩), List.forall_mem_cons.mpr ⟨Or.inr (Or.inl ⟨rfl, cd_Mo_isClass⟩), List.forall_mem_cons.mpr ⟨Or.inr (Or.inl ⟨rfl, cd_Mo_run⟩), List.forall_mem_cons.mpr ⟨Or.inr (Or.inl ⟨rfl, cd_Mo_remark⟩), List.forall_mem_cons.mpr ⟨Or.inr (Or.inl ⟨rfl, cd_Mo_least⟩), List.forall_mem_cons.mpr ⟨Or.inr (Or.inl ⟨rfl, cd_Mo_isQuantity⟩), List.forall_mem_cons.mpr ⟨Or.inr (Or.inl ⟨rfl, cd_Mo_priceOf⟩), List.forall_mem_cons.mpr ⟨Or.inr (Or.inl ⟨rfl, cd_Mo_price⟩), List.forall_mem_cons.mpr ⟨Or.inr (Or.inl ⟨rfl, cd_Mo_share⟩), List.forall_mem_cons.mpr ⟨Or.inr (Or.inl ⟨rfl, cd_Mo_best⟩), List.forall_mem_cons.mpr ⟨Or.inr (Or.inl ⟨rfl, cd_Mo_isCell⟩), List.forall_mem_cons.mpr ⟨Or.inr (Or.inl ⟨rfl, cd_Mo_copper⟩), List.forall_mem_cons.mpr ⟨Or.inr (Or.inl ⟨rfl, cd_Mo_balance⟩), List.forall_mem_cons.mpr ⟨Or.inr (Or.inl ⟨rfl, cd_Mo_quote⟩), List.forall_mem_cons.mpr ⟨Or.inr (Or.inl ⟨rfl, cd_Mo_order⟩), List.forall_mem_cons.mpr ⟨Or.inr (Or.inl ⟨rfl, cd_Mo_history⟩), List.forall_mem_cons.mpr ⟨Or.inr (Or.inr ⟨List.cons_ne_nil _ _, cd_La_thing⟩), List.forall_mem_cons.mpr ⟨Or.inr (Or.inr ⟨List.cons_ne_nil _ _, cd_La_at⟩), List.forall_mem_cons.mpr ⟨Or.inr (Or.inr ⟨List.cons_ne_nil _ _, cd_La_run⟩), List.forall_mem_cons.mpr ⟨Or.inr (Or.inr ⟨List.cons_ne_nil _ _, cd_La_remark⟩), List.forall_mem_cons.mpr ⟨Or.inr (Or.inr ⟨List.cons_ne_nil _ _, cd_La_least⟩), List.forall_mem_cons.mpr ⟨Or.inr (Or.inr ⟨List.cons_ne_nil _ _, cd_La_price⟩), List.forall_mem_cons.mpr ⟨Or.inr (Or.inr ⟨List.cons_ne_nil _ _, cd_La_share⟩), List.forall_mem_cons.mpr ⟨Or.inr (Or.inr ⟨List.cons_ne_nil _ _, cd_La_balance⟩), List.forall_mem_cons.mpr ⟨Or.inr (Or.inr ⟨List.cons_ne_nil _ _, cd_La_quote⟩), List.forall_mem_cons.mpr ⟨Or.inr (Or.inr ⟨List.cons_ne_nil _ _, cd_La_copper⟩), List.forall_mem_cons.mpr ⟨Or.inr (Or.inr ⟨List.cons_ne_nil _ _, cd_La_best⟩), List.forall_mem_cons.mpr ⟨Or.inr (Or.inr ⟨List.cons_ne_nil _ _, cd_La_order⟩), List.forall_mem_cons.mpr ⟨Or.inr (Or.inr ⟨List.cons_ne_nil _ _, cd_La_history⟩), List.forall_mem_cons.mpr ⟨Or.inl rfl, List.forall_mem_cons.mpr ⟨Or.inr (Or.inl ⟨rfl, cd_Ar_fill⟩), List.forall_mem_cons.mpr ⟨Or.inr (Or.inl ⟨rfl, cd_Ma_maxI⟩), List.forall_mem_cons.mpr ⟨Or.inr (Or.inl ⟨rfl, cd_Ma_maxL⟩), List.forall_mem_cons.mpr ⟨Or.inr (Or.inl ⟨rfl, cd_Ma_absL⟩), fun _ h => absurd h List.not_mem_nil⟩⟩⟩⟩⟩⟩⟩⟩⟩⟩⟩⟩⟩⟩⟩⟩⟩⟩⟩⟩⟩⟩⟩⟩⟩⟩⟩⟩⟩⟩⟩⟩⟩⟩⟩⟩⟩⟩⟩⟩⟩⟩⟩⟩⟩⟩⟩⟩⟩⟩⟩⟩⟩⟩⟩⟩⟩⟩⟩⟩⟩⟩⟩⟩⟩⟩⟩⟩⟩⟩⟩⟩⟩⟩⟩⟩⟩⟩⟩⟩⟩⟩⟩⟩⟩⟩⟩⟩⟩⟩⟩⟩⟩⟩⟩⟩⟩⟩⟩⟩⟩⟩⟩⟩⟩⟩⟩⟩⟩⟩⟩⟩⟩⟩⟩⟩⟩⟩⟩⟩⟩⟩⟩⟩⟩⟩⟩⟩⟩⟩
theorem ax_mt_ok (mi : Nat) (M : ax_M) (q : MethodName × ByteArray × Nat × Nat × Nat) (hpr : ax_pr[mi]? = some M) (hmm : ax_mm[mi]? = some q) : M.2.2.1.all (ax_okI q.2.1 q.2.2.1) = true ∧ plainFor q.1 = true ∧ (M.2.2.2.2 = true → q.1.name = "<init>") ∧ q.1.cls = ax_cn M.1 ∧ ax_codeOk M q ∧ M.2.2.1.all (fun e => ax_okC q.2.2.2.1 q.2.2.2.2 M.1 e.2.1) = true ∧ ax_hsok M.1 M.2.2.2.1 = true := by
  have hin := ax_zip_in hpr hmm
  have h1 := ax_oi_all _ hin
  have h2 := List.all_eq_true.mp ax_okM_all _ hin
  simp only [ax_okM, Bool.and_eq_true, Bool.or_eq_true, decide_eq_true_eq, Bool.not_eq_true'] at h2
  obtain ⟨⟨⟨⟨a1, a2⟩, a3⟩, a4⟩, a5⟩ := h2
  refine ⟨h1, a2, fun hi => ?_, a4, ax_cd_all _ hin, a1, a5⟩
  rcases a3 with a3 | a3
  · rw [hi] at a3; cases a3
  · exact a3
