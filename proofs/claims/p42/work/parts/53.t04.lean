def L_X10_man (f_X10_isMan : List Value → ab_H → Option ab_O) (f_X6_missersOf : List Value → ab_H → Option ab_O) (f_X6_missedBy : List Value → ab_H → Option ab_O) (f_X6_isAlive : List Value → ab_H → Option ab_O) : List (Nat × ab_A) := [
  (0, ab_nx 1 (ab_aload 0)),
  (1, ab_nx 2 (ab_iload 1)),
  (2, ab_nx 5 (ab_callV 2 10 f_X10_isMan 0 0 1 6)),
  (5, ab_if 8 18 (fun x => !decide (x = 0))),
  (8, ab_thr),
  (11, ab_nx 12 ab_dup),
  (12, ab_no),
  (14, ab_no),
  (17, ab_no),
  (18, ab_nx 19 (ab_iload 2)),
  (19, ab_tab 0 [52, 62, 75, 88, 98] 115),
  (52, ab_nx 53 (ab_aload 0)),
  (53, ab_nx 56 (ab_getf 10 4)),
  (56, ab_nx 59 (ab_getf 6 4)),
  (59, ab_nx 60 (ab_iload 1)),
  (60, ab_nx 61 (ab_ald 1)),
  (61, ab_ret 1 6),
  (62, ab_nx 63 (ab_aload 0)),
  (63, ab_nx 66 (ab_getf 10 4)),
  (66, ab_nx 67 (ab_aload 0)),
  (67, ab_nx 70 (ab_getf 10 13)),
  (70, ab_nx 71 (ab_iload 1)),
  (71, ab_nx 74 (ab_callV 3 6 f_X6_missersOf 0 0 1 6)),
  (74, ab_ret 1 6),
  (75, ab_nx 76 (ab_aload 0)),
  (76, ab_nx 79 (ab_getf 10 4)),
  (79, ab_nx 80 (ab_aload 0)),
  (80, ab_nx 83 (ab_getf 10 13)),
  (83, ab_nx 84 (ab_iload 1)),
  (84, ab_nx 87 (ab_callV 3 6 f_X6_missedBy 0 0 1 6)),
  (87, ab_ret 1 6),
  (88, ab_nx 89 (ab_aload 0)),
  (89, ab_nx 92 (ab_getf 10 4)),
  (92, ab_nx 95 (ab_getf 6 5)),
  (95, ab_nx 96 (ab_iload 1)),
  (96, ab_nx 97 (ab_ald 1)),
  (97, ab_ret 1 6),
  (98, ab_nx 99 (ab_aload 0)),
  (99, ab_nx 102 (ab_getf 10 4)),
  (102, ab_nx 103 (ab_iload 1)),
  (103, ab_nx 106 (ab_callV 2 6 f_X6_isAlive 0 0 1 6)),
  (106, ab_if 109 113 (fun x => decide (x = 0))),
  (109, ab_nx 110 (ab_lit (.int 1))),
  (110, ab_goto 114),
  (113, ab_nx 114 (ab_lit (.int 0))),
  (114, ab_ret 1 6),
  (115, ab_thr),
  (118, ab_nx 119 ab_dup),
  (119, ab_no),
  (121, ab_no),
  (124, ab_no)]
def L_L_man (f_X10_man : List Value → ab_H → Option ab_O) : List (Nat × ab_A) := [
  (0, ab_nx 1 (ab_aload 3)),
  (1, ab_nx 2 (ab_lit (.int 0))),
  (2, ab_nx 3 (ab_aload 0)),
  (3, ab_nx 4 (ab_iload 1)),
  (4, ab_nx 5 (ab_iload 2)),
  (5, ab_callX 8 15 4 3 10 f_X10_man 1 6 1 6),
  (8, ab_nx 9 ab_i2l),
  (9, ab_nx 10 ab_last),
  (10, ab_goto 17),
  (15, ab_nx 16 (ab_lit (.int 1))),
  (16, ab_ret 1 6),
  (17, ab_nx 18 (ab_lit (.int 0))),
  (18, ab_ret 1 6)]
def ab_no0 : List Value → ab_H → Option ab_O := fun _ _ => none
noncomputable def Z_X0_init : List Value → ab_H → Option ab_O := ab_X (ab_T L_X0_init) 1
noncomputable def Z_X0_drawOf : List Value → ab_H → Option ab_O := ab_X (ab_T L_X0_drawOf) 2
noncomputable def Z_X1_init : List Value → ab_H → Option ab_O := ab_X (ab_T L_X1_init) 1
noncomputable def Z_X1_amountMoved : List Value → ab_H → Option ab_O := ab_X (ab_T L_X1_amountMoved) 3
noncomputable def Z_X6_ferryShore : List Value → ab_H → Option ab_O := ab_X (ab_T L_X6_ferryShore) 1
noncomputable def Z_X6_apartOf : List Value → ab_H → Option ab_O := ab_X (ab_T L_X6_apartOf) 3
noncomputable def Z_X6_isFelt : List Value → ab_H → Option ab_O := ab_X (ab_T (L_X6_isFelt Z_X6_apartOf)) 6
noncomputable def Z_X6_allMissed : List Value → ab_H → Option ab_O := ab_X (ab_T (L_X6_allMissed Z_X6_isFelt)) 4
noncomputable def Z_X10_slotOf : List Value → ab_H → Option ab_O := ab_X (ab_T L_X10_slotOf) 2
noncomputable def Z_X7_amountOf : List Value → ab_H → Option ab_O := ab_X (ab_T L_X7_amountOf) 3
noncomputable def Z_X6_lackAt : List Value → ab_H → Option ab_O := ab_X (ab_T (L_X6_lackAt Z_X7_amountOf)) 3
noncomputable def Z_X1_plan : List Value → ab_H → Option ab_O := ab_X (ab_T (L_X1_plan Z_X6_ferryShore Z_X6_allMissed Z_X10_slotOf Z_X6_lackAt Z_X1_amountMoved)) 8
noncomputable def Z_X1_carry : List Value → ab_H → Option ab_O := ab_X (ab_T (L_X1_carry Z_X6_ferryShore Z_X10_slotOf)) 5
noncomputable def Z_X7_leftAfter : List Value → ab_H → Option ab_O := ab_X (ab_T L_X7_leftAfter) 4
noncomputable def Z_X6_makeAndEat : List Value → ab_H → Option ab_O := ab_X (ab_T (L_X6_makeAndEat Z_X7_leftAfter)) 4
noncomputable def Z_X6_countApart : List Value → ab_H → Option ab_O := ab_X (ab_T L_X6_countApart) 5
noncomputable def Z_X1_passDays : List Value → ab_H → Option ab_O := ab_X (ab_T (L_X1_passDays Z_X1_plan Z_X1_carry Z_X6_makeAndEat Z_X6_countApart)) 6
noncomputable def Z_X2_init : List Value → ab_H → Option ab_O := ab_X (ab_T L_X2_init) 1
noncomputable def Z_X2_forget : List Value → ab_H → Option ab_O := ab_X (ab_T L_X2_forget) 1
noncomputable def Z_X2_dropOldest : List Value → ab_H → Option ab_O := ab_X (ab_T L_X2_dropOldest) 3
noncomputable def Z_X6_init : List Value → ab_H → Option ab_O := ab_X (ab_T L_X6_init) 1
noncomputable def Z_X6_copyFrom : List Value → ab_H → Option ab_O := ab_X (ab_T L_X6_copyFrom) 2
noncomputable def Z_X2_keep : List Value → ab_H → Option ab_O := ab_X (ab_T (L_X2_keep Z_X2_dropOldest Z_X6_init Z_X6_copyFrom)) 3
noncomputable def Z_X2_takeBack : List Value → ab_H → Option ab_O := ab_X (ab_T (L_X2_takeBack Z_X6_copyFrom)) 3
noncomputable def Z_X7_init : List Value → ab_H → Option ab_O := ab_X (ab_T L_X7_init) 1
noncomputable def Z_X5_init : List Value → ab_H → Option ab_O := ab_X (ab_T L_X5_init) 1
noncomputable def Z_X3_init : List Value → ab_H → Option ab_O := ab_X (ab_T (L_X3_init Z_X7_init Z_X6_init Z_X5_init)) 1
noncomputable def Z_X4_init : List Value → ab_H → Option ab_O := ab_X (ab_T L_X4_init) 1
noncomputable def Z_X9_step : List Value → ab_H → Option ab_O := ab_X (ab_T L_X9_step) 1
noncomputable def Z_X9_fail : List Value → ab_H → Option ab_O := ab_X (ab_T L_X9_fail) 2
noncomputable def Z_X7_manNamed : List Value → ab_H → Option ab_O := ab_X (ab_T L_X7_manNamed) 4
noncomputable def Z_X9_takeName : List Value → ab_H → Option ab_O := ab_X (ab_T (L_X9_takeName Z_X9_step Z_X9_fail)) 1
noncomputable def Z_X7_goodNamed : List Value → ab_H → Option ab_O := ab_X (ab_T L_X7_goodNamed) 4
noncomputable def Z_X7_takeGood : List Value → ab_H → Option ab_O := ab_X (ab_T (L_X7_takeGood Z_X9_takeName Z_X7_goodNamed Z_X9_fail)) 3
noncomputable def Z_X9_takeNumber : List Value → ab_H → Option ab_O := ab_X (ab_T (L_X9_takeNumber Z_X9_step Z_X9_fail)) 3
noncomputable def Z_X4_addLine : List Value → ab_H → Option ab_O := ab_X (ab_T L_X4_addLine) 4
noncomputable def Z_X4_readDeed : List Value → ab_H → Option ab_O := ab_X (ab_T (L_X4_readDeed Z_X7_takeGood Z_X9_takeNumber Z_X10_slotOf Z_X4_addLine)) 6
noncomputable def Z_X4_readDays : List Value → ab_H → Option ab_O := ab_X (ab_T (L_X4_readDays Z_X9_takeNumber Z_X4_addLine)) 2
noncomputable def Z_X4_readDeath : List Value → ab_H → Option ab_O := ab_X (ab_T (L_X4_readDeath Z_X9_step Z_X4_addLine Z_X9_fail)) 3
noncomputable def Z_X4_readLine : List Value → ab_H → Option ab_O := ab_X (ab_T (L_X4_readLine Z_X9_fail Z_X7_manNamed Z_X4_readDeed Z_X4_readDays Z_X4_readDeath)) 6
noncomputable def Z_X9_takeSign : List Value → ab_H → Option ab_O := ab_X (ab_T (L_X9_takeSign Z_X9_step Z_X9_fail)) 2
noncomputable def Z_X4_readText : List Value → ab_H → Option ab_O := ab_X (ab_T (L_X4_readText Z_X9_step Z_X4_readLine Z_X9_takeSign)) 5
noncomputable def Z_X5_copyFrom : List Value → ab_H → Option ab_O := ab_X (ab_T L_X5_copyFrom) 2
noncomputable def Z_X5_addOp : List Value → ab_H → Option ab_O := ab_X (ab_T L_X5_addOp) 4
noncomputable def Z_X5_readOnShore : List Value → ab_H → Option ab_O := ab_X (ab_T (L_X5_readOnShore Z_X9_takeNumber Z_X9_step Z_X5_addOp)) 4
noncomputable def Z_X5_readCompared : List Value → ab_H → Option ab_O := ab_X (ab_T (L_X5_readCompared Z_X9_step Z_X9_fail Z_X9_takeNumber Z_X5_addOp)) 5
noncomputable def Z_X5_readOne_9 : List Value → ab_H → Option ab_O := ab_X (ab_T (L_X5_readOne Z_X9_fail ab_no0 Z_X9_step ab_no0 Z_X5_addOp Z_X5_readOnShore Z_X5_readCompared)) 6
noncomputable def Z_X5_readAll_9 : List Value → ab_H → Option ab_O := ab_X (ab_T (L_X5_readAll Z_X5_readOne_9 Z_X9_step Z_X5_addOp)) 4
noncomputable def Z_X5_readCond_9 : List Value → ab_H → Option ab_O := ab_X (ab_T (L_X5_readCond Z_X5_readAll_9 Z_X9_step Z_X5_addOp)) 4
noncomputable def Z_X5_readBracket_8 : List Value → ab_H → Option ab_O := ab_X (ab_T (L_X5_readBracket Z_X9_step Z_X5_readCond_9 Z_X9_fail)) 3
noncomputable def Z_X5_readOne_8 : List Value → ab_H → Option ab_O := ab_X (ab_T (L_X5_readOne Z_X9_fail Z_X5_readBracket_8 Z_X9_step Z_X5_readOne_9 Z_X5_addOp Z_X5_readOnShore Z_X5_readCompared)) 6
noncomputable def Z_X5_readAll_8 : List Value → ab_H → Option ab_O := ab_X (ab_T (L_X5_readAll Z_X5_readOne_8 Z_X9_step Z_X5_addOp)) 4
noncomputable def Z_X5_readCond_8 : List Value → ab_H → Option ab_O := ab_X (ab_T (L_X5_readCond Z_X5_readAll_8 Z_X9_step Z_X5_addOp)) 4
noncomputable def Z_X5_readBracket_7 : List Value → ab_H → Option ab_O := ab_X (ab_T (L_X5_readBracket Z_X9_step Z_X5_readCond_8 Z_X9_fail)) 3
noncomputable def Z_X5_readOne_7 : List Value → ab_H → Option ab_O := ab_X (ab_T (L_X5_readOne Z_X9_fail Z_X5_readBracket_7 Z_X9_step Z_X5_readOne_8 Z_X5_addOp Z_X5_readOnShore Z_X5_readCompared)) 6
noncomputable def Z_X5_readAll_7 : List Value → ab_H → Option ab_O := ab_X (ab_T (L_X5_readAll Z_X5_readOne_7 Z_X9_step Z_X5_addOp)) 4
noncomputable def Z_X5_readCond_7 : List Value → ab_H → Option ab_O := ab_X (ab_T (L_X5_readCond Z_X5_readAll_7 Z_X9_step Z_X5_addOp)) 4
noncomputable def Z_X5_readBracket_6 : List Value → ab_H → Option ab_O := ab_X (ab_T (L_X5_readBracket Z_X9_step Z_X5_readCond_7 Z_X9_fail)) 3
noncomputable def Z_X5_readOne_6 : List Value → ab_H → Option ab_O := ab_X (ab_T (L_X5_readOne Z_X9_fail Z_X5_readBracket_6 Z_X9_step Z_X5_readOne_7 Z_X5_addOp Z_X5_readOnShore Z_X5_readCompared)) 6
noncomputable def Z_X5_readAll_6 : List Value → ab_H → Option ab_O := ab_X (ab_T (L_X5_readAll Z_X5_readOne_6 Z_X9_step Z_X5_addOp)) 4
noncomputable def Z_X5_readCond_6 : List Value → ab_H → Option ab_O := ab_X (ab_T (L_X5_readCond Z_X5_readAll_6 Z_X9_step Z_X5_addOp)) 4
noncomputable def Z_X5_readBracket_5 : List Value → ab_H → Option ab_O := ab_X (ab_T (L_X5_readBracket Z_X9_step Z_X5_readCond_6 Z_X9_fail)) 3
noncomputable def Z_X5_readOne_5 : List Value → ab_H → Option ab_O := ab_X (ab_T (L_X5_readOne Z_X9_fail Z_X5_readBracket_5 Z_X9_step Z_X5_readOne_6 Z_X5_addOp Z_X5_readOnShore Z_X5_readCompared)) 6
noncomputable def Z_X5_readAll_5 : List Value → ab_H → Option ab_O := ab_X (ab_T (L_X5_readAll Z_X5_readOne_5 Z_X9_step Z_X5_addOp)) 4
noncomputable def Z_X5_readCond_5 : List Value → ab_H → Option ab_O := ab_X (ab_T (L_X5_readCond Z_X5_readAll_5 Z_X9_step Z_X5_addOp)) 4
noncomputable def Z_X5_readBracket_4 : List Value → ab_H → Option ab_O := ab_X (ab_T (L_X5_readBracket Z_X9_step Z_X5_readCond_5 Z_X9_fail)) 3
noncomputable def Z_X5_readOne_4 : List Value → ab_H → Option ab_O := ab_X (ab_T (L_X5_readOne Z_X9_fail Z_X5_readBracket_4 Z_X9_step Z_X5_readOne_5 Z_X5_addOp Z_X5_readOnShore Z_X5_readCompared)) 6
noncomputable def Z_X5_readAll_4 : List Value → ab_H → Option ab_O := ab_X (ab_T (L_X5_readAll Z_X5_readOne_4 Z_X9_step Z_X5_addOp)) 4
noncomputable def Z_X5_readCond_4 : List Value → ab_H → Option ab_O := ab_X (ab_T (L_X5_readCond Z_X5_readAll_4 Z_X9_step Z_X5_addOp)) 4
noncomputable def Z_X5_readBracket_3 : List Value → ab_H → Option ab_O := ab_X (ab_T (L_X5_readBracket Z_X9_step Z_X5_readCond_4 Z_X9_fail)) 3
noncomputable def Z_X5_readOne_3 : List Value → ab_H → Option ab_O := ab_X (ab_T (L_X5_readOne Z_X9_fail Z_X5_readBracket_3 Z_X9_step Z_X5_readOne_4 Z_X5_addOp Z_X5_readOnShore Z_X5_readCompared)) 6
noncomputable def Z_X5_readAll_3 : List Value → ab_H → Option ab_O := ab_X (ab_T (L_X5_readAll Z_X5_readOne_3 Z_X9_step Z_X5_addOp)) 4
noncomputable def Z_X5_readCond_3 : List Value → ab_H → Option ab_O := ab_X (ab_T (L_X5_readCond Z_X5_readAll_3 Z_X9_step Z_X5_addOp)) 4
noncomputable def Z_X5_readBracket_2 : List Value → ab_H → Option ab_O := ab_X (ab_T (L_X5_readBracket Z_X9_step Z_X5_readCond_3 Z_X9_fail)) 3
noncomputable def Z_X5_readOne_2 : List Value → ab_H → Option ab_O := ab_X (ab_T (L_X5_readOne Z_X9_fail Z_X5_readBracket_2 Z_X9_step Z_X5_readOne_3 Z_X5_addOp Z_X5_readOnShore Z_X5_readCompared)) 6
noncomputable def Z_X5_readAll_2 : List Value → ab_H → Option ab_O := ab_X (ab_T (L_X5_readAll Z_X5_readOne_2 Z_X9_step Z_X5_addOp)) 4
noncomputable def Z_X5_readCond_2 : List Value → ab_H → Option ab_O := ab_X (ab_T (L_X5_readCond Z_X5_readAll_2 Z_X9_step Z_X5_addOp)) 4
noncomputable def Z_X5_readBracket_1 : List Value → ab_H → Option ab_O := ab_X (ab_T (L_X5_readBracket Z_X9_step Z_X5_readCond_2 Z_X9_fail)) 3
noncomputable def Z_X5_readOne_1 : List Value → ab_H → Option ab_O := ab_X (ab_T (L_X5_readOne Z_X9_fail Z_X5_readBracket_1 Z_X9_step Z_X5_readOne_2 Z_X5_addOp Z_X5_readOnShore Z_X5_readCompared)) 6
noncomputable def Z_X5_readAll_1 : List Value → ab_H → Option ab_O := ab_X (ab_T (L_X5_readAll Z_X5_readOne_1 Z_X9_step Z_X5_addOp)) 4
noncomputable def Z_X5_readCond_1 : List Value → ab_H → Option ab_O := ab_X (ab_T (L_X5_readCond Z_X5_readAll_1 Z_X9_step Z_X5_addOp)) 4
noncomputable def Z_X5_readText : List Value → ab_H → Option ab_O := ab_X (ab_T (L_X5_readText Z_X9_step Z_X5_readCond_1 Z_X9_fail)) 2
noncomputable def Z_X6_isFalse : List Value → ab_H → Option ab_O := ab_X (ab_T (L_X6_isFalse Z_X7_amountOf)) 4
noncomputable def Z_X5_isSoThere : List Value → ab_H → Option ab_O := ab_X (ab_T (L_X5_isSoThere Z_X6_lackAt Z_X7_amountOf Z_X6_isFalse)) 4
noncomputable def Z_X5_valueOf : List Value → ab_H → Option ab_O := ab_X (ab_T (L_X5_valueOf Z_X10_slotOf)) 3
noncomputable def Z_X5_isSoCompared : List Value → ab_H → Option ab_O := ab_X (ab_T L_X5_isSoCompared) 3
noncomputable def Z_X5_isSo : List Value → ab_H → Option ab_O := ab_X (ab_T (L_X5_isSo Z_X10_slotOf Z_X5_isSoThere Z_X5_valueOf Z_X5_isSoCompared)) 5
noncomputable def Z_X5_holdsOf : List Value → ab_H → Option ab_O := ab_X (ab_T (L_X5_holdsOf Z_X5_isSo)) 7
noncomputable def Z_X6_beginAs : List Value → ab_H → Option ab_O := ab_X (ab_T (L_X6_beginAs Z_X7_amountOf)) 3
noncomputable def Z_X6_looksLike : List Value → ab_H → Option ab_O := ab_X (ab_T L_X6_looksLike) 3
noncomputable def Z_X6_hungerInAll : List Value → ab_H → Option ab_O := ab_X (ab_T L_X6_hungerInAll) 3
noncomputable def Z_X6_isAlive : List Value → ab_H → Option ab_O := ab_X (ab_T L_X6_isAlive) 2
noncomputable def Z_X6_menOn : List Value → ab_H → Option ab_O := ab_X (ab_T L_X6_menOn) 5
noncomputable def Z_X6_missersOf : List Value → ab_H → Option ab_O := ab_X (ab_T (L_X6_missersOf Z_X6_isFelt)) 5
noncomputable def Z_X6_missedBy : List Value → ab_H → Option ab_O := ab_X (ab_T (L_X6_missedBy Z_X6_isFelt)) 5
noncomputable def Z_X6_couldBeMissed : List Value → ab_H → Option ab_O := ab_X (ab_T (L_X6_couldBeMissed Z_X6_isAlive)) 4
noncomputable def Z_X6_whyNot : List Value → ab_H → Option ab_O := ab_X (ab_T (L_X6_whyNot Z_X6_isAlive)) 4
noncomputable def Z_X6_perform : List Value → ab_H → Option ab_O := ab_X (ab_T L_X6_perform) 4
noncomputable def Z_X6_attempt : List Value → ab_H → Option ab_O := ab_X (ab_T (L_X6_attempt Z_X6_whyNot Z_X6_perform)) 5
noncomputable def Z_X7_stockAfter : List Value → ab_H → Option ab_O := ab_X (ab_T (L_X7_stockAfter Z_X7_leftAfter)) 3
noncomputable def Z_X7_copyFrom : List Value → ab_H → Option ab_O := ab_X (ab_T L_X7_copyFrom) 2
noncomputable def Z_X7_clear : List Value → ab_H → Option ab_O := ab_X (ab_T L_X7_clear) 2
noncomputable def Z_X7_readAmount : List Value → ab_H → Option ab_O := ab_X (ab_T (L_X7_readAmount Z_X7_takeGood Z_X9_takeNumber Z_X10_slotOf Z_X9_fail)) 6
noncomputable def Z_X7_readLoad : List Value → ab_H → Option ab_O := ab_X (ab_T (L_X7_readLoad Z_X9_fail Z_X9_takeNumber)) 2
noncomputable def Z_X7_takeNewName : List Value → ab_H → Option ab_O := ab_X (ab_T (L_X7_takeNewName Z_X9_takeName Z_X7_goodNamed Z_X7_manNamed Z_X9_fail)) 3
noncomputable def Z_X7_readGood : List Value → ab_H → Option ab_O := ab_X (ab_T (L_X7_readGood Z_X9_fail Z_X7_takeNewName)) 2
noncomputable def Z_X7_readMan : List Value → ab_H → Option ab_O := ab_X (ab_T (L_X7_readMan Z_X9_fail Z_X7_takeNewName Z_X9_takeNumber)) 4
noncomputable def Z_X7_takeMan : List Value → ab_H → Option ab_O := ab_X (ab_T (L_X7_takeMan Z_X9_takeName Z_X7_manNamed Z_X9_fail)) 3
noncomputable def Z_X7_isMissTold : List Value → ab_H → Option ab_O := ab_X (ab_T L_X7_isMissTold) 4
noncomputable def Z_X7_readMisses : List Value → ab_H → Option ab_O := ab_X (ab_T (L_X7_readMisses Z_X9_fail Z_X7_takeMan Z_X7_isMissTold Z_X9_takeNumber)) 4
noncomputable def Z_X7_readLine : List Value → ab_H → Option ab_O := ab_X (ab_T (L_X7_readLine Z_X7_readAmount Z_X7_readLoad Z_X7_readGood Z_X7_readMan Z_X7_readMisses Z_X9_fail)) 2
noncomputable def Z_X7_readText : List Value → ab_H → Option ab_O := ab_X (ab_T (L_X7_readText Z_X7_clear Z_X9_step Z_X7_readLine Z_X9_takeSign)) 3
noncomputable def Z_X8_init : List Value → ab_H → Option ab_O := ab_X (ab_T L_X8_init) 1
noncomputable def Z_X8_put : List Value → ab_H → Option ab_O := ab_X (ab_T L_X8_put) 3
noncomputable def Z_X8_valueAt : List Value → ab_H → Option ab_O := ab_X (ab_T L_X8_valueAt) 2
noncomputable def Z_X9_clear : List Value → ab_H → Option ab_O := ab_X (ab_T L_X9_clear) 1
noncomputable def Z_X8_skipBlanks : List Value → ab_H → Option ab_O := ab_X (ab_T (L_X8_skipBlanks Z_X8_valueAt)) 1
noncomputable def Z_X8_isLetter : List Value → ab_H → Option ab_O := ab_X (ab_T L_X8_isLetter) 1
noncomputable def Z_X8_isDigit : List Value → ab_H → Option ab_O := ab_X (ab_T L_X8_isDigit) 1
noncomputable def Z_J0_coder_7d493 : List Value → ab_H → Option ab_O := ab_X (ab_T L_J0_coder_7d493) 1
noncomputable def Z_J0_length_8abf5 : List Value → ab_H → Option ab_O := ab_X (ab_T (L_J0_length_8abf5 Z_J0_coder_7d493)) 1
noncomputable def Z_J0_isLatin1_aae02 : List Value → ab_H → Option ab_O := ab_X (ab_T L_J0_isLatin1_aae02) 1
noncomputable def Z_J3_checkIndex_8e157 : List Value → ab_H → Option ab_O := ab_X (ab_T L_J3_checkIndex_8e157) 3
noncomputable def Z_J0_checkIndex_df160 : List Value → ab_H → Option ab_O := ab_X (ab_T L_J0_checkIndex_df160) 2
noncomputable def Z_J1_charAt_3b067 : List Value → ab_H → Option ab_O := ab_X (ab_T (L_J1_charAt_3b067 Z_J0_checkIndex_df160)) 2
noncomputable def Z_J0_charAt_5068e : List Value → ab_H → Option ab_O := ab_X (ab_T (L_J0_charAt_5068e Z_J0_isLatin1_aae02 Z_J1_charAt_3b067)) 2
noncomputable def Z_X8_isToldWord : List Value → ab_H → Option ab_O := ab_X (ab_T (L_X8_isToldWord Z_J0_length_8abf5 Z_X8_valueAt Z_J0_charAt_5068e)) 7
noncomputable def Z_X8_kindOfWord : List Value → ab_H → Option ab_O := ab_X (ab_T (L_X8_kindOfWord Z_X8_isToldWord)) 4
noncomputable def Z_X9_add : List Value → ab_H → Option ab_O := ab_X (ab_T L_X9_add) 5
noncomputable def Z_X8_cutRun : List Value → ab_H → Option ab_O := ab_X (ab_T (L_X8_cutRun Z_X8_valueAt Z_X8_isLetter Z_X8_isDigit Z_X8_kindOfWord Z_X9_add)) 9
noncomputable def Z_X8_isSign : List Value → ab_H → Option ab_O := ab_X (ab_T L_X8_isSign) 1
noncomputable def Z_X8_cutToken : List Value → ab_H → Option ab_O := ab_X (ab_T (L_X8_cutToken Z_X8_valueAt Z_X8_isLetter Z_X8_isDigit Z_X8_cutRun Z_X8_isSign Z_X9_add)) 4
noncomputable def Z_X8_moveInto : List Value → ab_H → Option ab_O := ab_X (ab_T (L_X8_moveInto Z_X9_clear Z_X8_skipBlanks Z_X8_cutToken Z_X9_add)) 5
noncomputable def Z_X9_init : List Value → ab_H → Option ab_O := ab_X (ab_T L_X9_init) 1
noncomputable def Z_X10_init : List Value → ab_H → Option ab_O := ab_X (ab_T (L_X10_init Z_X8_init Z_X9_init Z_X1_init Z_X2_init Z_X6_init Z_X4_init Z_X0_init Z_X7_init Z_X5_init)) 1
noncomputable def Z_X10_feed : List Value → ab_H → Option ab_O := ab_X (ab_T (L_X10_feed Z_X8_put)) 6
noncomputable def Z_X10_end : List Value → ab_H → Option ab_O := ab_X (ab_T L_X10_end) 2
noncomputable def Z_X10_strait : List Value → ab_H → Option ab_O := ab_X (ab_T (L_X10_strait Z_X8_moveInto Z_X7_readText Z_X6_beginAs Z_X2_forget)) 3
noncomputable def Z_X10_fault : List Value → ab_H → Option ab_O := ab_X (ab_T L_X10_fault) 1
noncomputable def Z_X10_isGood : List Value → ab_H → Option ab_O := ab_X (ab_T L_X10_isGood) 2
noncomputable def Z_X10_isShore : List Value → ab_H → Option ab_O := ab_X (ab_T L_X10_isShore) 1
noncomputable def Z_X10_isSlot : List Value → ab_H → Option ab_O := ab_X (ab_T (L_X10_isSlot Z_X10_isGood Z_X10_isShore)) 3
noncomputable def Z_X10_isMan : List Value → ab_H → Option ab_O := ab_X (ab_T L_X10_isMan) 2
noncomputable def Z_X10_areLivingTwo : List Value → ab_H → Option ab_O := ab_X (ab_T (L_X10_areLivingTwo Z_X10_isMan Z_X6_isAlive)) 3
noncomputable def Z_X10_isWithin : List Value → ab_H → Option ab_O := ab_X (ab_T L_X10_isWithin) 2
noncomputable def Z_X10_good : List Value → ab_H → Option ab_O := ab_X (ab_T (L_X10_good Z_X10_isSlot Z_X10_slotOf Z_X7_amountOf Z_X6_lackAt Z_X6_isFalse)) 5
noncomputable def Z_X10_crossed : List Value → ab_H → Option ab_O := ab_X (ab_T (L_X10_crossed Z_X10_isSlot Z_X10_slotOf)) 3
noncomputable def Z_X10_apart : List Value → ab_H → Option ab_O := ab_X (ab_T (L_X10_apart Z_X10_areLivingTwo Z_X6_apartOf)) 3
noncomputable def Z_X10_now : List Value → ab_H → Option ab_O := ab_X (ab_T (L_X10_now Z_X6_ferryShore Z_X6_menOn Z_X6_hungerInAll)) 2
noncomputable def Z_X10_lacks : List Value → ab_H → Option ab_O := ab_X (ab_T (L_X10_lacks Z_X10_isShore Z_X10_slotOf Z_X6_lackAt)) 4
noncomputable def Z_X10_falses : List Value → ab_H → Option ab_O := ab_X (ab_T (L_X10_falses Z_X10_isShore Z_X10_slotOf Z_X6_isFalse)) 4
noncomputable def Z_J6_bitCount_0f7a4 : List Value → ab_H → Option ab_O := ab_X (ab_T L_J6_bitCount_0f7a4) 1
noncomputable def Z_X10_dearest : List Value → ab_H → Option ab_O := ab_X (ab_T (L_X10_dearest Z_X6_missersOf Z_J6_bitCount_0f7a4)) 5
noncomputable def Z_X10_rats : List Value → ab_H → Option ab_O := ab_X (ab_T (L_X10_rats Z_X6_isAlive Z_X6_couldBeMissed)) 3
noncomputable def Z_X10_hoarded : List Value → ab_H → Option ab_O := ab_X (ab_T (L_X10_hoarded Z_X10_isShore Z_X10_slotOf)) 6
noncomputable def Z_X10_count : List Value → ab_H → Option ab_O := ab_X (ab_T L_X10_count) 2
noncomputable def Z_X10_act : List Value → ab_H → Option ab_O := ab_X (ab_T (L_X10_act Z_X10_isSlot Z_X10_isWithin Z_X10_slotOf Z_X6_whyNot Z_X2_keep Z_X6_perform)) 7
noncomputable def Z_X10_hoard : List Value → ab_H → Option ab_O := ab_X (ab_T (L_X10_hoard Z_X10_act)) 4
noncomputable def Z_X10_bare : List Value → ab_H → Option ab_O := ab_X (ab_T (L_X10_bare Z_X10_act)) 4
noncomputable def Z_X10_waste : List Value → ab_H → Option ab_O := ab_X (ab_T (L_X10_waste Z_X10_act)) 4
noncomputable def Z_X10_die : List Value → ab_H → Option ab_O := ab_X (ab_T (L_X10_die Z_X10_isMan Z_X6_whyNot Z_X2_keep Z_X6_perform)) 3
noncomputable def Z_X10_days : List Value → ab_H → Option ab_O := ab_X (ab_T (L_X10_days Z_X10_isWithin Z_X2_keep Z_X1_passDays)) 2
noncomputable def Z_X10_undo : List Value → ab_H → Option ab_O := ab_X (ab_T (L_X10_undo Z_X2_takeBack)) 1
noncomputable def Z_X10_going : List Value → ab_H → Option ab_O := ab_X (ab_T (L_X10_going Z_X1_plan)) 1
noncomputable def Z_X10_goes : List Value → ab_H → Option ab_O := ab_X (ab_T (L_X10_goes Z_X10_isGood Z_X1_plan)) 2
noncomputable def Z_X10_crosses : List Value → ab_H → Option ab_O := ab_X (ab_T (L_X10_crosses Z_X10_isMan Z_X6_isAlive Z_X6_copyFrom Z_X1_passDays)) 4
noncomputable def Z_X10_comes : List Value → ab_H → Option ab_O := ab_X (ab_T (L_X10_comes Z_X10_isSlot Z_X6_copyFrom Z_X6_ferryShore Z_X1_passDays)) 6
noncomputable def Z_X10_foreseeRoom : List Value → ab_H → Option ab_O := ab_X (ab_T (L_X10_foreseeRoom Z_X6_copyFrom Z_X1_passDays)) 5
noncomputable def Z_X10_roomTowards : List Value → ab_H → Option ab_O := ab_X (ab_T L_X10_roomTowards) 5
noncomputable def Z_X10_wouldCome : List Value → ab_H → Option ab_O := ab_X (ab_T (L_X10_wouldCome Z_X10_slotOf Z_X7_amountOf Z_X1_amountMoved Z_X7_stockAfter)) 14
noncomputable def Z_X10_without : List Value → ab_H → Option ab_O := ab_X (ab_T (L_X10_without Z_X10_isSlot Z_X10_isWithin Z_X10_foreseeRoom Z_X10_roomTowards Z_X10_slotOf Z_X10_wouldCome)) 8
noncomputable def Z_X10_meet : List Value → ab_H → Option ab_O := ab_X (ab_T (L_X10_meet Z_X10_areLivingTwo Z_X6_copyFrom Z_X1_passDays)) 4
noncomputable def Z_X10_loads : List Value → ab_H → Option ab_O := ab_X (ab_T (L_X10_loads Z_X10_isWithin Z_X6_copyFrom Z_X1_passDays)) 2
noncomputable def Z_X10_settles : List Value → ab_H → Option ab_O := ab_X (ab_T (L_X10_settles Z_X6_copyFrom Z_X1_passDays Z_X6_looksLike)) 2
noncomputable def Z_X10_hunger : List Value → ab_H → Option ab_O := ab_X (ab_T (L_X10_hunger Z_X10_isSlot Z_X10_isWithin Z_X10_slotOf Z_X6_copyFrom Z_X1_passDays)) 5
noncomputable def Z_X10_couldGoSo : List Value → ab_H → Option ab_O := ab_X (ab_T (L_X10_couldGoSo Z_X8_valueAt Z_X7_stockAfter)) 4
noncomputable def Z_X10_which : List Value → ab_H → Option ab_O := ab_X (ab_T (L_X10_which Z_X8_valueAt Z_X10_isShore Z_X10_slotOf Z_X10_couldGoSo)) 6
noncomputable def Z_X10_movePrices : List Value → ab_H → Option ab_O := ab_X (ab_T (L_X10_movePrices Z_X7_amountOf)) 4
noncomputable def Z_X10_prices : List Value → ab_H → Option ab_O := ab_X (ab_T (L_X10_prices Z_X6_copyFrom Z_X10_movePrices Z_X1_passDays)) 2
noncomputable def Z_X10_price : List Value → ab_H → Option ab_O := ab_X (ab_T (L_X10_price Z_X10_isShore Z_X10_slotOf)) 4
noncomputable def Z_X10_drawDeed : List Value → ab_H → Option ab_O := ab_X (ab_T (L_X10_drawDeed Z_X0_drawOf Z_X10_slotOf Z_X6_attempt)) 6
noncomputable def Z_X10_drawDeath : List Value → ab_H → Option ab_O := ab_X (ab_T (L_X10_drawDeath Z_X0_drawOf Z_X6_attempt)) 2
noncomputable def Z_X10_drawDays : List Value → ab_H → Option ab_O := ab_X (ab_T (L_X10_drawDays Z_X10_drawDeed Z_X10_drawDeath Z_X1_passDays)) 6
noncomputable def Z_X10_drawn : List Value → ab_H → Option ab_O := ab_X (ab_T (L_X10_drawn Z_X10_isWithin Z_X2_keep Z_X10_drawDays)) 3
noncomputable def Z_X10_odds : List Value → ab_H → Option ab_O := ab_X (ab_T (L_X10_odds Z_X10_isMan Z_X10_isWithin Z_X6_copyFrom Z_X10_drawDays)) 6
noncomputable def Z_X10_liveLine : List Value → ab_H → Option ab_O := ab_X (ab_T (L_X10_liveLine Z_X1_passDays Z_X6_attempt)) 5
noncomputable def Z_X10_judgeLog : List Value → ab_H → Option ab_O := ab_X (ab_T (L_X10_judgeLog Z_X10_liveLine)) 3
noncomputable def Z_X10_log : List Value → ab_H → Option ab_O := ab_X (ab_T (L_X10_log Z_X8_moveInto Z_X4_readText Z_X6_copyFrom Z_X10_judgeLog Z_X6_hungerInAll Z_X2_keep)) 3
noncomputable def Z_X10_logged : List Value → ab_H → Option ab_O := ab_X (ab_T L_X10_logged) 2
noncomputable def Z_X10_sentence : List Value → ab_H → Option ab_O := ab_X (ab_T (L_X10_sentence Z_X8_moveInto Z_X5_readText)) 2
noncomputable def Z_X10_said : List Value → ab_H → Option ab_O := ab_X (ab_T (L_X10_said Z_X5_holdsOf)) 4
noncomputable def Z_X10_image : List Value → ab_H → Option ab_O := ab_X (ab_T (L_X10_image Z_X3_init Z_X7_copyFrom Z_X6_copyFrom Z_X5_copyFrom)) 3
noncomputable def Z_X10_restore : List Value → ab_H → Option ab_O := ab_X (ab_T (L_X10_restore Z_X7_copyFrom Z_X6_copyFrom Z_X5_copyFrom Z_X2_forget)) 3
noncomputable def Z_X11_throwsIf : List Value → ab_H → Option ab_O := ab_X (ab_T L_X11_throwsIf) 2
noncomputable def Z_X11_four : List Value → ab_H → Option ab_O := ab_X (ab_T L_X11_four) 3
noncomputable def Z_X11_feed : List Value → ab_H → Option ab_O := ab_X (ab_T (L_X11_feed Z_X11_four)) 6
noncomputable def Z_X11_end : List Value → ab_H → Option ab_O := ab_X (ab_T L_X11_end) 2
noncomputable def Z_X11_taken : List Value → ab_H → Option ab_O := ab_X (ab_T L_X11_taken) 2
noncomputable def Z_X11_isIn : List Value → ab_H → Option ab_O := ab_X (ab_T L_X11_isIn) 3
noncomputable def Z_X11_bitOf : List Value → ab_H → Option ab_O := ab_X (ab_T L_X11_bitOf) 2
noncomputable def Z_X11_lesser : List Value → ab_H → Option ab_O := ab_X (ab_T L_X11_lesser) 2
noncomputable def Z_X11_bits : List Value → ab_H → Option ab_O := ab_X (ab_T L_X11_bits) 3
noncomputable def Z_X11_octet : List Value → ab_H → Option ab_O := ab_X (ab_T L_X11_octet) 2
noncomputable def Z_X11_init : List Value → ab_H → Option ab_O := ab_X (ab_T L_X11_init) 1
noncomputable def Z_X11_peek : List Value → ab_H → Option ab_O := ab_X (ab_T L_X11_peek) 1
noncomputable def Z_X11_isSmall : List Value → ab_H → Option ab_O := ab_X (ab_T L_X11_isSmall) 1
noncomputable def Z_X11_isDigit : List Value → ab_H → Option ab_O := ab_X (ab_T L_X11_isDigit) 1
noncomputable def Z_X11_next : List Value → ab_H → Option ab_O := ab_X (ab_T (L_X11_next Z_X11_peek Z_X11_isSmall Z_X11_isDigit)) 4
noncomputable def Z_X11_bad : List Value → ab_H → Option ab_O := ab_X (ab_T L_X11_bad) 2
noncomputable def Z_X11_isWord : List Value → ab_H → Option ab_O := ab_X (ab_T L_X11_isWord) 3
noncomputable def Z_X11_isSign : List Value → ab_H → Option ab_O := ab_X (ab_T L_X11_isSign) 2
noncomputable def Z_X11_sign : List Value → ab_H → Option ab_O := ab_X (ab_T (L_X11_sign Z_X11_isSign Z_X11_bad Z_X11_next)) 2
noncomputable def Z_X11_isName : List Value → ab_H → Option ab_O := ab_X (ab_T L_X11_isName) 3
noncomputable def Z_X11_takes : List Value → ab_H → Option ab_O := ab_X (ab_T (L_X11_takes Z_X11_bad Z_X11_isIn Z_X11_next)) 3
noncomputable def Z_X11_puts : List Value → ab_H → Option ab_O := ab_X (ab_T (L_X11_puts Z_X11_takes)) 4
noncomputable def Z_X11_find : List Value → ab_H → Option ab_O := ab_X (ab_T L_X11_find) 4
noncomputable def Z_X11_fresh : List Value → ab_H → Option ab_O := ab_X (ab_T (L_X11_fresh Z_X11_isName Z_X11_bad Z_X11_find Z_X11_next)) 2
noncomputable def Z_X11_looksAt : List Value → ab_H → Option ab_O := ab_X (ab_T (L_X11_looksAt Z_X11_isName Z_X11_bad Z_X11_find)) 3
noncomputable def Z_X11_takesName : List Value → ab_H → Option ab_O := ab_X (ab_T (L_X11_takesName Z_X11_looksAt Z_X11_next)) 3
noncomputable def Z_X11_readMisses : List Value → ab_H → Option ab_O := ab_X (ab_T (L_X11_readMisses Z_X11_bad Z_X11_next Z_X11_takesName Z_X11_looksAt Z_X11_puts)) 5
noncomputable def Z_X11_line : List Value → ab_H → Option ab_O := ab_X (ab_T (L_X11_line Z_X11_isWord Z_X11_bad Z_X11_next Z_X11_puts Z_X11_fresh Z_X11_readMisses Z_X11_takesName Z_X11_bitOf)) 4
noncomputable def Z_X11_strait : List Value → ab_H → Option ab_O := ab_X (ab_T (L_X11_strait Z_X11_taken Z_X11_next Z_X11_line Z_X11_sign)) 2
noncomputable def Z_X11_fault : List Value → ab_H → Option ab_O := ab_X (ab_T L_X11_fault) 1
noncomputable def Z_X11_isGood : List Value → ab_H → Option ab_O := ab_X (ab_T (L_X11_isGood Z_X11_isIn)) 2
noncomputable def Z_X11_isShore : List Value → ab_H → Option ab_O := ab_X (ab_T (L_X11_isShore Z_X11_isIn)) 2
noncomputable def Z_X11_isPlace : List Value → ab_H → Option ab_O := ab_X (ab_T (L_X11_isPlace Z_X11_isGood Z_X11_isShore)) 3
noncomputable def Z_X11_isMan : List Value → ab_H → Option ab_O := ab_X (ab_T (L_X11_isMan Z_X11_isIn)) 2
noncomputable def Z_X11_isDead : List Value → ab_H → Option ab_O := ab_X (ab_T (L_X11_isDead Z_X11_bitOf)) 2
noncomputable def Z_X11_cell : List Value → ab_H → Option ab_O := ab_X (ab_T L_X11_cell) 2
noncomputable def Z_X11_lackOf : List Value → ab_H → Option ab_O := ab_X (ab_T (L_X11_lackOf Z_X11_cell)) 4
noncomputable def Z_X11_isFalse : List Value → ab_H → Option ab_O := ab_X (ab_T (L_X11_isFalse Z_X11_lackOf Z_X11_cell)) 3
noncomputable def Z_X11_good : List Value → ab_H → Option ab_O := ab_X (ab_T (L_X11_good Z_X11_isPlace Z_X11_cell Z_X11_lackOf Z_X11_isFalse)) 5
noncomputable def Z_X11_crossed : List Value → ab_H → Option ab_O := ab_X (ab_T (L_X11_crossed Z_X11_isPlace Z_X11_cell)) 3
noncomputable def Z_X11_areUnlike : List Value → ab_H → Option ab_O := ab_X (ab_T (L_X11_areUnlike Z_X11_isDead)) 3
noncomputable def Z_X11_doesMiss : List Value → ab_H → Option ab_O := ab_X (ab_T (L_X11_doesMiss Z_X11_areUnlike)) 4
noncomputable def Z_X11_missedBy : List Value → ab_H → Option ab_O := ab_X (ab_T (L_X11_missedBy Z_X11_doesMiss)) 4
noncomputable def Z_X11_missesOf : List Value → ab_H → Option ab_O := ab_X (ab_T (L_X11_missesOf Z_X11_doesMiss)) 4
noncomputable def Z_X11_man : List Value → ab_H → Option ab_O := ab_X (ab_T (L_X11_man Z_X11_isMan Z_X11_isIn Z_X11_throwsIf Z_X11_isDead Z_X11_missedBy Z_X11_missesOf)) 3
noncomputable def Z_X11_apart : List Value → ab_H → Option ab_O := ab_X (ab_T (L_X11_apart Z_X11_isMan Z_X11_isDead)) 3
noncomputable def Z_X11_menOn : List Value → ab_H → Option ab_O := ab_X (ab_T (L_X11_menOn Z_X11_isDead)) 4
noncomputable def Z_X11_now : List Value → ab_H → Option ab_O := ab_X (ab_T (L_X11_now Z_X11_menOn)) 2
noncomputable def Z_X11_goingSet : List Value → ab_H → Option ab_O := ab_X (ab_T (L_X11_goingSet Z_X11_isDead Z_X11_missedBy)) 4
noncomputable def Z_X11_goesOf : List Value → ab_H → Option ab_O := ab_X (ab_T (L_X11_goesOf Z_X11_cell Z_X11_lackOf Z_X11_lesser)) 3
noncomputable def Z_X11_eats : List Value → ab_H → Option ab_O := ab_X (ab_T (L_X11_eats Z_X11_lesser)) 3
noncomputable def Z_X11_day : List Value → ab_H → Option ab_O := ab_X (ab_T (L_X11_day Z_X11_goingSet Z_X11_bitOf Z_X11_goesOf Z_X11_cell Z_X11_eats Z_X11_areUnlike)) 5
noncomputable def Z_X11_goesOn : List Value → ab_H → Option ab_O := ab_X (ab_T (L_X11_goesOn Z_X11_day)) 3
noncomputable def Z_X11_whyHoard : List Value → ab_H → Option ab_O := ab_X (ab_T L_X11_whyHoard) 3
noncomputable def Z_X11_whyBare : List Value → ab_H → Option ab_O := ab_X (ab_T L_X11_whyBare) 3
noncomputable def Z_X11_hoards : List Value → ab_H → Option ab_O := ab_X (ab_T L_X11_hoards) 3
noncomputable def Z_X11_keep : List Value → ab_H → Option ab_O := ab_X (ab_T L_X11_keep) 2
noncomputable def Z_X11_hoard : List Value → ab_H → Option ab_O := ab_X (ab_T (L_X11_hoard Z_X11_isPlace Z_X11_isIn Z_X11_cell Z_X11_whyHoard Z_X11_keep Z_X11_hoards)) 4
noncomputable def Z_X11_bare : List Value → ab_H → Option ab_O := ab_X (ab_T (L_X11_bare Z_X11_isPlace Z_X11_isIn Z_X11_cell Z_X11_whyBare Z_X11_keep Z_X11_hoards)) 5
noncomputable def Z_X11_waste : List Value → ab_H → Option ab_O := ab_X (ab_T (L_X11_waste Z_X11_isPlace Z_X11_isIn Z_X11_cell Z_X11_whyHoard Z_X11_keep)) 4
noncomputable def Z_X11_die : List Value → ab_H → Option ab_O := ab_X (ab_T (L_X11_die Z_X11_isMan Z_X11_isDead Z_X11_keep)) 2
noncomputable def Z_X11_days : List Value → ab_H → Option ab_O := ab_X (ab_T (L_X11_days Z_X11_isIn Z_X11_keep Z_X11_goesOn)) 2
noncomputable def Z_X11_undo : List Value → ab_H → Option ab_O := ab_X (ab_T L_X11_undo) 2
noncomputable def Z_X11_tries : List Value → ab_H → Option ab_O := ab_X (ab_T L_X11_tries) 2
noncomputable def Z_X11_back : List Value → ab_H → Option ab_O := ab_X (ab_T L_X11_back) 2
noncomputable def Z_X11_lacks : List Value → ab_H → Option ab_O := ab_X (ab_T (L_X11_lacks Z_X11_isShore Z_X11_lackOf)) 4
noncomputable def Z_X11_falses : List Value → ab_H → Option ab_O := ab_X (ab_T (L_X11_falses Z_X11_isShore Z_X11_isFalse)) 4
noncomputable def Z_X11_going : List Value → ab_H → Option ab_O := ab_X (ab_T (L_X11_going Z_X11_goingSet)) 1
noncomputable def Z_X11_goes : List Value → ab_H → Option ab_O := ab_X (ab_T (L_X11_goes Z_X11_isGood Z_X11_goingSet Z_X11_goesOf)) 3
noncomputable def Z_X11_crosses : List Value → ab_H → Option ab_O := ab_X (ab_T (L_X11_crosses Z_X11_isMan Z_X11_isDead Z_X11_tries Z_X11_goesOn Z_X11_back)) 5
noncomputable def Z_X11_comes : List Value → ab_H → Option ab_O := ab_X (ab_T (L_X11_comes Z_X11_isPlace Z_X11_tries Z_X11_cell Z_X11_goesOn Z_X11_back)) 6
noncomputable def Z_X11_without : List Value → ab_H → Option ab_O := ab_X (ab_T (L_X11_without Z_X11_isPlace Z_X11_isIn Z_X11_tries Z_X11_cell Z_X11_goesOn Z_X11_back)) 10
noncomputable def Z_X11_meet : List Value → ab_H → Option ab_O := ab_X (ab_T (L_X11_meet Z_X11_isMan Z_X11_isDead Z_X11_tries Z_X11_areUnlike Z_X11_goesOn Z_X11_back)) 5
noncomputable def Z_X11_loads : List Value → ab_H → Option ab_O := ab_X (ab_T (L_X11_loads Z_X11_isIn Z_X11_tries Z_X11_goesOn Z_X11_back)) 4
noncomputable def Z_X11_which : List Value → ab_H → Option ab_O := ab_X (ab_T (L_X11_which Z_X11_taken Z_X11_isIn Z_X11_octet Z_X11_cell Z_X11_lesser)) 7
noncomputable def Z_X11_lays : List Value → ab_H → Option ab_O := ab_X (ab_T L_X11_lays) 3
noncomputable def Z_X11_areAlike : List Value → ab_H → Option ab_O := ab_X (ab_T L_X11_areAlike) 4
noncomputable def Z_X11_settles : List Value → ab_H → Option ab_O := ab_X (ab_T (L_X11_settles Z_X11_tries Z_X11_lays Z_X11_areAlike Z_X11_goesOn Z_X11_back)) 3
noncomputable def Z_X11_hunger : List Value → ab_H → Option ab_O := ab_X (ab_T (L_X11_hunger Z_X11_isPlace Z_X11_isIn Z_X11_tries Z_X11_cell Z_X11_goesOn Z_X11_back)) 6
noncomputable def Z_X11_prices : List Value → ab_H → Option ab_O := ab_X (ab_T (L_X11_prices Z_X11_tries Z_X11_goesOn Z_X11_back)) 5
noncomputable def Z_X11_price : List Value → ab_H → Option ab_O := ab_X (ab_T (L_X11_price Z_X11_isIn Z_X11_isShore Z_X11_cell)) 3
noncomputable def Z_X11_dearest : List Value → ab_H → Option ab_O := ab_X (ab_T (L_X11_dearest Z_X11_missedBy Z_X11_bits)) 4
noncomputable def Z_X11_rats : List Value → ab_H → Option ab_O := ab_X (ab_T (L_X11_rats Z_X11_menOn Z_X11_isDead)) 3
noncomputable def Z_X11_hoarded : List Value → ab_H → Option ab_O := ab_X (ab_T (L_X11_hoarded Z_X11_isShore Z_X11_cell)) 5
noncomputable def Z_X11_draw : List Value → ab_H → Option ab_O := ab_X (ab_T L_X11_draw) 2
noncomputable def Z_X11_drawsDay : List Value → ab_H → Option ab_O := ab_X (ab_T (L_X11_drawsDay Z_X11_draw Z_X11_cell Z_X11_whyHoard Z_X11_hoards Z_X11_whyBare Z_X11_day)) 5
noncomputable def Z_X11_draws : List Value → ab_H → Option ab_O := ab_X (ab_T (L_X11_draws Z_X11_drawsDay)) 4
noncomputable def Z_X11_drawn : List Value → ab_H → Option ab_O := ab_X (ab_T (L_X11_drawn Z_X11_isIn Z_X11_keep Z_X11_draws)) 3
noncomputable def Z_X11_odds : List Value → ab_H → Option ab_O := ab_X (ab_T (L_X11_odds Z_X11_isMan Z_X11_isIn Z_X11_tries Z_X11_draws Z_X11_back)) 7
noncomputable def Z_X11_logLine : List Value → ab_H → Option ab_O := ab_X (ab_T (L_X11_logLine Z_X11_isWord Z_X11_looksAt Z_X11_bad Z_X11_next Z_X11_takes Z_X11_takesName)) 3
noncomputable def Z_X11_does : List Value → ab_H → Option ab_O := ab_X (ab_T (L_X11_does Z_X11_cell Z_X11_isDead Z_X11_whyBare Z_X11_whyHoard Z_X11_hoards Z_X11_goesOn)) 7
noncomputable def Z_X11_log : List Value → ab_H → Option ab_O := ab_X (ab_T (L_X11_log Z_X11_isIn Z_X11_taken Z_X11_next Z_X11_logLine Z_X11_sign Z_X11_tries Z_X11_does Z_X11_keep Z_X11_back)) 5
noncomputable def Z_X11_logged : List Value → ab_H → Option ab_O := ab_X (ab_T (L_X11_logged Z_X11_isIn)) 2
noncomputable def Z_X11_code : List Value → ab_H → Option ab_O := ab_X (ab_T L_X11_code) 4
noncomputable def Z_X11_joins : List Value → ab_H → Option ab_O := ab_X (ab_T (L_X11_joins Z_X11_code)) 2
noncomputable def Z_X11_nots : List Value → ab_H → Option ab_O := ab_X (ab_T (L_X11_nots Z_X11_code)) 1
noncomputable def Z_X11_leafOf : List Value → ab_H → Option ab_O := ab_X (ab_T (L_X11_leafOf Z_X11_isWord)) 1
noncomputable def Z_X11_operand : List Value → ab_H → Option ab_O := ab_X (ab_T (L_X11_operand Z_X11_isWord Z_X11_isSign Z_X11_leafOf Z_X11_bad Z_X11_next Z_X11_takes Z_X11_code)) 5
noncomputable def Z_X11_behind : List Value → ab_H → Option ab_O := ab_X (ab_T (L_X11_behind Z_X11_nots Z_X11_isWord Z_X11_joins Z_X11_next Z_X11_isSign Z_X11_bad)) 1
noncomputable def Z_X11_sentence : List Value → ab_H → Option ab_O := ab_X (ab_T (L_X11_sentence Z_X11_taken Z_X11_next Z_X11_nots Z_X11_joins Z_X11_bad Z_X11_behind Z_X11_operand)) 3
noncomputable def Z_X11_isLeaf : List Value → ab_H → Option ab_O := ab_X (ab_T (L_X11_isLeaf Z_X11_lackOf Z_X11_cell Z_X11_isFalse)) 6
noncomputable def Z_X11_isSaid : List Value → ab_H → Option ab_O := ab_X (ab_T (L_X11_isSaid Z_X11_isLeaf)) 5
noncomputable def Z_X11_said : List Value → ab_H → Option ab_O := ab_X (ab_T (L_X11_said Z_X11_isSaid)) 4
noncomputable def Z_X11_image : List Value → ab_H → Option ab_O := ab_X (ab_T (L_X11_image Z_X11_isIn)) 3
noncomputable def Z_X11_restore : List Value → ab_H → Option ab_O := ab_X (ab_T (L_X11_restore Z_X11_isIn)) 3
noncomputable def Z_X11_count : List Value → ab_H → Option ab_O := ab_X (ab_T (L_X11_count Z_X11_isIn)) 2
noncomputable def Z_X10_man : List Value → ab_H → Option ab_O := ab_X (ab_T (L_X10_man Z_X10_isMan Z_X6_missersOf Z_X6_missedBy Z_X6_isAlive)) 3
noncomputable def Z_L_man : List Value → ab_H → Option ab_O := ab_X (ab_T (L_L_man Z_X10_man)) 5
