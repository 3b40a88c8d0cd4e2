/-! ===== the searches stacked: nine deep ===== -/
theorem fsp_bracket {xC : List Value → ab_H → Option ab_O} (hC : FSP xC) : FSP (ab_X (ab_T (L_X5_readBracket Z_X9_step xC Z_X9_fail)) 3) := fun _ _ w g o => fs_bracket hC g o w
theorem fsp_one {xB xO : List Value → ab_H → Option ab_O} (hB : FSP xB) (h1 : FSP xO) : FSP (ab_X (ab_T (L_X5_readOne Z_X9_fail xB Z_X9_step xO Z_X5_addOp Z_X5_readOnShore Z_X5_readCompared)) 6) := fun _ _ w g o => fs_one hB h1 g o w
theorem fsp_all {xO : List Value → ab_H → Option ab_O} (h1 : FSP xO) : FSP (ab_X (ab_T (L_X5_readAll xO Z_X9_step Z_X5_addOp)) 4) := fun _ _ w g o => fs_all h1 g o w
theorem fsp_cond {xA : List Value → ab_H → Option ab_O} (hA : FSP xA) : FSP (ab_X (ab_T (L_X5_readCond xA Z_X9_step Z_X5_addOp)) 4) := fun _ _ w g o => fs_cond hA g o w
theorem fz_readOne_9 : FSP Z_X5_readOne_9 := fsp_one fsp_no fsp_no
theorem fz_readAll_9 : FSP Z_X5_readAll_9 := fsp_all fz_readOne_9
theorem fz_readCond_9 : FSP Z_X5_readCond_9 := fsp_cond fz_readAll_9
theorem fz_readBracket_8 : FSP Z_X5_readBracket_8 := fsp_bracket fz_readCond_9
theorem fz_readOne_8 : FSP Z_X5_readOne_8 := fsp_one fz_readBracket_8 fz_readOne_9
theorem fz_readAll_8 : FSP Z_X5_readAll_8 := fsp_all fz_readOne_8
theorem fz_readCond_8 : FSP Z_X5_readCond_8 := fsp_cond fz_readAll_8
theorem fz_readBracket_7 : FSP Z_X5_readBracket_7 := fsp_bracket fz_readCond_8
theorem fz_readOne_7 : FSP Z_X5_readOne_7 := fsp_one fz_readBracket_7 fz_readOne_8
theorem fz_readAll_7 : FSP Z_X5_readAll_7 := fsp_all fz_readOne_7
theorem fz_readCond_7 : FSP Z_X5_readCond_7 := fsp_cond fz_readAll_7
theorem fz_readBracket_6 : FSP Z_X5_readBracket_6 := fsp_bracket fz_readCond_7
theorem fz_readOne_6 : FSP Z_X5_readOne_6 := fsp_one fz_readBracket_6 fz_readOne_7
theorem fz_readAll_6 : FSP Z_X5_readAll_6 := fsp_all fz_readOne_6
theorem fz_readCond_6 : FSP Z_X5_readCond_6 := fsp_cond fz_readAll_6
theorem fz_readBracket_5 : FSP Z_X5_readBracket_5 := fsp_bracket fz_readCond_6
theorem fz_readOne_5 : FSP Z_X5_readOne_5 := fsp_one fz_readBracket_5 fz_readOne_6
theorem fz_readAll_5 : FSP Z_X5_readAll_5 := fsp_all fz_readOne_5
theorem fz_readCond_5 : FSP Z_X5_readCond_5 := fsp_cond fz_readAll_5
theorem fz_readBracket_4 : FSP Z_X5_readBracket_4 := fsp_bracket fz_readCond_5
theorem fz_readOne_4 : FSP Z_X5_readOne_4 := fsp_one fz_readBracket_4 fz_readOne_5
theorem fz_readAll_4 : FSP Z_X5_readAll_4 := fsp_all fz_readOne_4
theorem fz_readCond_4 : FSP Z_X5_readCond_4 := fsp_cond fz_readAll_4
theorem fz_readBracket_3 : FSP Z_X5_readBracket_3 := fsp_bracket fz_readCond_4
theorem fz_readOne_3 : FSP Z_X5_readOne_3 := fsp_one fz_readBracket_3 fz_readOne_4
theorem fz_readAll_3 : FSP Z_X5_readAll_3 := fsp_all fz_readOne_3
theorem fz_readCond_3 : FSP Z_X5_readCond_3 := fsp_cond fz_readAll_3
theorem fz_readBracket_2 : FSP Z_X5_readBracket_2 := fsp_bracket fz_readCond_3
theorem fz_readOne_2 : FSP Z_X5_readOne_2 := fsp_one fz_readBracket_2 fz_readOne_3
theorem fz_readAll_2 : FSP Z_X5_readAll_2 := fsp_all fz_readOne_2
theorem fz_readCond_2 : FSP Z_X5_readCond_2 := fsp_cond fz_readAll_2
theorem fz_readBracket_1 : FSP Z_X5_readBracket_1 := fsp_bracket fz_readCond_2
theorem fz_readOne_1 : FSP Z_X5_readOne_1 := fsp_one fz_readBracket_1 fz_readOne_2
theorem fz_readAll_1 : FSP Z_X5_readAll_1 := fsp_all fz_readOne_1
theorem fz_readCond_1 : FSP Z_X5_readCond_1 := fsp_cond fz_readAll_1
