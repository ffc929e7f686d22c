theorem clX0 : ClOK 0 RX0 TX0 1 tyX0 := ⟨rfl, by decide +kernel, tyX0_ok, nmX0, by decide, rfl⟩
theorem clX1 : ClOK 1 RX1 TX1 5 tyX1 := ⟨rfl, by decide +kernel, tyX1_ok, nmX1, by decide, rfl⟩
theorem clX2 : ClOK 2 RX2 TX2 8 tyX2 := ⟨rfl, by decide +kernel, tyX2_ok, nmX2, by decide, rfl⟩
theorem clX3 : ClOK 3 RX3 TX3 2 tyX3 := ⟨rfl, by decide +kernel, tyX3_ok, nmX3, by decide, rfl⟩
theorem clX4 : ClOK 4 RX4 TX4 16 tyX4 := ⟨rfl, by decide +kernel, tyX4_ok, nmX4, by decide, rfl⟩
theorem clX5 : ClOK 5 RX5 TX5 4 tyX5 := ⟨rfl, by decide +kernel, tyX5_ok, nmX5, by decide, rfl⟩
theorem clX6 : ClOK 6 RX6 TX6 8 tyX6 := ⟨rfl, by decide +kernel, tyX6_ok, nmX6, by decide, rfl⟩
theorem clX7 : ClOK 7 RX7 TX7 2 tyX7 := ⟨rfl, by decide +kernel, tyX7_ok, nmX7, by decide, rfl⟩
theorem clX8 : ClOK 8 RX8 TX8 3 tyX8 := ⟨rfl, by decide +kernel, tyX8_ok, nmX8, by decide, rfl⟩
theorem clX9 : ClOK 9 RX9 TX9 3 tyX9 := ⟨rfl, by decide +kernel, tyX9_ok, nmX9, by decide, rfl⟩
theorem clX10 : ClOK 10 RX10 TX10 8 tyX10 := ⟨rfl, by decide +kernel, tyX10_ok, nmX10, by decide, rfl⟩
theorem clX11 : ClOK 11 RX11 TX11 23 tyX11 := ⟨rfl, by decide +kernel, tyX11_ok, nmX11, by decide, rfl⟩
theorem fl_X7_9 : FLk RX7 9 7 0 1 (.array .byte) := ⟨RX7, TX7, 2, tyX7, clX7, by decide, mem_tg (List.mem_of_getElem? (i := 70) (by decide +kernel)) rfl, rfl, by decide +kernel, rfl, rfl⟩
theorem fl_X4_137 : FLk RX4 137 7 0 1 (.array .byte) := ⟨RX7, TX7, 2, tyX7, clX7, by decide, mem_tg (List.mem_of_getElem? (i := 71) (by decide +kernel)) rfl, rfl, by decide +kernel, rfl, rfl⟩
theorem fl_X7_15 : FLk RX7 15 7 1 0 .int := ⟨RX7, TX7, 2, tyX7, clX7, by decide, mem_tg (List.mem_of_getElem? (i := 72) (by decide +kernel)) rfl, rfl, by decide +kernel, rfl, rfl⟩
theorem fl_X10_75 : FLk RX10 75 7 1 0 .int := ⟨RX7, TX7, 2, tyX7, clX7, by decide, mem_tg (List.mem_of_getElem? (i := 73) (by decide +kernel)) rfl, rfl, by decide +kernel, rfl, rfl⟩
theorem fl_X4_134 : FLk RX4 134 7 1 0 .int := ⟨RX7, TX7, 2, tyX7, clX7, by decide, mem_tg (List.mem_of_getElem? (i := 74) (by decide +kernel)) rfl, rfl, by decide +kernel, rfl, rfl⟩
theorem fl_X5_9 : FLk RX5 9 5 0 1 (.array .int) := ⟨RX5, TX5, 4, tyX5, clX5, by decide, mem_tg (List.mem_of_getElem? (i := 93) (by decide +kernel)) rfl, rfl, by decide +kernel, rfl, rfl⟩
theorem fl_X8_30 : FLk RX8 30 5 0 1 (.array .int) := ⟨RX5, TX5, 4, tyX5, clX5, by decide, mem_tg (List.mem_of_getElem? (i := 94) (by decide +kernel)) rfl, rfl, by decide +kernel, rfl, rfl⟩
theorem fl_X9_36 : FLk RX9 36 5 0 1 (.array .int) := ⟨RX5, TX5, 4, tyX5, clX5, by decide, mem_tg (List.mem_of_getElem? (i := 95) (by decide +kernel)) rfl, rfl, by decide +kernel, rfl, rfl⟩
theorem fl_X3_39 : FLk RX3 39 5 0 1 (.array .int) := ⟨RX5, TX5, 4, tyX5, clX5, by decide, mem_tg (List.mem_of_getElem? (i := 96) (by decide +kernel)) rfl, rfl, by decide +kernel, rfl, rfl⟩
theorem fl_X1_31 : FLk RX1 31 5 0 1 (.array .int) := ⟨RX5, TX5, 4, tyX5, clX5, by decide, mem_tg (List.mem_of_getElem? (i := 97) (by decide +kernel)) rfl, rfl, by decide +kernel, rfl, rfl⟩
theorem fl_X6_62 : FLk RX6 62 5 0 1 (.array .int) := ⟨RX5, TX5, 4, tyX5, clX5, by decide, mem_tg (List.mem_of_getElem? (i := 98) (by decide +kernel)) rfl, rfl, by decide +kernel, rfl, rfl⟩
theorem fl_X10_103 : FLk RX10 103 5 0 1 (.array .int) := ⟨RX5, TX5, 4, tyX5, clX5, by decide, mem_tg (List.mem_of_getElem? (i := 99) (by decide +kernel)) rfl, rfl, by decide +kernel, rfl, rfl⟩
theorem fl_X5_15 : FLk RX5 15 5 1 1 (.array .int) := ⟨RX5, TX5, 4, tyX5, clX5, by decide, mem_tg (List.mem_of_getElem? (i := 100) (by decide +kernel)) rfl, rfl, by decide +kernel, rfl, rfl⟩
theorem fl_X8_22 : FLk RX8 22 5 1 1 (.array .int) := ⟨RX5, TX5, 4, tyX5, clX5, by decide, mem_tg (List.mem_of_getElem? (i := 101) (by decide +kernel)) rfl, rfl, by decide +kernel, rfl, rfl⟩
theorem fl_X0_27 : FLk RX0 27 5 1 1 (.array .int) := ⟨RX5, TX5, 4, tyX5, clX5, by decide, mem_tg (List.mem_of_getElem? (i := 102) (by decide +kernel)) rfl, rfl, by decide +kernel, rfl, rfl⟩
theorem fl_X9_27 : FLk RX9 27 5 1 1 (.array .int) := ⟨RX5, TX5, 4, tyX5, clX5, by decide, mem_tg (List.mem_of_getElem? (i := 103) (by decide +kernel)) rfl, rfl, by decide +kernel, rfl, rfl⟩
theorem fl_X1_34 : FLk RX1 34 5 1 1 (.array .int) := ⟨RX5, TX5, 4, tyX5, clX5, by decide, mem_tg (List.mem_of_getElem? (i := 104) (by decide +kernel)) rfl, rfl, by decide +kernel, rfl, rfl⟩
theorem fl_X10_107 : FLk RX10 107 5 1 1 (.array .int) := ⟨RX5, TX5, 4, tyX5, clX5, by decide, mem_tg (List.mem_of_getElem? (i := 105) (by decide +kernel)) rfl, rfl, by decide +kernel, rfl, rfl⟩
theorem fl_X5_18 : FLk RX5 18 5 2 0 .int := ⟨RX5, TX5, 4, tyX5, clX5, by decide, mem_tg (List.mem_of_getElem? (i := 106) (by decide +kernel)) rfl, rfl, by decide +kernel, rfl, rfl⟩
theorem fl_X3_20 : FLk RX3 20 5 2 0 .int := ⟨RX5, TX5, 4, tyX5, clX5, by decide, mem_tg (List.mem_of_getElem? (i := 107) (by decide +kernel)) rfl, rfl, by decide +kernel, rfl, rfl⟩
theorem fl_X0_15 : FLk RX0 15 5 2 0 .int := ⟨RX5, TX5, 4, tyX5, clX5, by decide, mem_tg (List.mem_of_getElem? (i := 108) (by decide +kernel)) rfl, rfl, by decide +kernel, rfl, rfl⟩
theorem fl_X6_32 : FLk RX6 32 5 2 0 .int := ⟨RX5, TX5, 4, tyX5, clX5, by decide, mem_tg (List.mem_of_getElem? (i := 109) (by decide +kernel)) rfl, rfl, by decide +kernel, rfl, rfl⟩
theorem fl_X8_27 : FLk RX8 27 5 2 0 .int := ⟨RX5, TX5, 4, tyX5, clX5, by decide, mem_tg (List.mem_of_getElem? (i := 110) (by decide +kernel)) rfl, rfl, by decide +kernel, rfl, rfl⟩
theorem fl_X9_24 : FLk RX9 24 5 2 0 .int := ⟨RX5, TX5, 4, tyX5, clX5, by decide, mem_tg (List.mem_of_getElem? (i := 111) (by decide +kernel)) rfl, rfl, by decide +kernel, rfl, rfl⟩
theorem fl_X1_28 : FLk RX1 28 5 2 0 .int := ⟨RX5, TX5, 4, tyX5, clX5, by decide, mem_tg (List.mem_of_getElem? (i := 112) (by decide +kernel)) rfl, rfl, by decide +kernel, rfl, rfl⟩
theorem fl_X10_98 : FLk RX10 98 5 2 0 .int := ⟨RX5, TX5, 4, tyX5, clX5, by decide, mem_tg (List.mem_of_getElem? (i := 113) (by decide +kernel)) rfl, rfl, by decide +kernel, rfl, rfl⟩
theorem fl_X4_125 : FLk RX4 125 5 2 0 .int := ⟨RX5, TX5, 4, tyX5, clX5, by decide, mem_tg (List.mem_of_getElem? (i := 114) (by decide +kernel)) rfl, rfl, by decide +kernel, rfl, rfl⟩
theorem fl_X5_22 : FLk RX5 22 5 3 0 .int := ⟨RX5, TX5, 4, tyX5, clX5, by decide, mem_tg (List.mem_of_getElem? (i := 115) (by decide +kernel)) rfl, rfl, by decide +kernel, rfl, rfl⟩
theorem fl_X4_74 : FLk RX4 74 5 3 0 .int := ⟨RX5, TX5, 4, tyX5, clX5, by decide, mem_tg (List.mem_of_getElem? (i := 116) (by decide +kernel)) rfl, rfl, by decide +kernel, rfl, rfl⟩
theorem fl_X10_110 : FLk RX10 110 5 3 0 .int := ⟨RX5, TX5, 4, tyX5, clX5, by decide, mem_tg (List.mem_of_getElem? (i := 117) (by decide +kernel)) rfl, rfl, by decide +kernel, rfl, rfl⟩
theorem fl_X4_12 : FLk RX4 12 4 0 1 (.object "CarillonDesk$Score") := ⟨RX4, TX4, 16, tyX4, clX4, by decide, mem_tg (List.mem_of_getElem? (i := 128) (by decide +kernel)) rfl, rfl, by decide +kernel, rfl, rfl⟩
theorem fl_X10_90 : FLk RX10 90 4 0 1 (.object "CarillonDesk$Score") := ⟨RX4, TX4, 16, tyX4, clX4, by decide, mem_tg (List.mem_of_getElem? (i := 129) (by decide +kernel)) rfl, rfl, by decide +kernel, rfl, rfl⟩
theorem fl_X4_68 : FLk RX4 68 4 1 0 .int := ⟨RX4, TX4, 16, tyX4, clX4, by decide, mem_tg (List.mem_of_getElem? (i := 130) (by decide +kernel)) rfl, rfl, by decide +kernel, rfl, rfl⟩
theorem fl_X10_82 : FLk RX10 82 4 1 0 .int := ⟨RX4, TX4, 16, tyX4, clX4, by decide, mem_tg (List.mem_of_getElem? (i := 131) (by decide +kernel)) rfl, rfl, by decide +kernel, rfl, rfl⟩
theorem fl_X4_80 : FLk RX4 80 4 2 0 .int := ⟨RX4, TX4, 16, tyX4, clX4, by decide, mem_tg (List.mem_of_getElem? (i := 132) (by decide +kernel)) rfl, rfl, by decide +kernel, rfl, rfl⟩
theorem fl_X10_86 : FLk RX10 86 4 2 0 .int := ⟨RX4, TX4, 16, tyX4, clX4, by decide, mem_tg (List.mem_of_getElem? (i := 133) (by decide +kernel)) rfl, rfl, by decide +kernel, rfl, rfl⟩
theorem fl_X4_31 : FLk RX4 31 4 3 1 (.object "CarillonDesk$Tape") := ⟨RX4, TX4, 16, tyX4, clX4, by decide, mem_tg (List.mem_of_getElem? (i := 134) (by decide +kernel)) rfl, rfl, by decide +kernel, rfl, rfl⟩
theorem fl_X4_18 : FLk RX4 18 4 4 1 (.array .int) := ⟨RX4, TX4, 16, tyX4, clX4, by decide, mem_tg (List.mem_of_getElem? (i := 135) (by decide +kernel)) rfl, rfl, by decide +kernel, rfl, rfl⟩
theorem fl_X4_22 : FLk RX4 22 4 5 1 (.array .int) := ⟨RX4, TX4, 16, tyX4, clX4, by decide, mem_tg (List.mem_of_getElem? (i := 136) (by decide +kernel)) rfl, rfl, by decide +kernel, rfl, rfl⟩
theorem fl_X4_25 : FLk RX4 25 4 6 1 (.array .int) := ⟨RX4, TX4, 16, tyX4, clX4, by decide, mem_tg (List.mem_of_getElem? (i := 137) (by decide +kernel)) rfl, rfl, by decide +kernel, rfl, rfl⟩
theorem fl_X4_28 : FLk RX4 28 4 7 1 (.array .int) := ⟨RX4, TX4, 16, tyX4, clX4, by decide, mem_tg (List.mem_of_getElem? (i := 138) (by decide +kernel)) rfl, rfl, by decide +kernel, rfl, rfl⟩
theorem fl_X4_57 : FLk RX4 57 4 8 0 .int := ⟨RX4, TX4, 16, tyX4, clX4, by decide, mem_tg (List.mem_of_getElem? (i := 139) (by decide +kernel)) rfl, rfl, by decide +kernel, rfl, rfl⟩
theorem fl_X4_61 : FLk RX4 61 4 9 0 .int := ⟨RX4, TX4, 16, tyX4, clX4, by decide, mem_tg (List.mem_of_getElem? (i := 140) (by decide +kernel)) rfl, rfl, by decide +kernel, rfl, rfl⟩
theorem fl_X4_122 : FLk RX4 122 4 10 0 .int := ⟨RX4, TX4, 16, tyX4, clX4, by decide, mem_tg (List.mem_of_getElem? (i := 141) (by decide +kernel)) rfl, rfl, by decide +kernel, rfl, rfl⟩
theorem fl_X4_83 : FLk RX4 83 4 11 0 .int := ⟨RX4, TX4, 16, tyX4, clX4, by decide, mem_tg (List.mem_of_getElem? (i := 142) (by decide +kernel)) rfl, rfl, by decide +kernel, rfl, rfl⟩
theorem fl_X4_71 : FLk RX4 71 4 12 0 .int := ⟨RX4, TX4, 16, tyX4, clX4, by decide, mem_tg (List.mem_of_getElem? (i := 143) (by decide +kernel)) rfl, rfl, by decide +kernel, rfl, rfl⟩
theorem fl_X4_103 : FLk RX4 103 4 13 0 .int := ⟨RX4, TX4, 16, tyX4, clX4, by decide, mem_tg (List.mem_of_getElem? (i := 144) (by decide +kernel)) rfl, rfl, by decide +kernel, rfl, rfl⟩
theorem fl_X4_106 : FLk RX4 106 4 14 0 .int := ⟨RX4, TX4, 16, tyX4, clX4, by decide, mem_tg (List.mem_of_getElem? (i := 145) (by decide +kernel)) rfl, rfl, by decide +kernel, rfl, rfl⟩
theorem fl_X4_94 : FLk RX4 94 4 15 0 .int := ⟨RX4, TX4, 16, tyX4, clX4, by decide, mem_tg (List.mem_of_getElem? (i := 146) (by decide +kernel)) rfl, rfl, by decide +kernel, rfl, rfl⟩
theorem fl_X8_9 : FLk RX8 9 8 0 1 (.array .int) := ⟨RX8, TX8, 3, tyX8, clX8, by decide, mem_tg (List.mem_of_getElem? (i := 194) (by decide +kernel)) rfl, rfl, by decide +kernel, rfl, rfl⟩
theorem fl_X10_146 : FLk RX10 146 8 0 1 (.array .int) := ⟨RX8, TX8, 3, tyX8, clX8, by decide, mem_tg (List.mem_of_getElem? (i := 195) (by decide +kernel)) rfl, rfl, by decide +kernel, rfl, rfl⟩
theorem fl_X8_15 : FLk RX8 15 8 1 0 .int := ⟨RX8, TX8, 3, tyX8, clX8, by decide, mem_tg (List.mem_of_getElem? (i := 196) (by decide +kernel)) rfl, rfl, by decide +kernel, rfl, rfl⟩
theorem fl_X10_151 : FLk RX10 151 8 1 0 .int := ⟨RX8, TX8, 3, tyX8, clX8, by decide, mem_tg (List.mem_of_getElem? (i := 197) (by decide +kernel)) rfl, rfl, by decide +kernel, rfl, rfl⟩
theorem fl_X8_19 : FLk RX8 19 8 2 1 (.array .int) := ⟨RX8, TX8, 3, tyX8, clX8, by decide, mem_tg (List.mem_of_getElem? (i := 198) (by decide +kernel)) rfl, rfl, by decide +kernel, rfl, rfl⟩
theorem fl_X1_9 : FLk RX1 9 1 0 1 (.array .int) := ⟨RX1, TX1, 5, tyX1, clX1, by decide, mem_tg (List.mem_of_getElem? (i := 212) (by decide +kernel)) rfl, rfl, by decide +kernel, rfl, rfl⟩
theorem fl_X9_33 : FLk RX9 33 1 0 1 (.array .int) := ⟨RX1, TX1, 5, tyX1, clX1, by decide, mem_tg (List.mem_of_getElem? (i := 213) (by decide +kernel)) rfl, rfl, by decide +kernel, rfl, rfl⟩
theorem fl_X1_15 : FLk RX1 15 1 1 1 (.array .int) := ⟨RX1, TX1, 5, tyX1, clX1, by decide, mem_tg (List.mem_of_getElem? (i := 214) (by decide +kernel)) rfl, rfl, by decide +kernel, rfl, rfl⟩
theorem fl_X9_30 : FLk RX9 30 1 1 1 (.array .int) := ⟨RX1, TX1, 5, tyX1, clX1, by decide, mem_tg (List.mem_of_getElem? (i := 215) (by decide +kernel)) rfl, rfl, by decide +kernel, rfl, rfl⟩
theorem fl_X0_33 : FLk RX0 33 1 1 1 (.array .int) := ⟨RX1, TX1, 5, tyX1, clX1, by decide, mem_tg (List.mem_of_getElem? (i := 216) (by decide +kernel)) rfl, rfl, by decide +kernel, rfl, rfl⟩
theorem fl_X1_18 : FLk RX1 18 1 2 0 .int := ⟨RX1, TX1, 5, tyX1, clX1, by decide, mem_tg (List.mem_of_getElem? (i := 217) (by decide +kernel)) rfl, rfl, by decide +kernel, rfl, rfl⟩
theorem fl_X9_21 : FLk RX9 21 1 2 0 .int := ⟨RX1, TX1, 5, tyX1, clX1, by decide, mem_tg (List.mem_of_getElem? (i := 218) (by decide +kernel)) rfl, rfl, by decide +kernel, rfl, rfl⟩
theorem fl_X0_30 : FLk RX0 30 1 2 0 .int := ⟨RX1, TX1, 5, tyX1, clX1, by decide, mem_tg (List.mem_of_getElem? (i := 219) (by decide +kernel)) rfl, rfl, by decide +kernel, rfl, rfl⟩
theorem fl_X10_199 : FLk RX10 199 1 2 0 .int := ⟨RX1, TX1, 5, tyX1, clX1, by decide, mem_tg (List.mem_of_getElem? (i := 220) (by decide +kernel)) rfl, rfl, by decide +kernel, rfl, rfl⟩
theorem fl_X1_22 : FLk RX1 22 1 3 0 .int := ⟨RX1, TX1, 5, tyX1, clX1, by decide, mem_tg (List.mem_of_getElem? (i := 221) (by decide +kernel)) rfl, rfl, by decide +kernel, rfl, rfl⟩
theorem fl_X9_15 : FLk RX9 15 1 3 0 .int := ⟨RX1, TX1, 5, tyX1, clX1, by decide, mem_tg (List.mem_of_getElem? (i := 222) (by decide +kernel)) rfl, rfl, by decide +kernel, rfl, rfl⟩
theorem fl_X10_192 : FLk RX10 192 1 3 0 .int := ⟨RX1, TX1, 5, tyX1, clX1, by decide, mem_tg (List.mem_of_getElem? (i := 223) (by decide +kernel)) rfl, rfl, by decide +kernel, rfl, rfl⟩
theorem fl_X1_25 : FLk RX1 25 1 4 0 .int := ⟨RX1, TX1, 5, tyX1, clX1, by decide, mem_tg (List.mem_of_getElem? (i := 224) (by decide +kernel)) rfl, rfl, by decide +kernel, rfl, rfl⟩
theorem fl_X10_189 : FLk RX10 189 1 4 0 .int := ⟨RX1, TX1, 5, tyX1, clX1, by decide, mem_tg (List.mem_of_getElem? (i := 225) (by decide +kernel)) rfl, rfl, by decide +kernel, rfl, rfl⟩
theorem fl_X0_9 : FLk RX0 9 0 0 1 (.array .long) := ⟨RX0, TX0, 1, tyX0, clX0, by decide, mem_tg (List.mem_of_getElem? (i := 243) (by decide +kernel)) rfl, rfl, by decide +kernel, rfl, rfl⟩
theorem fl_X10_216 : FLk RX10 216 0 0 1 (.array .long) := ⟨RX0, TX0, 1, tyX0, clX0, by decide, mem_tg (List.mem_of_getElem? (i := 244) (by decide +kernel)) rfl, rfl, by decide +kernel, rfl, rfl⟩
theorem fl_X2_12 : FLk RX2 12 2 0 1 (.object "CarillonDesk$Score") := ⟨RX2, TX2, 8, tyX2, clX2, by decide, mem_tg (List.mem_of_getElem? (i := 249) (by decide +kernel)) rfl, rfl, by decide +kernel, rfl, rfl⟩
theorem fl_X10_38 : FLk RX10 38 2 0 1 (.object "CarillonDesk$Score") := ⟨RX2, TX2, 8, tyX2, clX2, by decide, mem_tg (List.mem_of_getElem? (i := 250) (by decide +kernel)) rfl, rfl, by decide +kernel, rfl, rfl⟩
theorem fl_X2_21 : FLk RX2 21 2 1 1 (.object "CarillonDesk$Tones") := ⟨RX2, TX2, 8, tyX2, clX2, by decide, mem_tg (List.mem_of_getElem? (i := 251) (by decide +kernel)) rfl, rfl, by decide +kernel, rfl, rfl⟩
theorem fl_X10_142 : FLk RX10 142 2 1 1 (.object "CarillonDesk$Tones") := ⟨RX2, TX2, 8, tyX2, clX2, by decide, mem_tg (List.mem_of_getElem? (i := 252) (by decide +kernel)) rfl, rfl, by decide +kernel, rfl, rfl⟩
theorem fl_X2_28 : FLk RX2 28 2 2 1 (.object "CarillonDesk$Drum") := ⟨RX2, TX2, 8, tyX2, clX2, by decide, mem_tg (List.mem_of_getElem? (i := 253) (by decide +kernel)) rfl, rfl, by decide +kernel, rfl, rfl⟩
theorem fl_X10_162 : FLk RX10 162 2 2 1 (.object "CarillonDesk$Drum") := ⟨RX2, TX2, 8, tyX2, clX2, by decide, mem_tg (List.mem_of_getElem? (i := 254) (by decide +kernel)) rfl, rfl, by decide +kernel, rfl, rfl⟩
theorem fl_X2_35 : FLk RX2 35 2 3 1 (.object "CarillonDesk$Clappers") := ⟨RX2, TX2, 8, tyX2, clX2, by decide, mem_tg (List.mem_of_getElem? (i := 255) (by decide +kernel)) rfl, rfl, by decide +kernel, rfl, rfl⟩
theorem fl_X10_200 : FLk RX10 200 2 3 1 (.object "CarillonDesk$Clappers") := ⟨RX2, TX2, 8, tyX2, clX2, by decide, mem_tg (List.mem_of_getElem? (i := 256) (by decide +kernel)) rfl, rfl, by decide +kernel, rfl, rfl⟩
theorem fl_X2_39 : FLk RX2 39 2 4 0 .int := ⟨RX2, TX2, 8, tyX2, clX2, by decide, mem_tg (List.mem_of_getElem? (i := 257) (by decide +kernel)) rfl, rfl, by decide +kernel, rfl, rfl⟩
theorem fl_X10_85 : FLk RX10 85 2 4 0 .int := ⟨RX2, TX2, 8, tyX2, clX2, by decide, mem_tg (List.mem_of_getElem? (i := 258) (by decide +kernel)) rfl, rfl, by decide +kernel, rfl, rfl⟩
theorem fl_X2_43 : FLk RX2 43 2 5 0 .int := ⟨RX2, TX2, 8, tyX2, clX2, by decide, mem_tg (List.mem_of_getElem? (i := 259) (by decide +kernel)) rfl, rfl, by decide +kernel, rfl, rfl⟩
theorem fl_X10_89 : FLk RX10 89 2 5 0 .int := ⟨RX2, TX2, 8, tyX2, clX2, by decide, mem_tg (List.mem_of_getElem? (i := 260) (by decide +kernel)) rfl, rfl, by decide +kernel, rfl, rfl⟩
theorem fl_X2_46 : FLk RX2 46 2 6 0 .int := ⟨RX2, TX2, 8, tyX2, clX2, by decide, mem_tg (List.mem_of_getElem? (i := 261) (by decide +kernel)) rfl, rfl, by decide +kernel, rfl, rfl⟩
theorem fl_X10_120 : FLk RX10 120 2 6 0 .int := ⟨RX2, TX2, 8, tyX2, clX2, by decide, mem_tg (List.mem_of_getElem? (i := 262) (by decide +kernel)) rfl, rfl, by decide +kernel, rfl, rfl⟩
theorem fl_X2_49 : FLk RX2 49 2 7 0 .int := ⟨RX2, TX2, 8, tyX2, clX2, by decide, mem_tg (List.mem_of_getElem? (i := 263) (by decide +kernel)) rfl, rfl, by decide +kernel, rfl, rfl⟩
theorem fl_X10_123 : FLk RX10 123 2 7 0 .int := ⟨RX2, TX2, 8, tyX2, clX2, by decide, mem_tg (List.mem_of_getElem? (i := 264) (by decide +kernel)) rfl, rfl, by decide +kernel, rfl, rfl⟩
theorem fl_X6_9 : FLk RX6 9 6 0 1 (.array .int) := ⟨RX6, TX6, 8, tyX6, clX6, by decide, mem_tg (List.mem_of_getElem? (i := 289) (by decide +kernel)) rfl, rfl, by decide +kernel, rfl, rfl⟩
theorem fl_X0_21 : FLk RX0 21 6 0 1 (.array .int) := ⟨RX6, TX6, 8, tyX6, clX6, by decide, mem_tg (List.mem_of_getElem? (i := 290) (by decide +kernel)) rfl, rfl, by decide +kernel, rfl, rfl⟩
theorem fl_X10_133 : FLk RX10 133 6 0 1 (.array .int) := ⟨RX6, TX6, 8, tyX6, clX6, by decide, mem_tg (List.mem_of_getElem? (i := 291) (by decide +kernel)) rfl, rfl, by decide +kernel, rfl, rfl⟩
theorem fl_X6_15 : FLk RX6 15 6 1 1 (.array .int) := ⟨RX6, TX6, 8, tyX6, clX6, by decide, mem_tg (List.mem_of_getElem? (i := 292) (by decide +kernel)) rfl, rfl, by decide +kernel, rfl, rfl⟩
theorem fl_X10_136 : FLk RX10 136 6 1 1 (.array .int) := ⟨RX6, TX6, 8, tyX6, clX6, by decide, mem_tg (List.mem_of_getElem? (i := 293) (by decide +kernel)) rfl, rfl, by decide +kernel, rfl, rfl⟩
theorem fl_X6_44 : FLk RX6 44 6 2 0 .int := ⟨RX6, TX6, 8, tyX6, clX6, by decide, mem_tg (List.mem_of_getElem? (i := 294) (by decide +kernel)) rfl, rfl, by decide +kernel, rfl, rfl⟩
theorem fl_X10_126 : FLk RX10 126 6 2 0 .int := ⟨RX6, TX6, 8, tyX6, clX6, by decide, mem_tg (List.mem_of_getElem? (i := 295) (by decide +kernel)) rfl, rfl, by decide +kernel, rfl, rfl⟩
theorem fl_X6_71 : FLk RX6 71 6 3 0 .int := ⟨RX6, TX6, 8, tyX6, clX6, by decide, mem_tg (List.mem_of_getElem? (i := 296) (by decide +kernel)) rfl, rfl, by decide +kernel, rfl, rfl⟩
theorem fl_X10_117 : FLk RX10 117 6 3 0 .int := ⟨RX6, TX6, 8, tyX6, clX6, by decide, mem_tg (List.mem_of_getElem? (i := 297) (by decide +kernel)) rfl, rfl, by decide +kernel, rfl, rfl⟩
theorem fl_X6_21 : FLk RX6 21 6 4 1 (.object "CarillonDesk$Score") := ⟨RX6, TX6, 8, tyX6, clX6, by decide, mem_tg (List.mem_of_getElem? (i := 298) (by decide +kernel)) rfl, rfl, by decide +kernel, rfl, rfl⟩
theorem fl_X6_18 : FLk RX6 18 6 5 1 (.array .int) := ⟨RX6, TX6, 8, tyX6, clX6, by decide, mem_tg (List.mem_of_getElem? (i := 299) (by decide +kernel)) rfl, rfl, by decide +kernel, rfl, rfl⟩
theorem fl_X6_25 : FLk RX6 25 6 6 0 .int := ⟨RX6, TX6, 8, tyX6, clX6, by decide, mem_tg (List.mem_of_getElem? (i := 300) (by decide +kernel)) rfl, rfl, by decide +kernel, rfl, rfl⟩
theorem fl_X6_29 : FLk RX6 29 6 7 0 .int := ⟨RX6, TX6, 8, tyX6, clX6, by decide, mem_tg (List.mem_of_getElem? (i := 301) (by decide +kernel)) rfl, rfl, by decide +kernel, rfl, rfl⟩
theorem fl_X3_16 : FLk RX3 16 3 0 1 (.object "CarillonDesk$Score") := ⟨RX3, TX3, 2, tyX3, clX3, by decide, mem_tg (List.mem_of_getElem? (i := 327) (by decide +kernel)) rfl, rfl, by decide +kernel, rfl, rfl⟩
theorem fl_X3_11 : FLk RX3 11 3 1 1 (.array (.array .int)) := ⟨RX3, TX3, 2, tyX3, clX3, by decide, mem_tg (List.mem_of_getElem? (i := 328) (by decide +kernel)) rfl, rfl, by decide +kernel, rfl, rfl⟩
theorem fl_X9_39 : FLk RX9 39 9 0 0 .int := ⟨RX9, TX9, 3, tyX9, clX9, by decide, mem_tg (List.mem_of_getElem? (i := 340) (by decide +kernel)) rfl, rfl, by decide +kernel, rfl, rfl⟩
theorem fl_X10_179 : FLk RX10 179 9 0 0 .int := ⟨RX9, TX9, 3, tyX9, clX9, by decide, mem_tg (List.mem_of_getElem? (i := 341) (by decide +kernel)) rfl, rfl, by decide +kernel, rfl, rfl⟩
theorem fl_X9_42 : FLk RX9 42 9 1 0 .int := ⟨RX9, TX9, 3, tyX9, clX9, by decide, mem_tg (List.mem_of_getElem? (i := 342) (by decide +kernel)) rfl, rfl, by decide +kernel, rfl, rfl⟩
theorem fl_X10_186 : FLk RX10 186 9 1 0 .int := ⟨RX9, TX9, 3, tyX9, clX9, by decide, mem_tg (List.mem_of_getElem? (i := 343) (by decide +kernel)) rfl, rfl, by decide +kernel, rfl, rfl⟩
theorem fl_X9_9 : FLk RX9 9 9 2 1 (.array .int) := ⟨RX9, TX9, 3, tyX9, clX9, by decide, mem_tg (List.mem_of_getElem? (i := 344) (by decide +kernel)) rfl, rfl, by decide +kernel, rfl, rfl⟩
theorem fl_X10_10 : FLk RX10 10 10 0 1 (.object "CarillonDesk$Tape") := ⟨RX10, TX10, 8, tyX10, clX10, by decide, mem_tg (List.mem_of_getElem? (i := 352) (by decide +kernel)) rfl, rfl, by decide +kernel, rfl, rfl⟩
theorem fl_X10_21 : FLk RX10 21 10 1 1 (.object "CarillonDesk$Reader") := ⟨RX10, TX10, 8, tyX10, clX10, by decide, mem_tg (List.mem_of_getElem? (i := 353) (by decide +kernel)) rfl, rfl, by decide +kernel, rfl, rfl⟩
theorem fl_X10_28 : FLk RX10 28 10 2 1 (.object "CarillonDesk$Matter") := ⟨RX10, TX10, 8, tyX10, clX10, by decide, mem_tg (List.mem_of_getElem? (i := 354) (by decide +kernel)) rfl, rfl, by decide +kernel, rfl, rfl⟩
theorem fl_X10_32 : FLk RX10 32 10 3 1 (.array (.object "CarillonDesk$Matter")) := ⟨RX10, TX10, 8, tyX10, clX10, by decide, mem_tg (List.mem_of_getElem? (i := 355) (by decide +kernel)) rfl, rfl, by decide +kernel, rfl, rfl⟩
theorem fl_X10_45 : FLk RX10 45 10 4 1 (.object "CarillonDesk$Setting") := ⟨RX10, TX10, 8, tyX10, clX10, by decide, mem_tg (List.mem_of_getElem? (i := 356) (by decide +kernel)) rfl, rfl, by decide +kernel, rfl, rfl⟩
theorem fl_X10_52 : FLk RX10 52 10 5 1 (.object "CarillonDesk$Need") := ⟨RX10, TX10, 8, tyX10, clX10, by decide, mem_tg (List.mem_of_getElem? (i := 357) (by decide +kernel)) rfl, rfl, by decide +kernel, rfl, rfl⟩
theorem fl_X10_59 : FLk RX10 59 10 6 1 (.object "CarillonDesk$Turns") := ⟨RX10, TX10, 8, tyX10, clX10, by decide, mem_tg (List.mem_of_getElem? (i := 358) (by decide +kernel)) rfl, rfl, by decide +kernel, rfl, rfl⟩
theorem fl_X10_63 : FLk RX10 63 10 7 0 .boolean := ⟨RX10, TX10, 8, tyX10, clX10, by decide, mem_tg (List.mem_of_getElem? (i := 359) (by decide +kernel)) rfl, rfl, by decide +kernel, rfl, rfl⟩
theorem fl_X11_7 : FLk RX11 7 11 0 1 (.array .int) := ⟨RX11, TX11, 23, tyX11, clX11, by decide, mem_tg (List.mem_of_getElem? (i := 716) (by decide +kernel)) rfl, rfl, by decide +kernel, rfl, rfl⟩
theorem fl_X11_13 : FLk RX11 13 11 1 1 (.array .long) := ⟨RX11, TX11, 23, tyX11, clX11, by decide, mem_tg (List.mem_of_getElem? (i := 717) (by decide +kernel)) rfl, rfl, by decide +kernel, rfl, rfl⟩
theorem fl_X11_17 : FLk RX11 17 11 2 1 (.array .boolean) := ⟨RX11, TX11, 23, tyX11, clX11, by decide, mem_tg (List.mem_of_getElem? (i := 718) (by decide +kernel)) rfl, rfl, by decide +kernel, rfl, rfl⟩
theorem fl_X11_21 : FLk RX11 21 11 3 1 (.array .int) := ⟨RX11, TX11, 23, tyX11, clX11, by decide, mem_tg (List.mem_of_getElem? (i := 719) (by decide +kernel)) rfl, rfl, by decide +kernel, rfl, rfl⟩
theorem fl_X11_52 : FLk RX11 52 11 4 0 .int := ⟨RX11, TX11, 23, tyX11, clX11, by decide, mem_tg (List.mem_of_getElem? (i := 720) (by decide +kernel)) rfl, rfl, by decide +kernel, rfl, rfl⟩
theorem fl_X11_62 : FLk RX11 62 11 5 0 .int := ⟨RX11, TX11, 23, tyX11, clX11, by decide, mem_tg (List.mem_of_getElem? (i := 721) (by decide +kernel)) rfl, rfl, by decide +kernel, rfl, rfl⟩
theorem fl_X11_65 : FLk RX11 65 11 6 0 .int := ⟨RX11, TX11, 23, tyX11, clX11, by decide, mem_tg (List.mem_of_getElem? (i := 722) (by decide +kernel)) rfl, rfl, by decide +kernel, rfl, rfl⟩
theorem fl_X11_56 : FLk RX11 56 11 7 0 .int := ⟨RX11, TX11, 23, tyX11, clX11, by decide, mem_tg (List.mem_of_getElem? (i := 723) (by decide +kernel)) rfl, rfl, by decide +kernel, rfl, rfl⟩
theorem fl_X11_59 : FLk RX11 59 11 8 0 .int := ⟨RX11, TX11, 23, tyX11, clX11, by decide, mem_tg (List.mem_of_getElem? (i := 724) (by decide +kernel)) rfl, rfl, by decide +kernel, rfl, rfl⟩
theorem fl_X11_76 : FLk RX11 76 11 9 0 .int := ⟨RX11, TX11, 23, tyX11, clX11, by decide, mem_tg (List.mem_of_getElem? (i := 725) (by decide +kernel)) rfl, rfl, by decide +kernel, rfl, rfl⟩
theorem fl_X11_90 : FLk RX11 90 11 10 0 .int := ⟨RX11, TX11, 23, tyX11, clX11, by decide, mem_tg (List.mem_of_getElem? (i := 726) (by decide +kernel)) rfl, rfl, by decide +kernel, rfl, rfl⟩
theorem fl_X11_93 : FLk RX11 93 11 11 0 .int := ⟨RX11, TX11, 23, tyX11, clX11, by decide, mem_tg (List.mem_of_getElem? (i := 727) (by decide +kernel)) rfl, rfl, by decide +kernel, rfl, rfl⟩
theorem fl_X11_24 : FLk RX11 24 11 12 1 (.array .int) := ⟨RX11, TX11, 23, tyX11, clX11, by decide, mem_tg (List.mem_of_getElem? (i := 728) (by decide +kernel)) rfl, rfl, by decide +kernel, rfl, rfl⟩
theorem fl_X11_27 : FLk RX11 27 11 13 1 (.array .int) := ⟨RX11, TX11, 23, tyX11, clX11, by decide, mem_tg (List.mem_of_getElem? (i := 729) (by decide +kernel)) rfl, rfl, by decide +kernel, rfl, rfl⟩
theorem fl_X11_30 : FLk RX11 30 11 14 1 (.array .int) := ⟨RX11, TX11, 23, tyX11, clX11, by decide, mem_tg (List.mem_of_getElem? (i := 730) (by decide +kernel)) rfl, rfl, by decide +kernel, rfl, rfl⟩
theorem fl_X11_87 : FLk RX11 87 11 15 0 .int := ⟨RX11, TX11, 23, tyX11, clX11, by decide, mem_tg (List.mem_of_getElem? (i := 731) (by decide +kernel)) rfl, rfl, by decide +kernel, rfl, rfl⟩
theorem fl_X11_108 : FLk RX11 108 11 16 0 .int := ⟨RX11, TX11, 23, tyX11, clX11, by decide, mem_tg (List.mem_of_getElem? (i := 732) (by decide +kernel)) rfl, rfl, by decide +kernel, rfl, rfl⟩
theorem fl_X11_33 : FLk RX11 33 11 17 1 (.array .int) := ⟨RX11, TX11, 23, tyX11, clX11, by decide, mem_tg (List.mem_of_getElem? (i := 733) (by decide +kernel)) rfl, rfl, by decide +kernel, rfl, rfl⟩
theorem fl_X11_36 : FLk RX11 36 11 18 1 (.array .int) := ⟨RX11, TX11, 23, tyX11, clX11, by decide, mem_tg (List.mem_of_getElem? (i := 734) (by decide +kernel)) rfl, rfl, by decide +kernel, rfl, rfl⟩
theorem fl_X11_39 : FLk RX11 39 11 19 1 (.array .int) := ⟨RX11, TX11, 23, tyX11, clX11, by decide, mem_tg (List.mem_of_getElem? (i := 735) (by decide +kernel)) rfl, rfl, by decide +kernel, rfl, rfl⟩
theorem fl_X11_43 : FLk RX11 43 11 20 1 (.array .int) := ⟨RX11, TX11, 23, tyX11, clX11, by decide, mem_tg (List.mem_of_getElem? (i := 736) (by decide +kernel)) rfl, rfl, by decide +kernel, rfl, rfl⟩
theorem fl_X11_46 : FLk RX11 46 11 21 1 (.array .int) := ⟨RX11, TX11, 23, tyX11, clX11, by decide, mem_tg (List.mem_of_getElem? (i := 737) (by decide +kernel)) rfl, rfl, by decide +kernel, rfl, rfl⟩
theorem fl_X11_49 : FLk RX11 49 11 22 1 (.array .int) := ⟨RX11, TX11, 23, tyX11, clX11, by decide, mem_tg (List.mem_of_getElem? (i := 738) (by decide +kernel)) rfl, rfl, by decide +kernel, rfl, rfl⟩
abbrev rmX0_init : Room := { frames := 1, cells := 1, slots := 24, locals := 20 }
abbrev S_X0_init (av : List Value) (n : Nat) (K : wKd) (I : wIn) (L : wLn) (R : wRf) (post : Post) : Prop := Sp yX0_init cX0_init 1 none rmX0_init av n K I L R post
abbrev C_X0_init (Γ : Gm) : Prop := Cx Γ RX0 cX0_init 1 none rmX0_init "<init>"
abbrev rmX0_playByFists : Room := { frames := 0, cells := 0, slots := 0, locals := 0 }
abbrev S_X0_playByFists (av : List Value) (n : Nat) (K : wKd) (I : wIn) (L : wLn) (R : wRf) (post : Post) : Prop := Sp yX0_playByFists cX0_playByFists 5 (some .int) rmX0_playByFists av n K I L R post
abbrev C_X0_playByFists (Γ : Gm) : Prop := Cx Γ RX0 cX0_playByFists 5 (some .int) rmX0_playByFists "playByFists"
abbrev rmX0_playByDrum : Room := { frames := 0, cells := 0, slots := 0, locals := 0 }
abbrev S_X0_playByDrum (av : List Value) (n : Nat) (K : wKd) (I : wIn) (L : wLn) (R : wRf) (post : Post) : Prop := Sp yX0_playByDrum cX0_playByDrum 3 (some .int) rmX0_playByDrum av n K I L R post
abbrev C_X0_playByDrum (Γ : Gm) : Prop := Cx Γ RX0 cX0_playByDrum 3 (some .int) rmX0_playByDrum "playByDrum"
abbrev rmX0_wornAt : Room := { frames := 0, cells := 0, slots := 0, locals := 0 }
abbrev S_X0_wornAt (av : List Value) (n : Nat) (K : wKd) (I : wIn) (L : wLn) (R : wRf) (post : Post) : Prop := Sp yX0_wornAt cX0_wornAt 4 (some .int) rmX0_wornAt av n K I L R post
abbrev C_X0_wornAt (Γ : Gm) : Prop := Cx Γ RX0 cX0_wornAt 4 (some .int) rmX0_wornAt "wornAt"
abbrev rmX0_copyFrom : Room := { frames := 1, cells := 0, slots := 0, locals := 26 }
abbrev S_X0_copyFrom (av : List Value) (n : Nat) (K : wKd) (I : wIn) (L : wLn) (R : wRf) (post : Post) : Prop := Sp yX0_copyFrom cX0_copyFrom 2 none rmX0_copyFrom av n K I L R post
abbrev C_X0_copyFrom (Γ : Gm) : Prop := Cx Γ RX0 cX0_copyFrom 2 none rmX0_copyFrom "copyFrom"
abbrev rmX1_init : Room := { frames := 1, cells := 2, slots := 200, locals := 20 }
abbrev S_X1_init (av : List Value) (n : Nat) (K : wKd) (I : wIn) (L : wLn) (R : wRf) (post : Post) : Prop := Sp yX1_init cX1_init 1 none rmX1_init av n K I L R post
abbrev C_X1_init (Γ : Gm) : Prop := Cx Γ RX1 cX1_init 1 none rmX1_init "<init>"
abbrev rmX1_renew : Room := { frames := 0, cells := 0, slots := 0, locals := 0 }
abbrev S_X1_renew (av : List Value) (n : Nat) (K : wKd) (I : wIn) (L : wLn) (R : wRf) (post : Post) : Prop := Sp yX1_renew cX1_renew 2 none rmX1_renew av n K I L R post
abbrev C_X1_renew (Γ : Gm) : Prop := Cx Γ RX1 cX1_renew 2 none rmX1_renew "renew"
abbrev rmX1_hasPin : Room := { frames := 0, cells := 0, slots := 0, locals := 0 }
abbrev S_X1_hasPin (av : List Value) (n : Nat) (K : wKd) (I : wIn) (L : wLn) (R : wRf) (post : Post) : Prop := Sp yX1_hasPin cX1_hasPin 4 (some .boolean) rmX1_hasPin av n K I L R post
abbrev C_X1_hasPin (Γ : Gm) : Prop := Cx Γ RX1 cX1_hasPin 4 (some .boolean) rmX1_hasPin "hasPin"
abbrev rmX1_fits : Room := { frames := 0, cells := 0, slots := 0, locals := 0 }
abbrev S_X1_fits (av : List Value) (n : Nat) (K : wKd) (I : wIn) (L : wLn) (R : wRf) (post : Post) : Prop := Sp yX1_fits cX1_fits 2 (some .boolean) rmX1_fits av n K I L R post
abbrev C_X1_fits (Γ : Gm) : Prop := Cx Γ RX1 cX1_fits 2 (some .boolean) rmX1_fits "fits"
abbrev rmX1_pinDown : Room := { frames := 0, cells := 0, slots := 0, locals := 0 }
abbrev S_X1_pinDown (av : List Value) (n : Nat) (K : wKd) (I : wIn) (L : wLn) (R : wRf) (post : Post) : Prop := Sp yX1_pinDown cX1_pinDown 5 none rmX1_pinDown av n K I L R post
abbrev C_X1_pinDown (Γ : Gm) : Prop := Cx Γ RX1 cX1_pinDown 5 none rmX1_pinDown "pinDown"
abbrev rmX1_copyFrom : Room := { frames := 1, cells := 0, slots := 0, locals := 26 }
abbrev S_X1_copyFrom (av : List Value) (n : Nat) (K : wKd) (I : wIn) (L : wLn) (R : wRf) (post : Post) : Prop := Sp yX1_copyFrom cX1_copyFrom 2 none rmX1_copyFrom av n K I L R post
abbrev C_X1_copyFrom (Γ : Gm) : Prop := Cx Γ RX1 cX1_copyFrom 2 none rmX1_copyFrom "copyFrom"
abbrev rmX2_init : Room := { frames := 2, cells := 11, slots := 561, locals := 41 }
abbrev S_X2_init (av : List Value) (n : Nat) (K : wKd) (I : wIn) (L : wLn) (R : wRf) (post : Post) : Prop := Sp yX2_init cX2_init 1 none rmX2_init av n K I L R post
abbrev C_X2_init (Γ : Gm) : Prop := Cx Γ RX2 cX2_init 1 none rmX2_init "<init>"
abbrev rmX2_copyFrom : Room := { frames := 2, cells := 0, slots := 0, locals := 47 }
abbrev S_X2_copyFrom (av : List Value) (n : Nat) (K : wKd) (I : wIn) (L : wLn) (R : wRf) (post : Post) : Prop := Sp yX2_copyFrom cX2_copyFrom 2 none rmX2_copyFrom av n K I L R post
abbrev C_X2_copyFrom (Γ : Gm) : Prop := Cx Γ RX2 cX2_copyFrom 2 none rmX2_copyFrom "copyFrom"
abbrev rmX3_init : Room := { frames := 1, cells := 3, slots := 202, locals := 20 }
abbrev S_X3_init (av : List Value) (n : Nat) (K : wKd) (I : wIn) (L : wLn) (R : wRf) (post : Post) : Prop := Sp yX3_init cX3_init 2 none rmX3_init av n K I L R post
abbrev C_X3_init (Γ : Gm) : Prop := Cx Γ RX3 cX3_init 2 none rmX3_init "<init>"
abbrev rmX3_leastReach : Room := { frames := 4, cells := 0, slots := 0, locals := 90 }
abbrev S_X3_leastReach (av : List Value) (n : Nat) (K : wKd) (I : wIn) (L : wLn) (R : wRf) (post : Post) : Prop := Sp yX3_leastReach cX3_leastReach 4 (some .int) rmX3_leastReach av n K I L R post
abbrev C_X3_leastReach (Γ : Gm) : Prop := Cx Γ RX3 cX3_leastReach 4 (some .int) rmX3_leastReach "leastReach"
abbrev rmX3_handOver : Room := { frames := 3, cells := 0, slots := 0, locals := 66 }
abbrev S_X3_handOver (av : List Value) (n : Nat) (K : wKd) (I : wIn) (L : wLn) (R : wRf) (post : Post) : Prop := Sp yX3_handOver cX3_handOver 5 (some .int) rmX3_handOver av n K I L R post
abbrev C_X3_handOver (Γ : Gm) : Prop := Cx Γ RX3 cX3_handOver 5 (some .int) rmX3_handOver "handOver"
abbrev rmX3_stay : Room := { frames := 3, cells := 0, slots := 0, locals := 66 }
abbrev S_X3_stay (av : List Value) (n : Nat) (K : wKd) (I : wIn) (L : wLn) (R : wRf) (post : Post) : Prop := Sp yX3_stay cX3_stay 5 none rmX3_stay av n K I L R post
abbrev C_X3_stay (Γ : Gm) : Prop := Cx Γ RX3 cX3_stay 5 none rmX3_stay "stay"
abbrev rmX3_reachFor : Room := { frames := 2, cells := 0, slots := 0, locals := 43 }
abbrev S_X3_reachFor (av : List Value) (n : Nat) (K : wKd) (I : wIn) (L : wLn) (R : wRf) (post : Post) : Prop := Sp yX3_reachFor cX3_reachFor 4 (some .int) rmX3_reachFor av n K I L R post
abbrev C_X3_reachFor (Γ : Gm) : Prop := Cx Γ RX3 cX3_reachFor 4 (some .int) rmX3_reachFor "reachFor"
abbrev rmX4_init : Room := { frames := 2, cells := 7, slots := 220, locals := 40 }
abbrev S_X4_init (av : List Value) (n : Nat) (K : wKd) (I : wIn) (L : wLn) (R : wRf) (post : Post) : Prop := Sp yX4_init cX4_init 2 none rmX4_init av n K I L R post
abbrev C_X4_init (Γ : Gm) : Prop := Cx Γ RX4 cX4_init 2 none rmX4_init "<init>"
abbrev rmX4_readAll : Room := { frames := 6, cells := 0, slots := 0, locals := 131 }
abbrev S_X4_readAll (av : List Value) (n : Nat) (K : wKd) (I : wIn) (L : wLn) (R : wRf) (post : Post) : Prop := Sp yX4_readAll cX4_readAll 4 (some .boolean) rmX4_readAll av n K I L R post
abbrev C_X4_readAll (Γ : Gm) : Prop := Cx Γ RX4 cX4_readAll 4 (some .boolean) rmX4_readAll "readAll"
abbrev rmX4_start : Room := { frames := 1, cells := 0, slots := 0, locals := 20 }
abbrev S_X4_start (av : List Value) (n : Nat) (K : wKd) (I : wIn) (L : wLn) (R : wRf) (post : Post) : Prop := Sp yX4_start cX4_start 1 none rmX4_start av n K I L R post
abbrev C_X4_start (Γ : Gm) : Prop := Cx Γ RX4 cX4_start 1 none rmX4_start "start"
abbrev rmX4_openGroup : Room := { frames := 3, cells := 0, slots := 0, locals := 66 }
abbrev S_X4_openGroup (av : List Value) (n : Nat) (K : wKd) (I : wIn) (L : wLn) (R : wRf) (post : Post) : Prop := Sp yX4_openGroup cX4_openGroup 2 none rmX4_openGroup av n K I L R post
abbrev C_X4_openGroup (Γ : Gm) : Prop := Cx Γ RX4 cX4_openGroup 2 none rmX4_openGroup "openGroup"
abbrev rmX4_closeGroup : Room := { frames := 1, cells := 0, slots := 0, locals := 22 }
abbrev S_X4_closeGroup (av : List Value) (n : Nat) (K : wKd) (I : wIn) (L : wLn) (R : wRf) (post : Post) : Prop := Sp yX4_closeGroup cX4_closeGroup 3 none rmX4_closeGroup av n K I L R post
abbrev C_X4_closeGroup (Γ : Gm) : Prop := Cx Γ RX4 cX4_closeGroup 3 none rmX4_closeGroup "closeGroup"
abbrev rmX4_readItem : Room := { frames := 5, cells := 0, slots := 0, locals := 109 }
abbrev S_X4_readItem (av : List Value) (n : Nat) (K : wKd) (I : wIn) (L : wLn) (R : wRf) (post : Post) : Prop := Sp yX4_readItem cX4_readItem 3 none rmX4_readItem av n K I L R post
abbrev C_X4_readItem (Γ : Gm) : Prop := Cx Γ RX4 cX4_readItem 3 none rmX4_readItem "readItem"
abbrev rmX4_readChord : Room := { frames := 4, cells := 0, slots := 0, locals := 88 }
abbrev S_X4_readChord (av : List Value) (n : Nat) (K : wKd) (I : wIn) (L : wLn) (R : wRf) (post : Post) : Prop := Sp yX4_readChord cX4_readChord 2 none rmX4_readChord av n K I L R post
abbrev C_X4_readChord (Γ : Gm) : Prop := Cx Γ RX4 cX4_readChord 2 none rmX4_readChord "readChord"
abbrev rmX4_readBell : Room := { frames := 3, cells := 0, slots := 0, locals := 66 }
abbrev S_X4_readBell (av : List Value) (n : Nat) (K : wKd) (I : wIn) (L : wLn) (R : wRf) (post : Post) : Prop := Sp yX4_readBell cX4_readBell 3 (some .int) rmX4_readBell av n K I L R post
abbrev C_X4_readBell (Γ : Gm) : Prop := Cx Γ RX4 cX4_readBell 3 (some .int) rmX4_readBell "readBell"
abbrev rmX4_readLength : Room := { frames := 3, cells := 0, slots := 0, locals := 66 }
abbrev S_X4_readLength (av : List Value) (n : Nat) (K : wKd) (I : wIn) (L : wLn) (R : wRf) (post : Post) : Prop := Sp yX4_readLength cX4_readLength 2 none rmX4_readLength av n K I L R post
abbrev C_X4_readLength (Γ : Gm) : Prop := Cx Γ RX4 cX4_readLength 2 none rmX4_readLength "readLength"
abbrev rmX4_writeItem : Room := { frames := 1, cells := 0, slots := 0, locals := 22 }
abbrev S_X4_writeItem (av : List Value) (n : Nat) (K : wKd) (I : wIn) (L : wLn) (R : wRf) (post : Post) : Prop := Sp yX4_writeItem cX4_writeItem 5 none rmX4_writeItem av n K I L R post
abbrev C_X4_writeItem (Γ : Gm) : Prop := Cx Γ RX4 cX4_writeItem 5 none rmX4_writeItem "writeItem"
abbrev rmX4_readNumber : Room := { frames := 2, cells := 0, slots := 0, locals := 41 }
abbrev S_X4_readNumber (av : List Value) (n : Nat) (K : wKd) (I : wIn) (L : wLn) (R : wRf) (post : Post) : Prop := Sp yX4_readNumber cX4_readNumber 6 (some .int) rmX4_readNumber av n K I L R post
abbrev C_X4_readNumber (Γ : Gm) : Prop := Cx Γ RX4 cX4_readNumber 6 (some .int) rmX4_readNumber "readNumber"
abbrev rmX4_expect : Room := { frames := 2, cells := 0, slots := 0, locals := 41 }
abbrev S_X4_expect (av : List Value) (n : Nat) (K : wKd) (I : wIn) (L : wLn) (R : wRf) (post : Post) : Prop := Sp yX4_expect cX4_expect 2 none rmX4_expect av n K I L R post
abbrev C_X4_expect (Γ : Gm) : Prop := Cx Γ RX4 cX4_expect 2 none rmX4_expect "expect"
abbrev rmX4_fail : Room := { frames := 0, cells := 0, slots := 0, locals := 0 }
abbrev S_X4_fail (av : List Value) (n : Nat) (K : wKd) (I : wIn) (L : wLn) (R : wRf) (post : Post) : Prop := Sp yX4_fail cX4_fail 3 none rmX4_fail av n K I L R post
abbrev C_X4_fail (Γ : Gm) : Prop := Cx Γ RX4 cX4_fail 3 none rmX4_fail "fail"
abbrev rmX4_nextSign : Room := { frames := 1, cells := 0, slots := 0, locals := 20 }
abbrev S_X4_nextSign (av : List Value) (n : Nat) (K : wKd) (I : wIn) (L : wLn) (R : wRf) (post : Post) : Prop := Sp yX4_nextSign cX4_nextSign 2 (some .int) rmX4_nextSign av n K I L R post
abbrev C_X4_nextSign (Γ : Gm) : Prop := Cx Γ RX4 cX4_nextSign 2 (some .int) rmX4_nextSign "nextSign"
abbrev rmX4_signHere : Room := { frames := 0, cells := 0, slots := 0, locals := 0 }
abbrev S_X4_signHere (av : List Value) (n : Nat) (K : wKd) (I : wIn) (L : wLn) (R : wRf) (post : Post) : Prop := Sp yX4_signHere cX4_signHere 1 (some .int) rmX4_signHere av n K I L R post
abbrev C_X4_signHere (Γ : Gm) : Prop := Cx Γ RX4 cX4_signHere 1 (some .int) rmX4_signHere "signHere"
abbrev rmX4_isDigit : Room := { frames := 0, cells := 0, slots := 0, locals := 0 }
abbrev S_X4_isDigit (av : List Value) (n : Nat) (K : wKd) (I : wIn) (L : wLn) (R : wRf) (post : Post) : Prop := Sp yX4_isDigit cX4_isDigit 1 (some .boolean) rmX4_isDigit av n K I L R post
abbrev C_X4_isDigit (Γ : Gm) : Prop := Cx Γ RX4 cX4_isDigit 1 (some .boolean) rmX4_isDigit "isDigit"
abbrev rmX5_init : Room := { frames := 1, cells := 2, slots := 200, locals := 20 }
abbrev S_X5_init (av : List Value) (n : Nat) (K : wKd) (I : wIn) (L : wLn) (R : wRf) (post : Post) : Prop := Sp yX5_init cX5_init 1 none rmX5_init av n K I L R post
abbrev C_X5_init (Γ : Gm) : Prop := Cx Γ RX5 cX5_init 1 none rmX5_init "<init>"
abbrev rmX5_has : Room := { frames := 0, cells := 0, slots := 0, locals := 0 }
abbrev S_X5_has (av : List Value) (n : Nat) (K : wKd) (I : wIn) (L : wLn) (R : wRf) (post : Post) : Prop := Sp yX5_has cX5_has 2 (some .boolean) rmX5_has av n K I L R post
abbrev C_X5_has (Γ : Gm) : Prop := Cx Γ RX5 cX5_has 2 (some .boolean) rmX5_has "has"
abbrev rmX5_clear : Room := { frames := 0, cells := 0, slots := 0, locals := 0 }
abbrev S_X5_clear (av : List Value) (n : Nat) (K : wKd) (I : wIn) (L : wLn) (R : wRf) (post : Post) : Prop := Sp yX5_clear cX5_clear 1 none rmX5_clear av n K I L R post
abbrev C_X5_clear (Γ : Gm) : Prop := Cx Γ RX5 cX5_clear 1 none rmX5_clear "clear"
abbrev rmX5_addStrike : Room := { frames := 0, cells := 0, slots := 0, locals := 0 }
abbrev S_X5_addStrike (av : List Value) (n : Nat) (K : wKd) (I : wIn) (L : wLn) (R : wRf) (post : Post) : Prop := Sp yX5_addStrike cX5_addStrike 3 none rmX5_addStrike av n K I L R post
abbrev C_X5_addStrike (Γ : Gm) : Prop := Cx Γ RX5 cX5_addStrike 3 none rmX5_addStrike "addStrike"
abbrev rmX5_bellsBetween : Room := { frames := 1, cells := 0, slots := 0, locals := 21 }
abbrev S_X5_bellsBetween (av : List Value) (n : Nat) (K : wKd) (I : wIn) (L : wLn) (R : wRf) (post : Post) : Prop := Sp yX5_bellsBetween cX5_bellsBetween 3 (some .int) rmX5_bellsBetween av n K I L R post
abbrev C_X5_bellsBetween (Γ : Gm) : Prop := Cx Γ RX5 cX5_bellsBetween 3 (some .int) rmX5_bellsBetween "bellsBetween"
abbrev rmX5_copyFrom : Room := { frames := 1, cells := 0, slots := 0, locals := 26 }
abbrev S_X5_copyFrom (av : List Value) (n : Nat) (K : wKd) (I : wIn) (L : wLn) (R : wRf) (post : Post) : Prop := Sp yX5_copyFrom cX5_copyFrom 2 none rmX5_copyFrom av n K I L R post
abbrev C_X5_copyFrom (Γ : Gm) : Prop := Cx Γ RX5 cX5_copyFrom 2 none rmX5_copyFrom "copyFrom"
abbrev rmX6_init : Room := { frames := 1, cells := 3, slots := 10303, locals := 20 }
abbrev S_X6_init (av : List Value) (n : Nat) (K : wKd) (I : wIn) (L : wLn) (R : wRf) (post : Post) : Prop := Sp yX6_init cX6_init 2 none rmX6_init av n K I L R post
abbrev C_X6_init (Γ : Gm) : Prop := Cx Γ RX6 cX6_init 2 none rmX6_init "<init>"
abbrev rmX6_settle : Room := { frames := 5, cells := 0, slots := 0, locals := 121 }
abbrev S_X6_settle (av : List Value) (n : Nat) (K : wKd) (I : wIn) (L : wLn) (R : wRf) (post : Post) : Prop := Sp yX6_settle cX6_settle 5 none rmX6_settle av n K I L R post
abbrev C_X6_settle (Γ : Gm) : Prop := Cx Γ RX6 cX6_settle 5 none rmX6_settle "settle"
abbrev rmX6_spot : Room := { frames := 0, cells := 0, slots := 0, locals := 0 }
abbrev S_X6_spot (av : List Value) (n : Nat) (K : wKd) (I : wIn) (L : wLn) (R : wRf) (post : Post) : Prop := Sp yX6_spot cX6_spot 2 (some .int) rmX6_spot av n K I L R post
abbrev C_X6_spot (Γ : Gm) : Prop := Cx Γ RX6 cX6_spot 2 (some .int) rmX6_spot "spot"
abbrev rmX6_leastRest : Room := { frames := 4, cells := 0, slots := 0, locals := 93 }
abbrev S_X6_leastRest (av : List Value) (n : Nat) (K : wKd) (I : wIn) (L : wLn) (R : wRf) (post : Post) : Prop := Sp yX6_leastRest cX6_leastRest 9 (some .int) rmX6_leastRest av n K I L R post
abbrev C_X6_leastRest (Γ : Gm) : Prop := Cx Γ RX6 cX6_leastRest 9 (some .int) rmX6_leastRest "leastRest"
abbrev rmX6_costBy : Room := { frames := 3, cells := 0, slots := 0, locals := 67 }
abbrev S_X6_costBy (av : List Value) (n : Nat) (K : wKd) (I : wIn) (L : wLn) (R : wRf) (post : Post) : Prop := Sp yX6_costBy cX6_costBy 7 (some .int) rmX6_costBy av n K I L R post
abbrev C_X6_costBy (Γ : Gm) : Prop := Cx Γ RX6 cX6_costBy 7 (some .int) rmX6_costBy "costBy"
abbrev rmX6_moveTo : Room := { frames := 2, cells := 0, slots := 0, locals := 43 }
abbrev S_X6_moveTo (av : List Value) (n : Nat) (K : wKd) (I : wIn) (L : wLn) (R : wRf) (post : Post) : Prop := Sp yX6_moveTo cX6_moveTo 5 (some .int) rmX6_moveTo av n K I L R post
abbrev C_X6_moveTo (Γ : Gm) : Prop := Cx Γ RX6 cX6_moveTo 5 (some .int) rmX6_moveTo "moveTo"
abbrev rmX6_walk : Room := { frames := 4, cells := 0, slots := 0, locals := 93 }
abbrev S_X6_walk (av : List Value) (n : Nat) (K : wKd) (I : wIn) (L : wLn) (R : wRf) (post : Post) : Prop := Sp yX6_walk cX6_walk 5 none rmX6_walk av n K I L R post
abbrev C_X6_walk (Γ : Gm) : Prop := Cx Γ RX6 cX6_walk 5 none rmX6_walk "walk"
abbrev rmX7_init : Room := { frames := 1, cells := 1, slots := 1000, locals := 20 }
abbrev S_X7_init (av : List Value) (n : Nat) (K : wKd) (I : wIn) (L : wLn) (R : wRf) (post : Post) : Prop := Sp yX7_init cX7_init 1 none rmX7_init av n K I L R post
abbrev C_X7_init (Γ : Gm) : Prop := Cx Γ RX7 cX7_init 1 none rmX7_init "<init>"
abbrev rmX7_hasRoom : Room := { frames := 0, cells := 0, slots := 0, locals := 0 }
abbrev S_X7_hasRoom (av : List Value) (n : Nat) (K : wKd) (I : wIn) (L : wLn) (R : wRf) (post : Post) : Prop := Sp yX7_hasRoom cX7_hasRoom 1 (some .boolean) rmX7_hasRoom av n K I L R post
abbrev C_X7_hasRoom (Γ : Gm) : Prop := Cx Γ RX7 cX7_hasRoom 1 (some .boolean) rmX7_hasRoom "hasRoom"
abbrev rmX7_addNumber : Room := { frames := 0, cells := 0, slots := 0, locals := 0 }
abbrev S_X7_addNumber (av : List Value) (n : Nat) (K : wKd) (I : wIn) (L : wLn) (R : wRf) (post : Post) : Prop := Sp yX7_addNumber cX7_addNumber 3 none rmX7_addNumber av n K I L R post
abbrev C_X7_addNumber (Γ : Gm) : Prop := Cx Γ RX7 cX7_addNumber 3 none rmX7_addNumber "addNumber"
abbrev rmX8_init : Room := { frames := 1, cells := 2, slots := 124, locals := 20 }
abbrev S_X8_init (av : List Value) (n : Nat) (K : wKd) (I : wIn) (L : wLn) (R : wRf) (post : Post) : Prop := Sp yX8_init cX8_init 2 none rmX8_init av n K I L R post
abbrev C_X8_init (Γ : Gm) : Prop := Cx Γ RX8 cX8_init 2 none rmX8_init "<init>"
abbrev rmX8_soundLength : Room := { frames := 1, cells := 0, slots := 0, locals := 21 }
abbrev S_X8_soundLength (av : List Value) (n : Nat) (K : wKd) (I : wIn) (L : wLn) (R : wRf) (post : Post) : Prop := Sp yX8_soundLength cX8_soundLength 5 (some .int) rmX8_soundLength av n K I L R post
abbrev C_X8_soundLength (Γ : Gm) : Prop := Cx Γ RX8 cX8_soundLength 5 (some .int) rmX8_soundLength "soundLength"
abbrev rmX8_quarrelTicks : Room := { frames := 3, cells := 0, slots := 0, locals := 67 }
abbrev S_X8_quarrelTicks (av : List Value) (n : Nat) (K : wKd) (I : wIn) (L : wLn) (R : wRf) (post : Post) : Prop := Sp yX8_quarrelTicks cX8_quarrelTicks 5 (some .int) rmX8_quarrelTicks av n K I L R post
abbrev C_X8_quarrelTicks (Γ : Gm) : Prop := Cx Γ RX8 cX8_quarrelTicks 5 (some .int) rmX8_quarrelTicks "quarrelTicks"
abbrev rmX8_canQuarrel : Room := { frames := 2, cells := 0, slots := 0, locals := 43 }
abbrev S_X8_canQuarrel (av : List Value) (n : Nat) (K : wKd) (I : wIn) (L : wLn) (R : wRf) (post : Post) : Prop := Sp yX8_canQuarrel cX8_canQuarrel 5 (some .boolean) rmX8_canQuarrel av n K I L R post
abbrev C_X8_canQuarrel (Γ : Gm) : Prop := Cx Γ RX8 cX8_canQuarrel 5 (some .boolean) rmX8_canQuarrel "canQuarrel"
abbrev rmX8_ticksTogether : Room := { frames := 1, cells := 0, slots := 0, locals := 21 }
abbrev S_X8_ticksTogether (av : List Value) (n : Nat) (K : wKd) (I : wIn) (L : wLn) (R : wRf) (post : Post) : Prop := Sp yX8_ticksTogether cX8_ticksTogether 6 (some .int) rmX8_ticksTogether av n K I L R post
abbrev C_X8_ticksTogether (Γ : Gm) : Prop := Cx Γ RX8 cX8_ticksTogether 6 (some .int) rmX8_ticksTogether "ticksTogether"
abbrev rmX8_copyFrom : Room := { frames := 1, cells := 0, slots := 0, locals := 26 }
abbrev S_X8_copyFrom (av : List Value) (n : Nat) (K : wKd) (I : wIn) (L : wLn) (R : wRf) (post : Post) : Prop := Sp yX8_copyFrom cX8_copyFrom 2 none rmX8_copyFrom av n K I L R post
abbrev C_X8_copyFrom (Γ : Gm) : Prop := Cx Γ RX8 cX8_copyFrom 2 none rmX8_copyFrom "copyFrom"
abbrev rmX9_init : Room := { frames := 1, cells := 1, slots := 2063, locals := 20 }
abbrev S_X9_init (av : List Value) (n : Nat) (K : wKd) (I : wIn) (L : wLn) (R : wRf) (post : Post) : Prop := Sp yX9_init cX9_init 1 none rmX9_init av n K I L R post
abbrev C_X9_init (Γ : Gm) : Prop := Cx Γ RX9 cX9_init 1 none rmX9_init "<init>"
abbrev rmX9_find : Room := { frames := 0, cells := 0, slots := 0, locals := 0 }
abbrev S_X9_find (av : List Value) (n : Nat) (K : wKd) (I : wIn) (L : wLn) (R : wRf) (post : Post) : Prop := Sp yX9_find cX9_find 6 none rmX9_find av n K I L R post
abbrev C_X9_find (Γ : Gm) : Prop := Cx Γ RX9 cX9_find 6 none rmX9_find "find"
abbrev rmX10_init : Room := { frames := 3, cells := 33, slots := 14390, locals := 61 }
abbrev S_X10_init (av : List Value) (n : Nat) (K : wKd) (I : wIn) (L : wLn) (R : wRf) (post : Post) : Prop := Sp yX10_init cX10_init 1 none rmX10_init av n K I L R post
abbrev C_X10_init (Γ : Gm) : Prop := Cx Γ RX10 cX10_init 1 none rmX10_init "<init>"
abbrev rmX10_feed : Room := { frames := 1, cells := 0, slots := 0, locals := 22 }
abbrev S_X10_feed (av : List Value) (n : Nat) (K : wKd) (I : wIn) (L : wLn) (R : wRf) (post : Post) : Prop := Sp yX10_feed cX10_feed 6 (some .int) rmX10_feed av n K I L R post
abbrev C_X10_feed (Γ : Gm) : Prop := Cx Γ RX10 cX10_feed 6 (some .int) rmX10_feed "feed"
abbrev rmX10_end : Room := { frames := 0, cells := 0, slots := 0, locals := 0 }
abbrev S_X10_end (av : List Value) (n : Nat) (K : wKd) (I : wIn) (L : wLn) (R : wRf) (post : Post) : Prop := Sp yX10_end cX10_end 2 (some .boolean) rmX10_end av n K I L R post
abbrev C_X10_end (Γ : Gm) : Prop := Cx Γ RX10 cX10_end 2 (some .boolean) rmX10_end "end"
abbrev rmX10_score : Room := { frames := 7, cells := 0, slots := 0, locals := 154 }
abbrev S_X10_score (av : List Value) (n : Nat) (K : wKd) (I : wIn) (L : wLn) (R : wRf) (post : Post) : Prop := Sp yX10_score cX10_score 2 (some .int) rmX10_score av n K I L R post
abbrev C_X10_score (Γ : Gm) : Prop := Cx Γ RX10 cX10_score 2 (some .int) rmX10_score "score"
abbrev rmX10_fault : Room := { frames := 0, cells := 0, slots := 0, locals := 0 }
abbrev S_X10_fault (av : List Value) (n : Nat) (K : wKd) (I : wIn) (L : wLn) (R : wRf) (post : Post) : Prop := Sp yX10_fault cX10_fault 2 (some .int) rmX10_fault av n K I L R post
abbrev C_X10_fault (Γ : Gm) : Prop := Cx Γ RX10 cX10_fault 2 (some .int) rmX10_fault "fault"
abbrev rmX10_strike : Room := { frames := 1, cells := 0, slots := 0, locals := 21 }
abbrev S_X10_strike (av : List Value) (n : Nat) (K : wKd) (I : wIn) (L : wLn) (R : wRf) (post : Post) : Prop := Sp yX10_strike cX10_strike 3 (some .int) rmX10_strike av n K I L R post
abbrev C_X10_strike (Γ : Gm) : Prop := Cx Γ RX10 cX10_strike 3 (some .int) rmX10_strike "strike"
abbrev rmX10_count : Room := { frames := 7, cells := 0, slots := 0, locals := 165 }
abbrev S_X10_count (av : List Value) (n : Nat) (K : wKd) (I : wIn) (L : wLn) (R : wRf) (post : Post) : Prop := Sp yX10_count cX10_count 2 (some .int) rmX10_count av n K I L R post
abbrev C_X10_count (Γ : Gm) : Prop := Cx Γ RX10 cX10_count 2 (some .int) rmX10_count "count"
abbrev rmX10_fists : Room := { frames := 0, cells := 0, slots := 0, locals := 0 }
abbrev S_X10_fists (av : List Value) (n : Nat) (K : wKd) (I : wIn) (L : wLn) (R : wRf) (post : Post) : Prop := Sp yX10_fists cX10_fists 3 (some .boolean) rmX10_fists av n K I L R post
abbrev C_X10_fists (Γ : Gm) : Prop := Cx Γ RX10 cX10_fists 3 (some .boolean) rmX10_fists "fists"
abbrev rmX10_cost : Room := { frames := 7, cells := 0, slots := 0, locals := 165 }
abbrev S_X10_cost (av : List Value) (n : Nat) (K : wKd) (I : wIn) (L : wLn) (R : wRf) (post : Post) : Prop := Sp yX10_cost cX10_cost 1 (some .int) rmX10_cost av n K I L R post
abbrev C_X10_cost (Γ : Gm) : Prop := Cx Γ RX10 cX10_cost 1 (some .int) rmX10_cost "cost"
abbrev rmX10_need : Room := { frames := 5, cells := 0, slots := 0, locals := 113 }
abbrev S_X10_need (av : List Value) (n : Nat) (K : wKd) (I : wIn) (L : wLn) (R : wRf) (post : Post) : Prop := Sp yX10_need cX10_need 1 (some .int) rmX10_need av n K I L R post
abbrev C_X10_need (Γ : Gm) : Prop := Cx Γ RX10 cX10_need 1 (some .int) rmX10_need "need"
abbrev rmX10_by : Room := { frames := 7, cells := 0, slots := 0, locals := 165 }
abbrev S_X10_by (av : List Value) (n : Nat) (K : wKd) (I : wIn) (L : wLn) (R : wRf) (post : Post) : Prop := Sp yX10_by cX10_by 2 (some .int) rmX10_by av n K I L R post
abbrev C_X10_by (Γ : Gm) : Prop := Cx Γ RX10 cX10_by 2 (some .int) rmX10_by "by"
abbrev rmX10_way : Room := { frames := 7, cells := 0, slots := 0, locals := 165 }
abbrev S_X10_way (av : List Value) (n : Nat) (K : wKd) (I : wIn) (L : wLn) (R : wRf) (post : Post) : Prop := Sp yX10_way cX10_way 2 (some .int) rmX10_way av n K I L R post
abbrev C_X10_way (Γ : Gm) : Prop := Cx Γ RX10 cX10_way 2 (some .int) rmX10_way "way"
abbrev rmX10_tail : Room := { frames := 1, cells := 0, slots := 0, locals := 20 }
abbrev S_X10_tail (av : List Value) (n : Nat) (K : wKd) (I : wIn) (L : wLn) (R : wRf) (post : Post) : Prop := Sp yX10_tail cX10_tail 4 (some .int) rmX10_tail av n K I L R post
abbrev C_X10_tail (Γ : Gm) : Prop := Cx Γ RX10 cX10_tail 4 (some .int) rmX10_tail "tail"
abbrev rmX10_quarrel : Room := { frames := 0, cells := 0, slots := 0, locals := 0 }
abbrev S_X10_quarrel (av : List Value) (n : Nat) (K : wKd) (I : wIn) (L : wLn) (R : wRf) (post : Post) : Prop := Sp yX10_quarrel cX10_quarrel 3 (some .int) rmX10_quarrel av n K I L R post
abbrev C_X10_quarrel (Γ : Gm) : Prop := Cx Γ RX10 cX10_quarrel 3 (some .int) rmX10_quarrel "quarrel"
abbrev rmX10_quarrels : Room := { frames := 4, cells := 0, slots := 0, locals := 91 }
abbrev S_X10_quarrels (av : List Value) (n : Nat) (K : wKd) (I : wIn) (L : wLn) (R : wRf) (post : Post) : Prop := Sp yX10_quarrels cX10_quarrels 1 (some .int) rmX10_quarrels av n K I L R post
abbrev C_X10_quarrels (Γ : Gm) : Prop := Cx Γ RX10 cX10_quarrels 1 (some .int) rmX10_quarrels "quarrels"
abbrev rmX10_sounds : Room := { frames := 2, cells := 0, slots := 0, locals := 45 }
abbrev S_X10_sounds (av : List Value) (n : Nat) (K : wKd) (I : wIn) (L : wLn) (R : wRf) (post : Post) : Prop := Sp yX10_sounds cX10_sounds 2 (some .int) rmX10_sounds av n K I L R post
abbrev C_X10_sounds (Γ : Gm) : Prop := Cx Γ RX10 cX10_sounds 2 (some .int) rmX10_sounds "sounds"
abbrev rmX10_drum : Room := { frames := 1, cells := 0, slots := 0, locals := 21 }
abbrev S_X10_drum (av : List Value) (n : Nat) (K : wKd) (I : wIn) (L : wLn) (R : wRf) (post : Post) : Prop := Sp yX10_drum cX10_drum 2 (some .boolean) rmX10_drum av n K I L R post
abbrev C_X10_drum (Γ : Gm) : Prop := Cx Γ RX10 cX10_drum 2 (some .boolean) rmX10_drum "drum"
abbrev rmX10_change : Room := { frames := 1, cells := 0, slots := 0, locals := 25 }
abbrev S_X10_change (av : List Value) (n : Nat) (K : wKd) (I : wIn) (L : wLn) (R : wRf) (post : Post) : Prop := Sp yX10_change cX10_change 1 (some .int) rmX10_change av n K I L R post
abbrev C_X10_change (Γ : Gm) : Prop := Cx Γ RX10 cX10_change 1 (some .int) rmX10_change "change"
abbrev rmX10_turn : Room := { frames := 0, cells := 0, slots := 0, locals := 0 }
abbrev S_X10_turn (av : List Value) (n : Nat) (K : wKd) (I : wIn) (L : wLn) (R : wRf) (post : Post) : Prop := Sp yX10_turn cX10_turn 1 (some .int) rmX10_turn av n K I L R post
abbrev C_X10_turn (Γ : Gm) : Prop := Cx Γ RX10 cX10_turn 1 (some .int) rmX10_turn "turn"
abbrev rmX10_pin : Room := { frames := 1, cells := 0, slots := 0, locals := 23 }
abbrev S_X10_pin (av : List Value) (n : Nat) (K : wKd) (I : wIn) (L : wLn) (R : wRf) (post : Post) : Prop := Sp yX10_pin cX10_pin 3 (some .int) rmX10_pin av n K I L R post
abbrev C_X10_pin (Γ : Gm) : Prop := Cx Γ RX10 cX10_pin 3 (some .int) rmX10_pin "pin"
abbrev rmX10_pins : Room := { frames := 0, cells := 0, slots := 0, locals := 0 }
abbrev S_X10_pins (av : List Value) (n : Nat) (K : wKd) (I : wIn) (L : wLn) (R : wRf) (post : Post) : Prop := Sp yX10_pins cX10_pins 1 (some .int) rmX10_pins av n K I L R post
abbrev C_X10_pins (Γ : Gm) : Prop := Cx Γ RX10 cX10_pins 1 (some .int) rmX10_pins "pins"
abbrev rmX10_play : Room := { frames := 7, cells := 0, slots := 0, locals := 165 }
abbrev S_X10_play (av : List Value) (n : Nat) (K : wKd) (I : wIn) (L : wLn) (R : wRf) (post : Post) : Prop := Sp yX10_play cX10_play 2 (some .int) rmX10_play av n K I L R post
abbrev C_X10_play (Γ : Gm) : Prop := Cx Γ RX10 cX10_play 2 (some .int) rmX10_play "play"
abbrev rmX10_strikes : Room := { frames := 1, cells := 0, slots := 0, locals := 20 }
abbrev S_X10_strikes (av : List Value) (n : Nat) (K : wKd) (I : wIn) (L : wLn) (R : wRf) (post : Post) : Prop := Sp yX10_strikes cX10_strikes 2 (some .long) rmX10_strikes av n K I L R post
abbrev C_X10_strikes (Γ : Gm) : Prop := Cx Γ RX10 cX10_strikes 2 (some .long) rmX10_strikes "strikes"
abbrev rmX10_mend : Room := { frames := 1, cells := 0, slots := 0, locals := 20 }
abbrev S_X10_mend (av : List Value) (n : Nat) (K : wKd) (I : wIn) (L : wLn) (R : wRf) (post : Post) : Prop := Sp yX10_mend cX10_mend 4 (some .long) rmX10_mend av n K I L R post
abbrev C_X10_mend (Γ : Gm) : Prop := Cx Γ RX10 cX10_mend 4 (some .long) rmX10_mend "mend"
abbrev rmX10_worn : Room := { frames := 1, cells := 0, slots := 0, locals := 23 }
abbrev S_X10_worn (av : List Value) (n : Nat) (K : wKd) (I : wIn) (L : wLn) (R : wRf) (post : Post) : Prop := Sp yX10_worn cX10_worn 2 (some .int) rmX10_worn av n K I L R post
abbrev C_X10_worn (Γ : Gm) : Prop := Cx Γ RX10 cX10_worn 2 (some .int) rmX10_worn "worn"
abbrev rmX10_image : Room := { frames := 3, cells := 12, slots := 569, locals := 68 }
abbrev S_X10_image (av : List Value) (n : Nat) (K : wKd) (I : wIn) (L : wLn) (R : wRf) (post : Post) : Prop := Sp yX10_image cX10_image 3 (some .boolean) rmX10_image av n K I L R post
abbrev C_X10_image (Γ : Gm) : Prop := Cx Γ RX10 cX10_image 3 (some .boolean) rmX10_image "image"
abbrev rmX10_back : Room := { frames := 3, cells := 0, slots := 0, locals := 68 }
abbrev S_X10_back (av : List Value) (n : Nat) (K : wKd) (I : wIn) (L : wLn) (R : wRf) (post : Post) : Prop := Sp yX10_back cX10_back 3 (some .boolean) rmX10_back av n K I L R post
abbrev C_X10_back (Γ : Gm) : Prop := Cx Γ RX10 cX10_back 3 (some .boolean) rmX10_back "back"
abbrev rmX10_isBell : Room := { frames := 0, cells := 0, slots := 0, locals := 0 }
abbrev S_X10_isBell (av : List Value) (n : Nat) (K : wKd) (I : wIn) (L : wLn) (R : wRf) (post : Post) : Prop := Sp yX10_isBell cX10_isBell 1 (some .boolean) rmX10_isBell av n K I L R post
abbrev C_X10_isBell (Γ : Gm) : Prop := Cx Γ RX10 cX10_isBell 1 (some .boolean) rmX10_isBell "isBell"
abbrev rmX10_theSetting : Room := { frames := 6, cells := 0, slots := 0, locals := 145 }
abbrev S_X10_theSetting (av : List Value) (n : Nat) (K : wKd) (I : wIn) (L : wLn) (R : wRf) (post : Post) : Prop := Sp yX10_theSetting cX10_theSetting 1 (some (.object "CarillonDesk$Setting")) rmX10_theSetting av n K I L R post
abbrev C_X10_theSetting (Γ : Gm) : Prop := Cx Γ RX10 cX10_theSetting 1 (some (.object "CarillonDesk$Setting")) rmX10_theSetting "theSetting"
abbrev rmX11_init : Room := { frames := 1, cells := 13, slots := 1039778, locals := 20 }
abbrev S_X11_init (av : List Value) (n : Nat) (K : wKd) (I : wIn) (L : wLn) (R : wRf) (post : Post) : Prop := Sp yX11_init cX11_init 2 none rmX11_init av n K I L R post
abbrev C_X11_init (Γ : Gm) : Prop := Cx Γ RX11 cX11_init 2 none rmX11_init "<init>"
abbrev rmX11_image : Room := { frames := 0, cells := 0, slots := 0, locals := 0 }
abbrev S_X11_image (av : List Value) (n : Nat) (K : wKd) (I : wIn) (L : wLn) (R : wRf) (post : Post) : Prop := Sp yX11_image cX11_image 3 (some .boolean) rmX11_image av n K I L R post
abbrev C_X11_image (Γ : Gm) : Prop := Cx Γ RX11 cX11_image 3 (some .boolean) rmX11_image "image"
abbrev rmX11_back : Room := { frames := 0, cells := 0, slots := 0, locals := 0 }
abbrev S_X11_back (av : List Value) (n : Nat) (K : wKd) (I : wIn) (L : wLn) (R : wRf) (post : Post) : Prop := Sp yX11_back cX11_back 3 (some .boolean) rmX11_back av n K I L R post
abbrev C_X11_back (Γ : Gm) : Prop := Cx Γ RX11 cX11_back 3 (some .boolean) rmX11_back "back"
abbrev rmX11_feed : Room := { frames := 0, cells := 0, slots := 0, locals := 0 }
abbrev S_X11_feed (av : List Value) (n : Nat) (K : wKd) (I : wIn) (L : wLn) (R : wRf) (post : Post) : Prop := Sp yX11_feed cX11_feed 8 (some .int) rmX11_feed av n K I L R post
abbrev C_X11_feed (Γ : Gm) : Prop := Cx Γ RX11 cX11_feed 8 (some .int) rmX11_feed "feed"
abbrev rmX11_end : Room := { frames := 0, cells := 0, slots := 0, locals := 0 }
abbrev S_X11_end (av : List Value) (n : Nat) (K : wKd) (I : wIn) (L : wLn) (R : wRf) (post : Post) : Prop := Sp yX11_end cX11_end 2 (some .boolean) rmX11_end av n K I L R post
abbrev C_X11_end (Γ : Gm) : Prop := Cx Γ RX11 cX11_end 2 (some .boolean) rmX11_end "end"
abbrev rmX11_fail : Room := { frames := 0, cells := 0, slots := 0, locals := 0 }
abbrev S_X11_fail (av : List Value) (n : Nat) (K : wKd) (I : wIn) (L : wLn) (R : wRf) (post : Post) : Prop := Sp yX11_fail cX11_fail 3 none rmX11_fail av n K I L R post
abbrev C_X11_fail (Γ : Gm) : Prop := Cx Γ RX11 cX11_fail 3 none rmX11_fail "fail"
abbrev rmX11_next : Room := { frames := 0, cells := 0, slots := 0, locals := 0 }
abbrev S_X11_next (av : List Value) (n : Nat) (K : wKd) (I : wIn) (L : wLn) (R : wRf) (post : Post) : Prop := Sp yX11_next cX11_next 1 (some .int) rmX11_next av n K I L R post
abbrev C_X11_next (Γ : Gm) : Prop := Cx Γ RX11 cX11_next 1 (some .int) rmX11_next "next"
abbrev rmX11_sign : Room := { frames := 1, cells := 0, slots := 0, locals := 22 }
abbrev S_X11_sign (av : List Value) (n : Nat) (K : wKd) (I : wIn) (L : wLn) (R : wRf) (post : Post) : Prop := Sp yX11_sign cX11_sign 2 none rmX11_sign av n K I L R post
abbrev C_X11_sign (Γ : Gm) : Prop := Cx Γ RX11 cX11_sign 2 none rmX11_sign "sign"
abbrev rmX11_isDigit : Room := { frames := 0, cells := 0, slots := 0, locals := 0 }
abbrev S_X11_isDigit (av : List Value) (n : Nat) (K : wKd) (I : wIn) (L : wLn) (R : wRf) (post : Post) : Prop := Sp yX11_isDigit cX11_isDigit 1 (some .boolean) rmX11_isDigit av n K I L R post
abbrev C_X11_isDigit (Γ : Gm) : Prop := Cx Γ RX11 cX11_isDigit 1 (some .boolean) rmX11_isDigit "isDigit"
abbrev rmX11_number : Room := { frames := 1, cells := 0, slots := 0, locals := 22 }
abbrev S_X11_number (av : List Value) (n : Nat) (K : wKd) (I : wIn) (L : wLn) (R : wRf) (post : Post) : Prop := Sp yX11_number cX11_number 4 (some .int) rmX11_number av n K I L R post
abbrev C_X11_number (Γ : Gm) : Prop := Cx Γ RX11 cX11_number 4 (some .int) rmX11_number "number"
abbrev rmX11_length : Room := { frames := 2, cells := 0, slots := 0, locals := 45 }
abbrev S_X11_length (av : List Value) (n : Nat) (K : wKd) (I : wIn) (L : wLn) (R : wRf) (post : Post) : Prop := Sp yX11_length cX11_length 4 (some .int) rmX11_length av n K I L R post
abbrev C_X11_length (Γ : Gm) : Prop := Cx Γ RX11 cX11_length 4 (some .int) rmX11_length "length"
abbrev rmX11_strikesHere : Room := { frames := 1, cells := 0, slots := 0, locals := 22 }
abbrev S_X11_strikesHere (av : List Value) (n : Nat) (K : wKd) (I : wIn) (L : wLn) (R : wRf) (post : Post) : Prop := Sp yX11_strikesHere cX11_strikesHere 5 none rmX11_strikesHere av n K I L R post
abbrev C_X11_strikesHere (Γ : Gm) : Prop := Cx Γ RX11 cX11_strikesHere 5 none rmX11_strikesHere "strikesHere"
abbrev rmX11_item : Room := { frames := 3, cells := 0, slots := 0, locals := 68 }
abbrev S_X11_item (av : List Value) (n : Nat) (K : wKd) (I : wIn) (L : wLn) (R : wRf) (post : Post) : Prop := Sp yX11_item cX11_item 6 none rmX11_item av n K I L R post
abbrev C_X11_item (Γ : Gm) : Prop := Cx Γ RX11 cX11_item 6 none rmX11_item "item"
abbrev rmX11_group : Room := { frames := 2, cells := 0, slots := 0, locals := 45 }
abbrev S_X11_group (av : List Value) (n : Nat) (K : wKd) (I : wIn) (L : wLn) (R : wRf) (post : Post) : Prop := Sp yX11_group cX11_group 2 none rmX11_group av n K I L R post
abbrev C_X11_group (Γ : Gm) : Prop := Cx Γ RX11 cX11_group 2 none rmX11_group "group"
abbrev rmX11_ends : Room := { frames := 1, cells := 0, slots := 0, locals := 22 }
abbrev S_X11_ends (av : List Value) (n : Nat) (K : wKd) (I : wIn) (L : wLn) (R : wRf) (post : Post) : Prop := Sp yX11_ends cX11_ends 1 none rmX11_ends av n K I L R post
abbrev C_X11_ends (Γ : Gm) : Prop := Cx Γ RX11 cX11_ends 1 none rmX11_ends "ends"
abbrev rmX11_score : Room := { frames := 4, cells := 0, slots := 0, locals := 93 }
abbrev S_X11_score (av : List Value) (n : Nat) (K : wKd) (I : wIn) (L : wLn) (R : wRf) (post : Post) : Prop := Sp yX11_score cX11_score 2 (some .int) rmX11_score av n K I L R post
abbrev C_X11_score (Γ : Gm) : Prop := Cx Γ RX11 cX11_score 2 (some .int) rmX11_score "score"
abbrev rmX11_fault : Room := { frames := 0, cells := 0, slots := 0, locals := 0 }
abbrev S_X11_fault (av : List Value) (n : Nat) (K : wKd) (I : wIn) (L : wLn) (R : wRf) (post : Post) : Prop := Sp yX11_fault cX11_fault 2 (some .int) rmX11_fault av n K I L R post
abbrev C_X11_fault (Γ : Gm) : Prop := Cx Γ RX11 cX11_fault 2 (some .int) rmX11_fault "fault"
abbrev rmX11_strike : Room := { frames := 0, cells := 0, slots := 0, locals := 0 }
abbrev S_X11_strike (av : List Value) (n : Nat) (K : wKd) (I : wIn) (L : wLn) (R : wRf) (post : Post) : Prop := Sp yX11_strike cX11_strike 3 (some .int) rmX11_strike av n K I L R post
abbrev C_X11_strike (Γ : Gm) : Prop := Cx Γ RX11 cX11_strike 3 (some .int) rmX11_strike "strike"
abbrev rmX11_place : Room := { frames := 0, cells := 0, slots := 0, locals := 0 }
abbrev S_X11_place (av : List Value) (n : Nat) (K : wKd) (I : wIn) (L : wLn) (R : wRf) (post : Post) : Prop := Sp yX11_place cX11_place 4 (some .int) rmX11_place av n K I L R post
abbrev C_X11_place (Γ : Gm) : Prop := Cx Γ RX11 cX11_place 4 (some .int) rmX11_place "place"
abbrev rmX11_moves : Room := { frames := 0, cells := 0, slots := 0, locals := 0 }
abbrev S_X11_moves (av : List Value) (n : Nat) (K : wKd) (I : wIn) (L : wLn) (R : wRf) (post : Post) : Prop := Sp yX11_moves cX11_moves 6 (some .int) rmX11_moves av n K I L R post
abbrev C_X11_moves (Γ : Gm) : Prop := Cx Γ RX11 cX11_moves 6 (some .int) rmX11_moves "moves"
abbrev rmX11_isCrossed : Room := { frames := 0, cells := 0, slots := 0, locals := 0 }
abbrev S_X11_isCrossed (av : List Value) (n : Nat) (K : wKd) (I : wIn) (L : wLn) (R : wRf) (post : Post) : Prop := Sp yX11_isCrossed cX11_isCrossed 3 (some .boolean) rmX11_isCrossed av n K I L R post
abbrev C_X11_isCrossed (Γ : Gm) : Prop := Cx Γ RX11 cX11_isCrossed 3 (some .boolean) rmX11_isCrossed "isCrossed"
abbrev rmX11_costOf : Room := { frames := 1, cells := 0, slots := 0, locals := 25 }
abbrev S_X11_costOf (av : List Value) (n : Nat) (K : wKd) (I : wIn) (L : wLn) (R : wRf) (post : Post) : Prop := Sp yX11_costOf cX11_costOf 7 (some .int) rmX11_costOf av n K I L R post
abbrev C_X11_costOf (Γ : Gm) : Prop := Cx Γ RX11 cX11_costOf 7 (some .int) rmX11_costOf "costOf"
abbrev rmX11_behind : Room := { frames := 1, cells := 0, slots := 0, locals := 23 }
abbrev S_X11_behind (av : List Value) (n : Nat) (K : wKd) (I : wIn) (L : wLn) (R : wRf) (post : Post) : Prop := Sp yX11_behind cX11_behind 5 (some .int) rmX11_behind av n K I L R post
abbrev C_X11_behind (Γ : Gm) : Prop := Cx Γ RX11 cX11_behind 5 (some .int) rmX11_behind "behind"
abbrev rmX11_weighs : Room := { frames := 2, cells := 0, slots := 0, locals := 51 }
abbrev S_X11_weighs (av : List Value) (n : Nat) (K : wKd) (I : wIn) (L : wLn) (R : wRf) (post : Post) : Prop := Sp yX11_weighs cX11_weighs 10 (some .int) rmX11_weighs av n K I L R post
abbrev C_X11_weighs (Γ : Gm) : Prop := Cx Γ RX11 cX11_weighs 10 (some .int) rmX11_weighs "weighs"
abbrev rmX11_sets : Room := { frames := 3, cells := 0, slots := 0, locals := 80 }
abbrev S_X11_sets (av : List Value) (n : Nat) (K : wKd) (I : wIn) (L : wLn) (R : wRf) (post : Post) : Prop := Sp yX11_sets cX11_sets 6 (some .int) rmX11_sets av n K I L R post
abbrev C_X11_sets (Γ : Gm) : Prop := Cx Γ RX11 cX11_sets 6 (some .int) rmX11_sets "sets"
abbrev rmX11_fists : Room := { frames := 0, cells := 0, slots := 0, locals := 0 }
abbrev S_X11_fists (av : List Value) (n : Nat) (K : wKd) (I : wIn) (L : wLn) (R : wRf) (post : Post) : Prop := Sp yX11_fists cX11_fists 3 (some .boolean) rmX11_fists av n K I L R post
abbrev C_X11_fists (Γ : Gm) : Prop := Cx Γ RX11 cX11_fists 3 (some .boolean) rmX11_fists "fists"
abbrev rmX11_cost : Room := { frames := 4, cells := 0, slots := 0, locals := 105 }
abbrev S_X11_cost (av : List Value) (n : Nat) (K : wKd) (I : wIn) (L : wLn) (R : wRf) (post : Post) : Prop := Sp yX11_cost cX11_cost 1 (some .int) rmX11_cost av n K I L R post
abbrev C_X11_cost (Γ : Gm) : Prop := Cx Γ RX11 cX11_cost 1 (some .int) rmX11_cost "cost"
abbrev rmX11_need : Room := { frames := 3, cells := 0, slots := 0, locals := 80 }
abbrev S_X11_need (av : List Value) (n : Nat) (K : wKd) (I : wIn) (L : wLn) (R : wRf) (post : Post) : Prop := Sp yX11_need cX11_need 2 (some .int) rmX11_need av n K I L R post
abbrev C_X11_need (Γ : Gm) : Prop := Cx Γ RX11 cX11_need 2 (some .int) rmX11_need "need"
abbrev rmX11_by : Room := { frames := 4, cells := 0, slots := 0, locals := 105 }
abbrev S_X11_by (av : List Value) (n : Nat) (K : wKd) (I : wIn) (L : wLn) (R : wRf) (post : Post) : Prop := Sp yX11_by cX11_by 2 (some .int) rmX11_by av n K I L R post
abbrev C_X11_by (Γ : Gm) : Prop := Cx Γ RX11 cX11_by 2 (some .int) rmX11_by "by"
abbrev rmX11_way : Room := { frames := 4, cells := 0, slots := 0, locals := 105 }
abbrev S_X11_way (av : List Value) (n : Nat) (K : wKd) (I : wIn) (L : wLn) (R : wRf) (post : Post) : Prop := Sp yX11_way cX11_way 2 (some .int) rmX11_way av n K I L R post
abbrev C_X11_way (Γ : Gm) : Prop := Cx Γ RX11 cX11_way 2 (some .int) rmX11_way "way"
abbrev rmX11_count : Room := { frames := 4, cells := 0, slots := 0, locals := 105 }
abbrev S_X11_count (av : List Value) (n : Nat) (K : wKd) (I : wIn) (L : wLn) (R : wRf) (post : Post) : Prop := Sp yX11_count cX11_count 4 (some .int) rmX11_count av n K I L R post
abbrev C_X11_count (Γ : Gm) : Prop := Cx Γ RX11 cX11_count 4 (some .int) rmX11_count "count"
abbrev rmX11_isBell : Room := { frames := 0, cells := 0, slots := 0, locals := 0 }
abbrev S_X11_isBell (av : List Value) (n : Nat) (K : wKd) (I : wIn) (L : wLn) (R : wRf) (post : Post) : Prop := Sp yX11_isBell cX11_isBell 1 (some .boolean) rmX11_isBell av n K I L R post
abbrev C_X11_isBell (Γ : Gm) : Prop := Cx Γ RX11 cX11_isBell 1 (some .boolean) rmX11_isBell "isBell"
abbrev rmX11_tail : Room := { frames := 1, cells := 0, slots := 0, locals := 20 }
abbrev S_X11_tail (av : List Value) (n : Nat) (K : wKd) (I : wIn) (L : wLn) (R : wRf) (post : Post) : Prop := Sp yX11_tail cX11_tail 4 (some .int) rmX11_tail av n K I L R post
abbrev C_X11_tail (Γ : Gm) : Prop := Cx Γ RX11 cX11_tail 4 (some .int) rmX11_tail "tail"
abbrev rmX11_quarrel : Room := { frames := 0, cells := 0, slots := 0, locals := 0 }
abbrev S_X11_quarrel (av : List Value) (n : Nat) (K : wKd) (I : wIn) (L : wLn) (R : wRf) (post : Post) : Prop := Sp yX11_quarrel cX11_quarrel 3 (some .int) rmX11_quarrel av n K I L R post
abbrev C_X11_quarrel (Γ : Gm) : Prop := Cx Γ RX11 cX11_quarrel 3 (some .int) rmX11_quarrel "quarrel"
abbrev rmX11_sounds : Room := { frames := 0, cells := 0, slots := 0, locals := 0 }
abbrev S_X11_sounds (av : List Value) (n : Nat) (K : wKd) (I : wIn) (L : wLn) (R : wRf) (post : Post) : Prop := Sp yX11_sounds cX11_sounds 4 (some .int) rmX11_sounds av n K I L R post
abbrev C_X11_sounds (Γ : Gm) : Prop := Cx Γ RX11 cX11_sounds 4 (some .int) rmX11_sounds "sounds"
abbrev rmX11_quarrels : Room := { frames := 1, cells := 0, slots := 0, locals := 23 }
abbrev S_X11_quarrels (av : List Value) (n : Nat) (K : wKd) (I : wIn) (L : wLn) (R : wRf) (post : Post) : Prop := Sp yX11_quarrels cX11_quarrels 7 (some .int) rmX11_quarrels av n K I L R post
abbrev C_X11_quarrels (Γ : Gm) : Prop := Cx Γ RX11 cX11_quarrels 7 (some .int) rmX11_quarrels "quarrels"
abbrev rmX11_drum : Room := { frames := 0, cells := 0, slots := 0, locals := 0 }
abbrev S_X11_drum (av : List Value) (n : Nat) (K : wKd) (I : wIn) (L : wLn) (R : wRf) (post : Post) : Prop := Sp yX11_drum cX11_drum 3 (some .boolean) rmX11_drum av n K I L R post
abbrev C_X11_drum (Γ : Gm) : Prop := Cx Γ RX11 cX11_drum 3 (some .boolean) rmX11_drum "drum"
abbrev rmX11_stepOf : Room := { frames := 0, cells := 0, slots := 0, locals := 0 }
abbrev S_X11_stepOf (av : List Value) (n : Nat) (K : wKd) (I : wIn) (L : wLn) (R : wRf) (post : Post) : Prop := Sp yX11_stepOf cX11_stepOf 3 (some .int) rmX11_stepOf av n K I L R post
abbrev C_X11_stepOf (Γ : Gm) : Prop := Cx Γ RX11 cX11_stepOf 3 (some .int) rmX11_stepOf "stepOf"
abbrev rmX11_change : Room := { frames := 1, cells := 0, slots := 0, locals := 22 }
abbrev S_X11_change (av : List Value) (n : Nat) (K : wKd) (I : wIn) (L : wLn) (R : wRf) (post : Post) : Prop := Sp yX11_change cX11_change 6 (some .int) rmX11_change av n K I L R post
abbrev C_X11_change (Γ : Gm) : Prop := Cx Γ RX11 cX11_change 6 (some .int) rmX11_change "change"
abbrev rmX11_turn : Room := { frames := 0, cells := 0, slots := 0, locals := 0 }
abbrev S_X11_turn (av : List Value) (n : Nat) (K : wKd) (I : wIn) (L : wLn) (R : wRf) (post : Post) : Prop := Sp yX11_turn cX11_turn 1 (some .int) rmX11_turn av n K I L R post
abbrev C_X11_turn (Γ : Gm) : Prop := Cx Γ RX11 cX11_turn 1 (some .int) rmX11_turn "turn"
abbrev rmX11_pin : Room := { frames := 1, cells := 0, slots := 0, locals := 20 }
abbrev S_X11_pin (av : List Value) (n : Nat) (K : wKd) (I : wIn) (L : wLn) (R : wRf) (post : Post) : Prop := Sp yX11_pin cX11_pin 3 (some .int) rmX11_pin av n K I L R post
abbrev C_X11_pin (Γ : Gm) : Prop := Cx Γ RX11 cX11_pin 3 (some .int) rmX11_pin "pin"
abbrev rmX11_pins : Room := { frames := 0, cells := 0, slots := 0, locals := 0 }
abbrev S_X11_pins (av : List Value) (n : Nat) (K : wKd) (I : wIn) (L : wLn) (R : wRf) (post : Post) : Prop := Sp yX11_pins cX11_pins 4 (some .int) rmX11_pins av n K I L R post
abbrev C_X11_pins (Γ : Gm) : Prop := Cx Γ RX11 cX11_pins 4 (some .int) rmX11_pins "pins"
abbrev rmX11_play : Room := { frames := 4, cells := 0, slots := 0, locals := 105 }
abbrev S_X11_play (av : List Value) (n : Nat) (K : wKd) (I : wIn) (L : wLn) (R : wRf) (post : Post) : Prop := Sp yX11_play cX11_play 5 (some .int) rmX11_play av n K I L R post
abbrev C_X11_play (Γ : Gm) : Prop := Cx Γ RX11 cX11_play 5 (some .int) rmX11_play "play"
abbrev rmX11_strikes : Room := { frames := 1, cells := 0, slots := 0, locals := 20 }
abbrev S_X11_strikes (av : List Value) (n : Nat) (K : wKd) (I : wIn) (L : wLn) (R : wRf) (post : Post) : Prop := Sp yX11_strikes cX11_strikes 2 (some .long) rmX11_strikes av n K I L R post
abbrev C_X11_strikes (Γ : Gm) : Prop := Cx Γ RX11 cX11_strikes 2 (some .long) rmX11_strikes "strikes"
abbrev rmX11_mend : Room := { frames := 1, cells := 0, slots := 0, locals := 20 }
abbrev S_X11_mend (av : List Value) (n : Nat) (K : wKd) (I : wIn) (L : wLn) (R : wRf) (post : Post) : Prop := Sp yX11_mend cX11_mend 4 (some .long) rmX11_mend av n K I L R post
abbrev C_X11_mend (Γ : Gm) : Prop := Cx Γ RX11 cX11_mend 4 (some .long) rmX11_mend "mend"
abbrev rmX11_worn : Room := { frames := 0, cells := 0, slots := 0, locals := 0 }
abbrev S_X11_worn (av : List Value) (n : Nat) (K : wKd) (I : wIn) (L : wLn) (R : wRf) (post : Post) : Prop := Sp yX11_worn cX11_worn 4 (some .int) rmX11_worn av n K I L R post
abbrev C_X11_worn (Γ : Gm) : Prop := Cx Γ RX11 cX11_worn 4 (some .int) rmX11_worn "worn"
abbrev rmJ6_bitCount_0f7a4 : Room := { frames := 0, cells := 0, slots := 0, locals := 0 }
abbrev S_J6_bitCount_0f7a4 (av : List Value) (n : Nat) (K : wKd) (I : wIn) (L : wLn) (R : wRf) (post : Post) : Prop := Sp yJ6_bitCount_0f7a4 cJ6_bitCount_0f7a4 1 (some .int) rmJ6_bitCount_0f7a4 av n K I L R post
abbrev C_J6_bitCount_0f7a4 (Γ : Gm) : Prop := Cx Γ RJ6 cJ6_bitCount_0f7a4 1 (some .int) rmJ6_bitCount_0f7a4 "bitCount"
theorem mb_L_9 : MB RL 9 yX10_init cX10_init 1 none 0 := ⟨mem_tg (List.mem_of_getElem? (i := 58) (by decide +kernel)) rfl, mem_tg (List.mem_of_getElem? (i := 41) (by decide +kernel)) rfl, mem_tg (List.mem_of_getElem? (i := 60) (by decide +kernel)) rfl, by decide +kernel, by decide +kernel, by decide +kernel⟩
theorem mi_X10_init : Cond.instanceMethod yX10_init ∈ tg ∧ yX10_init.name = "<init>" := ⟨mem_tg (List.mem_of_getElem? (i := 59) (by decide +kernel)) rfl, rfl⟩
theorem ob_X10_1 : Cond.methodLink RX10 1 objectInit ∈ tg := mem_tg (List.mem_of_getElem? (i := 61) (by decide +kernel)) rfl
theorem ob_X7_3 : Cond.methodLink RX7 3 objectInit ∈ tg := mem_tg (List.mem_of_getElem? (i := 69) (by decide +kernel)) rfl
theorem mb_X10_18 : MB RX10 18 yX4_init cX4_init 2 none 1 := ⟨mem_tg (List.mem_of_getElem? (i := 83) (by decide +kernel)) rfl, mem_tg (List.mem_of_getElem? (i := 43) (by decide +kernel)) rfl, mem_tg (List.mem_of_getElem? (i := 85) (by decide +kernel)) rfl, by decide +kernel, by decide +kernel, by decide +kernel⟩
theorem mi_X4_init : Cond.instanceMethod yX4_init ∈ tg ∧ yX4_init.name = "<init>" := ⟨mem_tg (List.mem_of_getElem? (i := 84) (by decide +kernel)) rfl, rfl⟩
theorem ob_X4_3 : Cond.methodLink RX4 3 objectInit ∈ tg := mem_tg (List.mem_of_getElem? (i := 86) (by decide +kernel)) rfl
theorem ob_X5_3 : Cond.methodLink RX5 3 objectInit ∈ tg := mem_tg (List.mem_of_getElem? (i := 92) (by decide +kernel)) rfl
theorem ob_X2_3 : Cond.methodLink RX2 3 objectInit ∈ tg := mem_tg (List.mem_of_getElem? (i := 185) (by decide +kernel)) rfl
theorem mb_X2_20 : MB RX2 20 yX8_init cX8_init 2 none 0 := ⟨mem_tg (List.mem_of_getElem? (i := 190) (by decide +kernel)) rfl, mem_tg (List.mem_of_getElem? (i := 46) (by decide +kernel)) rfl, mem_tg (List.mem_of_getElem? (i := 192) (by decide +kernel)) rfl, by decide +kernel, by decide +kernel, by decide +kernel⟩
theorem mi_X8_init : Cond.instanceMethod yX8_init ∈ tg ∧ yX8_init.name = "<init>" := ⟨mem_tg (List.mem_of_getElem? (i := 191) (by decide +kernel)) rfl, rfl⟩
theorem ob_X8_3 : Cond.methodLink RX8 3 objectInit ∈ tg := mem_tg (List.mem_of_getElem? (i := 193) (by decide +kernel)) rfl
theorem ob_X1_3 : Cond.methodLink RX1 3 objectInit ∈ tg := mem_tg (List.mem_of_getElem? (i := 211) (by decide +kernel)) rfl
theorem ob_X0_3 : Cond.methodLink RX0 3 objectInit ∈ tg := mem_tg (List.mem_of_getElem? (i := 242) (by decide +kernel)) rfl
theorem mb_X10_42 : MB RX10 42 yX6_init cX6_init 2 none 1 := ⟨mem_tg (List.mem_of_getElem? (i := 285) (by decide +kernel)) rfl, mem_tg (List.mem_of_getElem? (i := 49) (by decide +kernel)) rfl, mem_tg (List.mem_of_getElem? (i := 287) (by decide +kernel)) rfl, by decide +kernel, by decide +kernel, by decide +kernel⟩
theorem mi_X6_init : Cond.instanceMethod yX6_init ∈ tg ∧ yX6_init.name = "<init>" := ⟨mem_tg (List.mem_of_getElem? (i := 286) (by decide +kernel)) rfl, rfl⟩
theorem ob_X6_3 : Cond.methodLink RX6 3 objectInit ∈ tg := mem_tg (List.mem_of_getElem? (i := 288) (by decide +kernel)) rfl
theorem mb_X10_51 : MB RX10 51 yX3_init cX3_init 2 none 1 := ⟨mem_tg (List.mem_of_getElem? (i := 321) (by decide +kernel)) rfl, mem_tg (List.mem_of_getElem? (i := 50) (by decide +kernel)) rfl, mem_tg (List.mem_of_getElem? (i := 323) (by decide +kernel)) rfl, by decide +kernel, by decide +kernel, by decide +kernel⟩
theorem mi_X3_init : Cond.instanceMethod yX3_init ∈ tg ∧ yX3_init.name = "<init>" := ⟨mem_tg (List.mem_of_getElem? (i := 322) (by decide +kernel)) rfl, rfl⟩
theorem ob_X3_3 : Cond.methodLink RX3 3 objectInit ∈ tg := mem_tg (List.mem_of_getElem? (i := 324) (by decide +kernel)) rfl
theorem ob_X9_3 : Cond.methodLink RX9 3 objectInit ∈ tg := mem_tg (List.mem_of_getElem? (i := 339) (by decide +kernel)) rfl
theorem mb_L_13 : MB RL 13 yX10_feed cX10_feed 6 (some .int) 5 := ⟨mem_tg (List.mem_of_getElem? (i := 377) (by decide +kernel)) rfl, mem_tg (List.mem_of_getElem? (i := 41) (by decide +kernel)) rfl, mem_tg (List.mem_of_getElem? (i := 380) (by decide +kernel)) rfl, by decide +kernel, by decide +kernel, by decide +kernel⟩
theorem mv_X10_feed : Cond.instanceMethod yX10_feed ∈ tg ∧ Cond.selects yX10_feed.cls yX10_feed yX10_feed ∈ tg := ⟨mem_tg (List.mem_of_getElem? (i := 378) (by decide +kernel)) rfl, mem_tg (List.mem_of_getElem? (i := 379) (by decide +kernel)) rfl⟩
theorem mb_X10_67 : MB RX10 67 yX7_hasRoom cX7_hasRoom 1 (some .boolean) 0 := ⟨mem_tg (List.mem_of_getElem? (i := 381) (by decide +kernel)) rfl, mem_tg (List.mem_of_getElem? (i := 42) (by decide +kernel)) rfl, mem_tg (List.mem_of_getElem? (i := 384) (by decide +kernel)) rfl, by decide +kernel, by decide +kernel, by decide +kernel⟩
theorem mv_X7_hasRoom : Cond.instanceMethod yX7_hasRoom ∈ tg ∧ Cond.selects yX7_hasRoom.cls yX7_hasRoom yX7_hasRoom ∈ tg := ⟨mem_tg (List.mem_of_getElem? (i := 382) (by decide +kernel)) rfl, mem_tg (List.mem_of_getElem? (i := 383) (by decide +kernel)) rfl⟩
theorem mb_X10_71 : MB RX10 71 yX7_addNumber cX7_addNumber 3 none 1 := ⟨mem_tg (List.mem_of_getElem? (i := 385) (by decide +kernel)) rfl, mem_tg (List.mem_of_getElem? (i := 42) (by decide +kernel)) rfl, mem_tg (List.mem_of_getElem? (i := 388) (by decide +kernel)) rfl, by decide +kernel, by decide +kernel, by decide +kernel⟩
theorem mv_X7_addNumber : Cond.instanceMethod yX7_addNumber ∈ tg ∧ Cond.selects yX7_addNumber.cls yX7_addNumber yX7_addNumber ∈ tg := ⟨mem_tg (List.mem_of_getElem? (i := 386) (by decide +kernel)) rfl, mem_tg (List.mem_of_getElem? (i := 387) (by decide +kernel)) rfl⟩
theorem mb_L_18 : MB RL 18 yX10_end cX10_end 2 (some .boolean) 1 := ⟨mem_tg (List.mem_of_getElem? (i := 389) (by decide +kernel)) rfl, mem_tg (List.mem_of_getElem? (i := 41) (by decide +kernel)) rfl, mem_tg (List.mem_of_getElem? (i := 392) (by decide +kernel)) rfl, by decide +kernel, by decide +kernel, by decide +kernel⟩
theorem mv_X10_end : Cond.instanceMethod yX10_end ∈ tg ∧ Cond.selects yX10_end.cls yX10_end yX10_end ∈ tg := ⟨mem_tg (List.mem_of_getElem? (i := 390) (by decide +kernel)) rfl, mem_tg (List.mem_of_getElem? (i := 391) (by decide +kernel)) rfl⟩
theorem mb_L_23 : MB RL 23 yX10_score cX10_score 2 (some .int) 0 := ⟨mem_tg (List.mem_of_getElem? (i := 393) (by decide +kernel)) rfl, mem_tg (List.mem_of_getElem? (i := 41) (by decide +kernel)) rfl, mem_tg (List.mem_of_getElem? (i := 396) (by decide +kernel)) rfl, by decide +kernel, by decide +kernel, by decide +kernel⟩
theorem mv_X10_score : Cond.instanceMethod yX10_score ∈ tg ∧ Cond.selects yX10_score.cls yX10_score yX10_score ∈ tg := ⟨mem_tg (List.mem_of_getElem? (i := 394) (by decide +kernel)) rfl, mem_tg (List.mem_of_getElem? (i := 395) (by decide +kernel)) rfl⟩
theorem mb_X10_79 : MB RX10 79 yX4_readAll cX4_readAll 4 (some .boolean) 0 := ⟨mem_tg (List.mem_of_getElem? (i := 397) (by decide +kernel)) rfl, mem_tg (List.mem_of_getElem? (i := 43) (by decide +kernel)) rfl, mem_tg (List.mem_of_getElem? (i := 400) (by decide +kernel)) rfl, by decide +kernel, by decide +kernel, by decide +kernel⟩
theorem mv_X4_readAll : Cond.instanceMethod yX4_readAll ∈ tg ∧ Cond.selects yX4_readAll.cls yX4_readAll yX4_readAll ∈ tg := ⟨mem_tg (List.mem_of_getElem? (i := 398) (by decide +kernel)) rfl, mem_tg (List.mem_of_getElem? (i := 399) (by decide +kernel)) rfl⟩
theorem mb_X4_35 : MB RX4 35 yX4_start cX4_start 1 none 0 := ⟨mem_tg (List.mem_of_getElem? (i := 401) (by decide +kernel)) rfl, mem_tg (List.mem_of_getElem? (i := 43) (by decide +kernel)) rfl, mem_tg (List.mem_of_getElem? (i := 404) (by decide +kernel)) rfl, by decide +kernel, by decide +kernel, by decide +kernel⟩
theorem mv_X4_start : Cond.instanceMethod yX4_start ∈ tg ∧ Cond.selects yX4_start.cls yX4_start yX4_start ∈ tg := ⟨mem_tg (List.mem_of_getElem? (i := 403) (by decide +kernel)) rfl, mem_tg (List.mem_of_getElem? (i := 0) (by decide +kernel)) rfl⟩
theorem mb_X4_77 : MB RX4 77 yX5_clear cX5_clear 1 none 0 := ⟨mem_tg (List.mem_of_getElem? (i := 405) (by decide +kernel)) rfl, mem_tg (List.mem_of_getElem? (i := 44) (by decide +kernel)) rfl, mem_tg (List.mem_of_getElem? (i := 408) (by decide +kernel)) rfl, by decide +kernel, by decide +kernel, by decide +kernel⟩
theorem mv_X5_clear : Cond.instanceMethod yX5_clear ∈ tg ∧ Cond.selects yX5_clear.cls yX5_clear yX5_clear ∈ tg := ⟨mem_tg (List.mem_of_getElem? (i := 406) (by decide +kernel)) rfl, mem_tg (List.mem_of_getElem? (i := 407) (by decide +kernel)) rfl⟩
theorem mb_X4_39 : MB RX4 39 yX4_nextSign cX4_nextSign 2 (some .int) 0 := ⟨mem_tg (List.mem_of_getElem? (i := 410) (by decide +kernel)) rfl, mem_tg (List.mem_of_getElem? (i := 43) (by decide +kernel)) rfl, mem_tg (List.mem_of_getElem? (i := 413) (by decide +kernel)) rfl, by decide +kernel, by decide +kernel, by decide +kernel⟩
theorem mv_X4_nextSign : Cond.instanceMethod yX4_nextSign ∈ tg ∧ Cond.selects yX4_nextSign.cls yX4_nextSign yX4_nextSign ∈ tg := ⟨mem_tg (List.mem_of_getElem? (i := 412) (by decide +kernel)) rfl, mem_tg (List.mem_of_getElem? (i := 1) (by decide +kernel)) rfl⟩
theorem mb_X4_131 : MB RX4 131 yX4_signHere cX4_signHere 1 (some .int) 0 := ⟨mem_tg (List.mem_of_getElem? (i := 414) (by decide +kernel)) rfl, mem_tg (List.mem_of_getElem? (i := 43) (by decide +kernel)) rfl, mem_tg (List.mem_of_getElem? (i := 417) (by decide +kernel)) rfl, by decide +kernel, by decide +kernel, by decide +kernel⟩
theorem mv_X4_signHere : Cond.instanceMethod yX4_signHere ∈ tg ∧ Cond.selects yX4_signHere.cls yX4_signHere yX4_signHere ∈ tg := ⟨mem_tg (List.mem_of_getElem? (i := 416) (by decide +kernel)) rfl, mem_tg (List.mem_of_getElem? (i := 2) (by decide +kernel)) rfl⟩
theorem mb_X4_43 : MB RX4 43 yX4_isDigit cX4_isDigit 1 (some .boolean) 1 := ⟨mem_tg (List.mem_of_getElem? (i := 418) (by decide +kernel)) rfl, mem_tg (List.mem_of_getElem? (i := 43) (by decide +kernel)) rfl, mem_tg (List.mem_of_getElem? (i := 420) (by decide +kernel)) rfl, by decide +kernel, by decide +kernel, by decide +kernel⟩
theorem ms_X4_isDigit : Cond.static yX4_isDigit ∈ tg := mem_tg (List.mem_of_getElem? (i := 419) (by decide +kernel)) rfl
theorem mb_X4_47 : MB RX4 47 yX4_openGroup cX4_openGroup 2 none 0 := ⟨mem_tg (List.mem_of_getElem? (i := 421) (by decide +kernel)) rfl, mem_tg (List.mem_of_getElem? (i := 43) (by decide +kernel)) rfl, mem_tg (List.mem_of_getElem? (i := 424) (by decide +kernel)) rfl, by decide +kernel, by decide +kernel, by decide +kernel⟩
theorem mv_X4_openGroup : Cond.instanceMethod yX4_openGroup ∈ tg ∧ Cond.selects yX4_openGroup.cls yX4_openGroup yX4_openGroup ∈ tg := ⟨mem_tg (List.mem_of_getElem? (i := 423) (by decide +kernel)) rfl, mem_tg (List.mem_of_getElem? (i := 3) (by decide +kernel)) rfl⟩
theorem mb_X4_86 : MB RX4 86 yX4_readNumber cX4_readNumber 6 (some .int) 2 := ⟨mem_tg (List.mem_of_getElem? (i := 425) (by decide +kernel)) rfl, mem_tg (List.mem_of_getElem? (i := 43) (by decide +kernel)) rfl, mem_tg (List.mem_of_getElem? (i := 428) (by decide +kernel)) rfl, by decide +kernel, by decide +kernel, by decide +kernel⟩
theorem mv_X4_readNumber : Cond.instanceMethod yX4_readNumber ∈ tg ∧ Cond.selects yX4_readNumber.cls yX4_readNumber yX4_readNumber ∈ tg := ⟨mem_tg (List.mem_of_getElem? (i := 427) (by decide +kernel)) rfl, mem_tg (List.mem_of_getElem? (i := 4) (by decide +kernel)) rfl⟩
theorem mb_X4_64 : MB RX4 64 yX4_fail cX4_fail 3 none 2 := ⟨mem_tg (List.mem_of_getElem? (i := 429) (by decide +kernel)) rfl, mem_tg (List.mem_of_getElem? (i := 43) (by decide +kernel)) rfl, mem_tg (List.mem_of_getElem? (i := 432) (by decide +kernel)) rfl, by decide +kernel, by decide +kernel, by decide +kernel⟩
theorem mv_X4_fail : Cond.instanceMethod yX4_fail ∈ tg ∧ Cond.selects yX4_fail.cls yX4_fail yX4_fail ∈ tg := ⟨mem_tg (List.mem_of_getElem? (i := 431) (by decide +kernel)) rfl, mem_tg (List.mem_of_getElem? (i := 5) (by decide +kernel)) rfl⟩
theorem mb_X4_90 : MB RX4 90 yX4_expect cX4_expect 2 none 1 := ⟨mem_tg (List.mem_of_getElem? (i := 433) (by decide +kernel)) rfl, mem_tg (List.mem_of_getElem? (i := 43) (by decide +kernel)) rfl, mem_tg (List.mem_of_getElem? (i := 436) (by decide +kernel)) rfl, by decide +kernel, by decide +kernel, by decide +kernel⟩
theorem mv_X4_expect : Cond.instanceMethod yX4_expect ∈ tg ∧ Cond.selects yX4_expect.cls yX4_expect yX4_expect ∈ tg := ⟨mem_tg (List.mem_of_getElem? (i := 435) (by decide +kernel)) rfl, mem_tg (List.mem_of_getElem? (i := 6) (by decide +kernel)) rfl⟩
theorem mb_X4_50 : MB RX4 50 yX4_closeGroup cX4_closeGroup 3 none 0 := ⟨mem_tg (List.mem_of_getElem? (i := 437) (by decide +kernel)) rfl, mem_tg (List.mem_of_getElem? (i := 43) (by decide +kernel)) rfl, mem_tg (List.mem_of_getElem? (i := 440) (by decide +kernel)) rfl, by decide +kernel, by decide +kernel, by decide +kernel⟩
theorem mv_X4_closeGroup : Cond.instanceMethod yX4_closeGroup ∈ tg ∧ Cond.selects yX4_closeGroup.cls yX4_closeGroup yX4_closeGroup ∈ tg := ⟨mem_tg (List.mem_of_getElem? (i := 439) (by decide +kernel)) rfl, mem_tg (List.mem_of_getElem? (i := 7) (by decide +kernel)) rfl⟩
theorem mb_X4_53 : MB RX4 53 yX4_readItem cX4_readItem 3 none 1 := ⟨mem_tg (List.mem_of_getElem? (i := 441) (by decide +kernel)) rfl, mem_tg (List.mem_of_getElem? (i := 43) (by decide +kernel)) rfl, mem_tg (List.mem_of_getElem? (i := 444) (by decide +kernel)) rfl, by decide +kernel, by decide +kernel, by decide +kernel⟩
theorem mv_X4_readItem : Cond.instanceMethod yX4_readItem ∈ tg ∧ Cond.selects yX4_readItem.cls yX4_readItem yX4_readItem ∈ tg := ⟨mem_tg (List.mem_of_getElem? (i := 443) (by decide +kernel)) rfl, mem_tg (List.mem_of_getElem? (i := 8) (by decide +kernel)) rfl⟩
theorem mb_X4_97 : MB RX4 97 yX4_readBell cX4_readBell 3 (some .int) 0 := ⟨mem_tg (List.mem_of_getElem? (i := 445) (by decide +kernel)) rfl, mem_tg (List.mem_of_getElem? (i := 43) (by decide +kernel)) rfl, mem_tg (List.mem_of_getElem? (i := 448) (by decide +kernel)) rfl, by decide +kernel, by decide +kernel, by decide +kernel⟩
theorem mv_X4_readBell : Cond.instanceMethod yX4_readBell ∈ tg ∧ Cond.selects yX4_readBell.cls yX4_readBell yX4_readBell ∈ tg := ⟨mem_tg (List.mem_of_getElem? (i := 447) (by decide +kernel)) rfl, mem_tg (List.mem_of_getElem? (i := 9) (by decide +kernel)) rfl⟩
theorem mb_X4_116 : MB RX4 116 yJ6_bitCount_0f7a4 cJ6_bitCount_0f7a4 1 (some .int) 1 := ⟨mem_tg (List.mem_of_getElem? (i := 449) (by decide +kernel)) rfl, mem_tg (List.mem_of_getElem? (i := 53) (by decide +kernel)) rfl, mem_tg (List.mem_of_getElem? (i := 451) (by decide +kernel)) rfl, by decide +kernel, by decide +kernel, by decide +kernel⟩
theorem ms_J6_bitCount_0f7a4 : Cond.static yJ6_bitCount_0f7a4 ∈ tg := mem_tg (List.mem_of_getElem? (i := 450) (by decide +kernel)) rfl
theorem mb_X4_100 : MB RX4 100 yX4_readChord cX4_readChord 2 none 0 := ⟨mem_tg (List.mem_of_getElem? (i := 455) (by decide +kernel)) rfl, mem_tg (List.mem_of_getElem? (i := 43) (by decide +kernel)) rfl, mem_tg (List.mem_of_getElem? (i := 458) (by decide +kernel)) rfl, by decide +kernel, by decide +kernel, by decide +kernel⟩
theorem mv_X4_readChord : Cond.instanceMethod yX4_readChord ∈ tg ∧ Cond.selects yX4_readChord.cls yX4_readChord yX4_readChord ∈ tg := ⟨mem_tg (List.mem_of_getElem? (i := 457) (by decide +kernel)) rfl, mem_tg (List.mem_of_getElem? (i := 10) (by decide +kernel)) rfl⟩
theorem mb_X4_109 : MB RX4 109 yX4_readLength cX4_readLength 2 none 0 := ⟨mem_tg (List.mem_of_getElem? (i := 459) (by decide +kernel)) rfl, mem_tg (List.mem_of_getElem? (i := 43) (by decide +kernel)) rfl, mem_tg (List.mem_of_getElem? (i := 462) (by decide +kernel)) rfl, by decide +kernel, by decide +kernel, by decide +kernel⟩
theorem mv_X4_readLength : Cond.instanceMethod yX4_readLength ∈ tg ∧ Cond.selects yX4_readLength.cls yX4_readLength yX4_readLength ∈ tg := ⟨mem_tg (List.mem_of_getElem? (i := 461) (by decide +kernel)) rfl, mem_tg (List.mem_of_getElem? (i := 11) (by decide +kernel)) rfl⟩
theorem mb_X4_112 : MB RX4 112 yX4_writeItem cX4_writeItem 5 none 2 := ⟨mem_tg (List.mem_of_getElem? (i := 463) (by decide +kernel)) rfl, mem_tg (List.mem_of_getElem? (i := 43) (by decide +kernel)) rfl, mem_tg (List.mem_of_getElem? (i := 466) (by decide +kernel)) rfl, by decide +kernel, by decide +kernel, by decide +kernel⟩
theorem mv_X4_writeItem : Cond.instanceMethod yX4_writeItem ∈ tg ∧ Cond.selects yX4_writeItem.cls yX4_writeItem yX4_writeItem ∈ tg := ⟨mem_tg (List.mem_of_getElem? (i := 465) (by decide +kernel)) rfl, mem_tg (List.mem_of_getElem? (i := 12) (by decide +kernel)) rfl⟩
theorem mb_X4_128 : MB RX4 128 yX5_addStrike cX5_addStrike 3 none 2 := ⟨mem_tg (List.mem_of_getElem? (i := 467) (by decide +kernel)) rfl, mem_tg (List.mem_of_getElem? (i := 44) (by decide +kernel)) rfl, mem_tg (List.mem_of_getElem? (i := 470) (by decide +kernel)) rfl, by decide +kernel, by decide +kernel, by decide +kernel⟩
theorem mv_X5_addStrike : Cond.instanceMethod yX5_addStrike ∈ tg ∧ Cond.selects yX5_addStrike.cls yX5_addStrike yX5_addStrike ∈ tg := ⟨mem_tg (List.mem_of_getElem? (i := 468) (by decide +kernel)) rfl, mem_tg (List.mem_of_getElem? (i := 469) (by decide +kernel)) rfl⟩
theorem mb_X10_93 : MB RX10 93 yX5_copyFrom cX5_copyFrom 2 none 1 := ⟨mem_tg (List.mem_of_getElem? (i := 471) (by decide +kernel)) rfl, mem_tg (List.mem_of_getElem? (i := 44) (by decide +kernel)) rfl, mem_tg (List.mem_of_getElem? (i := 474) (by decide +kernel)) rfl, by decide +kernel, by decide +kernel, by decide +kernel⟩
theorem mv_X5_copyFrom : Cond.instanceMethod yX5_copyFrom ∈ tg ∧ Cond.selects yX5_copyFrom.cls yX5_copyFrom yX5_copyFrom ∈ tg := ⟨mem_tg (List.mem_of_getElem? (i := 472) (by decide +kernel)) rfl, mem_tg (List.mem_of_getElem? (i := 473) (by decide +kernel)) rfl⟩
theorem cp_X5_31 : Cond.methodLink RX5 31 arraycopyName ∈ tg := mem_tg (List.mem_of_getElem? (i := 475) (by decide +kernel)) rfl
theorem mb_L_28 : MB RL 28 yX10_fault cX10_fault 2 (some .int) 1 := ⟨mem_tg (List.mem_of_getElem? (i := 478) (by decide +kernel)) rfl, mem_tg (List.mem_of_getElem? (i := 41) (by decide +kernel)) rfl, mem_tg (List.mem_of_getElem? (i := 481) (by decide +kernel)) rfl, by decide +kernel, by decide +kernel, by decide +kernel⟩
theorem mv_X10_fault : Cond.instanceMethod yX10_fault ∈ tg ∧ Cond.selects yX10_fault.cls yX10_fault yX10_fault ∈ tg := ⟨mem_tg (List.mem_of_getElem? (i := 479) (by decide +kernel)) rfl, mem_tg (List.mem_of_getElem? (i := 480) (by decide +kernel)) rfl⟩
theorem mb_L_33 : MB RL 33 yX10_strike cX10_strike 3 (some .int) 2 := ⟨mem_tg (List.mem_of_getElem? (i := 482) (by decide +kernel)) rfl, mem_tg (List.mem_of_getElem? (i := 41) (by decide +kernel)) rfl, mem_tg (List.mem_of_getElem? (i := 485) (by decide +kernel)) rfl, by decide +kernel, by decide +kernel, by decide +kernel⟩
theorem mv_X10_strike : Cond.instanceMethod yX10_strike ∈ tg ∧ Cond.selects yX10_strike.cls yX10_strike yX10_strike ∈ tg := ⟨mem_tg (List.mem_of_getElem? (i := 483) (by decide +kernel)) rfl, mem_tg (List.mem_of_getElem? (i := 484) (by decide +kernel)) rfl⟩
theorem mb_X10_99 : MB RX10 99 yX5_has cX5_has 2 (some .boolean) 1 := ⟨mem_tg (List.mem_of_getElem? (i := 486) (by decide +kernel)) rfl, mem_tg (List.mem_of_getElem? (i := 44) (by decide +kernel)) rfl, mem_tg (List.mem_of_getElem? (i := 489) (by decide +kernel)) rfl, by decide +kernel, by decide +kernel, by decide +kernel⟩
theorem mv_X5_has : Cond.instanceMethod yX5_has ∈ tg ∧ Cond.selects yX5_has.cls yX5_has yX5_has ∈ tg := ⟨mem_tg (List.mem_of_getElem? (i := 487) (by decide +kernel)) rfl, mem_tg (List.mem_of_getElem? (i := 488) (by decide +kernel)) rfl⟩
theorem mb_L_38 : MB RL 38 yX10_count cX10_count 2 (some .int) 1 := ⟨mem_tg (List.mem_of_getElem? (i := 490) (by decide +kernel)) rfl, mem_tg (List.mem_of_getElem? (i := 41) (by decide +kernel)) rfl, mem_tg (List.mem_of_getElem? (i := 493) (by decide +kernel)) rfl, by decide +kernel, by decide +kernel, by decide +kernel⟩
theorem mv_X10_count : Cond.instanceMethod yX10_count ∈ tg ∧ Cond.selects yX10_count.cls yX10_count yX10_count ∈ tg := ⟨mem_tg (List.mem_of_getElem? (i := 491) (by decide +kernel)) rfl, mem_tg (List.mem_of_getElem? (i := 492) (by decide +kernel)) rfl⟩
theorem mb_X10_113 : MB RX10 113 yX10_theSetting cX10_theSetting 1 (some (.object "CarillonDesk$Setting")) 0 := ⟨mem_tg (List.mem_of_getElem? (i := 494) (by decide +kernel)) rfl, mem_tg (List.mem_of_getElem? (i := 41) (by decide +kernel)) rfl, mem_tg (List.mem_of_getElem? (i := 497) (by decide +kernel)) rfl, by decide +kernel, by decide +kernel, by decide +kernel⟩
theorem mv_X10_theSetting : Cond.instanceMethod yX10_theSetting ∈ tg ∧ Cond.selects yX10_theSetting.cls yX10_theSetting yX10_theSetting ∈ tg := ⟨mem_tg (List.mem_of_getElem? (i := 496) (by decide +kernel)) rfl, mem_tg (List.mem_of_getElem? (i := 13) (by decide +kernel)) rfl⟩
theorem mb_X10_227 : MB RX10 227 yX6_settle cX6_settle 5 none 2 := ⟨mem_tg (List.mem_of_getElem? (i := 498) (by decide +kernel)) rfl, mem_tg (List.mem_of_getElem? (i := 49) (by decide +kernel)) rfl, mem_tg (List.mem_of_getElem? (i := 501) (by decide +kernel)) rfl, by decide +kernel, by decide +kernel, by decide +kernel⟩
theorem mv_X6_settle : Cond.instanceMethod yX6_settle ∈ tg ∧ Cond.selects yX6_settle.cls yX6_settle yX6_settle ∈ tg := ⟨mem_tg (List.mem_of_getElem? (i := 499) (by decide +kernel)) rfl, mem_tg (List.mem_of_getElem? (i := 500) (by decide +kernel)) rfl⟩
theorem mb_X6_37 : MB RX6 37 yX6_spot cX6_spot 2 (some .int) 2 := ⟨mem_tg (List.mem_of_getElem? (i := 502) (by decide +kernel)) rfl, mem_tg (List.mem_of_getElem? (i := 49) (by decide +kernel)) rfl, mem_tg (List.mem_of_getElem? (i := 504) (by decide +kernel)) rfl, by decide +kernel, by decide +kernel, by decide +kernel⟩
theorem ms_X6_spot : Cond.static yX6_spot ∈ tg := mem_tg (List.mem_of_getElem? (i := 503) (by decide +kernel)) rfl
theorem mb_X6_41 : MB RX6 41 yX6_leastRest cX6_leastRest 9 (some .int) 2 := ⟨mem_tg (List.mem_of_getElem? (i := 505) (by decide +kernel)) rfl, mem_tg (List.mem_of_getElem? (i := 49) (by decide +kernel)) rfl, mem_tg (List.mem_of_getElem? (i := 508) (by decide +kernel)) rfl, by decide +kernel, by decide +kernel, by decide +kernel⟩
theorem mv_X6_leastRest : Cond.instanceMethod yX6_leastRest ∈ tg ∧ Cond.selects yX6_leastRest.cls yX6_leastRest yX6_leastRest ∈ tg := ⟨mem_tg (List.mem_of_getElem? (i := 507) (by decide +kernel)) rfl, mem_tg (List.mem_of_getElem? (i := 14) (by decide +kernel)) rfl⟩
theorem mm_X6_50 : Cond.methodLink RX6 50 Lib.Math.max.name ∈ tg := mem_tg (List.mem_of_getElem? (i := 509) (by decide +kernel)) rfl
theorem mb_X6_55 : MB RX6 55 yX6_costBy cX6_costBy 7 (some .int) 4 := ⟨mem_tg (List.mem_of_getElem? (i := 512) (by decide +kernel)) rfl, mem_tg (List.mem_of_getElem? (i := 49) (by decide +kernel)) rfl, mem_tg (List.mem_of_getElem? (i := 515) (by decide +kernel)) rfl, by decide +kernel, by decide +kernel, by decide +kernel⟩
theorem mv_X6_costBy : Cond.instanceMethod yX6_costBy ∈ tg ∧ Cond.selects yX6_costBy.cls yX6_costBy yX6_costBy ∈ tg := ⟨mem_tg (List.mem_of_getElem? (i := 514) (by decide +kernel)) rfl, mem_tg (List.mem_of_getElem? (i := 15) (by decide +kernel)) rfl⟩
theorem mb_X6_65 : MB RX6 65 yX6_moveTo cX6_moveTo 5 (some .int) 2 := ⟨mem_tg (List.mem_of_getElem? (i := 516) (by decide +kernel)) rfl, mem_tg (List.mem_of_getElem? (i := 49) (by decide +kernel)) rfl, mem_tg (List.mem_of_getElem? (i := 519) (by decide +kernel)) rfl, by decide +kernel, by decide +kernel, by decide +kernel⟩
theorem mv_X6_moveTo : Cond.instanceMethod yX6_moveTo ∈ tg ∧ Cond.selects yX6_moveTo.cls yX6_moveTo yX6_moveTo ∈ tg := ⟨mem_tg (List.mem_of_getElem? (i := 518) (by decide +kernel)) rfl, mem_tg (List.mem_of_getElem? (i := 16) (by decide +kernel)) rfl⟩
theorem mb_X6_68 : MB RX6 68 yX5_bellsBetween cX5_bellsBetween 3 (some .int) 2 := ⟨mem_tg (List.mem_of_getElem? (i := 520) (by decide +kernel)) rfl, mem_tg (List.mem_of_getElem? (i := 44) (by decide +kernel)) rfl, mem_tg (List.mem_of_getElem? (i := 523) (by decide +kernel)) rfl, by decide +kernel, by decide +kernel, by decide +kernel⟩
theorem mv_X5_bellsBetween : Cond.instanceMethod yX5_bellsBetween ∈ tg ∧ Cond.selects yX5_bellsBetween.cls yX5_bellsBetween yX5_bellsBetween ∈ tg := ⟨mem_tg (List.mem_of_getElem? (i := 521) (by decide +kernel)) rfl, mem_tg (List.mem_of_getElem? (i := 522) (by decide +kernel)) rfl⟩
theorem mm_X5_25 : Cond.methodLink RX5 25 Lib.Math.abs.name ∈ tg := mem_tg (List.mem_of_getElem? (i := 524) (by decide +kernel)) rfl
theorem mm_X6_59 : Cond.methodLink RX6 59 Lib.Math.min.name ∈ tg := mem_tg (List.mem_of_getElem? (i := 527) (by decide +kernel)) rfl
theorem mb_X6_47 : MB RX6 47 yX6_walk cX6_walk 5 none 0 := ⟨mem_tg (List.mem_of_getElem? (i := 530) (by decide +kernel)) rfl, mem_tg (List.mem_of_getElem? (i := 49) (by decide +kernel)) rfl, mem_tg (List.mem_of_getElem? (i := 533) (by decide +kernel)) rfl, by decide +kernel, by decide +kernel, by decide +kernel⟩
theorem mv_X6_walk : Cond.instanceMethod yX6_walk ∈ tg ∧ Cond.selects yX6_walk.cls yX6_walk yX6_walk ∈ tg := ⟨mem_tg (List.mem_of_getElem? (i := 532) (by decide +kernel)) rfl, mem_tg (List.mem_of_getElem? (i := 17) (by decide +kernel)) rfl⟩
theorem mb_L_42 : MB RL 42 yX10_fists cX10_fists 3 (some .boolean) 2 := ⟨mem_tg (List.mem_of_getElem? (i := 534) (by decide +kernel)) rfl, mem_tg (List.mem_of_getElem? (i := 41) (by decide +kernel)) rfl, mem_tg (List.mem_of_getElem? (i := 537) (by decide +kernel)) rfl, by decide +kernel, by decide +kernel, by decide +kernel⟩
theorem mv_X10_fists : Cond.instanceMethod yX10_fists ∈ tg ∧ Cond.selects yX10_fists.cls yX10_fists yX10_fists ∈ tg := ⟨mem_tg (List.mem_of_getElem? (i := 535) (by decide +kernel)) rfl, mem_tg (List.mem_of_getElem? (i := 536) (by decide +kernel)) rfl⟩
theorem mb_L_47 : MB RL 47 yX10_cost cX10_cost 1 (some .int) 0 := ⟨mem_tg (List.mem_of_getElem? (i := 538) (by decide +kernel)) rfl, mem_tg (List.mem_of_getElem? (i := 41) (by decide +kernel)) rfl, mem_tg (List.mem_of_getElem? (i := 541) (by decide +kernel)) rfl, by decide +kernel, by decide +kernel, by decide +kernel⟩
theorem mv_X10_cost : Cond.instanceMethod yX10_cost ∈ tg ∧ Cond.selects yX10_cost.cls yX10_cost yX10_cost ∈ tg := ⟨mem_tg (List.mem_of_getElem? (i := 539) (by decide +kernel)) rfl, mem_tg (List.mem_of_getElem? (i := 540) (by decide +kernel)) rfl⟩
theorem mb_L_51 : MB RL 51 yX10_need cX10_need 1 (some .int) 0 := ⟨mem_tg (List.mem_of_getElem? (i := 542) (by decide +kernel)) rfl, mem_tg (List.mem_of_getElem? (i := 41) (by decide +kernel)) rfl, mem_tg (List.mem_of_getElem? (i := 545) (by decide +kernel)) rfl, by decide +kernel, by decide +kernel, by decide +kernel⟩
theorem mv_X10_need : Cond.instanceMethod yX10_need ∈ tg ∧ Cond.selects yX10_need.cls yX10_need yX10_need ∈ tg := ⟨mem_tg (List.mem_of_getElem? (i := 543) (by decide +kernel)) rfl, mem_tg (List.mem_of_getElem? (i := 544) (by decide +kernel)) rfl⟩
theorem mb_X10_129 : MB RX10 129 yX3_leastReach cX3_leastReach 4 (some .int) 0 := ⟨mem_tg (List.mem_of_getElem? (i := 546) (by decide +kernel)) rfl, mem_tg (List.mem_of_getElem? (i := 50) (by decide +kernel)) rfl, mem_tg (List.mem_of_getElem? (i := 549) (by decide +kernel)) rfl, by decide +kernel, by decide +kernel, by decide +kernel⟩
theorem mv_X3_leastReach : Cond.instanceMethod yX3_leastReach ∈ tg ∧ Cond.selects yX3_leastReach.cls yX3_leastReach yX3_leastReach ∈ tg := ⟨mem_tg (List.mem_of_getElem? (i := 547) (by decide +kernel)) rfl, mem_tg (List.mem_of_getElem? (i := 548) (by decide +kernel)) rfl⟩
theorem mb_X3_26 : MB RX3 26 yX3_handOver cX3_handOver 5 (some .int) 2 := ⟨mem_tg (List.mem_of_getElem? (i := 550) (by decide +kernel)) rfl, mem_tg (List.mem_of_getElem? (i := 50) (by decide +kernel)) rfl, mem_tg (List.mem_of_getElem? (i := 553) (by decide +kernel)) rfl, by decide +kernel, by decide +kernel, by decide +kernel⟩
theorem mv_X3_handOver : Cond.instanceMethod yX3_handOver ∈ tg ∧ Cond.selects yX3_handOver.cls yX3_handOver yX3_handOver ∈ tg := ⟨mem_tg (List.mem_of_getElem? (i := 552) (by decide +kernel)) rfl, mem_tg (List.mem_of_getElem? (i := 18) (by decide +kernel)) rfl⟩
theorem mb_X3_43 : MB RX3 43 yX3_reachFor cX3_reachFor 4 (some .int) 2 := ⟨mem_tg (List.mem_of_getElem? (i := 554) (by decide +kernel)) rfl, mem_tg (List.mem_of_getElem? (i := 50) (by decide +kernel)) rfl, mem_tg (List.mem_of_getElem? (i := 557) (by decide +kernel)) rfl, by decide +kernel, by decide +kernel, by decide +kernel⟩
theorem mv_X3_reachFor : Cond.instanceMethod yX3_reachFor ∈ tg ∧ Cond.selects yX3_reachFor.cls yX3_reachFor yX3_reachFor ∈ tg := ⟨mem_tg (List.mem_of_getElem? (i := 556) (by decide +kernel)) rfl, mem_tg (List.mem_of_getElem? (i := 19) (by decide +kernel)) rfl⟩
theorem mb_X3_49 : MB RX3 49 yX5_bellsBetween cX5_bellsBetween 3 (some .int) 2 := ⟨mem_tg (List.mem_of_getElem? (i := 558) (by decide +kernel)) rfl, mem_tg (List.mem_of_getElem? (i := 44) (by decide +kernel)) rfl, mem_tg (List.mem_of_getElem? (i := 523) (by decide +kernel)) rfl, by decide +kernel, by decide +kernel, by decide +kernel⟩
theorem mm_X3_46 : Cond.methodLink RX3 46 Lib.Math.max.name ∈ tg := mem_tg (List.mem_of_getElem? (i := 559) (by decide +kernel)) rfl
theorem mm_X3_34 : Cond.methodLink RX3 34 Lib.Math.min.name ∈ tg := mem_tg (List.mem_of_getElem? (i := 560) (by decide +kernel)) rfl
theorem mb_X3_30 : MB RX3 30 yX3_stay cX3_stay 5 none 2 := ⟨mem_tg (List.mem_of_getElem? (i := 561) (by decide +kernel)) rfl, mem_tg (List.mem_of_getElem? (i := 50) (by decide +kernel)) rfl, mem_tg (List.mem_of_getElem? (i := 564) (by decide +kernel)) rfl, by decide +kernel, by decide +kernel, by decide +kernel⟩
theorem mv_X3_stay : Cond.instanceMethod yX3_stay ∈ tg ∧ Cond.selects yX3_stay.cls yX3_stay yX3_stay ∈ tg := ⟨mem_tg (List.mem_of_getElem? (i := 563) (by decide +kernel)) rfl, mem_tg (List.mem_of_getElem? (i := 20) (by decide +kernel)) rfl⟩
theorem mb_L_55 : MB RL 55 yX10_by cX10_by 2 (some .int) 1 := ⟨mem_tg (List.mem_of_getElem? (i := 565) (by decide +kernel)) rfl, mem_tg (List.mem_of_getElem? (i := 41) (by decide +kernel)) rfl, mem_tg (List.mem_of_getElem? (i := 568) (by decide +kernel)) rfl, by decide +kernel, by decide +kernel, by decide +kernel⟩
theorem mv_X10_by : Cond.instanceMethod yX10_by ∈ tg ∧ Cond.selects yX10_by.cls yX10_by yX10_by ∈ tg := ⟨mem_tg (List.mem_of_getElem? (i := 566) (by decide +kernel)) rfl, mem_tg (List.mem_of_getElem? (i := 567) (by decide +kernel)) rfl⟩
theorem mb_L_59 : MB RL 59 yX10_way cX10_way 2 (some .int) 1 := ⟨mem_tg (List.mem_of_getElem? (i := 569) (by decide +kernel)) rfl, mem_tg (List.mem_of_getElem? (i := 41) (by decide +kernel)) rfl, mem_tg (List.mem_of_getElem? (i := 572) (by decide +kernel)) rfl, by decide +kernel, by decide +kernel, by decide +kernel⟩
theorem mv_X10_way : Cond.instanceMethod yX10_way ∈ tg ∧ Cond.selects yX10_way.cls yX10_way yX10_way ∈ tg := ⟨mem_tg (List.mem_of_getElem? (i := 570) (by decide +kernel)) rfl, mem_tg (List.mem_of_getElem? (i := 571) (by decide +kernel)) rfl⟩
theorem mb_L_63 : MB RL 63 yX10_tail cX10_tail 4 (some .int) 2 := ⟨mem_tg (List.mem_of_getElem? (i := 573) (by decide +kernel)) rfl, mem_tg (List.mem_of_getElem? (i := 41) (by decide +kernel)) rfl, mem_tg (List.mem_of_getElem? (i := 576) (by decide +kernel)) rfl, by decide +kernel, by decide +kernel, by decide +kernel⟩
theorem mv_X10_tail : Cond.instanceMethod yX10_tail ∈ tg ∧ Cond.selects yX10_tail.cls yX10_tail yX10_tail ∈ tg := ⟨mem_tg (List.mem_of_getElem? (i := 574) (by decide +kernel)) rfl, mem_tg (List.mem_of_getElem? (i := 575) (by decide +kernel)) rfl⟩
theorem mb_X10_139 : MB RX10 139 yX10_isBell cX10_isBell 1 (some .boolean) 1 := ⟨mem_tg (List.mem_of_getElem? (i := 577) (by decide +kernel)) rfl, mem_tg (List.mem_of_getElem? (i := 41) (by decide +kernel)) rfl, mem_tg (List.mem_of_getElem? (i := 579) (by decide +kernel)) rfl, by decide +kernel, by decide +kernel, by decide +kernel⟩
theorem ms_X10_isBell : Cond.static yX10_isBell ∈ tg := mem_tg (List.mem_of_getElem? (i := 578) (by decide +kernel)) rfl
theorem mb_L_67 : MB RL 67 yX10_quarrel cX10_quarrel 3 (some .int) 1 := ⟨mem_tg (List.mem_of_getElem? (i := 580) (by decide +kernel)) rfl, mem_tg (List.mem_of_getElem? (i := 41) (by decide +kernel)) rfl, mem_tg (List.mem_of_getElem? (i := 583) (by decide +kernel)) rfl, by decide +kernel, by decide +kernel, by decide +kernel⟩
theorem mv_X10_quarrel : Cond.instanceMethod yX10_quarrel ∈ tg ∧ Cond.selects yX10_quarrel.cls yX10_quarrel yX10_quarrel ∈ tg := ⟨mem_tg (List.mem_of_getElem? (i := 581) (by decide +kernel)) rfl, mem_tg (List.mem_of_getElem? (i := 582) (by decide +kernel)) rfl⟩
theorem mb_L_71 : MB RL 71 yX10_quarrels cX10_quarrels 1 (some .int) 0 := ⟨mem_tg (List.mem_of_getElem? (i := 584) (by decide +kernel)) rfl, mem_tg (List.mem_of_getElem? (i := 41) (by decide +kernel)) rfl, mem_tg (List.mem_of_getElem? (i := 587) (by decide +kernel)) rfl, by decide +kernel, by decide +kernel, by decide +kernel⟩
theorem mv_X10_quarrels : Cond.instanceMethod yX10_quarrels ∈ tg ∧ Cond.selects yX10_quarrels.cls yX10_quarrels yX10_quarrels ∈ tg := ⟨mem_tg (List.mem_of_getElem? (i := 585) (by decide +kernel)) rfl, mem_tg (List.mem_of_getElem? (i := 586) (by decide +kernel)) rfl⟩
theorem mb_X10_154 : MB RX10 154 yX8_quarrelTicks cX8_quarrelTicks 5 (some .int) 1 := ⟨mem_tg (List.mem_of_getElem? (i := 588) (by decide +kernel)) rfl, mem_tg (List.mem_of_getElem? (i := 46) (by decide +kernel)) rfl, mem_tg (List.mem_of_getElem? (i := 591) (by decide +kernel)) rfl, by decide +kernel, by decide +kernel, by decide +kernel⟩
theorem mv_X8_quarrelTicks : Cond.instanceMethod yX8_quarrelTicks ∈ tg ∧ Cond.selects yX8_quarrelTicks.cls yX8_quarrelTicks yX8_quarrelTicks ∈ tg := ⟨mem_tg (List.mem_of_getElem? (i := 589) (by decide +kernel)) rfl, mem_tg (List.mem_of_getElem? (i := 590) (by decide +kernel)) rfl⟩
theorem mb_X8_39 : MB RX8 39 yX8_soundLength cX8_soundLength 5 (some .int) 2 := ⟨mem_tg (List.mem_of_getElem? (i := 592) (by decide +kernel)) rfl, mem_tg (List.mem_of_getElem? (i := 46) (by decide +kernel)) rfl, mem_tg (List.mem_of_getElem? (i := 595) (by decide +kernel)) rfl, by decide +kernel, by decide +kernel, by decide +kernel⟩
theorem mv_X8_soundLength : Cond.instanceMethod yX8_soundLength ∈ tg ∧ Cond.selects yX8_soundLength.cls yX8_soundLength yX8_soundLength ∈ tg := ⟨mem_tg (List.mem_of_getElem? (i := 593) (by decide +kernel)) rfl, mem_tg (List.mem_of_getElem? (i := 594) (by decide +kernel)) rfl⟩
theorem mm_X8_33 : Cond.methodLink RX8 33 Lib.Math.min.name ∈ tg := mem_tg (List.mem_of_getElem? (i := 596) (by decide +kernel)) rfl
theorem mb_X8_43 : MB RX8 43 yX8_canQuarrel cX8_canQuarrel 5 (some .boolean) 3 := ⟨mem_tg (List.mem_of_getElem? (i := 597) (by decide +kernel)) rfl, mem_tg (List.mem_of_getElem? (i := 46) (by decide +kernel)) rfl, mem_tg (List.mem_of_getElem? (i := 600) (by decide +kernel)) rfl, by decide +kernel, by decide +kernel, by decide +kernel⟩
theorem mv_X8_canQuarrel : Cond.instanceMethod yX8_canQuarrel ∈ tg ∧ Cond.selects yX8_canQuarrel.cls yX8_canQuarrel yX8_canQuarrel ∈ tg := ⟨mem_tg (List.mem_of_getElem? (i := 599) (by decide +kernel)) rfl, mem_tg (List.mem_of_getElem? (i := 21) (by decide +kernel)) rfl⟩
theorem mb_X8_51 : MB RX8 51 yX5_bellsBetween cX5_bellsBetween 3 (some .int) 2 := ⟨mem_tg (List.mem_of_getElem? (i := 601) (by decide +kernel)) rfl, mem_tg (List.mem_of_getElem? (i := 44) (by decide +kernel)) rfl, mem_tg (List.mem_of_getElem? (i := 523) (by decide +kernel)) rfl, by decide +kernel, by decide +kernel, by decide +kernel⟩
theorem mb_X8_47 : MB RX8 47 yX8_ticksTogether cX8_ticksTogether 6 (some .int) 3 := ⟨mem_tg (List.mem_of_getElem? (i := 602) (by decide +kernel)) rfl, mem_tg (List.mem_of_getElem? (i := 46) (by decide +kernel)) rfl, mem_tg (List.mem_of_getElem? (i := 605) (by decide +kernel)) rfl, by decide +kernel, by decide +kernel, by decide +kernel⟩
theorem mv_X8_ticksTogether : Cond.instanceMethod yX8_ticksTogether ∈ tg ∧ Cond.selects yX8_ticksTogether.cls yX8_ticksTogether yX8_ticksTogether ∈ tg := ⟨mem_tg (List.mem_of_getElem? (i := 604) (by decide +kernel)) rfl, mem_tg (List.mem_of_getElem? (i := 22) (by decide +kernel)) rfl⟩
theorem mm_X8_54 : Cond.methodLink RX8 54 Lib.Math.max.name ∈ tg := mem_tg (List.mem_of_getElem? (i := 606) (by decide +kernel)) rfl
theorem mb_L_75 : MB RL 75 yX10_sounds cX10_sounds 2 (some .int) 1 := ⟨mem_tg (List.mem_of_getElem? (i := 607) (by decide +kernel)) rfl, mem_tg (List.mem_of_getElem? (i := 41) (by decide +kernel)) rfl, mem_tg (List.mem_of_getElem? (i := 610) (by decide +kernel)) rfl, by decide +kernel, by decide +kernel, by decide +kernel⟩
theorem mv_X10_sounds : Cond.instanceMethod yX10_sounds ∈ tg ∧ Cond.selects yX10_sounds.cls yX10_sounds yX10_sounds ∈ tg := ⟨mem_tg (List.mem_of_getElem? (i := 608) (by decide +kernel)) rfl, mem_tg (List.mem_of_getElem? (i := 609) (by decide +kernel)) rfl⟩
theorem mb_X10_158 : MB RX10 158 yX8_soundLength cX8_soundLength 5 (some .int) 2 := ⟨mem_tg (List.mem_of_getElem? (i := 611) (by decide +kernel)) rfl, mem_tg (List.mem_of_getElem? (i := 46) (by decide +kernel)) rfl, mem_tg (List.mem_of_getElem? (i := 595) (by decide +kernel)) rfl, by decide +kernel, by decide +kernel, by decide +kernel⟩
theorem mb_L_79 : MB RL 79 yX10_drum cX10_drum 2 (some .boolean) 1 := ⟨mem_tg (List.mem_of_getElem? (i := 612) (by decide +kernel)) rfl, mem_tg (List.mem_of_getElem? (i := 41) (by decide +kernel)) rfl, mem_tg (List.mem_of_getElem? (i := 615) (by decide +kernel)) rfl, by decide +kernel, by decide +kernel, by decide +kernel⟩
theorem mv_X10_drum : Cond.instanceMethod yX10_drum ∈ tg ∧ Cond.selects yX10_drum.cls yX10_drum yX10_drum ∈ tg := ⟨mem_tg (List.mem_of_getElem? (i := 613) (by decide +kernel)) rfl, mem_tg (List.mem_of_getElem? (i := 614) (by decide +kernel)) rfl⟩
theorem mb_X10_166 : MB RX10 166 yX1_renew cX1_renew 2 none 1 := ⟨mem_tg (List.mem_of_getElem? (i := 616) (by decide +kernel)) rfl, mem_tg (List.mem_of_getElem? (i := 47) (by decide +kernel)) rfl, mem_tg (List.mem_of_getElem? (i := 619) (by decide +kernel)) rfl, by decide +kernel, by decide +kernel, by decide +kernel⟩
theorem mv_X1_renew : Cond.instanceMethod yX1_renew ∈ tg ∧ Cond.selects yX1_renew.cls yX1_renew yX1_renew ∈ tg := ⟨mem_tg (List.mem_of_getElem? (i := 617) (by decide +kernel)) rfl, mem_tg (List.mem_of_getElem? (i := 618) (by decide +kernel)) rfl⟩
theorem mb_L_83 : MB RL 83 yX10_change cX10_change 1 (some .int) 0 := ⟨mem_tg (List.mem_of_getElem? (i := 620) (by decide +kernel)) rfl, mem_tg (List.mem_of_getElem? (i := 41) (by decide +kernel)) rfl, mem_tg (List.mem_of_getElem? (i := 623) (by decide +kernel)) rfl, by decide +kernel, by decide +kernel, by decide +kernel⟩
theorem mv_X10_change : Cond.instanceMethod yX10_change ∈ tg ∧ Cond.selects yX10_change.cls yX10_change yX10_change ∈ tg := ⟨mem_tg (List.mem_of_getElem? (i := 621) (by decide +kernel)) rfl, mem_tg (List.mem_of_getElem? (i := 622) (by decide +kernel)) rfl⟩
theorem mb_X10_171 : MB RX10 171 yX1_fits cX1_fits 2 (some .boolean) 1 := ⟨mem_tg (List.mem_of_getElem? (i := 624) (by decide +kernel)) rfl, mem_tg (List.mem_of_getElem? (i := 47) (by decide +kernel)) rfl, mem_tg (List.mem_of_getElem? (i := 627) (by decide +kernel)) rfl, by decide +kernel, by decide +kernel, by decide +kernel⟩
theorem mv_X1_fits : Cond.instanceMethod yX1_fits ∈ tg ∧ Cond.selects yX1_fits.cls yX1_fits yX1_fits ∈ tg := ⟨mem_tg (List.mem_of_getElem? (i := 625) (by decide +kernel)) rfl, mem_tg (List.mem_of_getElem? (i := 626) (by decide +kernel)) rfl⟩
theorem mb_X10_175 : MB RX10 175 yX9_find cX9_find 6 none 2 := ⟨mem_tg (List.mem_of_getElem? (i := 628) (by decide +kernel)) rfl, mem_tg (List.mem_of_getElem? (i := 51) (by decide +kernel)) rfl, mem_tg (List.mem_of_getElem? (i := 631) (by decide +kernel)) rfl, by decide +kernel, by decide +kernel, by decide +kernel⟩
theorem mv_X9_find : Cond.instanceMethod yX9_find ∈ tg ∧ Cond.selects yX9_find.cls yX9_find yX9_find ∈ tg := ⟨mem_tg (List.mem_of_getElem? (i := 629) (by decide +kernel)) rfl, mem_tg (List.mem_of_getElem? (i := 630) (by decide +kernel)) rfl⟩
theorem mb_X10_182 : MB RX10 182 yX1_pinDown cX1_pinDown 5 none 2 := ⟨mem_tg (List.mem_of_getElem? (i := 632) (by decide +kernel)) rfl, mem_tg (List.mem_of_getElem? (i := 47) (by decide +kernel)) rfl, mem_tg (List.mem_of_getElem? (i := 635) (by decide +kernel)) rfl, by decide +kernel, by decide +kernel, by decide +kernel⟩
theorem mv_X1_pinDown : Cond.instanceMethod yX1_pinDown ∈ tg ∧ Cond.selects yX1_pinDown.cls yX1_pinDown yX1_pinDown ∈ tg := ⟨mem_tg (List.mem_of_getElem? (i := 633) (by decide +kernel)) rfl, mem_tg (List.mem_of_getElem? (i := 634) (by decide +kernel)) rfl⟩
theorem mb_L_87 : MB RL 87 yX10_turn cX10_turn 1 (some .int) 0 := ⟨mem_tg (List.mem_of_getElem? (i := 636) (by decide +kernel)) rfl, mem_tg (List.mem_of_getElem? (i := 41) (by decide +kernel)) rfl, mem_tg (List.mem_of_getElem? (i := 639) (by decide +kernel)) rfl, by decide +kernel, by decide +kernel, by decide +kernel⟩
theorem mv_X10_turn : Cond.instanceMethod yX10_turn ∈ tg ∧ Cond.selects yX10_turn.cls yX10_turn yX10_turn ∈ tg := ⟨mem_tg (List.mem_of_getElem? (i := 637) (by decide +kernel)) rfl, mem_tg (List.mem_of_getElem? (i := 638) (by decide +kernel)) rfl⟩
theorem mb_L_91 : MB RL 91 yX10_pin cX10_pin 3 (some .int) 2 := ⟨mem_tg (List.mem_of_getElem? (i := 640) (by decide +kernel)) rfl, mem_tg (List.mem_of_getElem? (i := 41) (by decide +kernel)) rfl, mem_tg (List.mem_of_getElem? (i := 643) (by decide +kernel)) rfl, by decide +kernel, by decide +kernel, by decide +kernel⟩
theorem mv_X10_pin : Cond.instanceMethod yX10_pin ∈ tg ∧ Cond.selects yX10_pin.cls yX10_pin yX10_pin ∈ tg := ⟨mem_tg (List.mem_of_getElem? (i := 641) (by decide +kernel)) rfl, mem_tg (List.mem_of_getElem? (i := 642) (by decide +kernel)) rfl⟩
theorem mb_X10_195 : MB RX10 195 yX1_hasPin cX1_hasPin 4 (some .boolean) 2 := ⟨mem_tg (List.mem_of_getElem? (i := 644) (by decide +kernel)) rfl, mem_tg (List.mem_of_getElem? (i := 47) (by decide +kernel)) rfl, mem_tg (List.mem_of_getElem? (i := 647) (by decide +kernel)) rfl, by decide +kernel, by decide +kernel, by decide +kernel⟩
theorem mv_X1_hasPin : Cond.instanceMethod yX1_hasPin ∈ tg ∧ Cond.selects yX1_hasPin.cls yX1_hasPin yX1_hasPin ∈ tg := ⟨mem_tg (List.mem_of_getElem? (i := 645) (by decide +kernel)) rfl, mem_tg (List.mem_of_getElem? (i := 646) (by decide +kernel)) rfl⟩
theorem mb_L_95 : MB RL 95 yX10_pins cX10_pins 1 (some .int) 0 := ⟨mem_tg (List.mem_of_getElem? (i := 648) (by decide +kernel)) rfl, mem_tg (List.mem_of_getElem? (i := 41) (by decide +kernel)) rfl, mem_tg (List.mem_of_getElem? (i := 651) (by decide +kernel)) rfl, by decide +kernel, by decide +kernel, by decide +kernel⟩
theorem mv_X10_pins : Cond.instanceMethod yX10_pins ∈ tg ∧ Cond.selects yX10_pins.cls yX10_pins yX10_pins ∈ tg := ⟨mem_tg (List.mem_of_getElem? (i := 649) (by decide +kernel)) rfl, mem_tg (List.mem_of_getElem? (i := 650) (by decide +kernel)) rfl⟩
theorem mb_L_99 : MB RL 99 yX10_play cX10_play 2 (some .int) 1 := ⟨mem_tg (List.mem_of_getElem? (i := 652) (by decide +kernel)) rfl, mem_tg (List.mem_of_getElem? (i := 41) (by decide +kernel)) rfl, mem_tg (List.mem_of_getElem? (i := 655) (by decide +kernel)) rfl, by decide +kernel, by decide +kernel, by decide +kernel⟩
theorem mv_X10_play : Cond.instanceMethod yX10_play ∈ tg ∧ Cond.selects yX10_play.cls yX10_play yX10_play ∈ tg := ⟨mem_tg (List.mem_of_getElem? (i := 653) (by decide +kernel)) rfl, mem_tg (List.mem_of_getElem? (i := 654) (by decide +kernel)) rfl⟩
theorem mb_X10_204 : MB RX10 204 yX0_playByFists cX0_playByFists 5 (some .int) 2 := ⟨mem_tg (List.mem_of_getElem? (i := 656) (by decide +kernel)) rfl, mem_tg (List.mem_of_getElem? (i := 48) (by decide +kernel)) rfl, mem_tg (List.mem_of_getElem? (i := 659) (by decide +kernel)) rfl, by decide +kernel, by decide +kernel, by decide +kernel⟩
theorem mv_X0_playByFists : Cond.instanceMethod yX0_playByFists ∈ tg ∧ Cond.selects yX0_playByFists.cls yX0_playByFists yX0_playByFists ∈ tg := ⟨mem_tg (List.mem_of_getElem? (i := 657) (by decide +kernel)) rfl, mem_tg (List.mem_of_getElem? (i := 658) (by decide +kernel)) rfl⟩
theorem mb_X10_210 : MB RX10 210 yX0_playByDrum cX0_playByDrum 3 (some .int) 1 := ⟨mem_tg (List.mem_of_getElem? (i := 660) (by decide +kernel)) rfl, mem_tg (List.mem_of_getElem? (i := 48) (by decide +kernel)) rfl, mem_tg (List.mem_of_getElem? (i := 663) (by decide +kernel)) rfl, by decide +kernel, by decide +kernel, by decide +kernel⟩
theorem mv_X0_playByDrum : Cond.instanceMethod yX0_playByDrum ∈ tg ∧ Cond.selects yX0_playByDrum.cls yX0_playByDrum yX0_playByDrum ∈ tg := ⟨mem_tg (List.mem_of_getElem? (i := 661) (by decide +kernel)) rfl, mem_tg (List.mem_of_getElem? (i := 662) (by decide +kernel)) rfl⟩
theorem mb_L_103 : MB RL 103 yX10_strikes cX10_strikes 2 (some .long) 1 := ⟨mem_tg (List.mem_of_getElem? (i := 664) (by decide +kernel)) rfl, mem_tg (List.mem_of_getElem? (i := 41) (by decide +kernel)) rfl, mem_tg (List.mem_of_getElem? (i := 667) (by decide +kernel)) rfl, by decide +kernel, by decide +kernel, by decide +kernel⟩
theorem mv_X10_strikes : Cond.instanceMethod yX10_strikes ∈ tg ∧ Cond.selects yX10_strikes.cls yX10_strikes yX10_strikes ∈ tg := ⟨mem_tg (List.mem_of_getElem? (i := 665) (by decide +kernel)) rfl, mem_tg (List.mem_of_getElem? (i := 666) (by decide +kernel)) rfl⟩
theorem mb_L_108 : MB RL 108 yX10_mend cX10_mend 4 (some .long) 1 := ⟨mem_tg (List.mem_of_getElem? (i := 669) (by decide +kernel)) rfl, mem_tg (List.mem_of_getElem? (i := 41) (by decide +kernel)) rfl, mem_tg (List.mem_of_getElem? (i := 672) (by decide +kernel)) rfl, by decide +kernel, by decide +kernel, by decide +kernel⟩
theorem mv_X10_mend : Cond.instanceMethod yX10_mend ∈ tg ∧ Cond.selects yX10_mend.cls yX10_mend yX10_mend ∈ tg := ⟨mem_tg (List.mem_of_getElem? (i := 670) (by decide +kernel)) rfl, mem_tg (List.mem_of_getElem? (i := 671) (by decide +kernel)) rfl⟩
theorem mb_L_112 : MB RL 112 yX10_worn cX10_worn 2 (some .int) 1 := ⟨mem_tg (List.mem_of_getElem? (i := 673) (by decide +kernel)) rfl, mem_tg (List.mem_of_getElem? (i := 41) (by decide +kernel)) rfl, mem_tg (List.mem_of_getElem? (i := 676) (by decide +kernel)) rfl, by decide +kernel, by decide +kernel, by decide +kernel⟩
theorem mv_X10_worn : Cond.instanceMethod yX10_worn ∈ tg ∧ Cond.selects yX10_worn.cls yX10_worn yX10_worn ∈ tg := ⟨mem_tg (List.mem_of_getElem? (i := 674) (by decide +kernel)) rfl, mem_tg (List.mem_of_getElem? (i := 675) (by decide +kernel)) rfl⟩
theorem mb_X10_220 : MB RX10 220 yX0_wornAt cX0_wornAt 4 (some .int) 1 := ⟨mem_tg (List.mem_of_getElem? (i := 677) (by decide +kernel)) rfl, mem_tg (List.mem_of_getElem? (i := 48) (by decide +kernel)) rfl, mem_tg (List.mem_of_getElem? (i := 680) (by decide +kernel)) rfl, by decide +kernel, by decide +kernel, by decide +kernel⟩
theorem mv_X0_wornAt : Cond.instanceMethod yX0_wornAt ∈ tg ∧ Cond.selects yX0_wornAt.cls yX0_wornAt yX0_wornAt ∈ tg := ⟨mem_tg (List.mem_of_getElem? (i := 678) (by decide +kernel)) rfl, mem_tg (List.mem_of_getElem? (i := 679) (by decide +kernel)) rfl⟩
theorem mb_L_116 : MB RL 116 yX10_image cX10_image 3 (some .boolean) 1 := ⟨mem_tg (List.mem_of_getElem? (i := 681) (by decide +kernel)) rfl, mem_tg (List.mem_of_getElem? (i := 41) (by decide +kernel)) rfl, mem_tg (List.mem_of_getElem? (i := 684) (by decide +kernel)) rfl, by decide +kernel, by decide +kernel, by decide +kernel⟩
theorem mv_X10_image : Cond.instanceMethod yX10_image ∈ tg ∧ Cond.selects yX10_image.cls yX10_image yX10_image ∈ tg := ⟨mem_tg (List.mem_of_getElem? (i := 682) (by decide +kernel)) rfl, mem_tg (List.mem_of_getElem? (i := 683) (by decide +kernel)) rfl⟩
theorem mb_X10_224 : MB RX10 224 yX2_copyFrom cX2_copyFrom 2 none 1 := ⟨mem_tg (List.mem_of_getElem? (i := 685) (by decide +kernel)) rfl, mem_tg (List.mem_of_getElem? (i := 45) (by decide +kernel)) rfl, mem_tg (List.mem_of_getElem? (i := 688) (by decide +kernel)) rfl, by decide +kernel, by decide +kernel, by decide +kernel⟩
theorem mv_X2_copyFrom : Cond.instanceMethod yX2_copyFrom ∈ tg ∧ Cond.selects yX2_copyFrom.cls yX2_copyFrom yX2_copyFrom ∈ tg := ⟨mem_tg (List.mem_of_getElem? (i := 686) (by decide +kernel)) rfl, mem_tg (List.mem_of_getElem? (i := 687) (by decide +kernel)) rfl⟩
theorem mb_X2_52 : MB RX2 52 yX5_copyFrom cX5_copyFrom 2 none 1 := ⟨mem_tg (List.mem_of_getElem? (i := 689) (by decide +kernel)) rfl, mem_tg (List.mem_of_getElem? (i := 44) (by decide +kernel)) rfl, mem_tg (List.mem_of_getElem? (i := 474) (by decide +kernel)) rfl, by decide +kernel, by decide +kernel, by decide +kernel⟩
theorem mb_X2_56 : MB RX2 56 yX8_copyFrom cX8_copyFrom 2 none 1 := ⟨mem_tg (List.mem_of_getElem? (i := 690) (by decide +kernel)) rfl, mem_tg (List.mem_of_getElem? (i := 46) (by decide +kernel)) rfl, mem_tg (List.mem_of_getElem? (i := 693) (by decide +kernel)) rfl, by decide +kernel, by decide +kernel, by decide +kernel⟩
theorem mv_X8_copyFrom : Cond.instanceMethod yX8_copyFrom ∈ tg ∧ Cond.selects yX8_copyFrom.cls yX8_copyFrom yX8_copyFrom ∈ tg := ⟨mem_tg (List.mem_of_getElem? (i := 691) (by decide +kernel)) rfl, mem_tg (List.mem_of_getElem? (i := 692) (by decide +kernel)) rfl⟩
theorem cp_X8_57 : Cond.methodLink RX8 57 arraycopyName ∈ tg := mem_tg (List.mem_of_getElem? (i := 694) (by decide +kernel)) rfl
theorem mb_X2_59 : MB RX2 59 yX1_copyFrom cX1_copyFrom 2 none 1 := ⟨mem_tg (List.mem_of_getElem? (i := 695) (by decide +kernel)) rfl, mem_tg (List.mem_of_getElem? (i := 47) (by decide +kernel)) rfl, mem_tg (List.mem_of_getElem? (i := 698) (by decide +kernel)) rfl, by decide +kernel, by decide +kernel, by decide +kernel⟩
theorem mv_X1_copyFrom : Cond.instanceMethod yX1_copyFrom ∈ tg ∧ Cond.selects yX1_copyFrom.cls yX1_copyFrom yX1_copyFrom ∈ tg := ⟨mem_tg (List.mem_of_getElem? (i := 696) (by decide +kernel)) rfl, mem_tg (List.mem_of_getElem? (i := 697) (by decide +kernel)) rfl⟩
theorem cp_X1_37 : Cond.methodLink RX1 37 arraycopyName ∈ tg := mem_tg (List.mem_of_getElem? (i := 699) (by decide +kernel)) rfl
theorem mb_X2_62 : MB RX2 62 yX0_copyFrom cX0_copyFrom 2 none 1 := ⟨mem_tg (List.mem_of_getElem? (i := 700) (by decide +kernel)) rfl, mem_tg (List.mem_of_getElem? (i := 48) (by decide +kernel)) rfl, mem_tg (List.mem_of_getElem? (i := 703) (by decide +kernel)) rfl, by decide +kernel, by decide +kernel, by decide +kernel⟩
theorem mv_X0_copyFrom : Cond.instanceMethod yX0_copyFrom ∈ tg ∧ Cond.selects yX0_copyFrom.cls yX0_copyFrom yX0_copyFrom ∈ tg := ⟨mem_tg (List.mem_of_getElem? (i := 701) (by decide +kernel)) rfl, mem_tg (List.mem_of_getElem? (i := 702) (by decide +kernel)) rfl⟩
theorem cp_X0_36 : Cond.methodLink RX0 36 arraycopyName ∈ tg := mem_tg (List.mem_of_getElem? (i := 704) (by decide +kernel)) rfl
theorem mb_L_120 : MB RL 120 yX10_back cX10_back 3 (some .boolean) 1 := ⟨mem_tg (List.mem_of_getElem? (i := 705) (by decide +kernel)) rfl, mem_tg (List.mem_of_getElem? (i := 41) (by decide +kernel)) rfl, mem_tg (List.mem_of_getElem? (i := 708) (by decide +kernel)) rfl, by decide +kernel, by decide +kernel, by decide +kernel⟩
theorem mv_X10_back : Cond.instanceMethod yX10_back ∈ tg ∧ Cond.selects yX10_back.cls yX10_back yX10_back ∈ tg := ⟨mem_tg (List.mem_of_getElem? (i := 706) (by decide +kernel)) rfl, mem_tg (List.mem_of_getElem? (i := 707) (by decide +kernel)) rfl⟩
theorem mb_L_12 : MB RL 12 yX11_init cX11_init 2 none 0 := ⟨mem_tg (List.mem_of_getElem? (i := 711) (by decide +kernel)) rfl, mem_tg (List.mem_of_getElem? (i := 52) (by decide +kernel)) rfl, mem_tg (List.mem_of_getElem? (i := 713) (by decide +kernel)) rfl, by decide +kernel, by decide +kernel, by decide +kernel⟩
theorem mi_X11_init : Cond.instanceMethod yX11_init ∈ tg ∧ yX11_init.name = "<init>" := ⟨mem_tg (List.mem_of_getElem? (i := 712) (by decide +kernel)) rfl, rfl⟩
theorem ob_X11_1 : Cond.methodLink RX11 1 objectInit ∈ tg := mem_tg (List.mem_of_getElem? (i := 714) (by decide +kernel)) rfl
theorem mb_L_119 : MB RL 119 yX11_image cX11_image 3 (some .boolean) 1 := ⟨mem_tg (List.mem_of_getElem? (i := 787) (by decide +kernel)) rfl, mem_tg (List.mem_of_getElem? (i := 52) (by decide +kernel)) rfl, mem_tg (List.mem_of_getElem? (i := 790) (by decide +kernel)) rfl, by decide +kernel, by decide +kernel, by decide +kernel⟩
theorem mv_X11_image : Cond.instanceMethod yX11_image ∈ tg ∧ Cond.selects yX11_image.cls yX11_image yX11_image ∈ tg := ⟨mem_tg (List.mem_of_getElem? (i := 788) (by decide +kernel)) rfl, mem_tg (List.mem_of_getElem? (i := 789) (by decide +kernel)) rfl⟩
theorem mb_L_123 : MB RL 123 yX11_back cX11_back 3 (some .boolean) 1 := ⟨mem_tg (List.mem_of_getElem? (i := 791) (by decide +kernel)) rfl, mem_tg (List.mem_of_getElem? (i := 52) (by decide +kernel)) rfl, mem_tg (List.mem_of_getElem? (i := 794) (by decide +kernel)) rfl, by decide +kernel, by decide +kernel, by decide +kernel⟩
theorem mv_X11_back : Cond.instanceMethod yX11_back ∈ tg ∧ Cond.selects yX11_back.cls yX11_back yX11_back ∈ tg := ⟨mem_tg (List.mem_of_getElem? (i := 792) (by decide +kernel)) rfl, mem_tg (List.mem_of_getElem? (i := 793) (by decide +kernel)) rfl⟩
theorem mb_L_17 : MB RL 17 yX11_feed cX11_feed 8 (some .int) 5 := ⟨mem_tg (List.mem_of_getElem? (i := 795) (by decide +kernel)) rfl, mem_tg (List.mem_of_getElem? (i := 52) (by decide +kernel)) rfl, mem_tg (List.mem_of_getElem? (i := 798) (by decide +kernel)) rfl, by decide +kernel, by decide +kernel, by decide +kernel⟩
theorem mv_X11_feed : Cond.instanceMethod yX11_feed ∈ tg ∧ Cond.selects yX11_feed.cls yX11_feed yX11_feed ∈ tg := ⟨mem_tg (List.mem_of_getElem? (i := 796) (by decide +kernel)) rfl, mem_tg (List.mem_of_getElem? (i := 797) (by decide +kernel)) rfl⟩
theorem mb_L_22 : MB RL 22 yX11_end cX11_end 2 (some .boolean) 1 := ⟨mem_tg (List.mem_of_getElem? (i := 799) (by decide +kernel)) rfl, mem_tg (List.mem_of_getElem? (i := 52) (by decide +kernel)) rfl, mem_tg (List.mem_of_getElem? (i := 802) (by decide +kernel)) rfl, by decide +kernel, by decide +kernel, by decide +kernel⟩
theorem mv_X11_end : Cond.instanceMethod yX11_end ∈ tg ∧ Cond.selects yX11_end.cls yX11_end yX11_end ∈ tg := ⟨mem_tg (List.mem_of_getElem? (i := 800) (by decide +kernel)) rfl, mem_tg (List.mem_of_getElem? (i := 801) (by decide +kernel)) rfl⟩
theorem mb_L_27 : MB RL 27 yX11_score cX11_score 2 (some .int) 0 := ⟨mem_tg (List.mem_of_getElem? (i := 803) (by decide +kernel)) rfl, mem_tg (List.mem_of_getElem? (i := 52) (by decide +kernel)) rfl, mem_tg (List.mem_of_getElem? (i := 806) (by decide +kernel)) rfl, by decide +kernel, by decide +kernel, by decide +kernel⟩
theorem mv_X11_score : Cond.instanceMethod yX11_score ∈ tg ∧ Cond.selects yX11_score.cls yX11_score yX11_score ∈ tg := ⟨mem_tg (List.mem_of_getElem? (i := 804) (by decide +kernel)) rfl, mem_tg (List.mem_of_getElem? (i := 805) (by decide +kernel)) rfl⟩
theorem mb_X11_68 : MB RX11 68 yX11_next cX11_next 1 (some .int) 0 := ⟨mem_tg (List.mem_of_getElem? (i := 807) (by decide +kernel)) rfl, mem_tg (List.mem_of_getElem? (i := 52) (by decide +kernel)) rfl, mem_tg (List.mem_of_getElem? (i := 810) (by decide +kernel)) rfl, by decide +kernel, by decide +kernel, by decide +kernel⟩
theorem mv_X11_next : Cond.instanceMethod yX11_next ∈ tg ∧ Cond.selects yX11_next.cls yX11_next yX11_next ∈ tg := ⟨mem_tg (List.mem_of_getElem? (i := 809) (by decide +kernel)) rfl, mem_tg (List.mem_of_getElem? (i := 23) (by decide +kernel)) rfl⟩
theorem mb_X11_79 : MB RX11 79 yX11_isDigit cX11_isDigit 1 (some .boolean) 1 := ⟨mem_tg (List.mem_of_getElem? (i := 811) (by decide +kernel)) rfl, mem_tg (List.mem_of_getElem? (i := 52) (by decide +kernel)) rfl, mem_tg (List.mem_of_getElem? (i := 813) (by decide +kernel)) rfl, by decide +kernel, by decide +kernel, by decide +kernel⟩
theorem ms_X11_isDigit : Cond.static yX11_isDigit ∈ tg := mem_tg (List.mem_of_getElem? (i := 812) (by decide +kernel)) rfl
theorem mb_X11_111 : MB RX11 111 yX11_group cX11_group 2 none 0 := ⟨mem_tg (List.mem_of_getElem? (i := 814) (by decide +kernel)) rfl, mem_tg (List.mem_of_getElem? (i := 52) (by decide +kernel)) rfl, mem_tg (List.mem_of_getElem? (i := 817) (by decide +kernel)) rfl, by decide +kernel, by decide +kernel, by decide +kernel⟩
theorem mv_X11_group : Cond.instanceMethod yX11_group ∈ tg ∧ Cond.selects yX11_group.cls yX11_group yX11_group ∈ tg := ⟨mem_tg (List.mem_of_getElem? (i := 816) (by decide +kernel)) rfl, mem_tg (List.mem_of_getElem? (i := 24) (by decide +kernel)) rfl⟩
theorem mb_X11_83 : MB RX11 83 yX11_number cX11_number 4 (some .int) 2 := ⟨mem_tg (List.mem_of_getElem? (i := 818) (by decide +kernel)) rfl, mem_tg (List.mem_of_getElem? (i := 52) (by decide +kernel)) rfl, mem_tg (List.mem_of_getElem? (i := 821) (by decide +kernel)) rfl, by decide +kernel, by decide +kernel, by decide +kernel⟩
theorem mv_X11_number : Cond.instanceMethod yX11_number ∈ tg ∧ Cond.selects yX11_number.cls yX11_number yX11_number ∈ tg := ⟨mem_tg (List.mem_of_getElem? (i := 820) (by decide +kernel)) rfl, mem_tg (List.mem_of_getElem? (i := 25) (by decide +kernel)) rfl⟩
theorem mb_X11_72 : MB RX11 72 yX11_fail cX11_fail 3 none 2 := ⟨mem_tg (List.mem_of_getElem? (i := 822) (by decide +kernel)) rfl, mem_tg (List.mem_of_getElem? (i := 52) (by decide +kernel)) rfl, mem_tg (List.mem_of_getElem? (i := 825) (by decide +kernel)) rfl, by decide +kernel, by decide +kernel, by decide +kernel⟩
theorem mv_X11_fail : Cond.instanceMethod yX11_fail ∈ tg ∧ Cond.selects yX11_fail.cls yX11_fail yX11_fail ∈ tg := ⟨mem_tg (List.mem_of_getElem? (i := 824) (by decide +kernel)) rfl, mem_tg (List.mem_of_getElem? (i := 26) (by decide +kernel)) rfl⟩
theorem mb_X11_104 : MB RX11 104 yX11_sign cX11_sign 2 none 1 := ⟨mem_tg (List.mem_of_getElem? (i := 826) (by decide +kernel)) rfl, mem_tg (List.mem_of_getElem? (i := 52) (by decide +kernel)) rfl, mem_tg (List.mem_of_getElem? (i := 829) (by decide +kernel)) rfl, by decide +kernel, by decide +kernel, by decide +kernel⟩
theorem mv_X11_sign : Cond.instanceMethod yX11_sign ∈ tg ∧ Cond.selects yX11_sign.cls yX11_sign yX11_sign ∈ tg := ⟨mem_tg (List.mem_of_getElem? (i := 828) (by decide +kernel)) rfl, mem_tg (List.mem_of_getElem? (i := 27) (by decide +kernel)) rfl⟩
theorem mb_X11_114 : MB RX11 114 yX11_ends cX11_ends 1 none 0 := ⟨mem_tg (List.mem_of_getElem? (i := 830) (by decide +kernel)) rfl, mem_tg (List.mem_of_getElem? (i := 52) (by decide +kernel)) rfl, mem_tg (List.mem_of_getElem? (i := 833) (by decide +kernel)) rfl, by decide +kernel, by decide +kernel, by decide +kernel⟩
theorem mv_X11_ends : Cond.instanceMethod yX11_ends ∈ tg ∧ Cond.selects yX11_ends.cls yX11_ends yX11_ends ∈ tg := ⟨mem_tg (List.mem_of_getElem? (i := 832) (by decide +kernel)) rfl, mem_tg (List.mem_of_getElem? (i := 28) (by decide +kernel)) rfl⟩
theorem mb_X11_117 : MB RX11 117 yX11_item cX11_item 6 none 0 := ⟨mem_tg (List.mem_of_getElem? (i := 834) (by decide +kernel)) rfl, mem_tg (List.mem_of_getElem? (i := 52) (by decide +kernel)) rfl, mem_tg (List.mem_of_getElem? (i := 837) (by decide +kernel)) rfl, by decide +kernel, by decide +kernel, by decide +kernel⟩
theorem mv_X11_item : Cond.instanceMethod yX11_item ∈ tg ∧ Cond.selects yX11_item.cls yX11_item yX11_item ∈ tg := ⟨mem_tg (List.mem_of_getElem? (i := 836) (by decide +kernel)) rfl, mem_tg (List.mem_of_getElem? (i := 29) (by decide +kernel)) rfl⟩
theorem mb_X11_96 : MB RX11 96 yX11_length cX11_length 4 (some .int) 1 := ⟨mem_tg (List.mem_of_getElem? (i := 838) (by decide +kernel)) rfl, mem_tg (List.mem_of_getElem? (i := 52) (by decide +kernel)) rfl, mem_tg (List.mem_of_getElem? (i := 841) (by decide +kernel)) rfl, by decide +kernel, by decide +kernel, by decide +kernel⟩
theorem mv_X11_length : Cond.instanceMethod yX11_length ∈ tg ∧ Cond.selects yX11_length.cls yX11_length yX11_length ∈ tg := ⟨mem_tg (List.mem_of_getElem? (i := 840) (by decide +kernel)) rfl, mem_tg (List.mem_of_getElem? (i := 30) (by decide +kernel)) rfl⟩
theorem mb_X11_100 : MB RX11 100 yX11_strikesHere cX11_strikesHere 5 none 3 := ⟨mem_tg (List.mem_of_getElem? (i := 842) (by decide +kernel)) rfl, mem_tg (List.mem_of_getElem? (i := 52) (by decide +kernel)) rfl, mem_tg (List.mem_of_getElem? (i := 845) (by decide +kernel)) rfl, by decide +kernel, by decide +kernel, by decide +kernel⟩
theorem mv_X11_strikesHere : Cond.instanceMethod yX11_strikesHere ∈ tg ∧ Cond.selects yX11_strikesHere.cls yX11_strikesHere yX11_strikesHere ∈ tg := ⟨mem_tg (List.mem_of_getElem? (i := 844) (by decide +kernel)) rfl, mem_tg (List.mem_of_getElem? (i := 31) (by decide +kernel)) rfl⟩
theorem mb_L_32 : MB RL 32 yX11_fault cX11_fault 2 (some .int) 1 := ⟨mem_tg (List.mem_of_getElem? (i := 846) (by decide +kernel)) rfl, mem_tg (List.mem_of_getElem? (i := 52) (by decide +kernel)) rfl, mem_tg (List.mem_of_getElem? (i := 849) (by decide +kernel)) rfl, by decide +kernel, by decide +kernel, by decide +kernel⟩
theorem mv_X11_fault : Cond.instanceMethod yX11_fault ∈ tg ∧ Cond.selects yX11_fault.cls yX11_fault yX11_fault ∈ tg := ⟨mem_tg (List.mem_of_getElem? (i := 847) (by decide +kernel)) rfl, mem_tg (List.mem_of_getElem? (i := 848) (by decide +kernel)) rfl⟩
theorem mb_L_37 : MB RL 37 yX11_strike cX11_strike 3 (some .int) 2 := ⟨mem_tg (List.mem_of_getElem? (i := 850) (by decide +kernel)) rfl, mem_tg (List.mem_of_getElem? (i := 52) (by decide +kernel)) rfl, mem_tg (List.mem_of_getElem? (i := 853) (by decide +kernel)) rfl, by decide +kernel, by decide +kernel, by decide +kernel⟩
theorem mv_X11_strike : Cond.instanceMethod yX11_strike ∈ tg ∧ Cond.selects yX11_strike.cls yX11_strike yX11_strike ∈ tg := ⟨mem_tg (List.mem_of_getElem? (i := 851) (by decide +kernel)) rfl, mem_tg (List.mem_of_getElem? (i := 852) (by decide +kernel)) rfl⟩
theorem mb_L_46 : MB RL 46 yX11_fists cX11_fists 3 (some .boolean) 2 := ⟨mem_tg (List.mem_of_getElem? (i := 854) (by decide +kernel)) rfl, mem_tg (List.mem_of_getElem? (i := 52) (by decide +kernel)) rfl, mem_tg (List.mem_of_getElem? (i := 857) (by decide +kernel)) rfl, by decide +kernel, by decide +kernel, by decide +kernel⟩
theorem mv_X11_fists : Cond.instanceMethod yX11_fists ∈ tg ∧ Cond.selects yX11_fists.cls yX11_fists yX11_fists ∈ tg := ⟨mem_tg (List.mem_of_getElem? (i := 855) (by decide +kernel)) rfl, mem_tg (List.mem_of_getElem? (i := 856) (by decide +kernel)) rfl⟩
theorem mb_L_50 : MB RL 50 yX11_cost cX11_cost 1 (some .int) 0 := ⟨mem_tg (List.mem_of_getElem? (i := 858) (by decide +kernel)) rfl, mem_tg (List.mem_of_getElem? (i := 52) (by decide +kernel)) rfl, mem_tg (List.mem_of_getElem? (i := 861) (by decide +kernel)) rfl, by decide +kernel, by decide +kernel, by decide +kernel⟩
theorem mv_X11_cost : Cond.instanceMethod yX11_cost ∈ tg ∧ Cond.selects yX11_cost.cls yX11_cost yX11_cost ∈ tg := ⟨mem_tg (List.mem_of_getElem? (i := 859) (by decide +kernel)) rfl, mem_tg (List.mem_of_getElem? (i := 860) (by decide +kernel)) rfl⟩
theorem mb_X11_143 : MB RX11 143 yX11_sets cX11_sets 6 (some .int) 0 := ⟨mem_tg (List.mem_of_getElem? (i := 862) (by decide +kernel)) rfl, mem_tg (List.mem_of_getElem? (i := 52) (by decide +kernel)) rfl, mem_tg (List.mem_of_getElem? (i := 865) (by decide +kernel)) rfl, by decide +kernel, by decide +kernel, by decide +kernel⟩
theorem mv_X11_sets : Cond.instanceMethod yX11_sets ∈ tg ∧ Cond.selects yX11_sets.cls yX11_sets yX11_sets ∈ tg := ⟨mem_tg (List.mem_of_getElem? (i := 864) (by decide +kernel)) rfl, mem_tg (List.mem_of_getElem? (i := 32) (by decide +kernel)) rfl⟩
theorem mb_X11_140 : MB RX11 140 yX11_weighs cX11_weighs 10 (some .int) 2 := ⟨mem_tg (List.mem_of_getElem? (i := 866) (by decide +kernel)) rfl, mem_tg (List.mem_of_getElem? (i := 52) (by decide +kernel)) rfl, mem_tg (List.mem_of_getElem? (i := 869) (by decide +kernel)) rfl, by decide +kernel, by decide +kernel, by decide +kernel⟩
theorem mv_X11_weighs : Cond.instanceMethod yX11_weighs ∈ tg ∧ Cond.selects yX11_weighs.cls yX11_weighs yX11_weighs ∈ tg := ⟨mem_tg (List.mem_of_getElem? (i := 868) (by decide +kernel)) rfl, mem_tg (List.mem_of_getElem? (i := 33) (by decide +kernel)) rfl⟩
theorem mb_X11_129 : MB RX11 129 yX11_place cX11_place 4 (some .int) 3 := ⟨mem_tg (List.mem_of_getElem? (i := 870) (by decide +kernel)) rfl, mem_tg (List.mem_of_getElem? (i := 52) (by decide +kernel)) rfl, mem_tg (List.mem_of_getElem? (i := 873) (by decide +kernel)) rfl, by decide +kernel, by decide +kernel, by decide +kernel⟩
theorem mv_X11_place : Cond.instanceMethod yX11_place ∈ tg ∧ Cond.selects yX11_place.cls yX11_place yX11_place ∈ tg := ⟨mem_tg (List.mem_of_getElem? (i := 872) (by decide +kernel)) rfl, mem_tg (List.mem_of_getElem? (i := 34) (by decide +kernel)) rfl⟩
theorem mb_X11_132 : MB RX11 132 yX11_costOf cX11_costOf 7 (some .int) 6 := ⟨mem_tg (List.mem_of_getElem? (i := 875) (by decide +kernel)) rfl, mem_tg (List.mem_of_getElem? (i := 52) (by decide +kernel)) rfl, mem_tg (List.mem_of_getElem? (i := 878) (by decide +kernel)) rfl, by decide +kernel, by decide +kernel, by decide +kernel⟩
theorem mv_X11_costOf : Cond.instanceMethod yX11_costOf ∈ tg ∧ Cond.selects yX11_costOf.cls yX11_costOf yX11_costOf ∈ tg := ⟨mem_tg (List.mem_of_getElem? (i := 877) (by decide +kernel)) rfl, mem_tg (List.mem_of_getElem? (i := 35) (by decide +kernel)) rfl⟩
theorem mb_X11_121 : MB RX11 121 yX11_isCrossed cX11_isCrossed 3 (some .boolean) 2 := ⟨mem_tg (List.mem_of_getElem? (i := 879) (by decide +kernel)) rfl, mem_tg (List.mem_of_getElem? (i := 52) (by decide +kernel)) rfl, mem_tg (List.mem_of_getElem? (i := 882) (by decide +kernel)) rfl, by decide +kernel, by decide +kernel, by decide +kernel⟩
theorem mv_X11_isCrossed : Cond.instanceMethod yX11_isCrossed ∈ tg ∧ Cond.selects yX11_isCrossed.cls yX11_isCrossed yX11_isCrossed ∈ tg := ⟨mem_tg (List.mem_of_getElem? (i := 881) (by decide +kernel)) rfl, mem_tg (List.mem_of_getElem? (i := 36) (by decide +kernel)) rfl⟩
theorem mb_X11_125 : MB RX11 125 yX11_moves cX11_moves 6 (some .int) 3 := ⟨mem_tg (List.mem_of_getElem? (i := 883) (by decide +kernel)) rfl, mem_tg (List.mem_of_getElem? (i := 52) (by decide +kernel)) rfl, mem_tg (List.mem_of_getElem? (i := 886) (by decide +kernel)) rfl, by decide +kernel, by decide +kernel, by decide +kernel⟩
theorem mv_X11_moves : Cond.instanceMethod yX11_moves ∈ tg ∧ Cond.selects yX11_moves.cls yX11_moves yX11_moves ∈ tg := ⟨mem_tg (List.mem_of_getElem? (i := 885) (by decide +kernel)) rfl, mem_tg (List.mem_of_getElem? (i := 37) (by decide +kernel)) rfl⟩
theorem mb_X11_136 : MB RX11 136 yX11_behind cX11_behind 5 (some .int) 4 := ⟨mem_tg (List.mem_of_getElem? (i := 887) (by decide +kernel)) rfl, mem_tg (List.mem_of_getElem? (i := 52) (by decide +kernel)) rfl, mem_tg (List.mem_of_getElem? (i := 890) (by decide +kernel)) rfl, by decide +kernel, by decide +kernel, by decide +kernel⟩
theorem mv_X11_behind : Cond.instanceMethod yX11_behind ∈ tg ∧ Cond.selects yX11_behind.cls yX11_behind yX11_behind ∈ tg := ⟨mem_tg (List.mem_of_getElem? (i := 889) (by decide +kernel)) rfl, mem_tg (List.mem_of_getElem? (i := 38) (by decide +kernel)) rfl⟩
theorem mb_L_54 : MB RL 54 yX11_need cX11_need 2 (some .int) 0 := ⟨mem_tg (List.mem_of_getElem? (i := 891) (by decide +kernel)) rfl, mem_tg (List.mem_of_getElem? (i := 52) (by decide +kernel)) rfl, mem_tg (List.mem_of_getElem? (i := 894) (by decide +kernel)) rfl, by decide +kernel, by decide +kernel, by decide +kernel⟩
theorem mv_X11_need : Cond.instanceMethod yX11_need ∈ tg ∧ Cond.selects yX11_need.cls yX11_need yX11_need ∈ tg := ⟨mem_tg (List.mem_of_getElem? (i := 892) (by decide +kernel)) rfl, mem_tg (List.mem_of_getElem? (i := 893) (by decide +kernel)) rfl⟩
theorem mb_L_58 : MB RL 58 yX11_by cX11_by 2 (some .int) 1 := ⟨mem_tg (List.mem_of_getElem? (i := 895) (by decide +kernel)) rfl, mem_tg (List.mem_of_getElem? (i := 52) (by decide +kernel)) rfl, mem_tg (List.mem_of_getElem? (i := 898) (by decide +kernel)) rfl, by decide +kernel, by decide +kernel, by decide +kernel⟩
theorem mv_X11_by : Cond.instanceMethod yX11_by ∈ tg ∧ Cond.selects yX11_by.cls yX11_by yX11_by ∈ tg := ⟨mem_tg (List.mem_of_getElem? (i := 896) (by decide +kernel)) rfl, mem_tg (List.mem_of_getElem? (i := 897) (by decide +kernel)) rfl⟩
theorem mb_L_62 : MB RL 62 yX11_way cX11_way 2 (some .int) 1 := ⟨mem_tg (List.mem_of_getElem? (i := 899) (by decide +kernel)) rfl, mem_tg (List.mem_of_getElem? (i := 52) (by decide +kernel)) rfl, mem_tg (List.mem_of_getElem? (i := 902) (by decide +kernel)) rfl, by decide +kernel, by decide +kernel, by decide +kernel⟩
theorem mv_X11_way : Cond.instanceMethod yX11_way ∈ tg ∧ Cond.selects yX11_way.cls yX11_way yX11_way ∈ tg := ⟨mem_tg (List.mem_of_getElem? (i := 900) (by decide +kernel)) rfl, mem_tg (List.mem_of_getElem? (i := 901) (by decide +kernel)) rfl⟩
theorem mb_L_41 : MB RL 41 yX11_count cX11_count 4 (some .int) 1 := ⟨mem_tg (List.mem_of_getElem? (i := 903) (by decide +kernel)) rfl, mem_tg (List.mem_of_getElem? (i := 52) (by decide +kernel)) rfl, mem_tg (List.mem_of_getElem? (i := 906) (by decide +kernel)) rfl, by decide +kernel, by decide +kernel, by decide +kernel⟩
theorem mv_X11_count : Cond.instanceMethod yX11_count ∈ tg ∧ Cond.selects yX11_count.cls yX11_count yX11_count ∈ tg := ⟨mem_tg (List.mem_of_getElem? (i := 904) (by decide +kernel)) rfl, mem_tg (List.mem_of_getElem? (i := 905) (by decide +kernel)) rfl⟩
theorem mb_L_66 : MB RL 66 yX11_tail cX11_tail 4 (some .int) 2 := ⟨mem_tg (List.mem_of_getElem? (i := 907) (by decide +kernel)) rfl, mem_tg (List.mem_of_getElem? (i := 52) (by decide +kernel)) rfl, mem_tg (List.mem_of_getElem? (i := 910) (by decide +kernel)) rfl, by decide +kernel, by decide +kernel, by decide +kernel⟩
theorem mv_X11_tail : Cond.instanceMethod yX11_tail ∈ tg ∧ Cond.selects yX11_tail.cls yX11_tail yX11_tail ∈ tg := ⟨mem_tg (List.mem_of_getElem? (i := 908) (by decide +kernel)) rfl, mem_tg (List.mem_of_getElem? (i := 909) (by decide +kernel)) rfl⟩
theorem mb_X11_146 : MB RX11 146 yX11_isBell cX11_isBell 1 (some .boolean) 1 := ⟨mem_tg (List.mem_of_getElem? (i := 911) (by decide +kernel)) rfl, mem_tg (List.mem_of_getElem? (i := 52) (by decide +kernel)) rfl, mem_tg (List.mem_of_getElem? (i := 913) (by decide +kernel)) rfl, by decide +kernel, by decide +kernel, by decide +kernel⟩
theorem ms_X11_isBell : Cond.static yX11_isBell ∈ tg := mem_tg (List.mem_of_getElem? (i := 912) (by decide +kernel)) rfl
theorem mb_L_70 : MB RL 70 yX11_quarrel cX11_quarrel 3 (some .int) 1 := ⟨mem_tg (List.mem_of_getElem? (i := 914) (by decide +kernel)) rfl, mem_tg (List.mem_of_getElem? (i := 52) (by decide +kernel)) rfl, mem_tg (List.mem_of_getElem? (i := 917) (by decide +kernel)) rfl, by decide +kernel, by decide +kernel, by decide +kernel⟩
theorem mv_X11_quarrel : Cond.instanceMethod yX11_quarrel ∈ tg ∧ Cond.selects yX11_quarrel.cls yX11_quarrel yX11_quarrel ∈ tg := ⟨mem_tg (List.mem_of_getElem? (i := 915) (by decide +kernel)) rfl, mem_tg (List.mem_of_getElem? (i := 916) (by decide +kernel)) rfl⟩
theorem mb_L_78 : MB RL 78 yX11_sounds cX11_sounds 4 (some .int) 1 := ⟨mem_tg (List.mem_of_getElem? (i := 918) (by decide +kernel)) rfl, mem_tg (List.mem_of_getElem? (i := 52) (by decide +kernel)) rfl, mem_tg (List.mem_of_getElem? (i := 921) (by decide +kernel)) rfl, by decide +kernel, by decide +kernel, by decide +kernel⟩
theorem mv_X11_sounds : Cond.instanceMethod yX11_sounds ∈ tg ∧ Cond.selects yX11_sounds.cls yX11_sounds yX11_sounds ∈ tg := ⟨mem_tg (List.mem_of_getElem? (i := 919) (by decide +kernel)) rfl, mem_tg (List.mem_of_getElem? (i := 920) (by decide +kernel)) rfl⟩
theorem mb_L_74 : MB RL 74 yX11_quarrels cX11_quarrels 7 (some .int) 0 := ⟨mem_tg (List.mem_of_getElem? (i := 922) (by decide +kernel)) rfl, mem_tg (List.mem_of_getElem? (i := 52) (by decide +kernel)) rfl, mem_tg (List.mem_of_getElem? (i := 925) (by decide +kernel)) rfl, by decide +kernel, by decide +kernel, by decide +kernel⟩
theorem mv_X11_quarrels : Cond.instanceMethod yX11_quarrels ∈ tg ∧ Cond.selects yX11_quarrels.cls yX11_quarrels yX11_quarrels ∈ tg := ⟨mem_tg (List.mem_of_getElem? (i := 923) (by decide +kernel)) rfl, mem_tg (List.mem_of_getElem? (i := 924) (by decide +kernel)) rfl⟩
theorem mb_X11_149 : MB RX11 149 yX11_sounds cX11_sounds 4 (some .int) 1 := ⟨mem_tg (List.mem_of_getElem? (i := 926) (by decide +kernel)) rfl, mem_tg (List.mem_of_getElem? (i := 52) (by decide +kernel)) rfl, mem_tg (List.mem_of_getElem? (i := 921) (by decide +kernel)) rfl, by decide +kernel, by decide +kernel, by decide +kernel⟩
theorem mb_L_82 : MB RL 82 yX11_drum cX11_drum 3 (some .boolean) 1 := ⟨mem_tg (List.mem_of_getElem? (i := 927) (by decide +kernel)) rfl, mem_tg (List.mem_of_getElem? (i := 52) (by decide +kernel)) rfl, mem_tg (List.mem_of_getElem? (i := 930) (by decide +kernel)) rfl, by decide +kernel, by decide +kernel, by decide +kernel⟩
theorem mv_X11_drum : Cond.instanceMethod yX11_drum ∈ tg ∧ Cond.selects yX11_drum.cls yX11_drum yX11_drum ∈ tg := ⟨mem_tg (List.mem_of_getElem? (i := 928) (by decide +kernel)) rfl, mem_tg (List.mem_of_getElem? (i := 929) (by decide +kernel)) rfl⟩
theorem mb_L_86 : MB RL 86 yX11_change cX11_change 6 (some .int) 0 := ⟨mem_tg (List.mem_of_getElem? (i := 931) (by decide +kernel)) rfl, mem_tg (List.mem_of_getElem? (i := 52) (by decide +kernel)) rfl, mem_tg (List.mem_of_getElem? (i := 934) (by decide +kernel)) rfl, by decide +kernel, by decide +kernel, by decide +kernel⟩
theorem mv_X11_change : Cond.instanceMethod yX11_change ∈ tg ∧ Cond.selects yX11_change.cls yX11_change yX11_change ∈ tg := ⟨mem_tg (List.mem_of_getElem? (i := 932) (by decide +kernel)) rfl, mem_tg (List.mem_of_getElem? (i := 933) (by decide +kernel)) rfl⟩
theorem mb_X11_152 : MB RX11 152 yX11_stepOf cX11_stepOf 3 (some .int) 2 := ⟨mem_tg (List.mem_of_getElem? (i := 935) (by decide +kernel)) rfl, mem_tg (List.mem_of_getElem? (i := 52) (by decide +kernel)) rfl, mem_tg (List.mem_of_getElem? (i := 938) (by decide +kernel)) rfl, by decide +kernel, by decide +kernel, by decide +kernel⟩
theorem mv_X11_stepOf : Cond.instanceMethod yX11_stepOf ∈ tg ∧ Cond.selects yX11_stepOf.cls yX11_stepOf yX11_stepOf ∈ tg := ⟨mem_tg (List.mem_of_getElem? (i := 937) (by decide +kernel)) rfl, mem_tg (List.mem_of_getElem? (i := 39) (by decide +kernel)) rfl⟩
theorem mb_L_90 : MB RL 90 yX11_turn cX11_turn 1 (some .int) 0 := ⟨mem_tg (List.mem_of_getElem? (i := 939) (by decide +kernel)) rfl, mem_tg (List.mem_of_getElem? (i := 52) (by decide +kernel)) rfl, mem_tg (List.mem_of_getElem? (i := 942) (by decide +kernel)) rfl, by decide +kernel, by decide +kernel, by decide +kernel⟩
theorem mv_X11_turn : Cond.instanceMethod yX11_turn ∈ tg ∧ Cond.selects yX11_turn.cls yX11_turn yX11_turn ∈ tg := ⟨mem_tg (List.mem_of_getElem? (i := 940) (by decide +kernel)) rfl, mem_tg (List.mem_of_getElem? (i := 941) (by decide +kernel)) rfl⟩
theorem mb_L_94 : MB RL 94 yX11_pin cX11_pin 3 (some .int) 2 := ⟨mem_tg (List.mem_of_getElem? (i := 943) (by decide +kernel)) rfl, mem_tg (List.mem_of_getElem? (i := 52) (by decide +kernel)) rfl, mem_tg (List.mem_of_getElem? (i := 946) (by decide +kernel)) rfl, by decide +kernel, by decide +kernel, by decide +kernel⟩
theorem mv_X11_pin : Cond.instanceMethod yX11_pin ∈ tg ∧ Cond.selects yX11_pin.cls yX11_pin yX11_pin ∈ tg := ⟨mem_tg (List.mem_of_getElem? (i := 944) (by decide +kernel)) rfl, mem_tg (List.mem_of_getElem? (i := 945) (by decide +kernel)) rfl⟩
theorem mb_L_98 : MB RL 98 yX11_pins cX11_pins 4 (some .int) 0 := ⟨mem_tg (List.mem_of_getElem? (i := 947) (by decide +kernel)) rfl, mem_tg (List.mem_of_getElem? (i := 52) (by decide +kernel)) rfl, mem_tg (List.mem_of_getElem? (i := 950) (by decide +kernel)) rfl, by decide +kernel, by decide +kernel, by decide +kernel⟩
theorem mv_X11_pins : Cond.instanceMethod yX11_pins ∈ tg ∧ Cond.selects yX11_pins.cls yX11_pins yX11_pins ∈ tg := ⟨mem_tg (List.mem_of_getElem? (i := 948) (by decide +kernel)) rfl, mem_tg (List.mem_of_getElem? (i := 949) (by decide +kernel)) rfl⟩
theorem mb_L_102 : MB RL 102 yX11_play cX11_play 5 (some .int) 1 := ⟨mem_tg (List.mem_of_getElem? (i := 951) (by decide +kernel)) rfl, mem_tg (List.mem_of_getElem? (i := 52) (by decide +kernel)) rfl, mem_tg (List.mem_of_getElem? (i := 954) (by decide +kernel)) rfl, by decide +kernel, by decide +kernel, by decide +kernel⟩
theorem mv_X11_play : Cond.instanceMethod yX11_play ∈ tg ∧ Cond.selects yX11_play.cls yX11_play yX11_play ∈ tg := ⟨mem_tg (List.mem_of_getElem? (i := 952) (by decide +kernel)) rfl, mem_tg (List.mem_of_getElem? (i := 953) (by decide +kernel)) rfl⟩
theorem mb_L_107 : MB RL 107 yX11_strikes cX11_strikes 2 (some .long) 1 := ⟨mem_tg (List.mem_of_getElem? (i := 955) (by decide +kernel)) rfl, mem_tg (List.mem_of_getElem? (i := 52) (by decide +kernel)) rfl, mem_tg (List.mem_of_getElem? (i := 958) (by decide +kernel)) rfl, by decide +kernel, by decide +kernel, by decide +kernel⟩
theorem mv_X11_strikes : Cond.instanceMethod yX11_strikes ∈ tg ∧ Cond.selects yX11_strikes.cls yX11_strikes yX11_strikes ∈ tg := ⟨mem_tg (List.mem_of_getElem? (i := 956) (by decide +kernel)) rfl, mem_tg (List.mem_of_getElem? (i := 957) (by decide +kernel)) rfl⟩
theorem mb_L_111 : MB RL 111 yX11_mend cX11_mend 4 (some .long) 1 := ⟨mem_tg (List.mem_of_getElem? (i := 960) (by decide +kernel)) rfl, mem_tg (List.mem_of_getElem? (i := 52) (by decide +kernel)) rfl, mem_tg (List.mem_of_getElem? (i := 963) (by decide +kernel)) rfl, by decide +kernel, by decide +kernel, by decide +kernel⟩
theorem mv_X11_mend : Cond.instanceMethod yX11_mend ∈ tg ∧ Cond.selects yX11_mend.cls yX11_mend yX11_mend ∈ tg := ⟨mem_tg (List.mem_of_getElem? (i := 961) (by decide +kernel)) rfl, mem_tg (List.mem_of_getElem? (i := 962) (by decide +kernel)) rfl⟩
theorem mb_L_115 : MB RL 115 yX11_worn cX11_worn 4 (some .int) 1 := ⟨mem_tg (List.mem_of_getElem? (i := 964) (by decide +kernel)) rfl, mem_tg (List.mem_of_getElem? (i := 52) (by decide +kernel)) rfl, mem_tg (List.mem_of_getElem? (i := 967) (by decide +kernel)) rfl, by decide +kernel, by decide +kernel, by decide +kernel⟩
theorem mv_X11_worn : Cond.instanceMethod yX11_worn ∈ tg ∧ Cond.selects yX11_worn.cls yX11_worn yX11_worn ∈ tg := ⟨mem_tg (List.mem_of_getElem? (i := 965) (by decide +kernel)) rfl, mem_tg (List.mem_of_getElem? (i := 966) (by decide +kernel)) rfl⟩
theorem mn_X10_9 : MN RX10 9 yX7_init "CarillonDesk" cX7_init 1 none 0 := ⟨List.mem_of_getElem? (i := 66) (by decide +kernel), mem_tg (List.mem_of_getElem? (i := 42) (by decide +kernel)) rfl, mem_tg (List.mem_of_getElem? (i := 68) (by decide +kernel)) rfl, by decide +kernel, by decide +kernel, by decide +kernel⟩
theorem mi_X7_init : Cond.instanceMethod yX7_init ∈ tg ∧ yX7_init.name = "<init>" := ⟨mem_tg (List.mem_of_getElem? (i := 67) (by decide +kernel)) rfl, rfl⟩
theorem mn_X4_11 : MN RX4 11 yX5_init "CarillonDesk" cX5_init 1 none 0 := ⟨List.mem_of_getElem? (i := 89) (by decide +kernel), mem_tg (List.mem_of_getElem? (i := 44) (by decide +kernel)) rfl, mem_tg (List.mem_of_getElem? (i := 91) (by decide +kernel)) rfl, by decide +kernel, by decide +kernel, by decide +kernel⟩
theorem mi_X5_init : Cond.instanceMethod yX5_init ∈ tg ∧ yX5_init.name = "<init>" := ⟨mem_tg (List.mem_of_getElem? (i := 90) (by decide +kernel)) rfl, rfl⟩
theorem mn_X10_27 : MN RX10 27 yX2_init "CarillonDesk" cX2_init 1 none 0 := ⟨List.mem_of_getElem? (i := 182) (by decide +kernel), mem_tg (List.mem_of_getElem? (i := 45) (by decide +kernel)) rfl, mem_tg (List.mem_of_getElem? (i := 184) (by decide +kernel)) rfl, by decide +kernel, by decide +kernel, by decide +kernel⟩
theorem mi_X2_init : Cond.instanceMethod yX2_init ∈ tg ∧ yX2_init.name = "<init>" := ⟨mem_tg (List.mem_of_getElem? (i := 183) (by decide +kernel)) rfl, rfl⟩
theorem mn_X2_11 : MN RX2 11 yX5_init "CarillonDesk" cX5_init 1 none 0 := ⟨List.mem_of_getElem? (i := 187) (by decide +kernel), mem_tg (List.mem_of_getElem? (i := 44) (by decide +kernel)) rfl, mem_tg (List.mem_of_getElem? (i := 91) (by decide +kernel)) rfl, by decide +kernel, by decide +kernel, by decide +kernel⟩
theorem mn_X2_27 : MN RX2 27 yX1_init "CarillonDesk" cX1_init 1 none 0 := ⟨List.mem_of_getElem? (i := 208) (by decide +kernel), mem_tg (List.mem_of_getElem? (i := 47) (by decide +kernel)) rfl, mem_tg (List.mem_of_getElem? (i := 210) (by decide +kernel)) rfl, by decide +kernel, by decide +kernel, by decide +kernel⟩
theorem mi_X1_init : Cond.instanceMethod yX1_init ∈ tg ∧ yX1_init.name = "<init>" := ⟨mem_tg (List.mem_of_getElem? (i := 209) (by decide +kernel)) rfl, rfl⟩
theorem mn_X2_34 : MN RX2 34 yX0_init "CarillonDesk" cX0_init 1 none 0 := ⟨List.mem_of_getElem? (i := 239) (by decide +kernel), mem_tg (List.mem_of_getElem? (i := 48) (by decide +kernel)) rfl, mem_tg (List.mem_of_getElem? (i := 241) (by decide +kernel)) rfl, by decide +kernel, by decide +kernel, by decide +kernel⟩
theorem mi_X0_init : Cond.instanceMethod yX0_init ∈ tg ∧ yX0_init.name = "<init>" := ⟨mem_tg (List.mem_of_getElem? (i := 240) (by decide +kernel)) rfl, rfl⟩
theorem mn_X10_58 : MN RX10 58 yX9_init "CarillonDesk" cX9_init 1 none 0 := ⟨List.mem_of_getElem? (i := 336) (by decide +kernel), mem_tg (List.mem_of_getElem? (i := 51) (by decide +kernel)) rfl, mem_tg (List.mem_of_getElem? (i := 338) (by decide +kernel)) rfl, by decide +kernel, by decide +kernel, by decide +kernel⟩
theorem mi_X9_init : Cond.instanceMethod yX9_init ∈ tg ∧ yX9_init.name = "<init>" := ⟨mem_tg (List.mem_of_getElem? (i := 337) (by decide +kernel)) rfl, rfl⟩
theorem nw_L_7 : NWk RL 7 10 8 := ⟨RX10, TX10, tyX10, clX10, mem_tg (List.mem_of_getElem? (i := 56) (by decide +kernel)) rfl, mem_tg (List.mem_of_getElem? (i := 57) (by decide +kernel)) rfl, mem_tg (List.mem_of_getElem? (i := 41) (by decide +kernel)) rfl, by decide +kernel⟩
theorem nw_X10_7 : NWk RX10 7 7 2 := ⟨RX7, TX7, tyX7, clX7, mem_tg (List.mem_of_getElem? (i := 64) (by decide +kernel)) rfl, mem_tg (List.mem_of_getElem? (i := 65) (by decide +kernel)) rfl, mem_tg (List.mem_of_getElem? (i := 42) (by decide +kernel)) rfl, by decide +kernel⟩
theorem nw_X10_16 : NWk RX10 16 4 16 := ⟨RX4, TX4, tyX4, clX4, mem_tg (List.mem_of_getElem? (i := 81) (by decide +kernel)) rfl, mem_tg (List.mem_of_getElem? (i := 82) (by decide +kernel)) rfl, mem_tg (List.mem_of_getElem? (i := 43) (by decide +kernel)) rfl, by decide +kernel⟩
theorem nw_X4_9 : NWk RX4 9 5 4 := ⟨RX5, TX5, tyX5, clX5, mem_tg (List.mem_of_getElem? (i := 87) (by decide +kernel)) rfl, mem_tg (List.mem_of_getElem? (i := 88) (by decide +kernel)) rfl, mem_tg (List.mem_of_getElem? (i := 44) (by decide +kernel)) rfl, by decide +kernel⟩
theorem nw_X10_25 : NWk RX10 25 2 8 := ⟨RX2, TX2, tyX2, clX2, mem_tg (List.mem_of_getElem? (i := 180) (by decide +kernel)) rfl, mem_tg (List.mem_of_getElem? (i := 181) (by decide +kernel)) rfl, mem_tg (List.mem_of_getElem? (i := 45) (by decide +kernel)) rfl, by decide +kernel⟩
theorem cn_X10_25 : Cond.classLink RX10 25 RX2 ∈ tg := mem_tg (List.mem_of_getElem? (i := 180) (by decide +kernel)) rfl
theorem nw_X2_9 : NWk RX2 9 5 4 := ⟨RX5, TX5, tyX5, clX5, mem_tg (List.mem_of_getElem? (i := 186) (by decide +kernel)) rfl, mem_tg (List.mem_of_getElem? (i := 88) (by decide +kernel)) rfl, mem_tg (List.mem_of_getElem? (i := 44) (by decide +kernel)) rfl, by decide +kernel⟩
theorem nw_X2_18 : NWk RX2 18 8 3 := ⟨RX8, TX8, tyX8, clX8, mem_tg (List.mem_of_getElem? (i := 188) (by decide +kernel)) rfl, mem_tg (List.mem_of_getElem? (i := 189) (by decide +kernel)) rfl, mem_tg (List.mem_of_getElem? (i := 46) (by decide +kernel)) rfl, by decide +kernel⟩
theorem nw_X2_25 : NWk RX2 25 1 5 := ⟨RX1, TX1, tyX1, clX1, mem_tg (List.mem_of_getElem? (i := 206) (by decide +kernel)) rfl, mem_tg (List.mem_of_getElem? (i := 207) (by decide +kernel)) rfl, mem_tg (List.mem_of_getElem? (i := 47) (by decide +kernel)) rfl, by decide +kernel⟩
theorem nw_X2_32 : NWk RX2 32 0 1 := ⟨RX0, TX0, tyX0, clX0, mem_tg (List.mem_of_getElem? (i := 237) (by decide +kernel)) rfl, mem_tg (List.mem_of_getElem? (i := 238) (by decide +kernel)) rfl, mem_tg (List.mem_of_getElem? (i := 48) (by decide +kernel)) rfl, by decide +kernel⟩
theorem nw_X10_36 : NWk RX10 36 6 8 := ⟨RX6, TX6, tyX6, clX6, mem_tg (List.mem_of_getElem? (i := 283) (by decide +kernel)) rfl, mem_tg (List.mem_of_getElem? (i := 284) (by decide +kernel)) rfl, mem_tg (List.mem_of_getElem? (i := 49) (by decide +kernel)) rfl, by decide +kernel⟩
theorem nw_X10_49 : NWk RX10 49 3 2 := ⟨RX3, TX3, tyX3, clX3, mem_tg (List.mem_of_getElem? (i := 319) (by decide +kernel)) rfl, mem_tg (List.mem_of_getElem? (i := 320) (by decide +kernel)) rfl, mem_tg (List.mem_of_getElem? (i := 50) (by decide +kernel)) rfl, by decide +kernel⟩
theorem cn_X3_9 : Cond.classLink RX3 9 "[[I" ∈ tg := mem_tg (List.mem_of_getElem? (i := 325) (by decide +kernel)) rfl
theorem nw_X10_56 : NWk RX10 56 9 3 := ⟨RX9, TX9, tyX9, clX9, mem_tg (List.mem_of_getElem? (i := 334) (by decide +kernel)) rfl, mem_tg (List.mem_of_getElem? (i := 335) (by decide +kernel)) rfl, mem_tg (List.mem_of_getElem? (i := 51) (by decide +kernel)) rfl, by decide +kernel⟩
theorem nw_L_10 : NWk RL 10 11 23 := ⟨RX11, TX11, tyX11, clX11, mem_tg (List.mem_of_getElem? (i := 709) (by decide +kernel)) rfl, mem_tg (List.mem_of_getElem? (i := 710) (by decide +kernel)) rfl, mem_tg (List.mem_of_getElem? (i := 52) (by decide +kernel)) rfl, by decide +kernel⟩
theorem kc_X4_38 : Cond.constant RX4 38 (1000000 : Int32) ∈ tg := mem_tg (List.mem_of_getElem? (i := 409) (by decide +kernel)) rfl
theorem kc_J6_265 : Cond.constant RJ6 265 (1431655765 : Int32) ∈ tg := mem_tg (List.mem_of_getElem? (i := 452) (by decide +kernel)) rfl
theorem kc_J6_266 : Cond.constant RJ6 266 (858993459 : Int32) ∈ tg := mem_tg (List.mem_of_getElem? (i := 453) (by decide +kernel)) rfl
theorem kc_J6_267 : Cond.constant RJ6 267 (252645135 : Int32) ∈ tg := mem_tg (List.mem_of_getElem? (i := 454) (by decide +kernel)) rfl
theorem kc_X11_42 : Cond.constant RX11 42 (1030301 : Int32) ∈ tg := mem_tg (List.mem_of_getElem? (i := 715) (by decide +kernel)) rfl
theorem kc_X11_120 : Cond.constant RX11 120 (100000000 : Int32) ∈ tg := mem_tg (List.mem_of_getElem? (i := 874) (by decide +kernel)) rfl
theorem kl_X10_214 : Cond.constantLong RX10 214 (-1 : Int64) ∈ tg := mem_tg (List.mem_of_getElem? (i := 668) (by decide +kernel)) rfl
theorem kl_X11_155 : Cond.constantLong RX11 155 (-1 : Int64) ∈ tg := mem_tg (List.mem_of_getElem? (i := 959) (by decide +kernel)) rfl
theorem jm_max : Cond.static Lib.Math.max.name ∈ tg := by decide +kernel
theorem jc_max : Cond.code Lib.Math.max.name Lib.Math.max.code 2 (some .int) ∈ tg := by decide +kernel
theorem jm_min : Cond.static Lib.Math.min.name ∈ tg := by decide +kernel
theorem jc_min : Cond.code Lib.Math.min.name Lib.Math.min.code 2 (some .int) ∈ tg := by decide +kernel
theorem jm_abs : Cond.static Lib.Math.abs.name ∈ tg := by decide +kernel
theorem jc_abs : Cond.code Lib.Math.abs.name Lib.Math.abs.code 1 (some .int) ∈ tg := by decide +kernel
theorem jm_ini : Cond.initialized "java/lang/Math" ∈ tg := by decide +kernel
theorem js_nat : Cond.native arraycopyName ∈ tg := by decide +kernel
theorem js_st : Cond.static arraycopyName ∈ tg := by decide +kernel
theorem js_ini : Cond.initialized "java/lang/System" ∈ tg := by decide +kernel
theorem jo_i : Cond.instanceMethod objectInit ∈ tg := by decide +kernel
theorem jo_c : Cond.code objectInit ⟨#[0xb1]⟩ 1 none ∈ tg := by decide +kernel
theorem ac_int : Cond.arrayClass (newarray.typeOf .int) ∈ tg := by decide +kernel
theorem ac_byte : Cond.arrayClass (newarray.typeOf .byte) ∈ tg := by decide +kernel
theorem ac_boolean : Cond.arrayClass (newarray.typeOf .boolean) ∈ tg := by decide +kernel
theorem ac_long : Cond.arrayClass (newarray.typeOf .long) ∈ tg := by decide +kernel
