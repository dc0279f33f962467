theorem qall_app {α : Type} {f : α → Bool} {a b : List α} (h1 : a.all f = true) (h2 : b.all f = true) : (a ++ b).all f = true := by rw [List.all_append, h1, h2]; rfl
theorem qdc0_0 : qdec cX0_init qc0_0 = true := by decide +kernel
theorem qck0_0 : qchks 0 qc0_0 = true := by decide +kernel
theorem qdc1_0 : qdec cX0_start qc1_0 = true := by decide +kernel
theorem qck1_0 : qchks 1 qc1_0 = true := by decide +kernel
theorem qdc2_0 : qdec cX0_forget qc2_0 = true := by decide +kernel
theorem qck2_0 : qchks 2 qc2_0 = true := by decide +kernel
theorem qdc3_0 : qdec cX0_stateAt qc3_0 = true := by decide +kernel
theorem qck3_0 : qchks 3 qc3_0 = true := by decide +kernel
theorem qdc4_0 : qdec cX0_lets qc4_0 = true := by decide +kernel
theorem qck4_0 : qchks 4 qc4_0 = true := by decide +kernel
theorem qdc5_0 : qdec cX0_note qc5_0 = true := by decide +kernel
theorem qck5_0 : qchks 5 qc5_0 = true := by decide +kernel
theorem qdc6_0 : qdec cX0_isTooBad qc6_0 = true := by decide +kernel
theorem qck6_0 : qchks 6 qc6_0 = true := by decide +kernel
theorem qdc6_1 : qdec cX0_isTooBad qc6_1 = true := by decide +kernel
theorem qck6_1 : qchks 6 qc6_1 = true := by decide +kernel
theorem qdc6_2 : qdec cX0_isTooBad qc6_2 = true := by decide +kernel
theorem qck6_2 : qchks 6 qc6_2 = true := by decide +kernel
theorem qdc7_0 : qdec cX1_init qc7_0 = true := by decide +kernel
theorem qck7_0 : qchks 7 qc7_0 = true := by decide +kernel
theorem qdc7_1 : qdec cX1_init qc7_1 = true := by decide +kernel
theorem qck7_1 : qchks 7 qc7_1 = true := by decide +kernel
theorem qdc8_0 : qdec cX1_go qc8_0 = true := by decide +kernel
theorem qck8_0 : qchks 8 qc8_0 = true := by decide +kernel
theorem qdc8_1 : qdec cX1_go qc8_1 = true := by decide +kernel
theorem qck8_1 : qchks 8 qc8_1 = true := by decide +kernel
theorem qdc9_0 : qdec cX1_start qc9_0 = true := by decide +kernel
theorem qck9_0 : qchks 9 qc9_0 = true := by decide +kernel
theorem qdc9_1 : qdec cX1_start qc9_1 = true := by decide +kernel
theorem qck9_1 : qchks 9 qc9_1 = true := by decide +kernel
theorem qdc10_0 : qdec cX1_isOver qc10_0 = true := by decide +kernel
theorem qck10_0 : qchks 10 qc10_0 = true := by decide +kernel
theorem qdc11_0 : qdec cX1_endWorks qc11_0 = true := by decide +kernel
theorem qck11_0 : qchks 11 qc11_0 = true := by decide +kernel
theorem qdc12_0 : qdec cX1_endWork qc12_0 = true := by decide +kernel
theorem qck12_0 : qchks 12 qc12_0 = true := by decide +kernel
theorem qdc12_1 : qdec cX1_endWork qc12_1 = true := by decide +kernel
theorem qck12_1 : qchks 12 qc12_1 = true := by decide +kernel
theorem qdc12_2 : qdec cX1_endWork qc12_2 = true := by decide +kernel
theorem qck12_2 : qchks 12 qc12_2 = true := by decide +kernel
theorem qdc13_0 : qdec cX1_isSpoilt qc13_0 = true := by decide +kernel
theorem qck13_0 : qchks 13 qc13_0 = true := by decide +kernel
theorem qdc14_0 : qdec cX1_endAsk qc14_0 = true := by decide +kernel
theorem qck14_0 : qchks 14 qc14_0 = true := by decide +kernel
theorem qdc15_0 : qdec cX1_endLate qc15_0 = true := by decide +kernel
theorem qck15_0 : qchks 15 qc15_0 = true := by decide +kernel
theorem qdc16_0 : qdec cX1_letCome qc16_0 = true := by decide +kernel
theorem qck16_0 : qchks 16 qc16_0 = true := by decide +kernel
theorem qdc16_1 : qdec cX1_letCome qc16_1 = true := by decide +kernel
theorem qck16_1 : qchks 16 qc16_1 = true := by decide +kernel
theorem qdc17_0 : qdec cX1_sendAgain qc17_0 = true := by decide +kernel
theorem qck17_0 : qchks 17 qc17_0 = true := by decide +kernel
theorem qdc17_1 : qdec cX1_sendAgain qc17_1 = true := by decide +kernel
theorem qck17_1 : qchks 17 qc17_1 = true := by decide +kernel
theorem qdc18_0 : qdec cX1_sendHedges qc18_0 = true := by decide +kernel
theorem qck18_0 : qchks 18 qc18_0 = true := by decide +kernel
theorem qdc18_1 : qdec cX1_sendHedges qc18_1 = true := by decide +kernel
theorem qck18_1 : qchks 18 qc18_1 = true := by decide +kernel
theorem qdc19_0 : qdec cX1_isToHedge qc19_0 = true := by decide +kernel
theorem qck19_0 : qchks 19 qc19_0 = true := by decide +kernel
theorem qdc20_0 : qdec cX1_beginWorks qc20_0 = true := by decide +kernel
theorem qck20_0 : qchks 20 qc20_0 = true := by decide +kernel
theorem qdc20_1 : qdec cX1_beginWorks qc20_1 = true := by decide +kernel
theorem qck20_1 : qchks 20 qc20_1 = true := by decide +kernel
theorem qdc21_0 : qdec cX1_copies qc21_0 = true := by decide +kernel
theorem qck21_0 : qchks 21 qc21_0 = true := by decide +kernel
theorem qdc22_0 : qdec cX1_send qc22_0 = true := by decide +kernel
theorem qck22_0 : qchks 22 qc22_0 = true := by decide +kernel
theorem qdc22_1 : qdec cX1_send qc22_1 = true := by decide +kernel
theorem qck22_1 : qchks 22 qc22_1 = true := by decide +kernel
theorem qdc23_0 : qdec cX1_hostFor qc23_0 = true := by decide +kernel
theorem qck23_0 : qchks 23 qc23_0 = true := by decide +kernel
theorem qdc23_1 : qdec cX1_hostFor qc23_1 = true := by decide +kernel
theorem qck23_1 : qchks 23 qc23_1 = true := by decide +kernel
theorem qdc24_0 : qdec cX1_placeToShed qc24_0 = true := by decide +kernel
theorem qck24_0 : qchks 24 qc24_0 = true := by decide +kernel
theorem qdc25_0 : qdec cX1_worth qc25_0 = true := by decide +kernel
theorem qck25_0 : qchks 25 qc25_0 = true := by decide +kernel
theorem qdc26_0 : qdec cX1_howMany qc26_0 = true := by decide +kernel
theorem qck26_0 : qchks 26 qc26_0 = true := by decide +kernel
theorem qdc27_0 : qdec cX1_wasted qc27_0 = true := by decide +kernel
theorem qck27_0 : qchks 27 qc27_0 = true := by decide +kernel
theorem qdc28_0 : qdec cX1_shedByAll qc28_0 = true := by decide +kernel
theorem qck28_0 : qchks 28 qc28_0 = true := by decide +kernel
theorem qdc29_0 : qdec cX1_ofAsk qc29_0 = true := by decide +kernel
theorem qck29_0 : qchks 29 qc29_0 = true := by decide +kernel
theorem qdc30_0 : qdec cX1_ofAll qc30_0 = true := by decide +kernel
theorem qck30_0 : qchks 30 qc30_0 = true := by decide +kernel
theorem qdc31_0 : qdec cX2_init qc31_0 = true := by decide +kernel
theorem qck31_0 : qchks 31 qc31_0 = true := by decide +kernel
theorem qdc32_0 : qdec cX2_add qc32_0 = true := by decide +kernel
theorem qck32_0 : qchks 32 qc32_0 = true := by decide +kernel
theorem qdc32_1 : qdec cX2_add qc32_1 = true := by decide +kernel
theorem qck32_1 : qchks 32 qc32_1 = true := by decide +kernel
theorem qdc33_0 : qdec cX2_takeBack qc33_0 = true := by decide +kernel
theorem qck33_0 : qchks 33 qc33_0 = true := by decide +kernel
theorem qdc34_0 : qdec cX3_init qc34_0 = true := by decide +kernel
theorem qck34_0 : qchks 34 qc34_0 = true := by decide +kernel
theorem qdc35_0 : qdec cX3_start qc35_0 = true := by decide +kernel
theorem qck35_0 : qchks 35 qc35_0 = true := by decide +kernel
theorem qdc36_0 : qdec cX3_holdsCopy qc36_0 = true := by decide +kernel
theorem qck36_0 : qchks 36 qc36_0 = true := by decide +kernel
theorem qdc37_0 : qdec cX3_copies qc37_0 = true := by decide +kernel
theorem qck37_0 : qchks 37 qc37_0 = true := by decide +kernel
theorem qdc38_0 : qdec cX3_queue qc38_0 = true := by decide +kernel
theorem qck38_0 : qchks 38 qc38_0 = true := by decide +kernel
theorem qdc39_0 : qdec cX3_dropAt qc39_0 = true := by decide +kernel
theorem qck39_0 : qchks 39 qc39_0 = true := by decide +kernel
theorem qdc39_1 : qdec cX3_dropAt qc39_1 = true := by decide +kernel
theorem qck39_1 : qchks 39 qc39_1 = true := by decide +kernel
theorem qdc40_0 : qdec cX3_placeOf qc40_0 = true := by decide +kernel
theorem qck40_0 : qchks 40 qc40_0 = true := by decide +kernel
theorem qdc41_0 : qdec cX3_beginFirst qc41_0 = true := by decide +kernel
theorem qck41_0 : qchks 41 qc41_0 = true := by decide +kernel
theorem qdc41_1 : qdec cX3_beginFirst qc41_1 = true := by decide +kernel
theorem qck41_1 : qchks 41 qc41_1 = true := by decide +kernel
theorem qdc42_0 : qdec cX3_endsFirstAt qc42_0 = true := by decide +kernel
theorem qck42_0 : qchks 42 qc42_0 = true := by decide +kernel
theorem qdc43_0 : qdec cX3_endFirst qc43_0 = true := by decide +kernel
theorem qck43_0 : qchks 43 qc43_0 = true := by decide +kernel
theorem qdc43_1 : qdec cX3_endFirst qc43_1 = true := by decide +kernel
theorem qck43_1 : qchks 43 qc43_1 = true := by decide +kernel
theorem qdc44_0 : qdec cX3_counted qc44_0 = true := by decide +kernel
theorem qck44_0 : qchks 44 qc44_0 = true := by decide +kernel
theorem qdc45_0 : qdec cX3_standing qc45_0 = true := by decide +kernel
theorem qck45_0 : qchks 45 qc45_0 = true := by decide +kernel
theorem qdc46_0 : qdec cX4_init qc46_0 = true := by decide +kernel
theorem qck46_0 : qchks 46 qc46_0 = true := by decide +kernel
theorem qdc47_0 : qdec cX4_read qc47_0 = true := by decide +kernel
theorem qck47_0 : qchks 47 qc47_0 = true := by decide +kernel
theorem qdc48_0 : qdec cX4_readPart qc48_0 = true := by decide +kernel
theorem qck48_0 : qchks 48 qc48_0 = true := by decide +kernel
theorem qdc48_1 : qdec cX4_readPart qc48_1 = true := by decide +kernel
theorem qck48_1 : qchks 48 qc48_1 = true := by decide +kernel
theorem qdc49_0 : qdec cX4_readHost qc49_0 = true := by decide +kernel
theorem qck49_0 : qchks 49 qc49_0 = true := by decide +kernel
theorem qdc50_0 : qdec cX4_readSpan qc50_0 = true := by decide +kernel
theorem qck50_0 : qchks 50 qc50_0 = true := by decide +kernel
theorem qdc51_0 : qdec cX4_readAsk qc51_0 = true := by decide +kernel
theorem qck51_0 : qchks 51 qc51_0 = true := by decide +kernel
theorem qdc52_0 : qdec cX4_figure qc52_0 = true := by decide +kernel
theorem qck52_0 : qchks 52 qc52_0 = true := by decide +kernel
theorem qdc52_1 : qdec cX4_figure qc52_1 = true := by decide +kernel
theorem qck52_1 : qchks 52 qc52_1 = true := by decide +kernel
theorem qdc53_0 : qdec cX4_twoFigures qc53_0 = true := by decide +kernel
theorem qck53_0 : qchks 53 qc53_0 = true := by decide +kernel
theorem qdc54_0 : qdec cX5_init qc54_0 = true := by decide +kernel
theorem qck54_0 : qchks 54 qc54_0 = true := by decide +kernel
theorem qdc55_0 : qdec cX5_reset qc55_0 = true := by decide +kernel
theorem qck55_0 : qchks 55 qc55_0 = true := by decide +kernel
theorem qdc56_0 : qdec cX5_takeFrom qc56_0 = true := by decide +kernel
theorem qck56_0 : qchks 56 qc56_0 = true := by decide +kernel
theorem qdc57_0 : qdec cX5_isOut qc57_0 = true := by decide +kernel
theorem qck57_0 : qchks 57 qc57_0 = true := by decide +kernel
theorem qdc58_0 : qdec cX5_fits qc58_0 = true := by decide +kernel
theorem qck58_0 : qchks 58 qc58_0 = true := by decide +kernel
theorem qdc59_0 : qdec cX6_init qc59_0 = true := by decide +kernel
theorem qck59_0 : qchks 59 qc59_0 = true := by decide +kernel
theorem qdc60_0 : qdec cX6_add qc60_0 = true := by decide +kernel
theorem qck60_0 : qchks 60 qc60_0 = true := by decide +kernel
theorem qdc61_0 : qdec cX6_isSo qc61_0 = true := by decide +kernel
theorem qck61_0 : qchks 61 qc61_0 = true := by decide +kernel
theorem qdc62_0 : qdec cX7_init qc62_0 = true := by decide +kernel
theorem qck62_0 : qchks 62 qc62_0 = true := by decide +kernel
theorem qdc62_1 : qdec cX7_init qc62_1 = true := by decide +kernel
theorem qck62_1 : qchks 62 qc62_1 = true := by decide +kernel
theorem qdc63_0 : qdec cX7_clear qc63_0 = true := by decide +kernel
theorem qck63_0 : qchks 63 qc63_0 = true := by decide +kernel
theorem qdc64_0 : qdec cX7_hasHost qc64_0 = true := by decide +kernel
theorem qck64_0 : qchks 64 qc64_0 = true := by decide +kernel
theorem qdc65_0 : qdec cX7_hasAsk qc65_0 = true := by decide +kernel
theorem qck65_0 : qchks 65 qc65_0 = true := by decide +kernel
theorem qdc66_0 : qdec cX7_ofHost qc66_0 = true := by decide +kernel
theorem qck66_0 : qchks 66 qc66_0 = true := by decide +kernel
theorem qdc67_0 : qdec cX7_ofAsk qc67_0 = true := by decide +kernel
theorem qck67_0 : qchks 67 qc67_0 = true := by decide +kernel
theorem qdc68_0 : qdec cX7_inSpan qc68_0 = true := by decide +kernel
theorem qck68_0 : qchks 68 qc68_0 = true := by decide +kernel
theorem qdc69_0 : qdec cX8_init qc69_0 = true := by decide +kernel
theorem qck69_0 : qchks 69 qc69_0 = true := by decide +kernel
theorem qdc69_1 : qdec cX8_init qc69_1 = true := by decide +kernel
theorem qck69_1 : qchks 69 qc69_1 = true := by decide +kernel
theorem qdc69_2 : qdec cX8_init qc69_2 = true := by decide +kernel
theorem qck69_2 : qchks 69 qc69_2 = true := by decide +kernel
theorem qdc70_0 : qdec cX8_write qc70_0 = true := by decide +kernel
theorem qck70_0 : qchks 70 qc70_0 = true := by decide +kernel
theorem qdc71_0 : qdec cX8_wipe qc71_0 = true := by decide +kernel
theorem qck71_0 : qchks 71 qc71_0 = true := by decide +kernel
theorem qdc72_0 : qdec cX8_fault qc72_0 = true := by decide +kernel
theorem qck72_0 : qchks 72 qc72_0 = true := by decide +kernel
theorem qdc73_0 : qdec cX8_day qc73_0 = true := by decide +kernel
theorem qck73_0 : qchks 73 qc73_0 = true := by decide +kernel
theorem qdc73_1 : qdec cX8_day qc73_1 = true := by decide +kernel
theorem qck73_1 : qchks 73 qc73_1 = true := by decide +kernel
theorem qdc74_0 : qdec cX8_about qc74_0 = true := by decide +kernel
theorem qck74_0 : qchks 74 qc74_0 = true := by decide +kernel
theorem qdc74_1 : qdec cX8_about qc74_1 = true := by decide +kernel
theorem qck74_1 : qchks 74 qc74_1 = true := by decide +kernel
theorem qdc75_0 : qdec cX8_set qc75_0 = true := by decide +kernel
theorem qck75_0 : qchks 75 qc75_0 = true := by decide +kernel
theorem qdc76_0 : qdec cX8_turn qc76_0 = true := by decide +kernel
theorem qck76_0 : qchks 76 qc76_0 = true := by decide +kernel
theorem qdc77_0 : qdec cX8_undo qc77_0 = true := by decide +kernel
theorem qck77_0 : qchks 77 qc77_0 = true := by decide +kernel
theorem qdc78_0 : qdec cX8_ask qc78_0 = true := by decide +kernel
theorem qck78_0 : qchks 78 qc78_0 = true := by decide +kernel
theorem qdc79_0 : qdec cX8_host qc79_0 = true := by decide +kernel
theorem qck79_0 : qchks 79 qc79_0 = true := by decide +kernel
theorem qdc79_1 : qdec cX8_host qc79_1 = true := by decide +kernel
theorem qck79_1 : qchks 79 qc79_1 = true := by decide +kernel
theorem qdc80_0 : qdec cX8_total qc80_0 = true := by decide +kernel
theorem qck80_0 : qchks 80 qc80_0 = true := by decide +kernel
theorem qdc81_0 : qdec cX8_stand qc81_0 = true := by decide +kernel
theorem qck81_0 : qchks 81 qc81_0 = true := by decide +kernel
theorem qdc82_0 : qdec cX8_best qc82_0 = true := by decide +kernel
theorem qck82_0 : qchks 82 qc82_0 = true := by decide +kernel
theorem qdc82_1 : qdec cX8_best qc82_1 = true := by decide +kernel
theorem qck82_1 : qchks 82 qc82_1 = true := by decide +kernel
theorem qdc82_2 : qdec cX8_best qc82_2 = true := by decide +kernel
theorem qck82_2 : qchks 82 qc82_2 = true := by decide +kernel
theorem qdc83_0 : qdec cX8_judge qc83_0 = true := by decide +kernel
theorem qck83_0 : qchks 83 qc83_0 = true := by decide +kernel
theorem qdc83_1 : qdec cX8_judge qc83_1 = true := by decide +kernel
theorem qck83_1 : qchks 83 qc83_1 = true := by decide +kernel
theorem qdc84_0 : qdec cX8_see qc84_0 = true := by decide +kernel
theorem qck84_0 : qchks 84 qc84_0 = true := by decide +kernel
theorem qdc85_0 : qdec cX8_unsee qc85_0 = true := by decide +kernel
theorem qck85_0 : qchks 85 qc85_0 = true := by decide +kernel
theorem qdc86_0 : qdec cX8_which qc86_0 = true := by decide +kernel
theorem qck86_0 : qchks 86 qc86_0 = true := by decide +kernel
theorem qdc87_0 : qdec cX8_share qc87_0 = true := by decide +kernel
theorem qck87_0 : qchks 87 qc87_0 = true := by decide +kernel
theorem qdc87_1 : qdec cX8_share qc87_1 = true := by decide +kernel
theorem qck87_1 : qchks 87 qc87_1 = true := by decide +kernel
theorem qdc87_2 : qdec cX8_share qc87_2 = true := by decide +kernel
theorem qck87_2 : qchks 87 qc87_2 = true := by decide +kernel
theorem qdc88_0 : qdec cX8_calm qc88_0 = true := by decide +kernel
theorem qck88_0 : qchks 88 qc88_0 = true := by decide +kernel
theorem qdc88_1 : qdec cX8_calm qc88_1 = true := by decide +kernel
theorem qck88_1 : qchks 88 qc88_1 = true := by decide +kernel
theorem qdc89_0 : qdec cX8_seed qc89_0 = true := by decide +kernel
theorem qck89_0 : qchks 89 qc89_0 = true := by decide +kernel
theorem qdc90_0 : qdec cX8_drawn qc90_0 = true := by decide +kernel
theorem qck90_0 : qchks 90 qc90_0 = true := by decide +kernel
theorem qdc90_1 : qdec cX8_drawn qc90_1 = true := by decide +kernel
theorem qck90_1 : qchks 90 qc90_1 = true := by decide +kernel
theorem qdc91_0 : qdec cX8_keep qc91_0 = true := by decide +kernel
theorem qck91_0 : qchks 91 qc91_0 = true := by decide +kernel
theorem qdc92_0 : qdec cX8_again qc92_0 = true := by decide +kernel
theorem qck92_0 : qchks 92 qc92_0 = true := by decide +kernel
theorem qdc93_0 : qdec cX8_tryPolicy qc93_0 = true := by decide +kernel
theorem qck93_0 : qchks 93 qc93_0 = true := by decide +kernel
theorem qdc94_0 : qdec cX8_holds qc94_0 = true := by decide +kernel
theorem qck94_0 : qchks 94 qc94_0 = true := by decide +kernel
theorem qdc94_1 : qdec cX8_holds qc94_1 = true := by decide +kernel
theorem qck94_1 : qchks 94 qc94_1 = true := by decide +kernel
theorem qdc94_2 : qdec cX8_holds qc94_2 = true := by decide +kernel
theorem qck94_2 : qchks 94 qc94_2 = true := by decide +kernel
theorem qdc95_0 : qdec cX8_endsBy qc95_0 = true := by decide +kernel
theorem qck95_0 : qchks 95 qc95_0 = true := by decide +kernel
theorem qdc96_0 : qdec cX8_putsOut qc96_0 = true := by decide +kernel
theorem qck96_0 : qchks 96 qc96_0 = true := by decide +kernel
theorem qdc96_1 : qdec cX8_putsOut qc96_1 = true := by decide +kernel
theorem qck96_1 : qchks 96 qc96_1 = true := by decide +kernel
theorem qdc97_0 : qdec cX8_orders qc97_0 = true := by decide +kernel
theorem qck97_0 : qchks 97 qc97_0 = true := by decide +kernel
theorem qdc97_1 : qdec cX8_orders qc97_1 = true := by decide +kernel
theorem qck97_1 : qchks 97 qc97_1 = true := by decide +kernel
theorem qdc98_0 : qdec cX8_chance qc98_0 = true := by decide +kernel
theorem qck98_0 : qchks 98 qc98_0 = true := by decide +kernel
theorem qdc99_0 : qdec cX8_draw qc99_0 = true := by decide +kernel
theorem qck99_0 : qchks 99 qc99_0 = true := by decide +kernel
theorem qdc100_0 : qdec cX8_ofFraction qc100_0 = true := by decide +kernel
theorem qck100_0 : qchks 100 qc100_0 = true := by decide +kernel
theorem qdc101_0 : qdec cX8_bitsOf qc101_0 = true := by decide +kernel
theorem qck101_0 : qchks 101 qc101_0 = true := by decide +kernel
theorem qdc101_1 : qdec cX8_bitsOf qc101_1 = true := by decide +kernel
theorem qck101_1 : qchks 101 qc101_1 = true := by decide +kernel
theorem qdc102_0 : qdec cX9_init qc102_0 = true := by decide +kernel
theorem qck102_0 : qchks 102 qc102_0 = true := by decide +kernel
theorem qdc102_1 : qdec cX9_init qc102_1 = true := by decide +kernel
theorem qck102_1 : qchks 102 qc102_1 = true := by decide +kernel
theorem qdc102_2 : qdec cX9_init qc102_2 = true := by decide +kernel
theorem qck102_2 : qchks 102 qc102_2 = true := by decide +kernel
theorem qdc102_3 : qdec cX9_init qc102_3 = true := by decide +kernel
theorem qck102_3 : qchks 102 qc102_3 = true := by decide +kernel
theorem qdc102_4 : qdec cX9_init qc102_4 = true := by decide +kernel
theorem qck102_4 : qchks 102 qc102_4 = true := by decide +kernel
theorem qdc102_5 : qdec cX9_init qc102_5 = true := by decide +kernel
theorem qck102_5 : qchks 102 qc102_5 = true := by decide +kernel
theorem qdc103_0 : qdec cX9_begin qc103_0 = true := by decide +kernel
theorem qck103_0 : qchks 103 qc103_0 = true := by decide +kernel
theorem qdc104_0 : qdec cX9_in qc104_0 = true := by decide +kernel
theorem qck104_0 : qchks 104 qc104_0 = true := by decide +kernel
theorem qdc105_0 : qdec cX9_has qc105_0 = true := by decide +kernel
theorem qck105_0 : qchks 105 qc105_0 = true := by decide +kernel
theorem qdc106_0 : qdec cX9_ones qc106_0 = true := by decide +kernel
theorem qck106_0 : qchks 106 qc106_0 = true := by decide +kernel
theorem qdc107_0 : qdec cX9_power qc107_0 = true := by decide +kernel
theorem qck107_0 : qchks 107 qc107_0 = true := by decide +kernel
theorem qdc108_0 : qdec cX9_factorial qc108_0 = true := by decide +kernel
theorem qck108_0 : qchks 108 qc108_0 = true := by decide +kernel
theorem qdc109_0 : qdec cX9_divisor qc109_0 = true := by decide +kernel
theorem qck109_0 : qchks 109 qc109_0 = true := by decide +kernel
theorem qdc110_0 : qdec cX9_fraction qc110_0 = true := by decide +kernel
theorem qck110_0 : qchks 110 qc110_0 = true := by decide +kernel
theorem qdc111_0 : qdec cX9_wholeOf qc111_0 = true := by decide +kernel
theorem qck111_0 : qchks 111 qc111_0 = true := by decide +kernel
theorem qdc112_0 : qdec cX9_powerOf qc112_0 = true := by decide +kernel
theorem qck112_0 : qchks 112 qc112_0 = true := by decide +kernel
theorem qdc113_0 : qdec cX9_bitsOf qc113_0 = true := by decide +kernel
theorem qck113_0 : qchks 113 qc113_0 = true := by decide +kernel
theorem qdc113_1 : qdec cX9_bitsOf qc113_1 = true := by decide +kernel
theorem qck113_1 : qchks 113 qc113_1 = true := by decide +kernel
theorem qdc113_2 : qdec cX9_bitsOf qc113_2 = true := by decide +kernel
theorem qck113_2 : qchks 113 qc113_2 = true := by decide +kernel
theorem qdc113_3 : qdec cX9_bitsOf qc113_3 = true := by decide +kernel
theorem qck113_3 : qchks 113 qc113_3 = true := by decide +kernel
theorem qdc114_0 : qdec cX9_plus qc114_0 = true := by decide +kernel
theorem qck114_0 : qchks 114 qc114_0 = true := by decide +kernel
theorem qdc114_1 : qdec cX9_plus qc114_1 = true := by decide +kernel
theorem qck114_1 : qchks 114 qc114_1 = true := by decide +kernel
theorem qdc115_0 : qdec cX9_toward qc115_0 = true := by decide +kernel
theorem qck115_0 : qchks 115 qc115_0 = true := by decide +kernel
theorem qdc116_0 : qdec cX9_isMore qc116_0 = true := by decide +kernel
theorem qck116_0 : qchks 116 qc116_0 = true := by decide +kernel
theorem qdc117_0 : qdec cX9_write qc117_0 = true := by decide +kernel
theorem qck117_0 : qchks 117 qc117_0 = true := by decide +kernel
theorem qdc118_0 : qdec cX9_wipe qc118_0 = true := by decide +kernel
theorem qck118_0 : qchks 118 qc118_0 = true := by decide +kernel
theorem qdc119_0 : qdec cX9_takePart qc119_0 = true := by decide +kernel
theorem qck119_0 : qchks 119 qc119_0 = true := by decide +kernel
theorem qdc120_0 : qdec cX9_takeOfHost qc120_0 = true := by decide +kernel
theorem qck120_0 : qchks 120 qc120_0 = true := by decide +kernel
theorem qdc120_1 : qdec cX9_takeOfHost qc120_1 = true := by decide +kernel
theorem qck120_1 : qchks 120 qc120_1 = true := by decide +kernel
theorem qdc121_0 : qdec cX9_takeOfSpan qc121_0 = true := by decide +kernel
theorem qck121_0 : qchks 121 qc121_0 = true := by decide +kernel
theorem qdc121_1 : qdec cX9_takeOfSpan qc121_1 = true := by decide +kernel
theorem qck121_1 : qchks 121 qc121_1 = true := by decide +kernel
theorem qdc121_2 : qdec cX9_takeOfSpan qc121_2 = true := by decide +kernel
theorem qck121_2 : qchks 121 qc121_2 = true := by decide +kernel
theorem qdc122_0 : qdec cX9_takeOfAsk qc122_0 = true := by decide +kernel
theorem qck122_0 : qchks 122 qc122_0 = true := by decide +kernel
theorem qdc122_1 : qdec cX9_takeOfAsk qc122_1 = true := by decide +kernel
theorem qck122_1 : qchks 122 qc122_1 = true := by decide +kernel
theorem qdc122_2 : qdec cX9_takeOfAsk qc122_2 = true := by decide +kernel
theorem qck122_2 : qchks 122 qc122_2 = true := by decide +kernel
theorem qdc123_0 : qdec cX9_readText qc123_0 = true := by decide +kernel
theorem qck123_0 : qchks 123 qc123_0 = true := by decide +kernel
theorem qdc123_1 : qdec cX9_readText qc123_1 = true := by decide +kernel
theorem qck123_1 : qchks 123 qc123_1 = true := by decide +kernel
theorem qdc123_2 : qdec cX9_readText qc123_2 = true := by decide +kernel
theorem qck123_2 : qchks 123 qc123_2 = true := by decide +kernel
theorem qdc124_0 : qdec cX9_fault qc124_0 = true := by decide +kernel
theorem qck124_0 : qchks 124 qc124_0 = true := by decide +kernel
theorem qdc125_0 : qdec cX9_day qc125_0 = true := by decide +kernel
theorem qck125_0 : qchks 125 qc125_0 = true := by decide +kernel
theorem qdc125_1 : qdec cX9_day qc125_1 = true := by decide +kernel
theorem qck125_1 : qchks 125 qc125_1 = true := by decide +kernel
theorem qdc125_2 : qdec cX9_day qc125_2 = true := by decide +kernel
theorem qck125_2 : qchks 125 qc125_2 = true := by decide +kernel
theorem qdc125_3 : qdec cX9_day qc125_3 = true := by decide +kernel
theorem qck125_3 : qchks 125 qc125_3 = true := by decide +kernel
theorem qdc126_0 : qdec cX9_manyCopiesAt qc126_0 = true := by decide +kernel
theorem qck126_0 : qchks 126 qc126_0 = true := by decide +kernel
theorem qdc127_0 : qdec cX9_waitsAt qc127_0 = true := by decide +kernel
theorem qck127_0 : qchks 127 qc127_0 = true := by decide +kernel
theorem qdc128_0 : qdec cX9_isWorkedAt qc128_0 = true := by decide +kernel
theorem qck128_0 : qchks 128 qc128_0 = true := by decide +kernel
theorem qdc129_0 : qdec cX9_copiesOf qc129_0 = true := by decide +kernel
theorem qck129_0 : qchks 129 qc129_0 = true := by decide +kernel
theorem qdc130_0 : qdec cX9_takeFromRow qc130_0 = true := by decide +kernel
theorem qck130_0 : qchks 130 qc130_0 = true := by decide +kernel
theorem qdc131_0 : qdec cX9_dropWaiting qc131_0 = true := by decide +kernel
theorem qck131_0 : qchks 131 qc131_0 = true := by decide +kernel
theorem qdc132_0 : qdec cX9_breakerAt qc132_0 = true := by decide +kernel
theorem qck132_0 : qchks 132 qc132_0 = true := by decide +kernel
theorem qdc133_0 : qdec cX9_mayTake qc133_0 = true := by decide +kernel
theorem qck133_0 : qchks 133 qc133_0 = true := by decide +kernel
theorem qdc133_1 : qdec cX9_mayTake qc133_1 = true := by decide +kernel
theorem qck133_1 : qchks 133 qc133_1 = true := by decide +kernel
theorem qdc134_0 : qdec cX9_weight qc134_0 = true := by decide +kernel
theorem qck134_0 : qchks 134 qc134_0 = true := by decide +kernel
theorem qdc135_0 : qdec cX9_shedOne qc135_0 = true := by decide +kernel
theorem qck135_0 : qchks 135 qc135_0 = true := by decide +kernel
theorem qdc135_1 : qdec cX9_shedOne qc135_1 = true := by decide +kernel
theorem qck135_1 : qchks 135 qc135_1 = true := by decide +kernel
theorem qdc136_0 : qdec cX9_send qc136_0 = true := by decide +kernel
theorem qck136_0 : qchks 136 qc136_0 = true := by decide +kernel
theorem qdc136_1 : qdec cX9_send qc136_1 = true := by decide +kernel
theorem qck136_1 : qchks 136 qc136_1 = true := by decide +kernel
theorem qdc136_2 : qdec cX9_send qc136_2 = true := by decide +kernel
theorem qck136_2 : qchks 136 qc136_2 = true := by decide +kernel
theorem qdc137_0 : qdec cX9_isSpoilt qc137_0 = true := by decide +kernel
theorem qck137_0 : qchks 137 qc137_0 = true := by decide +kernel
theorem qdc137_1 : qdec cX9_isSpoilt qc137_1 = true := by decide +kernel
theorem qck137_1 : qchks 137 qc137_1 = true := by decide +kernel
theorem qdc138_0 : qdec cX9_forget qc138_0 = true := by decide +kernel
theorem qck138_0 : qchks 138 qc138_0 = true := by decide +kernel
theorem qdc139_0 : qdec cX9_open qc139_0 = true := by decide +kernel
theorem qck139_0 : qchks 139 qc139_0 = true := by decide +kernel
theorem qdc140_0 : qdec cX9_note qc140_0 = true := by decide +kernel
theorem qck140_0 : qchks 140 qc140_0 = true := by decide +kernel
theorem qdc140_1 : qdec cX9_note qc140_1 = true := by decide +kernel
theorem qck140_1 : qchks 140 qc140_1 = true := by decide +kernel
theorem qdc140_2 : qdec cX9_note qc140_2 = true := by decide +kernel
theorem qck140_2 : qchks 140 qc140_2 = true := by decide +kernel
theorem qdc140_3 : qdec cX9_note qc140_3 = true := by decide +kernel
theorem qck140_3 : qchks 140 qc140_3 = true := by decide +kernel
theorem qdc141_0 : qdec cX9_endOne qc141_0 = true := by decide +kernel
theorem qck141_0 : qchks 141 qc141_0 = true := by decide +kernel
theorem qdc141_1 : qdec cX9_endOne qc141_1 = true := by decide +kernel
theorem qck141_1 : qchks 141 qc141_1 = true := by decide +kernel
theorem qdc142_0 : qdec cX9_endsAt qc142_0 = true := by decide +kernel
theorem qck142_0 : qchks 142 qc142_0 = true := by decide +kernel
theorem qdc142_1 : qdec cX9_endsAt qc142_1 = true := by decide +kernel
theorem qck142_1 : qchks 142 qc142_1 = true := by decide +kernel
theorem qdc142_2 : qdec cX9_endsAt qc142_2 = true := by decide +kernel
theorem qck142_2 : qchks 142 qc142_2 = true := by decide +kernel
theorem qdc143_0 : qdec cX9_limitsAt qc143_0 = true := by decide +kernel
theorem qck143_0 : qchks 143 qc143_0 = true := by decide +kernel
theorem qdc144_0 : qdec cX9_comesAt qc144_0 = true := by decide +kernel
theorem qck144_0 : qchks 144 qc144_0 = true := by decide +kernel
theorem qdc144_1 : qdec cX9_comesAt qc144_1 = true := by decide +kernel
theorem qck144_1 : qchks 144 qc144_1 = true := by decide +kernel
theorem qdc145_0 : qdec cX9_againAt qc145_0 = true := by decide +kernel
theorem qck145_0 : qchks 145 qc145_0 = true := by decide +kernel
theorem qdc145_1 : qdec cX9_againAt qc145_1 = true := by decide +kernel
theorem qck145_1 : qchks 145 qc145_1 = true := by decide +kernel
theorem qdc146_0 : qdec cX9_hedgesAt qc146_0 = true := by decide +kernel
theorem qck146_0 : qchks 146 qc146_0 = true := by decide +kernel
theorem qdc146_1 : qdec cX9_hedgesAt qc146_1 = true := by decide +kernel
theorem qck146_1 : qchks 146 qc146_1 = true := by decide +kernel
theorem qdc147_0 : qdec cX9_beginsAt qc147_0 = true := by decide +kernel
theorem qck147_0 : qchks 147 qc147_0 = true := by decide +kernel
theorem qdc147_1 : qdec cX9_beginsAt qc147_1 = true := by decide +kernel
theorem qck147_1 : qchks 147 qc147_1 = true := by decide +kernel
theorem qdc148_0 : qdec cX9_run qc148_0 = true := by decide +kernel
theorem qck148_0 : qchks 148 qc148_0 = true := by decide +kernel
theorem qdc148_1 : qdec cX9_run qc148_1 = true := by decide +kernel
theorem qck148_1 : qchks 148 qc148_1 = true := by decide +kernel
theorem qdc148_2 : qdec cX9_run qc148_2 = true := by decide +kernel
theorem qck148_2 : qchks 148 qc148_2 = true := by decide +kernel
theorem qdc148_3 : qdec cX9_run qc148_3 = true := by decide +kernel
theorem qck148_3 : qchks 148 qc148_3 = true := by decide +kernel
theorem qdc149_0 : qdec cX9_runNow qc149_0 = true := by decide +kernel
theorem qck149_0 : qchks 149 qc149_0 = true := by decide +kernel
theorem qdc150_0 : qdec cX9_layHours qc150_0 = true := by decide +kernel
theorem qck150_0 : qchks 150 qc150_0 = true := by decide +kernel
theorem qdc151_0 : qdec cX9_manyThat qc151_0 = true := by decide +kernel
theorem qck151_0 : qchks 151 qc151_0 = true := by decide +kernel
theorem qdc152_0 : qdec cX9_sum qc152_0 = true := by decide +kernel
theorem qck152_0 : qchks 152 qc152_0 = true := by decide +kernel
theorem qdc153_0 : qdec cX9_about qc153_0 = true := by decide +kernel
theorem qck153_0 : qchks 153 qc153_0 = true := by decide +kernel
theorem qdc153_1 : qdec cX9_about qc153_1 = true := by decide +kernel
theorem qck153_1 : qchks 153 qc153_1 = true := by decide +kernel
theorem qdc154_0 : qdec cX9_maySet qc154_0 = true := by decide +kernel
theorem qck154_0 : qchks 154 qc154_0 = true := by decide +kernel
theorem qdc155_0 : qdec cX9_keepNow qc155_0 = true := by decide +kernel
theorem qck155_0 : qchks 155 qc155_0 = true := by decide +kernel
theorem qdc155_1 : qdec cX9_keepNow qc155_1 = true := by decide +kernel
theorem qck155_1 : qchks 155 qc155_1 = true := by decide +kernel
theorem qdc156_0 : qdec cX9_set qc156_0 = true := by decide +kernel
theorem qck156_0 : qchks 156 qc156_0 = true := by decide +kernel
theorem qdc157_0 : qdec cX9_isHost qc157_0 = true := by decide +kernel
theorem qck157_0 : qchks 157 qc157_0 = true := by decide +kernel
theorem qdc158_0 : qdec cX9_isAsk qc158_0 = true := by decide +kernel
theorem qck158_0 : qchks 158 qc158_0 = true := by decide +kernel
theorem qdc159_0 : qdec cX9_turn qc159_0 = true := by decide +kernel
theorem qck159_0 : qchks 159 qc159_0 = true := by decide +kernel
theorem qdc160_0 : qdec cX9_undo qc160_0 = true := by decide +kernel
theorem qck160_0 : qchks 160 qc160_0 = true := by decide +kernel
theorem qdc160_1 : qdec cX9_undo qc160_1 = true := by decide +kernel
theorem qck160_1 : qchks 160 qc160_1 = true := by decide +kernel
theorem qdc161_0 : qdec cX9_ask qc161_0 = true := by decide +kernel
theorem qck161_0 : qchks 161 qc161_0 = true := by decide +kernel
theorem qdc161_1 : qdec cX9_ask qc161_1 = true := by decide +kernel
theorem qck161_1 : qchks 161 qc161_1 = true := by decide +kernel
theorem qdc162_0 : qdec cX9_host qc162_0 = true := by decide +kernel
theorem qck162_0 : qchks 162 qc162_0 = true := by decide +kernel
theorem qdc162_1 : qdec cX9_host qc162_1 = true := by decide +kernel
theorem qck162_1 : qchks 162 qc162_1 = true := by decide +kernel
theorem qdc163_0 : qdec cX9_total qc163_0 = true := by decide +kernel
theorem qck163_0 : qchks 163 qc163_0 = true := by decide +kernel
theorem qdc163_1 : qdec cX9_total qc163_1 = true := by decide +kernel
theorem qck163_1 : qchks 163 qc163_1 = true := by decide +kernel
theorem qdc164_0 : qdec cX9_stand qc164_0 = true := by decide +kernel
theorem qck164_0 : qchks 164 qc164_0 = true := by decide +kernel
theorem qdc164_1 : qdec cX9_stand qc164_1 = true := by decide +kernel
theorem qck164_1 : qchks 164 qc164_1 = true := by decide +kernel
theorem qdc165_0 : qdec cX9_layTrial qc165_0 = true := by decide +kernel
theorem qck165_0 : qchks 165 qc165_0 = true := by decide +kernel
theorem qdc166_0 : qdec cX9_best qc166_0 = true := by decide +kernel
theorem qck166_0 : qchks 166 qc166_0 = true := by decide +kernel
theorem qdc166_1 : qdec cX9_best qc166_1 = true := by decide +kernel
theorem qck166_1 : qchks 166 qc166_1 = true := by decide +kernel
theorem qdc166_2 : qdec cX9_best qc166_2 = true := by decide +kernel
theorem qck166_2 : qchks 166 qc166_2 = true := by decide +kernel
theorem qdc167_0 : qdec cX9_judged qc167_0 = true := by decide +kernel
theorem qck167_0 : qchks 167 qc167_0 = true := by decide +kernel
theorem qdc167_1 : qdec cX9_judged qc167_1 = true := by decide +kernel
theorem qck167_1 : qchks 167 qc167_1 = true := by decide +kernel
theorem qdc167_2 : qdec cX9_judged qc167_2 = true := by decide +kernel
theorem qck167_2 : qchks 167 qc167_2 = true := by decide +kernel
theorem qdc168_0 : qdec cX9_tenThousands qc168_0 = true := by decide +kernel
theorem qck168_0 : qchks 168 qc168_0 = true := by decide +kernel
theorem qdc169_0 : qdec cX9_judge qc169_0 = true := by decide +kernel
theorem qck169_0 : qchks 169 qc169_0 = true := by decide +kernel
theorem qdc169_1 : qdec cX9_judge qc169_1 = true := by decide +kernel
theorem qck169_1 : qchks 169 qc169_1 = true := by decide +kernel
theorem qdc170_0 : qdec cX9_see qc170_0 = true := by decide +kernel
theorem qck170_0 : qchks 170 qc170_0 = true := by decide +kernel
theorem qdc170_1 : qdec cX9_see qc170_1 = true := by decide +kernel
theorem qck170_1 : qchks 170 qc170_1 = true := by decide +kernel
theorem qdc171_0 : qdec cX9_unsee qc171_0 = true := by decide +kernel
theorem qck171_0 : qchks 171 qc171_0 = true := by decide +kernel
theorem qdc172_0 : qdec cX9_which qc172_0 = true := by decide +kernel
theorem qck172_0 : qchks 172 qc172_0 = true := by decide +kernel
theorem qdc172_1 : qdec cX9_which qc172_1 = true := by decide +kernel
theorem qck172_1 : qchks 172 qc172_1 = true := by decide +kernel
theorem qdc173_0 : qdec cX9_share qc173_0 = true := by decide +kernel
theorem qck173_0 : qchks 173 qc173_0 = true := by decide +kernel
theorem qdc173_1 : qdec cX9_share qc173_1 = true := by decide +kernel
theorem qck173_1 : qchks 173 qc173_1 = true := by decide +kernel
theorem qdc173_2 : qdec cX9_share qc173_2 = true := by decide +kernel
theorem qck173_2 : qchks 173 qc173_2 = true := by decide +kernel
theorem qdc173_3 : qdec cX9_share qc173_3 = true := by decide +kernel
theorem qck173_3 : qchks 173 qc173_3 = true := by decide +kernel
theorem qdc174_0 : qdec cX9_calm qc174_0 = true := by decide +kernel
theorem qck174_0 : qchks 174 qc174_0 = true := by decide +kernel
theorem qdc174_1 : qdec cX9_calm qc174_1 = true := by decide +kernel
theorem qck174_1 : qchks 174 qc174_1 = true := by decide +kernel
theorem qdc175_0 : qdec cX9_seed qc175_0 = true := by decide +kernel
theorem qck175_0 : qchks 175 qc175_0 = true := by decide +kernel
theorem qdc176_0 : qdec cX9_drawn qc176_0 = true := by decide +kernel
theorem qck176_0 : qchks 176 qc176_0 = true := by decide +kernel
theorem qdc176_1 : qdec cX9_drawn qc176_1 = true := by decide +kernel
theorem qck176_1 : qchks 176 qc176_1 = true := by decide +kernel
theorem qdc177_0 : qdec cX9_keep qc177_0 = true := by decide +kernel
theorem qck177_0 : qchks 177 qc177_0 = true := by decide +kernel
theorem qdc178_0 : qdec cX9_again qc178_0 = true := by decide +kernel
theorem qck178_0 : qchks 178 qc178_0 = true := by decide +kernel
theorem qdc179_0 : qdec cJ6_bitCount_0f7a4 qc179_0 = true := by decide +kernel
theorem qck179_0 : qchks 179 qc179_0 = true := by decide +kernel
theorem qdc179_1 : qdec cJ6_bitCount_0f7a4 qc179_1 = true := by decide +kernel
theorem qck179_1 : qchks 179 qc179_1 = true := by decide +kernel
theorem qdc180_0 : qdec cJ9_abs_0f7a4 qc180_0 = true := by decide +kernel
theorem qck180_0 : qchks 180 qc180_0 = true := by decide +kernel
theorem qdc181_0 : qdec cJ9_min_7cf53 qc181_0 = true := by decide +kernel
theorem qck181_0 : qchks 181 qc181_0 = true := by decide +kernel
theorem qdc182_0 : qdec cJ7_fill_53178 qc182_0 = true := by decide +kernel
theorem qck182_0 : qchks 182 qc182_0 = true := by decide +kernel
theorem qdc183_0 : qdec cL_law qc183_0 = true := by decide +kernel
theorem qck183_0 : qchks 183 qc183_0 = true := by decide +kernel
theorem qdc183_1 : qdec cL_law qc183_1 = true := by decide +kernel
theorem qck183_1 : qchks 183 qc183_1 = true := by decide +kernel
theorem qdc183_2 : qdec cL_law qc183_2 = true := by decide +kernel
theorem qck183_2 : qchks 183 qc183_2 = true := by decide +kernel
theorem qdc183_3 : qdec cL_law qc183_3 = true := by decide +kernel
theorem qck183_3 : qchks 183 qc183_3 = true := by decide +kernel
theorem qdc183_4 : qdec cL_law qc183_4 = true := by decide +kernel
theorem qck183_4 : qchks 183 qc183_4 = true := by decide +kernel
theorem qdc183_5 : qdec cL_law qc183_5 = true := by decide +kernel
theorem qck183_5 : qchks 183 qc183_5 = true := by decide +kernel
theorem qdc183_6 : qdec cL_law qc183_6 = true := by decide +kernel
theorem qck183_6 : qchks 183 qc183_6 = true := by decide +kernel
theorem qdc183_7 : qdec cL_law qc183_7 = true := by decide +kernel
theorem qck183_7 : qchks 183 qc183_7 = true := by decide +kernel
theorem qdc183_8 : qdec cL_law qc183_8 = true := by decide +kernel
theorem qck183_8 : qchks 183 qc183_8 = true := by decide +kernel
theorem qdc183_9 : qdec cL_law qc183_9 = true := by decide +kernel
theorem qck183_9 : qchks 183 qc183_9 = true := by decide +kernel
theorem qdc183_10 : qdec cL_law qc183_10 = true := by decide +kernel
theorem qck183_10 : qchks 183 qc183_10 = true := by decide +kernel
theorem qdc183_11 : qdec cL_law qc183_11 = true := by decide +kernel
theorem qck183_11 : qchks 183 qc183_11 = true := by decide +kernel
theorem qdc183_12 : qdec cL_law qc183_12 = true := by decide +kernel
theorem qck183_12 : qchks 183 qc183_12 = true := by decide +kernel
theorem qdc0 : qdec cX0_init qc0 = true := qdc0_0
theorem qck0 : qchks 0 qc0 = true := qck0_0
theorem qdc1 : qdec cX0_start qc1 = true := qdc1_0
theorem qck1 : qchks 1 qc1 = true := qck1_0
theorem qdc2 : qdec cX0_forget qc2 = true := qdc2_0
theorem qck2 : qchks 2 qc2 = true := qck2_0
theorem qdc3 : qdec cX0_stateAt qc3 = true := qdc3_0
theorem qck3 : qchks 3 qc3 = true := qck3_0
theorem qdc4 : qdec cX0_lets qc4 = true := qdc4_0
theorem qck4 : qchks 4 qc4 = true := qck4_0
theorem qdc5 : qdec cX0_note qc5 = true := qdc5_0
theorem qck5 : qchks 5 qc5 = true := qck5_0
theorem qdc6 : qdec cX0_isTooBad qc6 = true := qall_app qdc6_0 (qall_app qdc6_1 (qdc6_2))
theorem qck6 : qchks 6 qc6 = true := qall_app qck6_0 (qall_app qck6_1 (qck6_2))
theorem qdc7 : qdec cX1_init qc7 = true := qall_app qdc7_0 (qdc7_1)
theorem qck7 : qchks 7 qc7 = true := qall_app qck7_0 (qck7_1)
theorem qdc8 : qdec cX1_go qc8 = true := qall_app qdc8_0 (qdc8_1)
theorem qck8 : qchks 8 qc8 = true := qall_app qck8_0 (qck8_1)
theorem qdc9 : qdec cX1_start qc9 = true := qall_app qdc9_0 (qdc9_1)
theorem qck9 : qchks 9 qc9 = true := qall_app qck9_0 (qck9_1)
theorem qdc10 : qdec cX1_isOver qc10 = true := qdc10_0
theorem qck10 : qchks 10 qc10 = true := qck10_0
theorem qdc11 : qdec cX1_endWorks qc11 = true := qdc11_0
theorem qck11 : qchks 11 qc11 = true := qck11_0
theorem qdc12 : qdec cX1_endWork qc12 = true := qall_app qdc12_0 (qall_app qdc12_1 (qdc12_2))
theorem qck12 : qchks 12 qc12 = true := qall_app qck12_0 (qall_app qck12_1 (qck12_2))
theorem qdc13 : qdec cX1_isSpoilt qc13 = true := qdc13_0
theorem qck13 : qchks 13 qc13 = true := qck13_0
theorem qdc14 : qdec cX1_endAsk qc14 = true := qdc14_0
theorem qck14 : qchks 14 qc14 = true := qck14_0
theorem qdc15 : qdec cX1_endLate qc15 = true := qdc15_0
theorem qck15 : qchks 15 qc15 = true := qck15_0
theorem qdc16 : qdec cX1_letCome qc16 = true := qall_app qdc16_0 (qdc16_1)
theorem qck16 : qchks 16 qc16 = true := qall_app qck16_0 (qck16_1)
theorem qdc17 : qdec cX1_sendAgain qc17 = true := qall_app qdc17_0 (qdc17_1)
theorem qck17 : qchks 17 qc17 = true := qall_app qck17_0 (qck17_1)
theorem qdc18 : qdec cX1_sendHedges qc18 = true := qall_app qdc18_0 (qdc18_1)
theorem qck18 : qchks 18 qc18 = true := qall_app qck18_0 (qck18_1)
theorem qdc19 : qdec cX1_isToHedge qc19 = true := qdc19_0
theorem qck19 : qchks 19 qc19 = true := qck19_0
theorem qdc20 : qdec cX1_beginWorks qc20 = true := qall_app qdc20_0 (qdc20_1)
theorem qck20 : qchks 20 qc20 = true := qall_app qck20_0 (qck20_1)
theorem qdc21 : qdec cX1_copies qc21 = true := qdc21_0
theorem qck21 : qchks 21 qc21 = true := qck21_0
theorem qdc22 : qdec cX1_send qc22 = true := qall_app qdc22_0 (qdc22_1)
theorem qck22 : qchks 22 qc22 = true := qall_app qck22_0 (qck22_1)
theorem qdc23 : qdec cX1_hostFor qc23 = true := qall_app qdc23_0 (qdc23_1)
theorem qck23 : qchks 23 qc23 = true := qall_app qck23_0 (qck23_1)
theorem qdc24 : qdec cX1_placeToShed qc24 = true := qdc24_0
theorem qck24 : qchks 24 qc24 = true := qck24_0
theorem qdc25 : qdec cX1_worth qc25 = true := qdc25_0
theorem qck25 : qchks 25 qc25 = true := qck25_0
theorem qdc26 : qdec cX1_howMany qc26 = true := qdc26_0
theorem qck26 : qchks 26 qc26 = true := qck26_0
theorem qdc27 : qdec cX1_wasted qc27 = true := qdc27_0
theorem qck27 : qchks 27 qc27 = true := qck27_0
theorem qdc28 : qdec cX1_shedByAll qc28 = true := qdc28_0
theorem qck28 : qchks 28 qc28 = true := qck28_0
theorem qdc29 : qdec cX1_ofAsk qc29 = true := qdc29_0
theorem qck29 : qchks 29 qc29 = true := qck29_0
theorem qdc30 : qdec cX1_ofAll qc30 = true := qdc30_0
theorem qck30 : qchks 30 qc30 = true := qck30_0
theorem qdc31 : qdec cX2_init qc31 = true := qdc31_0
theorem qck31 : qchks 31 qc31 = true := qck31_0
theorem qdc32 : qdec cX2_add qc32 = true := qall_app qdc32_0 (qdc32_1)
theorem qck32 : qchks 32 qc32 = true := qall_app qck32_0 (qck32_1)
theorem qdc33 : qdec cX2_takeBack qc33 = true := qdc33_0
theorem qck33 : qchks 33 qc33 = true := qck33_0
theorem qdc34 : qdec cX3_init qc34 = true := qdc34_0
theorem qck34 : qchks 34 qc34 = true := qck34_0
theorem qdc35 : qdec cX3_start qc35 = true := qdc35_0
theorem qck35 : qchks 35 qc35 = true := qck35_0
theorem qdc36 : qdec cX3_holdsCopy qc36 = true := qdc36_0
theorem qck36 : qchks 36 qc36 = true := qck36_0
theorem qdc37 : qdec cX3_copies qc37 = true := qdc37_0
theorem qck37 : qchks 37 qc37 = true := qck37_0
theorem qdc38 : qdec cX3_queue qc38 = true := qdc38_0
theorem qck38 : qchks 38 qc38 = true := qck38_0
theorem qdc39 : qdec cX3_dropAt qc39 = true := qall_app qdc39_0 (qdc39_1)
theorem qck39 : qchks 39 qc39 = true := qall_app qck39_0 (qck39_1)
theorem qdc40 : qdec cX3_placeOf qc40 = true := qdc40_0
theorem qck40 : qchks 40 qc40 = true := qck40_0
theorem qdc41 : qdec cX3_beginFirst qc41 = true := qall_app qdc41_0 (qdc41_1)
theorem qck41 : qchks 41 qc41 = true := qall_app qck41_0 (qck41_1)
theorem qdc42 : qdec cX3_endsFirstAt qc42 = true := qdc42_0
theorem qck42 : qchks 42 qc42 = true := qck42_0
theorem qdc43 : qdec cX3_endFirst qc43 = true := qall_app qdc43_0 (qdc43_1)
theorem qck43 : qchks 43 qc43 = true := qall_app qck43_0 (qck43_1)
theorem qdc44 : qdec cX3_counted qc44 = true := qdc44_0
theorem qck44 : qchks 44 qc44 = true := qck44_0
theorem qdc45 : qdec cX3_standing qc45 = true := qdc45_0
theorem qck45 : qchks 45 qc45 = true := qck45_0
theorem qdc46 : qdec cX4_init qc46 = true := qdc46_0
theorem qck46 : qchks 46 qc46 = true := qck46_0
theorem qdc47 : qdec cX4_read qc47 = true := qdc47_0
theorem qck47 : qchks 47 qc47 = true := qck47_0
theorem qdc48 : qdec cX4_readPart qc48 = true := qall_app qdc48_0 (qdc48_1)
theorem qck48 : qchks 48 qc48 = true := qall_app qck48_0 (qck48_1)
theorem qdc49 : qdec cX4_readHost qc49 = true := qdc49_0
theorem qck49 : qchks 49 qc49 = true := qck49_0
theorem qdc50 : qdec cX4_readSpan qc50 = true := qdc50_0
theorem qck50 : qchks 50 qc50 = true := qck50_0
theorem qdc51 : qdec cX4_readAsk qc51 = true := qdc51_0
theorem qck51 : qchks 51 qc51 = true := qck51_0
theorem qdc52 : qdec cX4_figure qc52 = true := qall_app qdc52_0 (qdc52_1)
theorem qck52 : qchks 52 qc52 = true := qall_app qck52_0 (qck52_1)
theorem qdc53 : qdec cX4_twoFigures qc53 = true := qdc53_0
theorem qck53 : qchks 53 qc53 = true := qck53_0
theorem qdc54 : qdec cX5_init qc54 = true := qdc54_0
theorem qck54 : qchks 54 qc54 = true := qck54_0
theorem qdc55 : qdec cX5_reset qc55 = true := qdc55_0
theorem qck55 : qchks 55 qc55 = true := qck55_0
theorem qdc56 : qdec cX5_takeFrom qc56 = true := qdc56_0
theorem qck56 : qchks 56 qc56 = true := qck56_0
theorem qdc57 : qdec cX5_isOut qc57 = true := qdc57_0
theorem qck57 : qchks 57 qc57 = true := qck57_0
theorem qdc58 : qdec cX5_fits qc58 = true := qdc58_0
theorem qck58 : qchks 58 qc58 = true := qck58_0
theorem qdc59 : qdec cX6_init qc59 = true := qdc59_0
theorem qck59 : qchks 59 qc59 = true := qck59_0
theorem qdc60 : qdec cX6_add qc60 = true := qdc60_0
theorem qck60 : qchks 60 qc60 = true := qck60_0
theorem qdc61 : qdec cX6_isSo qc61 = true := qdc61_0
theorem qck61 : qchks 61 qc61 = true := qck61_0
theorem qdc62 : qdec cX7_init qc62 = true := qall_app qdc62_0 (qdc62_1)
theorem qck62 : qchks 62 qc62 = true := qall_app qck62_0 (qck62_1)
theorem qdc63 : qdec cX7_clear qc63 = true := qdc63_0
theorem qck63 : qchks 63 qc63 = true := qck63_0
theorem qdc64 : qdec cX7_hasHost qc64 = true := qdc64_0
theorem qck64 : qchks 64 qc64 = true := qck64_0
theorem qdc65 : qdec cX7_hasAsk qc65 = true := qdc65_0
theorem qck65 : qchks 65 qc65 = true := qck65_0
theorem qdc66 : qdec cX7_ofHost qc66 = true := qdc66_0
theorem qck66 : qchks 66 qc66 = true := qck66_0
theorem qdc67 : qdec cX7_ofAsk qc67 = true := qdc67_0
theorem qck67 : qchks 67 qc67 = true := qck67_0
theorem qdc68 : qdec cX7_inSpan qc68 = true := qdc68_0
theorem qck68 : qchks 68 qc68 = true := qck68_0
theorem qdc69 : qdec cX8_init qc69 = true := qall_app qdc69_0 (qall_app qdc69_1 (qdc69_2))
theorem qck69 : qchks 69 qc69 = true := qall_app qck69_0 (qall_app qck69_1 (qck69_2))
theorem qdc70 : qdec cX8_write qc70 = true := qdc70_0
theorem qck70 : qchks 70 qc70 = true := qck70_0
theorem qdc71 : qdec cX8_wipe qc71 = true := qdc71_0
theorem qck71 : qchks 71 qc71 = true := qck71_0
theorem qdc72 : qdec cX8_fault qc72 = true := qdc72_0
theorem qck72 : qchks 72 qc72 = true := qck72_0
theorem qdc73 : qdec cX8_day qc73 = true := qall_app qdc73_0 (qdc73_1)
theorem qck73 : qchks 73 qc73 = true := qall_app qck73_0 (qck73_1)
theorem qdc74 : qdec cX8_about qc74 = true := qall_app qdc74_0 (qdc74_1)
theorem qck74 : qchks 74 qc74 = true := qall_app qck74_0 (qck74_1)
theorem qdc75 : qdec cX8_set qc75 = true := qdc75_0
theorem qck75 : qchks 75 qc75 = true := qck75_0
theorem qdc76 : qdec cX8_turn qc76 = true := qdc76_0
theorem qck76 : qchks 76 qc76 = true := qck76_0
theorem qdc77 : qdec cX8_undo qc77 = true := qdc77_0
theorem qck77 : qchks 77 qc77 = true := qck77_0
theorem qdc78 : qdec cX8_ask qc78 = true := qdc78_0
theorem qck78 : qchks 78 qc78 = true := qck78_0
theorem qdc79 : qdec cX8_host qc79 = true := qall_app qdc79_0 (qdc79_1)
theorem qck79 : qchks 79 qc79 = true := qall_app qck79_0 (qck79_1)
theorem qdc80 : qdec cX8_total qc80 = true := qdc80_0
theorem qck80 : qchks 80 qc80 = true := qck80_0
theorem qdc81 : qdec cX8_stand qc81 = true := qdc81_0
theorem qck81 : qchks 81 qc81 = true := qck81_0
theorem qdc82 : qdec cX8_best qc82 = true := qall_app qdc82_0 (qall_app qdc82_1 (qdc82_2))
theorem qck82 : qchks 82 qc82 = true := qall_app qck82_0 (qall_app qck82_1 (qck82_2))
theorem qdc83 : qdec cX8_judge qc83 = true := qall_app qdc83_0 (qdc83_1)
theorem qck83 : qchks 83 qc83 = true := qall_app qck83_0 (qck83_1)
theorem qdc84 : qdec cX8_see qc84 = true := qdc84_0
theorem qck84 : qchks 84 qc84 = true := qck84_0
theorem qdc85 : qdec cX8_unsee qc85 = true := qdc85_0
theorem qck85 : qchks 85 qc85 = true := qck85_0
theorem qdc86 : qdec cX8_which qc86 = true := qdc86_0
theorem qck86 : qchks 86 qc86 = true := qck86_0
theorem qdc87 : qdec cX8_share qc87 = true := qall_app qdc87_0 (qall_app qdc87_1 (qdc87_2))
theorem qck87 : qchks 87 qc87 = true := qall_app qck87_0 (qall_app qck87_1 (qck87_2))
theorem qdc88 : qdec cX8_calm qc88 = true := qall_app qdc88_0 (qdc88_1)
theorem qck88 : qchks 88 qc88 = true := qall_app qck88_0 (qck88_1)
theorem qdc89 : qdec cX8_seed qc89 = true := qdc89_0
theorem qck89 : qchks 89 qc89 = true := qck89_0
theorem qdc90 : qdec cX8_drawn qc90 = true := qall_app qdc90_0 (qdc90_1)
theorem qck90 : qchks 90 qc90 = true := qall_app qck90_0 (qck90_1)
theorem qdc91 : qdec cX8_keep qc91 = true := qdc91_0
theorem qck91 : qchks 91 qc91 = true := qck91_0
theorem qdc92 : qdec cX8_again qc92 = true := qdc92_0
theorem qck92 : qchks 92 qc92 = true := qck92_0
theorem qdc93 : qdec cX8_tryPolicy qc93 = true := qdc93_0
theorem qck93 : qchks 93 qc93 = true := qck93_0
theorem qdc94 : qdec cX8_holds qc94 = true := qall_app qdc94_0 (qall_app qdc94_1 (qdc94_2))
theorem qck94 : qchks 94 qc94 = true := qall_app qck94_0 (qall_app qck94_1 (qck94_2))
theorem qdc95 : qdec cX8_endsBy qc95 = true := qdc95_0
theorem qck95 : qchks 95 qc95 = true := qck95_0
theorem qdc96 : qdec cX8_putsOut qc96 = true := qall_app qdc96_0 (qdc96_1)
theorem qck96 : qchks 96 qc96 = true := qall_app qck96_0 (qck96_1)
theorem qdc97 : qdec cX8_orders qc97 = true := qall_app qdc97_0 (qdc97_1)
theorem qck97 : qchks 97 qc97 = true := qall_app qck97_0 (qck97_1)
theorem qdc98 : qdec cX8_chance qc98 = true := qdc98_0
theorem qck98 : qchks 98 qc98 = true := qck98_0
theorem qdc99 : qdec cX8_draw qc99 = true := qdc99_0
theorem qck99 : qchks 99 qc99 = true := qck99_0
theorem qdc100 : qdec cX8_ofFraction qc100 = true := qdc100_0
theorem qck100 : qchks 100 qc100 = true := qck100_0
theorem qdc101 : qdec cX8_bitsOf qc101 = true := qall_app qdc101_0 (qdc101_1)
theorem qck101 : qchks 101 qc101 = true := qall_app qck101_0 (qck101_1)
theorem qdc102 : qdec cX9_init qc102 = true := qall_app qdc102_0 (qall_app qdc102_1 (qall_app qdc102_2 (qall_app qdc102_3 (qall_app qdc102_4 (qdc102_5)))))
theorem qck102 : qchks 102 qc102 = true := qall_app qck102_0 (qall_app qck102_1 (qall_app qck102_2 (qall_app qck102_3 (qall_app qck102_4 (qck102_5)))))
theorem qdc103 : qdec cX9_begin qc103 = true := qdc103_0
theorem qck103 : qchks 103 qc103 = true := qck103_0
theorem qdc104 : qdec cX9_in qc104 = true := qdc104_0
theorem qck104 : qchks 104 qc104 = true := qck104_0
theorem qdc105 : qdec cX9_has qc105 = true := qdc105_0
theorem qck105 : qchks 105 qc105 = true := qck105_0
theorem qdc106 : qdec cX9_ones qc106 = true := qdc106_0
theorem qck106 : qchks 106 qc106 = true := qck106_0
theorem qdc107 : qdec cX9_power qc107 = true := qdc107_0
theorem qck107 : qchks 107 qc107 = true := qck107_0
theorem qdc108 : qdec cX9_factorial qc108 = true := qdc108_0
theorem qck108 : qchks 108 qc108 = true := qck108_0
theorem qdc109 : qdec cX9_divisor qc109 = true := qdc109_0
theorem qck109 : qchks 109 qc109 = true := qck109_0
theorem qdc110 : qdec cX9_fraction qc110 = true := qdc110_0
theorem qck110 : qchks 110 qc110 = true := qck110_0
theorem qdc111 : qdec cX9_wholeOf qc111 = true := qdc111_0
theorem qck111 : qchks 111 qc111 = true := qck111_0
theorem qdc112 : qdec cX9_powerOf qc112 = true := qdc112_0
theorem qck112 : qchks 112 qc112 = true := qck112_0
theorem qdc113 : qdec cX9_bitsOf qc113 = true := qall_app qdc113_0 (qall_app qdc113_1 (qall_app qdc113_2 (qdc113_3)))
theorem qck113 : qchks 113 qc113 = true := qall_app qck113_0 (qall_app qck113_1 (qall_app qck113_2 (qck113_3)))
theorem qdc114 : qdec cX9_plus qc114 = true := qall_app qdc114_0 (qdc114_1)
theorem qck114 : qchks 114 qc114 = true := qall_app qck114_0 (qck114_1)
theorem qdc115 : qdec cX9_toward qc115 = true := qdc115_0
theorem qck115 : qchks 115 qc115 = true := qck115_0
theorem qdc116 : qdec cX9_isMore qc116 = true := qdc116_0
theorem qck116 : qchks 116 qc116 = true := qck116_0
theorem qdc117 : qdec cX9_write qc117 = true := qdc117_0
theorem qck117 : qchks 117 qc117 = true := qck117_0
theorem qdc118 : qdec cX9_wipe qc118 = true := qdc118_0
theorem qck118 : qchks 118 qc118 = true := qck118_0
theorem qdc119 : qdec cX9_takePart qc119 = true := qdc119_0
theorem qck119 : qchks 119 qc119 = true := qck119_0
theorem qdc120 : qdec cX9_takeOfHost qc120 = true := qall_app qdc120_0 (qdc120_1)
theorem qck120 : qchks 120 qc120 = true := qall_app qck120_0 (qck120_1)
theorem qdc121 : qdec cX9_takeOfSpan qc121 = true := qall_app qdc121_0 (qall_app qdc121_1 (qdc121_2))
theorem qck121 : qchks 121 qc121 = true := qall_app qck121_0 (qall_app qck121_1 (qck121_2))
theorem qdc122 : qdec cX9_takeOfAsk qc122 = true := qall_app qdc122_0 (qall_app qdc122_1 (qdc122_2))
theorem qck122 : qchks 122 qc122 = true := qall_app qck122_0 (qall_app qck122_1 (qck122_2))
theorem qdc123 : qdec cX9_readText qc123 = true := qall_app qdc123_0 (qall_app qdc123_1 (qdc123_2))
theorem qck123 : qchks 123 qc123 = true := qall_app qck123_0 (qall_app qck123_1 (qck123_2))
theorem qdc124 : qdec cX9_fault qc124 = true := qdc124_0
theorem qck124 : qchks 124 qc124 = true := qck124_0
theorem qdc125 : qdec cX9_day qc125 = true := qall_app qdc125_0 (qall_app qdc125_1 (qall_app qdc125_2 (qdc125_3)))
theorem qck125 : qchks 125 qc125 = true := qall_app qck125_0 (qall_app qck125_1 (qall_app qck125_2 (qck125_3)))
theorem qdc126 : qdec cX9_manyCopiesAt qc126 = true := qdc126_0
theorem qck126 : qchks 126 qc126 = true := qck126_0
theorem qdc127 : qdec cX9_waitsAt qc127 = true := qdc127_0
theorem qck127 : qchks 127 qc127 = true := qck127_0
theorem qdc128 : qdec cX9_isWorkedAt qc128 = true := qdc128_0
theorem qck128 : qchks 128 qc128 = true := qck128_0
theorem qdc129 : qdec cX9_copiesOf qc129 = true := qdc129_0
theorem qck129 : qchks 129 qc129 = true := qck129_0
theorem qdc130 : qdec cX9_takeFromRow qc130 = true := qdc130_0
theorem qck130 : qchks 130 qc130 = true := qck130_0
theorem qdc131 : qdec cX9_dropWaiting qc131 = true := qdc131_0
theorem qck131 : qchks 131 qc131 = true := qck131_0
theorem qdc132 : qdec cX9_breakerAt qc132 = true := qdc132_0
theorem qck132 : qchks 132 qc132 = true := qck132_0
theorem qdc133 : qdec cX9_mayTake qc133 = true := qall_app qdc133_0 (qdc133_1)
theorem qck133 : qchks 133 qc133 = true := qall_app qck133_0 (qck133_1)
theorem qdc134 : qdec cX9_weight qc134 = true := qdc134_0
theorem qck134 : qchks 134 qc134 = true := qck134_0
theorem qdc135 : qdec cX9_shedOne qc135 = true := qall_app qdc135_0 (qdc135_1)
theorem qck135 : qchks 135 qc135 = true := qall_app qck135_0 (qck135_1)
theorem qdc136 : qdec cX9_send qc136 = true := qall_app qdc136_0 (qall_app qdc136_1 (qdc136_2))
theorem qck136 : qchks 136 qc136 = true := qall_app qck136_0 (qall_app qck136_1 (qck136_2))
theorem qdc137 : qdec cX9_isSpoilt qc137 = true := qall_app qdc137_0 (qdc137_1)
theorem qck137 : qchks 137 qc137 = true := qall_app qck137_0 (qck137_1)
theorem qdc138 : qdec cX9_forget qc138 = true := qdc138_0
theorem qck138 : qchks 138 qc138 = true := qck138_0
theorem qdc139 : qdec cX9_open qc139 = true := qdc139_0
theorem qck139 : qchks 139 qc139 = true := qck139_0
theorem qdc140 : qdec cX9_note qc140 = true := qall_app qdc140_0 (qall_app qdc140_1 (qall_app qdc140_2 (qdc140_3)))
theorem qck140 : qchks 140 qc140 = true := qall_app qck140_0 (qall_app qck140_1 (qall_app qck140_2 (qck140_3)))
theorem qdc141 : qdec cX9_endOne qc141 = true := qall_app qdc141_0 (qdc141_1)
theorem qck141 : qchks 141 qc141 = true := qall_app qck141_0 (qck141_1)
theorem qdc142 : qdec cX9_endsAt qc142 = true := qall_app qdc142_0 (qall_app qdc142_1 (qdc142_2))
theorem qck142 : qchks 142 qc142 = true := qall_app qck142_0 (qall_app qck142_1 (qck142_2))
theorem qdc143 : qdec cX9_limitsAt qc143 = true := qdc143_0
theorem qck143 : qchks 143 qc143 = true := qck143_0
theorem qdc144 : qdec cX9_comesAt qc144 = true := qall_app qdc144_0 (qdc144_1)
theorem qck144 : qchks 144 qc144 = true := qall_app qck144_0 (qck144_1)
theorem qdc145 : qdec cX9_againAt qc145 = true := qall_app qdc145_0 (qdc145_1)
theorem qck145 : qchks 145 qc145 = true := qall_app qck145_0 (qck145_1)
theorem qdc146 : qdec cX9_hedgesAt qc146 = true := qall_app qdc146_0 (qdc146_1)
theorem qck146 : qchks 146 qc146 = true := qall_app qck146_0 (qck146_1)
theorem qdc147 : qdec cX9_beginsAt qc147 = true := qall_app qdc147_0 (qdc147_1)
theorem qck147 : qchks 147 qc147 = true := qall_app qck147_0 (qck147_1)
theorem qdc148 : qdec cX9_run qc148 = true := qall_app qdc148_0 (qall_app qdc148_1 (qall_app qdc148_2 (qdc148_3)))
theorem qck148 : qchks 148 qc148 = true := qall_app qck148_0 (qall_app qck148_1 (qall_app qck148_2 (qck148_3)))
theorem qdc149 : qdec cX9_runNow qc149 = true := qdc149_0
theorem qck149 : qchks 149 qc149 = true := qck149_0
theorem qdc150 : qdec cX9_layHours qc150 = true := qdc150_0
theorem qck150 : qchks 150 qc150 = true := qck150_0
theorem qdc151 : qdec cX9_manyThat qc151 = true := qdc151_0
theorem qck151 : qchks 151 qc151 = true := qck151_0
theorem qdc152 : qdec cX9_sum qc152 = true := qdc152_0
theorem qck152 : qchks 152 qc152 = true := qck152_0
theorem qdc153 : qdec cX9_about qc153 = true := qall_app qdc153_0 (qdc153_1)
theorem qck153 : qchks 153 qc153 = true := qall_app qck153_0 (qck153_1)
theorem qdc154 : qdec cX9_maySet qc154 = true := qdc154_0
theorem qck154 : qchks 154 qc154 = true := qck154_0
theorem qdc155 : qdec cX9_keepNow qc155 = true := qall_app qdc155_0 (qdc155_1)
theorem qck155 : qchks 155 qc155 = true := qall_app qck155_0 (qck155_1)
theorem qdc156 : qdec cX9_set qc156 = true := qdc156_0
theorem qck156 : qchks 156 qc156 = true := qck156_0
theorem qdc157 : qdec cX9_isHost qc157 = true := qdc157_0
theorem qck157 : qchks 157 qc157 = true := qck157_0
theorem qdc158 : qdec cX9_isAsk qc158 = true := qdc158_0
theorem qck158 : qchks 158 qc158 = true := qck158_0
theorem qdc159 : qdec cX9_turn qc159 = true := qdc159_0
theorem qck159 : qchks 159 qc159 = true := qck159_0
theorem qdc160 : qdec cX9_undo qc160 = true := qall_app qdc160_0 (qdc160_1)
theorem qck160 : qchks 160 qc160 = true := qall_app qck160_0 (qck160_1)
theorem qdc161 : qdec cX9_ask qc161 = true := qall_app qdc161_0 (qdc161_1)
theorem qck161 : qchks 161 qc161 = true := qall_app qck161_0 (qck161_1)
theorem qdc162 : qdec cX9_host qc162 = true := qall_app qdc162_0 (qdc162_1)
theorem qck162 : qchks 162 qc162 = true := qall_app qck162_0 (qck162_1)
theorem qdc163 : qdec cX9_total qc163 = true := qall_app qdc163_0 (qdc163_1)
theorem qck163 : qchks 163 qc163 = true := qall_app qck163_0 (qck163_1)
theorem qdc164 : qdec cX9_stand qc164 = true := qall_app qdc164_0 (qdc164_1)
theorem qck164 : qchks 164 qc164 = true := qall_app qck164_0 (qck164_1)
theorem qdc165 : qdec cX9_layTrial qc165 = true := qdc165_0
theorem qck165 : qchks 165 qc165 = true := qck165_0
theorem qdc166 : qdec cX9_best qc166 = true := qall_app qdc166_0 (qall_app qdc166_1 (qdc166_2))
theorem qck166 : qchks 166 qc166 = true := qall_app qck166_0 (qall_app qck166_1 (qck166_2))
theorem qdc167 : qdec cX9_judged qc167 = true := qall_app qdc167_0 (qall_app qdc167_1 (qdc167_2))
theorem qck167 : qchks 167 qc167 = true := qall_app qck167_0 (qall_app qck167_1 (qck167_2))
theorem qdc168 : qdec cX9_tenThousands qc168 = true := qdc168_0
theorem qck168 : qchks 168 qc168 = true := qck168_0
theorem qdc169 : qdec cX9_judge qc169 = true := qall_app qdc169_0 (qdc169_1)
theorem qck169 : qchks 169 qc169 = true := qall_app qck169_0 (qck169_1)
theorem qdc170 : qdec cX9_see qc170 = true := qall_app qdc170_0 (qdc170_1)
theorem qck170 : qchks 170 qc170 = true := qall_app qck170_0 (qck170_1)
theorem qdc171 : qdec cX9_unsee qc171 = true := qdc171_0
theorem qck171 : qchks 171 qc171 = true := qck171_0
theorem qdc172 : qdec cX9_which qc172 = true := qall_app qdc172_0 (qdc172_1)
theorem qck172 : qchks 172 qc172 = true := qall_app qck172_0 (qck172_1)
theorem qdc173 : qdec cX9_share qc173 = true := qall_app qdc173_0 (qall_app qdc173_1 (qall_app qdc173_2 (qdc173_3)))
theorem qck173 : qchks 173 qc173 = true := qall_app qck173_0 (qall_app qck173_1 (qall_app qck173_2 (qck173_3)))
theorem qdc174 : qdec cX9_calm qc174 = true := qall_app qdc174_0 (qdc174_1)
theorem qck174 : qchks 174 qc174 = true := qall_app qck174_0 (qck174_1)
theorem qdc175 : qdec cX9_seed qc175 = true := qdc175_0
theorem qck175 : qchks 175 qc175 = true := qck175_0
theorem qdc176 : qdec cX9_drawn qc176 = true := qall_app qdc176_0 (qdc176_1)
theorem qck176 : qchks 176 qc176 = true := qall_app qck176_0 (qck176_1)
theorem qdc177 : qdec cX9_keep qc177 = true := qdc177_0
theorem qck177 : qchks 177 qc177 = true := qck177_0
theorem qdc178 : qdec cX9_again qc178 = true := qdc178_0
theorem qck178 : qchks 178 qc178 = true := qck178_0
theorem qdc179 : qdec cJ6_bitCount_0f7a4 qc179 = true := qall_app qdc179_0 (qdc179_1)
theorem qck179 : qchks 179 qc179 = true := qall_app qck179_0 (qck179_1)
theorem qdc180 : qdec cJ9_abs_0f7a4 qc180 = true := qdc180_0
theorem qck180 : qchks 180 qc180 = true := qck180_0
theorem qdc181 : qdec cJ9_min_7cf53 qc181 = true := qdc181_0
theorem qck181 : qchks 181 qc181 = true := qck181_0
theorem qdc182 : qdec cJ7_fill_53178 qc182 = true := qdc182_0
theorem qck182 : qchks 182 qc182 = true := qck182_0
theorem qdc183 : qdec cL_law qc183 = true := qall_app qdc183_0 (qall_app qdc183_1 (qall_app qdc183_2 (qall_app qdc183_3 (qall_app qdc183_4 (qall_app qdc183_5 (qall_app qdc183_6 (qall_app qdc183_7 (qall_app qdc183_8 (qall_app qdc183_9 (qall_app qdc183_10 (qall_app qdc183_11 (qdc183_12))))))))))))
theorem qck183 : qchks 183 qc183 = true := qall_app qck183_0 (qall_app qck183_1 (qall_app qck183_2 (qall_app qck183_3 (qall_app qck183_4 (qall_app qck183_5 (qall_app qck183_6 (qall_app qck183_7 (qall_app qck183_8 (qall_app qck183_9 (qall_app qck183_10 (qall_app qck183_11 (qck183_12))))))))))))
