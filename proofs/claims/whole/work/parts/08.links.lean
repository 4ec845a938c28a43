theorem fi_X0 : ∀ w ∈ u_ws RX0 TX0 8, w ∈ am_T := fun w h => List.mem_filter.mpr ⟨(by decide +kernel : ∀ w ∈ u_ws RX0 TX0 8, w ∈ lw_tbl) w h, (by decide +kernel : ∀ w ∈ u_ws RX0 TX0 8, goodWord w = true) w h⟩
theorem fp_X0_0 : am_FP 0 0 .int := ⟨(RX0, TX0, 8), rfl, rfl, by decide +kernel⟩
theorem fp_X0_1 : am_FP 0 1 .int := ⟨(RX0, TX0, 8), rfl, rfl, by decide +kernel⟩
theorem fi_X1 : ∀ w ∈ u_ws RX1 TX1 14, w ∈ am_T := fun w h => List.mem_filter.mpr ⟨(by decide +kernel : ∀ w ∈ u_ws RX1 TX1 14, w ∈ lw_tbl) w h, (by decide +kernel : ∀ w ∈ u_ws RX1 TX1 14, goodWord w = true) w h⟩
theorem fp_X1_0 : am_FP 1 0 .int := ⟨(RX1, TX1, 14), rfl, rfl, by decide +kernel⟩
theorem fp_X1_1 : am_FP 1 1 .int := ⟨(RX1, TX1, 14), rfl, rfl, by decide +kernel⟩
theorem fp_X1_2 : am_FP 1 2 .int := ⟨(RX1, TX1, 14), rfl, rfl, by decide +kernel⟩
theorem fp_X1_6 : am_FP 1 6 .int := ⟨(RX1, TX1, 14), rfl, rfl, by decide +kernel⟩
theorem fp_X1_7 : am_FP 1 7 .int := ⟨(RX1, TX1, 14), rfl, rfl, by decide +kernel⟩
theorem fp_X1_9 : am_FP 1 9 .int := ⟨(RX1, TX1, 14), rfl, rfl, by decide +kernel⟩
theorem fp_X1_13 : am_FP 1 13 .int := ⟨(RX1, TX1, 14), rfl, rfl, by decide +kernel⟩
theorem fi_X2 : ∀ w ∈ u_ws RX2 TX2 4, w ∈ am_T := fun w h => List.mem_filter.mpr ⟨(by decide +kernel : ∀ w ∈ u_ws RX2 TX2 4, w ∈ lw_tbl) w h, (by decide +kernel : ∀ w ∈ u_ws RX2 TX2 4, goodWord w = true) w h⟩
theorem fp_X2_0 : am_FP 2 0 .int := ⟨(RX2, TX2, 4), rfl, rfl, by decide +kernel⟩
theorem fp_X2_1 : am_FP 2 1 .int := ⟨(RX2, TX2, 4), rfl, rfl, by decide +kernel⟩
theorem fp_X2_2 : am_FP 2 2 .int := ⟨(RX2, TX2, 4), rfl, rfl, by decide +kernel⟩
theorem fi_X3 : ∀ w ∈ u_ws RX3 TX3 6, w ∈ am_T := fun w h => List.mem_filter.mpr ⟨(by decide +kernel : ∀ w ∈ u_ws RX3 TX3 6, w ∈ lw_tbl) w h, (by decide +kernel : ∀ w ∈ u_ws RX3 TX3 6, goodWord w = true) w h⟩
theorem fp_X3_0 : am_FP 3 0 .int := ⟨(RX3, TX3, 6), rfl, rfl, by decide +kernel⟩
theorem fp_X3_1 : am_FP 3 1 .int := ⟨(RX3, TX3, 6), rfl, rfl, by decide +kernel⟩
theorem fp_X3_3 : am_FP 3 3 .int := ⟨(RX3, TX3, 6), rfl, rfl, by decide +kernel⟩
theorem fp_X3_4 : am_FP 3 4 .int := ⟨(RX3, TX3, 6), rfl, rfl, by decide +kernel⟩
theorem fp_X3_5 : am_FP 3 5 .int := ⟨(RX3, TX3, 6), rfl, rfl, by decide +kernel⟩
theorem fi_X4 : ∀ w ∈ u_ws RX4 TX4 9, w ∈ am_T := fun w h => List.mem_filter.mpr ⟨(by decide +kernel : ∀ w ∈ u_ws RX4 TX4 9, w ∈ lw_tbl) w h, (by decide +kernel : ∀ w ∈ u_ws RX4 TX4 9, goodWord w = true) w h⟩
theorem fp_X4_8 : am_FP 4 8 .boolean := ⟨(RX4, TX4, 9), rfl, rfl, by decide +kernel⟩
theorem fi_X5 : ∀ w ∈ u_ws RX5 TX5 40, w ∈ am_T := fun w h => List.mem_filter.mpr ⟨(by decide +kernel : ∀ w ∈ u_ws RX5 TX5 40, w ∈ lw_tbl) w h, (by decide +kernel : ∀ w ∈ u_ws RX5 TX5 40, goodWord w = true) w h⟩
theorem fp_X5_8 : am_FP 5 8 .int := ⟨(RX5, TX5, 40), rfl, rfl, by decide +kernel⟩
theorem fp_X5_10 : am_FP 5 10 .int := ⟨(RX5, TX5, 40), rfl, rfl, by decide +kernel⟩
theorem fp_X5_14 : am_FP 5 14 .int := ⟨(RX5, TX5, 40), rfl, rfl, by decide +kernel⟩
theorem fp_X5_16 : am_FP 5 16 .int := ⟨(RX5, TX5, 40), rfl, rfl, by decide +kernel⟩
theorem fp_X5_18 : am_FP 5 18 .int := ⟨(RX5, TX5, 40), rfl, rfl, by decide +kernel⟩
theorem fp_X5_21 : am_FP 5 21 .int := ⟨(RX5, TX5, 40), rfl, rfl, by decide +kernel⟩
theorem fp_X5_22 : am_FP 5 22 .int := ⟨(RX5, TX5, 40), rfl, rfl, by decide +kernel⟩
theorem fp_X5_23 : am_FP 5 23 .int := ⟨(RX5, TX5, 40), rfl, rfl, by decide +kernel⟩
theorem fp_X5_24 : am_FP 5 24 .int := ⟨(RX5, TX5, 40), rfl, rfl, by decide +kernel⟩
theorem fp_X5_25 : am_FP 5 25 .int := ⟨(RX5, TX5, 40), rfl, rfl, by decide +kernel⟩
theorem fp_X5_27 : am_FP 5 27 .int := ⟨(RX5, TX5, 40), rfl, rfl, by decide +kernel⟩
theorem fp_X5_29 : am_FP 5 29 .int := ⟨(RX5, TX5, 40), rfl, rfl, by decide +kernel⟩
theorem fp_X5_38 : am_FP 5 38 .long := ⟨(RX5, TX5, 40), rfl, rfl, by decide +kernel⟩
theorem fp_X5_39 : am_FP 5 39 .boolean := ⟨(RX5, TX5, 40), rfl, rfl, by decide +kernel⟩
def m_X0_init : am_Mi := (RX0, yX0_init, cX0_init, 1, none)
set_option maxRecDepth 100000 in
theorem cb_X0_init : am_CB m_X0_init 0 := ⟨am_Tt 3 (by decide +kernel) rfl, am_Tt 105 rfl rfl, rfl, by decide +kernel, by decide +kernel, by decide⟩
def m_X0_layHeaps : am_Mi := (RX0, yX0_layHeaps, cX0_layHeaps, 4, none)
set_option maxRecDepth 100000 in
theorem cb_X0_layHeaps : am_CB m_X0_layHeaps 2 := ⟨am_Tt 3 (by decide +kernel) rfl, am_Tt 332 rfl rfl, rfl, by decide +kernel, by decide +kernel, by decide⟩
def m_X0_layShaken : am_Mi := (RX0, yX0_layShaken, cX0_layShaken, 2, none)
set_option maxRecDepth 100000 in
theorem cb_X0_layShaken : am_CB m_X0_layShaken 1 := ⟨am_Tt 3 (by decide +kernel) rfl, am_Tt 311 rfl rfl, rfl, by decide +kernel, by decide +kernel, by decide⟩
def m_X0_layFitting : am_Mi := (RX0, yX0_layFitting, cX0_layFitting, 4, none)
set_option maxRecDepth 100000 in
theorem cb_X0_layFitting : am_CB m_X0_layFitting 1 := ⟨am_Tt 3 (by decide +kernel) rfl, am_Tt 608 rfl rfl, rfl, by decide +kernel, by decide +kernel, by decide⟩
def m_X0_layNothing : am_Mi := (RX0, yX0_layNothing, cX0_layNothing, 1, none)
set_option maxRecDepth 100000 in
theorem cb_X0_layNothing : am_CB m_X0_layNothing 0 := ⟨am_Tt 3 (by decide +kernel) rfl, am_Tt 315 rfl rfl, rfl, by decide +kernel, by decide +kernel, by decide⟩
def m_X0_layHeap : am_Mi := (RX0, yX0_layHeap, cX0_layHeap, 4, none)
set_option maxRecDepth 100000 in
theorem cb_X0_layHeap : am_CB m_X0_layHeap 2 := ⟨am_Tt 3 (by decide +kernel) rfl, am_Tt 319 rfl rfl, rfl, by decide +kernel, by decide +kernel, by decide⟩
def m_X0_keepFact : am_Mi := (RX0, yX0_keepFact, cX0_keepFact, 4, none)
set_option maxRecDepth 100000 in
theorem cb_X0_keepFact : am_CB m_X0_keepFact 3 := ⟨am_Tt 3 (by decide +kernel) rfl, am_Tt 617 rfl rfl, rfl, by decide +kernel, by decide +kernel, by decide⟩
def m_X0_keepAt : am_Mi := (RX0, yX0_keepAt, cX0_keepAt, 3, none)
set_option maxRecDepth 100000 in
theorem cb_X0_keepAt : am_CB m_X0_keepAt 2 := ⟨am_Tt 3 (by decide +kernel) rfl, am_Tt 613 rfl rfl, rfl, by decide +kernel, by decide +kernel, by decide⟩
def m_X0_keepAhead : am_Mi := (RX0, yX0_keepAhead, cX0_keepAhead, 5, none)
set_option maxRecDepth 100000 in
theorem cb_X0_keepAhead : am_CB m_X0_keepAhead 3 := ⟨am_Tt 3 (by decide +kernel) rfl, am_Tt 340 rfl rfl, rfl, by decide +kernel, by decide +kernel, by decide⟩
def m_X0_keepNotBehind : am_Mi := (RX0, yX0_keepNotBehind, cX0_keepNotBehind, 4, none)
set_option maxRecDepth 100000 in
theorem cb_X0_keepNotBehind : am_CB m_X0_keepNotBehind 2 := ⟨am_Tt 3 (by decide +kernel) rfl, am_Tt 628 rfl rfl, rfl, by decide +kernel, by decide +kernel, by decide⟩
def m_X0_keepNotAbove : am_Mi := (RX0, yX0_keepNotAbove, cX0_keepNotAbove, 3, none)
set_option maxRecDepth 100000 in
theorem cb_X0_keepNotAbove : am_CB m_X0_keepNotAbove 1 := ⟨am_Tt 3 (by decide +kernel) rfl, am_Tt 683 rfl rfl, rfl, by decide +kernel, by decide +kernel, by decide⟩
def m_X0_keepLevel : am_Mi := (RX0, yX0_keepLevel, cX0_keepLevel, 2, none)
set_option maxRecDepth 100000 in
theorem cb_X0_keepLevel : am_CB m_X0_keepLevel 1 := ⟨am_Tt 3 (by decide +kernel) rfl, am_Tt 621 rfl rfl, rfl, by decide +kernel, by decide +kernel, by decide⟩
def m_X0_closeLevel : am_Mi := (RX0, yX0_closeLevel, cX0_closeLevel, 4, none)
set_option maxRecDepth 100000 in
theorem cb_X0_closeLevel : am_CB m_X0_closeLevel 2 := ⟨am_Tt 3 (by decide +kernel) rfl, am_Tt 671 rfl rfl, rfl, by decide +kernel, by decide +kernel, by decide⟩
def m_X0_closeAhead : am_Mi := (RX0, yX0_closeAhead, cX0_closeAhead, 3, none)
set_option maxRecDepth 100000 in
theorem cb_X0_closeAhead : am_CB m_X0_closeAhead 1 := ⟨am_Tt 3 (by decide +kernel) rfl, am_Tt 378 rfl rfl, rfl, by decide +kernel, by decide +kernel, by decide⟩
def m_X0_keepAheadByTwos : am_Mi := (RX0, yX0_keepAheadByTwos, cX0_keepAheadByTwos, 3, none)
set_option maxRecDepth 100000 in
theorem cb_X0_keepAheadByTwos : am_CB m_X0_keepAheadByTwos 1 := ⟨am_Tt 3 (by decide +kernel) rfl, am_Tt 336 rfl rfl, rfl, by decide +kernel, by decide +kernel, by decide⟩
def m_X0_keepAheadFromBehind : am_Mi := (RX0, yX0_keepAheadFromBehind, cX0_keepAheadFromBehind, 3, none)
set_option maxRecDepth 100000 in
theorem cb_X0_keepAheadFromBehind : am_CB m_X0_keepAheadFromBehind 1 := ⟨am_Tt 3 (by decide +kernel) rfl, am_Tt 350 rfl rfl, rfl, by decide +kernel, by decide +kernel, by decide⟩
def m_X0_keepAheadUntilSure : am_Mi := (RX0, yX0_keepAheadUntilSure, cX0_keepAheadUntilSure, 3, none)
set_option maxRecDepth 100000 in
theorem cb_X0_keepAheadUntilSure : am_CB m_X0_keepAheadUntilSure 1 := ⟨am_Tt 3 (by decide +kernel) rfl, am_Tt 354 rfl rfl, rfl, by decide +kernel, by decide +kernel, by decide⟩
def m_X0_markAhead : am_Mi := (RX0, yX0_markAhead, cX0_markAhead, 2, none)
set_option maxRecDepth 100000 in
theorem cb_X0_markAhead : am_CB m_X0_markAhead 0 := ⟨am_Tt 3 (by decide +kernel) rfl, am_Tt 707 rfl rfl, rfl, by decide +kernel, by decide +kernel, by decide⟩
def m_X0_markLevel : am_Mi := (RX0, yX0_markLevel, cX0_markLevel, 2, none)
set_option maxRecDepth 100000 in
theorem cb_X0_markLevel : am_CB m_X0_markLevel 0 := ⟨am_Tt 3 (by decide +kernel) rfl, am_Tt 653 rfl rfl, rfl, by decide +kernel, by decide +kernel, by decide⟩
def m_X0_markUnsure : am_Mi := (RX0, yX0_markUnsure, cX0_markUnsure, 2, none)
set_option maxRecDepth 100000 in
theorem cb_X0_markUnsure : am_CB m_X0_markUnsure 0 := ⟨am_Tt 3 (by decide +kernel) rfl, am_Tt 591 rfl rfl, rfl, by decide +kernel, by decide +kernel, by decide⟩
def m_X0_isOpen : am_Mi := (RX0, yX0_isOpen, cX0_isOpen, 3, (some .boolean))
set_option maxRecDepth 100000 in
theorem cb_X0_isOpen : am_CB m_X0_isOpen 2 := ⟨am_Tt 3 (by decide +kernel) rfl, am_Tt 749 rfl rfl, rfl, by decide +kernel, by decide +kernel, by decide⟩
def m_X0_isMarked : am_Mi := (RX0, yX0_isMarked, cX0_isMarked, 3, (some .boolean))
set_option maxRecDepth 100000 in
theorem cb_X0_isMarked : am_CB m_X0_isMarked 2 := ⟨am_Tt 3 (by decide +kernel) rfl, am_Tt 595 rfl rfl, rfl, by decide +kernel, by decide +kernel, by decide⟩
def m_X0_countRows : am_Mi := (RX0, yX0_countRows, cX0_countRows, 1, (some .int))
set_option maxRecDepth 100000 in
theorem cb_X0_countRows : am_CB m_X0_countRows 0 := ⟨am_Tt 3 (by decide +kernel) rfl, am_Tt 362 rfl rfl, rfl, by decide +kernel, by decide +kernel, by decide⟩
def m_X0_sumMarks : am_Mi := (RX0, yX0_sumMarks, cX0_sumMarks, 1, (some .long))
set_option maxRecDepth 100000 in
theorem cb_X0_sumMarks : am_CB m_X0_sumMarks 0 := ⟨am_Tt 3 (by decide +kernel) rfl, am_Tt 711 rfl rfl, rfl, by decide +kernel, by decide +kernel, by decide⟩
def m_X0_walk : am_Mi := (RX0, yX0_walk, cX0_walk, 4, none)
set_option maxRecDepth 100000 in
theorem cb_X0_walk : am_CB m_X0_walk 0 := ⟨am_Tt 3 (by decide +kernel) rfl, am_Tt 366 rfl rfl, rfl, by decide +kernel, by decide +kernel, by decide⟩
def m_X0_walkInto : am_Mi := (RX0, yX0_walkInto, cX0_walkInto, 3, none)
set_option maxRecDepth 100000 in
theorem cb_X0_walkInto : am_CB m_X0_walkInto 2 := ⟨am_Tt 3 (by decide +kernel) rfl, am_Tt 374 rfl rfl, rfl, by decide +kernel, by decide +kernel, by decide⟩
def m_X0_tallyMarks : am_Mi := (RX0, yX0_tallyMarks, cX0_tallyMarks, 5, none)
set_option maxRecDepth 100000 in
theorem cb_X0_tallyMarks : am_CB m_X0_tallyMarks 0 := ⟨am_Tt 3 (by decide +kernel) rfl, am_Tt 657 rfl rfl, rfl, by decide +kernel, by decide +kernel, by decide⟩
def m_X0_tallyInto : am_Mi := (RX0, yX0_tallyInto, cX0_tallyInto, 9, none)
set_option maxRecDepth 100000 in
theorem cb_X0_tallyInto : am_CB m_X0_tallyInto 3 := ⟨am_Tt 3 (by decide +kernel) rfl, am_Tt 661 rfl rfl, rfl, by decide +kernel, by decide +kernel, by decide⟩
def m_X0_tallyFrom : am_Mi := (RX0, yX0_tallyFrom, cX0_tallyFrom, 4, (some .int))
set_option maxRecDepth 100000 in
theorem cb_X0_tallyFrom : am_CB m_X0_tallyFrom 1 := ⟨am_Tt 3 (by decide +kernel) rfl, am_Tt 732 rfl rfl, rfl, by decide +kernel, by decide +kernel, by decide⟩
def m_X0_leastAhead : am_Mi := (RX0, yX0_leastAhead, cX0_leastAhead, 2, (some .int))
set_option maxRecDepth 100000 in
theorem cb_X0_leastAhead : am_CB m_X0_leastAhead 2 := ⟨am_Tt 3 (by decide +kernel) rfl, am_Tt 346 rfl rfl, rfl, by decide +kernel, by decide +kernel, by decide⟩
def m_X0_aheadBits : am_Mi := (RX0, yX0_aheadBits, cX0_aheadBits, 2, (some .int))
set_option maxRecDepth 100000 in
theorem cb_X0_aheadBits : am_CB m_X0_aheadBits 2 := ⟨am_Tt 3 (by decide +kernel) rfl, am_Tt 343 rfl rfl, rfl, by decide +kernel, by decide +kernel, by decide⟩
def m_X0_levelBits : am_Mi := (RX0, yX0_levelBits, cX0_levelBits, 1, (some .int))
set_option maxRecDepth 100000 in
theorem cb_X0_levelBits : am_CB m_X0_levelBits 1 := ⟨am_Tt 3 (by decide +kernel) rfl, am_Tt 624 rfl rfl, rfl, by decide +kernel, by decide +kernel, by decide⟩
def m_X0_bits : am_Mi := (RX0, yX0_bits, cX0_bits, 4, (some .int))
set_option maxRecDepth 100000 in
theorem cb_X0_bits : am_CB m_X0_bits 2 := ⟨am_Tt 3 (by decide +kernel) rfl, am_Tt 328 rfl rfl, rfl, by decide +kernel, by decide +kernel, by decide⟩
def m_X1_init : am_Mi := (RX1, yX1_init, cX1_init, 1, none)
set_option maxRecDepth 100000 in
theorem cb_X1_init : am_CB m_X1_init 0 := ⟨am_Tt 2 (by decide +kernel) rfl, am_Tt 26 rfl rfl, rfl, by decide +kernel, by decide +kernel, by decide⟩
def m_X1_hasRoom : am_Mi := (RX1, yX1_hasRoom, cX1_hasRoom, 2, (some .boolean))
set_option maxRecDepth 100000 in
theorem cb_X1_hasRoom : am_CB m_X1_hasRoom 1 := ⟨am_Tt 2 (by decide +kernel) rfl, am_Tt 391 rfl rfl, rfl, by decide +kernel, by decide +kernel, by decide⟩
def m_X1_layIn : am_Mi := (RX1, yX1_layIn, cX1_layIn, 4, (some .int))
set_option maxRecDepth 100000 in
theorem cb_X1_layIn : am_CB m_X1_layIn 2 := ⟨am_Tt 2 (by decide +kernel) rfl, am_Tt 395 rfl rfl, rfl, by decide +kernel, by decide +kernel, by decide⟩
def m_X1_remember : am_Mi := (RX1, yX1_remember, cX1_remember, 5, (some .int))
set_option maxRecDepth 100000 in
theorem cb_X1_remember : am_CB m_X1_remember 3 := ⟨am_Tt 2 (by decide +kernel) rfl, am_Tt 403 rfl rfl, rfl, by decide +kernel, by decide +kernel, by decide⟩
def m_X1_dropFact : am_Mi := (RX1, yX1_dropFact, cX1_dropFact, 3, (some .int))
set_option maxRecDepth 100000 in
theorem cb_X1_dropFact : am_CB m_X1_dropFact 1 := ⟨am_Tt 2 (by decide +kernel) rfl, am_Tt 411 rfl rfl, rfl, by decide +kernel, by decide +kernel, by decide⟩
def m_X1_exchange : am_Mi := (RX1, yX1_exchange, cX1_exchange, 4, none)
set_option maxRecDepth 100000 in
theorem cb_X1_exchange : am_CB m_X1_exchange 2 := ⟨am_Tt 2 (by decide +kernel) rfl, am_Tt 419 rfl rfl, rfl, by decide +kernel, by decide +kernel, by decide⟩
def m_X1_placeOf : am_Mi := (RX1, yX1_placeOf, cX1_placeOf, 3, (some .int))
set_option maxRecDepth 100000 in
theorem cb_X1_placeOf : am_CB m_X1_placeOf 1 := ⟨am_Tt 2 (by decide +kernel) rfl, am_Tt 546 rfl rfl, rfl, by decide +kernel, by decide +kernel, by decide⟩
def m_X1_heapNow : am_Mi := (RX1, yX1_heapNow, cX1_heapNow, 4, (some .int))
set_option maxRecDepth 100000 in
theorem cb_X1_heapNow : am_CB m_X1_heapNow 0 := ⟨am_Tt 2 (by decide +kernel) rfl, am_Tt 542 rfl rfl, rfl, by decide +kernel, by decide +kernel, by decide⟩
def m_X1_leftNow : am_Mi := (RX1, yX1_leftNow, cX1_leftNow, 6, (some .int))
set_option maxRecDepth 100000 in
theorem cb_X1_leftNow : am_CB m_X1_leftNow 1 := ⟨am_Tt 2 (by decide +kernel) rfl, am_Tt 538 rfl rfl, rfl, by decide +kernel, by decide +kernel, by decide⟩
def m_X1_take : am_Mi := (RX1, yX1_take, cX1_take, 2, (some .boolean))
set_option maxRecDepth 100000 in
theorem cb_X1_take : am_CB m_X1_take 1 := ⟨am_Tt 2 (by decide +kernel) rfl, am_Tt 534 rfl rfl, rfl, by decide +kernel, by decide +kernel, by decide⟩
def m_X1_takeByDraw : am_Mi := (RX1, yX1_takeByDraw, cX1_takeByDraw, 3, (some .int))
set_option maxRecDepth 100000 in
theorem cb_X1_takeByDraw : am_CB m_X1_takeByDraw 0 := ⟨am_Tt 2 (by decide +kernel) rfl, am_Tt 819 rfl rfl, rfl, by decide +kernel, by decide +kernel, by decide⟩
def m_X1_drawBelow : am_Mi := (RX1, yX1_drawBelow, cX1_drawBelow, 2, (some .int))
set_option maxRecDepth 100000 in
theorem cb_X1_drawBelow : am_CB m_X1_drawBelow 1 := ⟨am_Tt 2 (by decide +kernel) rfl, am_Tt 823 rfl rfl, rfl, by decide +kernel, by decide +kernel, by decide⟩
def m_X1_layBack : am_Mi := (RX1, yX1_layBack, cX1_layBack, 1, none)
set_option maxRecDepth 100000 in
theorem cb_X1_layBack : am_CB m_X1_layBack 0 := ⟨am_Tt 2 (by decide +kernel) rfl, am_Tt 579 rfl rfl, rfl, by decide +kernel, by decide +kernel, by decide⟩
def m_X1_momentsAhead : am_Mi := (RX1, yX1_momentsAhead, cX1_momentsAhead, 4, (some .int))
set_option maxRecDepth 100000 in
theorem cb_X1_momentsAhead : am_CB m_X1_momentsAhead 0 := ⟨am_Tt 2 (by decide +kernel) rfl, am_Tt 833 rfl rfl, rfl, by decide +kernel, by decide +kernel, by decide⟩
def m_X1_takeOver : am_Mi := (RX1, yX1_takeOver, cX1_takeOver, 2, none)
set_option maxRecDepth 100000 in
theorem cb_X1_takeOver : am_CB m_X1_takeOver 1 := ⟨am_Tt 2 (by decide +kernel) rfl, am_Tt 439 rfl rfl, rfl, by decide +kernel, by decide +kernel, by decide⟩
def m_X2_init : am_Mi := (RX2, yX2_init, cX2_init, 1, none)
set_option maxRecDepth 100000 in
theorem cb_X2_init : am_CB m_X2_init 0 := ⟨am_Tt 5 (by decide +kernel) rfl, am_Tt 167 rfl rfl, rfl, by decide +kernel, by decide +kernel, by decide⟩
def m_X2_becomeRow : am_Mi := (RX2, yX2_becomeRow, cX2_becomeRow, 3, none)
set_option maxRecDepth 100000 in
theorem cb_X2_becomeRow : am_CB m_X2_becomeRow 2 := ⟨am_Tt 5 (by decide +kernel) rfl, am_Tt 231 rfl rfl, rfl, by decide +kernel, by decide +kernel, by decide⟩
def m_X2_becomeDrawing : am_Mi := (RX2, yX2_becomeDrawing, cX2_becomeDrawing, 3, none)
set_option maxRecDepth 100000 in
theorem cb_X2_becomeDrawing : am_CB m_X2_becomeDrawing 2 := ⟨am_Tt 5 (by decide +kernel) rfl, am_Tt 290 rfl rfl, rfl, by decide +kernel, by decide +kernel, by decide⟩
def m_X2_isEmpty : am_Mi := (RX2, yX2_isEmpty, cX2_isEmpty, 1, (some .boolean))
set_option maxRecDepth 100000 in
theorem cb_X2_isEmpty : am_CB m_X2_isEmpty 0 := ⟨am_Tt 5 (by decide +kernel) rfl, am_Tt 250 rfl rfl, rfl, by decide +kernel, by decide +kernel, by decide⟩
def m_X2_isRow : am_Mi := (RX2, yX2_isRow, cX2_isRow, 1, (some .boolean))
set_option maxRecDepth 100000 in
theorem cb_X2_isRow : am_CB m_X2_isRow 0 := ⟨am_Tt 5 (by decide +kernel) rfl, am_Tt 278 rfl rfl, rfl, by decide +kernel, by decide +kernel, by decide⟩
def m_X2_isDrawing : am_Mi := (RX2, yX2_isDrawing, cX2_isDrawing, 1, (some .boolean))
set_option maxRecDepth 100000 in
theorem cb_X2_isDrawing : am_CB m_X2_isDrawing 0 := ⟨am_Tt 5 (by decide +kernel) rfl, am_Tt 246 rfl rfl, rfl, by decide +kernel, by decide +kernel, by decide⟩
def m_X2_kind : am_Mi := (RX2, yX2_kind, cX2_kind, 1, (some .int))
set_option maxRecDepth 100000 in
theorem cb_X2_kind : am_CB m_X2_kind 0 := ⟨am_Tt 5 (by decide +kernel) rfl, am_Tt 298 rfl rfl, rfl, by decide +kernel, by decide +kernel, by decide⟩
def m_X2_hasElement : am_Mi := (RX2, yX2_hasElement, cX2_hasElement, 2, (some .boolean))
set_option maxRecDepth 100000 in
theorem cb_X2_hasElement : am_CB m_X2_hasElement 1 := ⟨am_Tt 5 (by decide +kernel) rfl, am_Tt 254 rfl rfl, rfl, by decide +kernel, by decide +kernel, by decide⟩
def m_X2_hasElements : am_Mi := (RX2, yX2_hasElements, cX2_hasElements, 3, (some .boolean))
set_option maxRecDepth 100000 in
theorem cb_X2_hasElements : am_CB m_X2_hasElements 2 := ⟨am_Tt 5 (by decide +kernel) rfl, am_Tt 267 rfl rfl, rfl, by decide +kernel, by decide +kernel, by decide⟩
def m_X2_put : am_Mi := (RX2, yX2_put, cX2_put, 4, none)
set_option maxRecDepth 100000 in
theorem cb_X2_put : am_CB m_X2_put 2 := ⟨am_Tt 5 (by decide +kernel) rfl, am_Tt 259 rfl rfl, rfl, by decide +kernel, by decide +kernel, by decide⟩
def m_X2_slipAt : am_Mi := (RX2, yX2_slipAt, cX2_slipAt, 2, (some .int))
set_option maxRecDepth 100000 in
theorem cb_X2_slipAt : am_CB m_X2_slipAt 1 := ⟨am_Tt 5 (by decide +kernel) rfl, am_Tt 744 rfl rfl, rfl, by decide +kernel, by decide +kernel, by decide⟩
def m_X3_init : am_Mi := (RX3, yX3_init, cX3_init, 1, none)
set_option maxRecDepth 100000 in
theorem cb_X3_init : am_CB m_X3_init 0 := ⟨am_Tt 4 (by decide +kernel) rfl, am_Tt 139 rfl rfl, rfl, by decide +kernel, by decide +kernel, by decide⟩
def m_X3_append : am_Mi := (RX3, yX3_append, cX3_append, 2, (some .int))
set_option maxRecDepth 100000 in
theorem cb_X3_append : am_CB m_X3_append 1 := ⟨am_Tt 4 (by decide +kernel) rfl, am_Tt 427 rfl rfl, rfl, by decide +kernel, by decide +kernel, by decide⟩
def m_X3_readInto : am_Mi := (RX3, yX3_readInto, cX3_readInto, 3, (some .int))
set_option maxRecDepth 100000 in
theorem cb_X3_readInto : am_CB m_X3_readInto 1 := ⟨am_Tt 4 (by decide +kernel) rfl, am_Tt 444 rfl rfl, rfl, by decide +kernel, by decide +kernel, by decide⟩
def m_X3_statement : am_Mi := (RX3, yX3_statement, cX3_statement, 2, (some .boolean))
set_option maxRecDepth 100000 in
theorem cb_X3_statement : am_CB m_X3_statement 1 := ⟨am_Tt 4 (by decide +kernel) rfl, am_Tt 456 rfl rfl, rfl, by decide +kernel, by decide +kernel, by decide⟩
def m_X3_heapStatement : am_Mi := (RX3, yX3_heapStatement, cX3_heapStatement, 3, (some .boolean))
set_option maxRecDepth 100000 in
theorem cb_X3_heapStatement : am_CB m_X3_heapStatement 1 := ⟨am_Tt 4 (by decide +kernel) rfl, am_Tt 513 rfl rfl, rfl, by decide +kernel, by decide +kernel, by decide⟩
def m_X3_factStatement : am_Mi := (RX3, yX3_factStatement, cX3_factStatement, 4, (some .boolean))
set_option maxRecDepth 100000 in
theorem cb_X3_factStatement : am_CB m_X3_factStatement 1 := ⟨am_Tt 4 (by decide +kernel) rfl, am_Tt 524 rfl rfl, rfl, by decide +kernel, by decide +kernel, by decide⟩
def m_X3_readStatement : am_Mi := (RX3, yX3_readStatement, cX3_readStatement, 3, (some .boolean))
set_option maxRecDepth 100000 in
theorem cb_X3_readStatement : am_CB m_X3_readStatement 1 := ⟨am_Tt 4 (by decide +kernel) rfl, am_Tt 530 rfl rfl, rfl, by decide +kernel, by decide +kernel, by decide⟩
def m_X3_swapStatement : am_Mi := (RX3, yX3_swapStatement, cX3_swapStatement, 3, (some .boolean))
set_option maxRecDepth 100000 in
theorem cb_X3_swapStatement : am_CB m_X3_swapStatement 1 := ⟨am_Tt 4 (by decide +kernel) rfl, am_Tt 551 rfl rfl, rfl, by decide +kernel, by decide +kernel, by decide⟩
def m_X3_isWord : am_Mi := (RX3, yX3_isWord, cX3_isWord, 3, (some .boolean))
set_option maxRecDepth 100000 in
theorem cb_X3_isWord : am_CB m_X3_isWord 1 := ⟨am_Tt 4 (by decide +kernel) rfl, am_Tt 461 rfl rfl, rfl, by decide +kernel, by decide +kernel, by decide⟩
def m_X3_isNumberNext : am_Mi := (RX3, yX3_isNumberNext, cX3_isNumberNext, 3, (some .boolean))
set_option maxRecDepth 100000 in
theorem cb_X3_isNumberNext : am_CB m_X3_isNumberNext 1 := ⟨am_Tt 4 (by decide +kernel) rfl, am_Tt 517 rfl rfl, rfl, by decide +kernel, by decide +kernel, by decide⟩
def m_X3_nextToken : am_Mi := (RX3, yX3_nextToken, cX3_nextToken, 1, none)
set_option maxRecDepth 100000 in
theorem cb_X3_nextToken : am_CB m_X3_nextToken 0 := ⟨am_Tt 4 (by decide +kernel) rfl, am_Tt 448 rfl rfl, rfl, by decide +kernel, by decide +kernel, by decide⟩
def m_X3_tokenOf : am_Mi := (RX3, yX3_tokenOf, cX3_tokenOf, 1, (some .int))
set_option maxRecDepth 100000 in
theorem cb_X3_tokenOf : am_CB m_X3_tokenOf 1 := ⟨am_Tt 4 (by decide +kernel) rfl, am_Tt 451 rfl rfl, rfl, by decide +kernel, by decide +kernel, by decide⟩
def m_X4_init : am_Mi := (RX4, yX4_init, cX4_init, 2, none)
set_option maxRecDepth 100000 in
theorem cb_X4_init : am_CB m_X4_init 0 := ⟨am_Tt 1 (by decide +kernel) rfl, am_Tt 18 rfl rfl, rfl, by decide +kernel, by decide +kernel, by decide⟩
def m_X4_row : am_Mi := (RX4, yX4_row, cX4_row, 4, (some .int))
set_option maxRecDepth 100000 in
theorem cb_X4_row : am_CB m_X4_row 3 := ⟨am_Tt 1 (by decide +kernel) rfl, am_Tt 217 rfl rfl, rfl, by decide +kernel, by decide +kernel, by decide⟩
def m_X4_set : am_Mi := (RX4, yX4_set, cX4_set, 6, (some .int))
set_option maxRecDepth 100000 in
theorem cb_X4_set : am_CB m_X4_set 3 := ⟨am_Tt 1 (by decide +kernel) rfl, am_Tt 238 rfl rfl, rfl, by decide +kernel, by decide +kernel, by decide⟩
def m_X4_copy : am_Mi := (RX4, yX4_copy, cX4_copy, 7, (some .int))
set_option maxRecDepth 100000 in
theorem cb_X4_copy : am_CB m_X4_copy 5 := ⟨am_Tt 1 (by decide +kernel) rfl, am_Tt 263 rfl rfl, rfl, by decide +kernel, by decide +kernel, by decide⟩
def m_X4_element : am_Mi := (RX4, yX4_element, cX4_element, 3, (some .long))
set_option maxRecDepth 100000 in
theorem cb_X4_element : am_CB m_X4_element 2 := ⟨am_Tt 1 (by decide +kernel) rfl, am_Tt 274 rfl rfl, rfl, by decide +kernel, by decide +kernel, by decide⟩
def m_X4_holds : am_Mi := (RX4, yX4_holds, cX4_holds, 2, (some .int))
set_option maxRecDepth 100000 in
theorem cb_X4_holds : am_CB m_X4_holds 1 := ⟨am_Tt 1 (by decide +kernel) rfl, am_Tt 282 rfl rfl, rfl, by decide +kernel, by decide +kernel, by decide⟩
def m_X4_drawing : am_Mi := (RX4, yX4_drawing, cX4_drawing, 4, (some .int))
set_option maxRecDepth 100000 in
theorem cb_X4_drawing : am_CB m_X4_drawing 3 := ⟨am_Tt 1 (by decide +kernel) rfl, am_Tt 286 rfl rfl, rfl, by decide +kernel, by decide +kernel, by decide⟩
def m_X4_says : am_Mi := (RX4, yX4_says, cX4_says, 4, (some .int))
set_option maxRecDepth 100000 in
theorem cb_X4_says : am_CB m_X4_says 2 := ⟨am_Tt 1 (by decide +kernel) rfl, am_Tt 294 rfl rfl, rfl, by decide +kernel, by decide +kernel, by decide⟩
def m_X4_head : am_Mi := (RX4, yX4_head, cX4_head, 5, (some .int))
set_option maxRecDepth 100000 in
theorem cb_X4_head : am_CB m_X4_head 0 := ⟨am_Tt 1 (by decide +kernel) rfl, am_Tt 383 rfl rfl, rfl, by decide +kernel, by decide +kernel, by decide⟩
def m_X4_heap : am_Mi := (RX4, yX4_heap, cX4_heap, 3, (some .int))
set_option maxRecDepth 100000 in
theorem cb_X4_heap : am_CB m_X4_heap 2 := ⟨am_Tt 1 (by decide +kernel) rfl, am_Tt 387 rfl rfl, rfl, by decide +kernel, by decide +kernel, by decide⟩
def m_X4_fact : am_Mi := (RX4, yX4_fact, cX4_fact, 4, (some .int))
set_option maxRecDepth 100000 in
theorem cb_X4_fact : am_CB m_X4_fact 3 := ⟨am_Tt 1 (by decide +kernel) rfl, am_Tt 399 rfl rfl, rfl, by decide +kernel, by decide +kernel, by decide⟩
def m_X4_forget : am_Mi := (RX4, yX4_forget, cX4_forget, 2, (some .int))
set_option maxRecDepth 100000 in
theorem cb_X4_forget : am_CB m_X4_forget 1 := ⟨am_Tt 1 (by decide +kernel) rfl, am_Tt 407 rfl rfl, rfl, by decide +kernel, by decide +kernel, by decide⟩
def m_X4_swap : am_Mi := (RX4, yX4_swap, cX4_swap, 3, (some .int))
set_option maxRecDepth 100000 in
theorem cb_X4_swap : am_CB m_X4_swap 2 := ⟨am_Tt 1 (by decide +kernel) rfl, am_Tt 415 rfl rfl, rfl, by decide +kernel, by decide +kernel, by decide⟩
def m_X4_feed : am_Mi := (RX4, yX4_feed, cX4_feed, 2, (some .int))
set_option maxRecDepth 100000 in
theorem cb_X4_feed : am_CB m_X4_feed 1 := ⟨am_Tt 1 (by decide +kernel) rfl, am_Tt 423 rfl rfl, rfl, by decide +kernel, by decide +kernel, by decide⟩
def m_X4_wipe : am_Mi := (RX4, yX4_wipe, cX4_wipe, 2, (some .int))
set_option maxRecDepth 100000 in
theorem cb_X4_wipe : am_CB m_X4_wipe 0 := ⟨am_Tt 1 (by decide +kernel) rfl, am_Tt 431 rfl rfl, rfl, by decide +kernel, by decide +kernel, by decide⟩
def m_X4_drum : am_Mi := (RX4, yX4_drum, cX4_drum, 2, (some .int))
set_option maxRecDepth 100000 in
theorem cb_X4_drum : am_CB m_X4_drum 0 := ⟨am_Tt 1 (by decide +kernel) rfl, am_Tt 435 rfl rfl, rfl, by decide +kernel, by decide +kernel, by decide⟩
def m_X4_heapOf : am_Mi := (RX4, yX4_heapOf, cX4_heapOf, 3, (some .int))
set_option maxRecDepth 100000 in
theorem cb_X4_heapOf : am_CB m_X4_heapOf 2 := ⟨am_Tt 1 (by decide +kernel) rfl, am_Tt 557 rfl rfl, rfl, by decide +kernel, by decide +kernel, by decide⟩
def m_X4_factOf : am_Mi := (RX4, yX4_factOf, cX4_factOf, 3, (some .int))
set_option maxRecDepth 100000 in
theorem cb_X4_factOf : am_CB m_X4_factOf 2 := ⟨am_Tt 1 (by decide +kernel) rfl, am_Tt 562 rfl rfl, rfl, by decide +kernel, by decide +kernel, by decide⟩
def m_X4_read : am_Mi := (RX4, yX4_read, cX4_read, 2, (some .int))
set_option maxRecDepth 100000 in
theorem cb_X4_read : am_CB m_X4_read 1 := ⟨am_Tt 1 (by decide +kernel) rfl, am_Tt 566 rfl rfl, rfl, by decide +kernel, by decide +kernel, by decide⟩
def m_X4_slip : am_Mi := (RX4, yX4_slip, cX4_slip, 2, (some .int))
set_option maxRecDepth 100000 in
theorem cb_X4_slip : am_CB m_X4_slip 1 := ⟨am_Tt 1 (by decide +kernel) rfl, am_Tt 571 rfl rfl, rfl, by decide +kernel, by decide +kernel, by decide⟩
def m_X4_again : am_Mi := (RX4, yX4_again, cX4_again, 2, (some .int))
set_option maxRecDepth 100000 in
theorem cb_X4_again : am_CB m_X4_again 0 := ⟨am_Tt 1 (by decide +kernel) rfl, am_Tt 575 rfl rfl, rfl, by decide +kernel, by decide +kernel, by decide⟩
def m_X4_lead : am_Mi := (RX4, yX4_lead, cX4_lead, 1, (some .int))
set_option maxRecDepth 100000 in
theorem cb_X4_lead : am_CB m_X4_lead 0 := ⟨am_Tt 1 (by decide +kernel) rfl, am_Tt 583 rfl rfl, rfl, by decide +kernel, by decide +kernel, by decide⟩
def m_X4_isSure : am_Mi := (RX4, yX4_isSure, cX4_isSure, 1, (some .int))
set_option maxRecDepth 100000 in
theorem cb_X4_isSure : am_CB m_X4_isSure 0 := ⟨am_Tt 1 (by decide +kernel) rfl, am_Tt 587 rfl rfl, rfl, by decide +kernel, by decide +kernel, by decide⟩
def m_X4_rows : am_Mi := (RX4, yX4_rows, cX4_rows, 1, (some .int))
set_option maxRecDepth 100000 in
theorem cb_X4_rows : am_CB m_X4_rows 0 := ⟨am_Tt 1 (by decide +kernel) rfl, am_Tt 600 rfl rfl, rfl, by decide +kernel, by decide +kernel, by decide⟩
def m_X4_ways : am_Mi := (RX4, yX4_ways, cX4_ways, 1, (some .int))
set_option maxRecDepth 100000 in
theorem cb_X4_ways : am_CB m_X4_ways 0 := ⟨am_Tt 1 (by decide +kernel) rfl, am_Tt 604 rfl rfl, rfl, by decide +kernel, by decide +kernel, by decide⟩
def m_X4_ahead : am_Mi := (RX4, yX4_ahead, cX4_ahead, 2, (some .int))
set_option maxRecDepth 100000 in
theorem cb_X4_ahead : am_CB m_X4_ahead 1 := ⟨am_Tt 1 (by decide +kernel) rfl, am_Tt 632 rfl rfl, rfl, by decide +kernel, by decide +kernel, by decide⟩
def m_X4_never : am_Mi := (RX4, yX4_never, cX4_never, 1, (some .int))
set_option maxRecDepth 100000 in
theorem cb_X4_never : am_CB m_X4_never 0 := ⟨am_Tt 1 (by decide +kernel) rfl, am_Tt 640 rfl rfl, rfl, by decide +kernel, by decide +kernel, by decide⟩
def m_X4_level : am_Mi := (RX4, yX4_level, cX4_level, 2, (some .int))
set_option maxRecDepth 100000 in
theorem cb_X4_level : am_CB m_X4_level 1 := ⟨am_Tt 1 (by decide +kernel) rfl, am_Tt 645 rfl rfl, rfl, by decide +kernel, by decide +kernel, by decide⟩
def m_X4_last : am_Mi := (RX4, yX4_last, cX4_last, 2, (some .int))
set_option maxRecDepth 100000 in
theorem cb_X4_last : am_CB m_X4_last 1 := ⟨am_Tt 1 (by decide +kernel) rfl, am_Tt 666 rfl rfl, rfl, by decide +kernel, by decide +kernel, by decide⟩
def m_X4_greatest : am_Mi := (RX4, yX4_greatest, cX4_greatest, 2, (some .int))
set_option maxRecDepth 100000 in
theorem cb_X4_greatest : am_CB m_X4_greatest 1 := ⟨am_Tt 1 (by decide +kernel) rfl, am_Tt 675 rfl rfl, rfl, by decide +kernel, by decide +kernel, by decide⟩
def m_X4_sure : am_Mi := (RX4, yX4_sure, cX4_sure, 2, (some .int))
set_option maxRecDepth 100000 in
theorem cb_X4_sure : am_CB m_X4_sure 1 := ⟨am_Tt 1 (by decide +kernel) rfl, am_Tt 690 rfl rfl, rfl, by decide +kernel, by decide +kernel, by decide⟩
def m_X4_soFar : am_Mi := (RX4, yX4_soFar, cX4_soFar, 3, (some .int))
set_option maxRecDepth 100000 in
theorem cb_X4_soFar : am_CB m_X4_soFar 2 := ⟨am_Tt 1 (by decide +kernel) rfl, am_Tt 698 rfl rfl, rfl, by decide +kernel, by decide +kernel, by decide⟩
def m_X4_spent : am_Mi := (RX4, yX4_spent, cX4_spent, 1, (some .long))
set_option maxRecDepth 100000 in
theorem cb_X4_spent : am_CB m_X4_spent 0 := ⟨am_Tt 1 (by decide +kernel) rfl, am_Tt 703 rfl rfl, rfl, by decide +kernel, by decide +kernel, by decide⟩
def m_X4_mean : am_Mi := (RX4, yX4_mean, cX4_mean, 1, (some .long))
set_option maxRecDepth 100000 in
theorem cb_X4_mean : am_CB m_X4_mean 0 := ⟨am_Tt 1 (by decide +kernel) rfl, am_Tt 715 rfl rfl, rfl, by decide +kernel, by decide +kernel, by decide⟩
def m_X4_price : am_Mi := (RX4, yX4_price, cX4_price, 3, (some .int))
set_option maxRecDepth 100000 in
theorem cb_X4_price : am_CB m_X4_price 1 := ⟨am_Tt 1 (by decide +kernel) rfl, am_Tt 719 rfl rfl, rfl, by decide +kernel, by decide +kernel, by decide⟩
def m_X4_often : am_Mi := (RX4, yX4_often, cX4_often, 3, (some .int))
set_option maxRecDepth 100000 in
theorem cb_X4_often : am_CB m_X4_often 0 := ⟨am_Tt 1 (by decide +kernel) rfl, am_Tt 724 rfl rfl, rfl, by decide +kernel, by decide +kernel, by decide⟩
def m_X4_half : am_Mi := (RX4, yX4_half, cX4_half, 4, (some .int))
set_option maxRecDepth 100000 in
theorem cb_X4_half : am_CB m_X4_half 0 := ⟨am_Tt 1 (by decide +kernel) rfl, am_Tt 728 rfl rfl, rfl, by decide +kernel, by decide +kernel, by decide⟩
def m_X4_judge : am_Mi := (RX4, yX4_judge, cX4_judge, 3, (some .int))
set_option maxRecDepth 100000 in
theorem cb_X4_judge : am_CB m_X4_judge 1 := ⟨am_Tt 1 (by decide +kernel) rfl, am_Tt 736 rfl rfl, rfl, by decide +kernel, by decide +kernel, by decide⟩
def m_X4_told : am_Mi := (RX4, yX4_told, cX4_told, 4, (some .int))
set_option maxRecDepth 100000 in
theorem cb_X4_told : am_CB m_X4_told 2 := ⟨am_Tt 1 (by decide +kernel) rfl, am_Tt 753 rfl rfl, rfl, by decide +kernel, by decide +kernel, by decide⟩
def m_X4_luck : am_Mi := (RX4, yX4_luck, cX4_luck, 3, (some .int))
set_option maxRecDepth 100000 in
theorem cb_X4_luck : am_CB m_X4_luck 1 := ⟨am_Tt 1 (by decide +kernel) rfl, am_Tt 765 rfl rfl, rfl, by decide +kernel, by decide +kernel, by decide⟩
def m_X4_order : am_Mi := (RX4, yX4_order, cX4_order, 9, (some .int))
set_option maxRecDepth 100000 in
theorem cb_X4_order : am_CB m_X4_order 2 := ⟨am_Tt 1 (by decide +kernel) rfl, am_Tt 769 rfl rfl, rfl, by decide +kernel, by decide +kernel, by decide⟩
def m_X4_lost : am_Mi := (RX4, yX4_lost, cX4_lost, 7, (some .int))
set_option maxRecDepth 100000 in
theorem cb_X4_lost : am_CB m_X4_lost 1 := ⟨am_Tt 1 (by decide +kernel) rfl, am_Tt 786 rfl rfl, rfl, by decide +kernel, by decide +kernel, by decide⟩
def m_X4_books : am_Mi := (RX4, yX4_books, cX4_books, 4, (some .int))
set_option maxRecDepth 100000 in
theorem cb_X4_books : am_CB m_X4_books 2 := ⟨am_Tt 1 (by decide +kernel) rfl, am_Tt 796 rfl rfl, rfl, by decide +kernel, by decide +kernel, by decide⟩
def m_X4_unlike : am_Mi := (RX4, yX4_unlike, cX4_unlike, 4, (some .int))
set_option maxRecDepth 100000 in
theorem cb_X4_unlike : am_CB m_X4_unlike 2 := ⟨am_Tt 1 (by decide +kernel) rfl, am_Tt 811 rfl rfl, rfl, by decide +kernel, by decide +kernel, by decide⟩
def m_X4_draw : am_Mi := (RX4, yX4_draw, cX4_draw, 1, (some .int))
set_option maxRecDepth 100000 in
theorem cb_X4_draw : am_CB m_X4_draw 0 := ⟨am_Tt 1 (by decide +kernel) rfl, am_Tt 815 rfl rfl, rfl, by decide +kernel, by decide +kernel, by decide⟩
def m_X4_evening : am_Mi := (RX4, yX4_evening, cX4_evening, 3, (some .int))
set_option maxRecDepth 100000 in
theorem cb_X4_evening : am_CB m_X4_evening 0 := ⟨am_Tt 1 (by decide +kernel) rfl, am_Tt 829 rfl rfl, rfl, by decide +kernel, by decide +kernel, by decide⟩
def m_X4_seed : am_Mi := (RX4, yX4_seed, cX4_seed, 3, (some .int))
set_option maxRecDepth 100000 in
theorem cb_X4_seed : am_CB m_X4_seed 1 := ⟨am_Tt 1 (by decide +kernel) rfl, am_Tt 837 rfl rfl, rfl, by decide +kernel, by decide +kernel, by decide⟩
def m_X4_image : am_Mi := (RX4, yX4_image, cX4_image, 1, (some .int))
set_option maxRecDepth 100000 in
theorem cb_X4_image : am_CB m_X4_image 0 := ⟨am_Tt 1 (by decide +kernel) rfl, am_Tt 841 rfl rfl, rfl, by decide +kernel, by decide +kernel, by decide⟩
def m_X4_back : am_Mi := (RX4, yX4_back, cX4_back, 1, (some .int))
set_option maxRecDepth 100000 in
theorem cb_X4_back : am_CB m_X4_back 0 := ⟨am_Tt 1 (by decide +kernel) rfl, am_Tt 845 rfl rfl, rfl, by decide +kernel, by decide +kernel, by decide⟩
def m_X4_status : am_Mi := (RX4, yX4_status, cX4_status, 2, (some .int))
set_option maxRecDepth 100000 in
theorem cb_X4_status : am_CB m_X4_status 1 := ⟨am_Tt 1 (by decide +kernel) rfl, am_Tt 849 rfl rfl, rfl, by decide +kernel, by decide +kernel, by decide⟩
def m_X4_isWithin : am_Mi := (RX4, yX4_isWithin, cX4_isWithin, 2, (some .boolean))
set_option maxRecDepth 100000 in
theorem cb_X4_isWithin : am_CB m_X4_isWithin 2 := ⟨am_Tt 1 (by decide +kernel) rfl, am_Tt 223 rfl rfl, rfl, by decide +kernel, by decide +kernel, by decide⟩
def m_X4_isShelf : am_Mi := (RX4, yX4_isShelf, cX4_isShelf, 1, (some .boolean))
set_option maxRecDepth 100000 in
theorem cb_X4_isShelf : am_CB m_X4_isShelf 1 := ⟨am_Tt 1 (by decide +kernel) rfl, am_Tt 220 rfl rfl, rfl, by decide +kernel, by decide +kernel, by decide⟩
def m_X4_refuse : am_Mi := (RX4, yX4_refuse, cX4_refuse, 3, (some .int))
set_option maxRecDepth 100000 in
theorem cb_X4_refuse : am_CB m_X4_refuse 1 := ⟨am_Tt 1 (by decide +kernel) rfl, am_Tt 227 rfl rfl, rfl, by decide +kernel, by decide +kernel, by decide⟩
def m_X4_shelvesInUse : am_Mi := (RX4, yX4_shelvesInUse, cX4_shelvesInUse, 3, (some .int))
set_option maxRecDepth 100000 in
theorem cb_X4_shelvesInUse : am_CB m_X4_shelvesInUse 0 := ⟨am_Tt 1 (by decide +kernel) rfl, am_Tt 853 rfl rfl, rfl, by decide +kernel, by decide +kernel, by decide⟩
def m_X4_againstRows : am_Mi := (RX4, yX4_againstRows, cX4_againstRows, 3, (some .int))
set_option maxRecDepth 100000 in
theorem cb_X4_againstRows : am_CB m_X4_againstRows 2 := ⟨am_Tt 1 (by decide +kernel) rfl, am_Tt 242 rfl rfl, rfl, by decide +kernel, by decide +kernel, by decide⟩
def m_X4_againstTold : am_Mi := (RX4, yX4_againstTold, cX4_againstTold, 3, (some .int))
set_option maxRecDepth 100000 in
theorem cb_X4_againstTold : am_CB m_X4_againstTold 1 := ⟨am_Tt 1 (by decide +kernel) rfl, am_Tt 757 rfl rfl, rfl, by decide +kernel, by decide +kernel, by decide⟩
def m_X4_againstBooks : am_Mi := (RX4, yX4_againstBooks, cX4_againstBooks, 4, (some .int))
set_option maxRecDepth 100000 in
theorem cb_X4_againstBooks : am_CB m_X4_againstBooks 2 := ⟨am_Tt 1 (by decide +kernel) rfl, am_Tt 800 rfl rfl, rfl, by decide +kernel, by decide +kernel, by decide⟩
def m_X4_isUnder : am_Mi := (RX4, yX4_isUnder, cX4_isUnder, 4, (some .boolean))
set_option maxRecDepth 100000 in
theorem cb_X4_isUnder : am_CB m_X4_isUnder 2 := ⟨am_Tt 1 (by decide +kernel) rfl, am_Tt 301 rfl rfl, rfl, by decide +kernel, by decide +kernel, by decide⟩
def m_X4_saying : am_Mi := (RX4, yX4_saying, cX4_saying, 3, (some .int))
set_option maxRecDepth 100000 in
theorem cb_X4_saying : am_CB m_X4_saying 2 := ⟨am_Tt 1 (by decide +kernel) rfl, am_Tt 307 rfl rfl, rfl, by decide +kernel, by decide +kernel, by decide⟩
def m_X4_sayingOnce : am_Mi := (RX4, yX4_sayingOnce, cX4_sayingOnce, 3, (some .int))
set_option maxRecDepth 100000 in
theorem cb_X4_sayingOnce : am_CB m_X4_sayingOnce 1 := ⟨am_Tt 1 (by decide +kernel) rfl, am_Tt 358 rfl rfl, rfl, by decide +kernel, by decide +kernel, by decide⟩
def m_X4_fittingAhead : am_Mi := (RX4, yX4_fittingAhead, cX4_fittingAhead, 2, (some .int))
set_option maxRecDepth 100000 in
theorem cb_X4_fittingAhead : am_CB m_X4_fittingAhead 1 := ⟨am_Tt 1 (by decide +kernel) rfl, am_Tt 636 rfl rfl, rfl, by decide +kernel, by decide +kernel, by decide⟩
def m_X4_fittingNotAbove : am_Mi := (RX4, yX4_fittingNotAbove, cX4_fittingNotAbove, 2, (some .int))
set_option maxRecDepth 100000 in
theorem cb_X4_fittingNotAbove : am_CB m_X4_fittingNotAbove 1 := ⟨am_Tt 1 (by decide +kernel) rfl, am_Tt 679 rfl rfl, rfl, by decide +kernel, by decide +kernel, by decide⟩
def m_X4_tallyLevel : am_Mi := (RX4, yX4_tallyLevel, cX4_tallyLevel, 1, none)
set_option maxRecDepth 100000 in
theorem cb_X4_tallyLevel : am_CB m_X4_tallyLevel 0 := ⟨am_Tt 1 (by decide +kernel) rfl, am_Tt 649 rfl rfl, rfl, by decide +kernel, by decide +kernel, by decide⟩
def m_X4_tallySure : am_Mi := (RX4, yX4_tallySure, cX4_tallySure, 1, none)
set_option maxRecDepth 100000 in
theorem cb_X4_tallySure : am_CB m_X4_tallySure 0 := ⟨am_Tt 1 (by decide +kernel) rfl, am_Tt 694 rfl rfl, rfl, by decide +kernel, by decide +kernel, by decide⟩
def m_X4_firstWrong : am_Mi := (RX4, yX4_firstWrong, cX4_firstWrong, 5, (some .int))
set_option maxRecDepth 100000 in
theorem cb_X4_firstWrong : am_CB m_X4_firstWrong 1 := ⟨am_Tt 1 (by decide +kernel) rfl, am_Tt 740 rfl rfl, rfl, by decide +kernel, by decide +kernel, by decide⟩
def m_X4_toldOf : am_Mi := (RX4, yX4_toldOf, cX4_toldOf, 7, (some .int))
set_option maxRecDepth 100000 in
theorem cb_X4_toldOf : am_CB m_X4_toldOf 2 := ⟨am_Tt 1 (by decide +kernel) rfl, am_Tt 760 rfl rfl, rfl, by decide +kernel, by decide +kernel, by decide⟩
def m_X4_spentBy : am_Mi := (RX4, yX4_spentBy, cX4_spentBy, 2, (some .long))
set_option maxRecDepth 100000 in
theorem cb_X4_spentBy : am_CB m_X4_spentBy 1 := ⟨am_Tt 1 (by decide +kernel) rfl, am_Tt 773 rfl rfl, rfl, by decide +kernel, by decide +kernel, by decide⟩
def m_X4_tryOrder : am_Mi := (RX4, yX4_tryOrder, cX4_tryOrder, 7, none)
set_option maxRecDepth 100000 in
theorem cb_X4_tryOrder : am_CB m_X4_tryOrder 1 := ⟨am_Tt 1 (by decide +kernel) rfl, am_Tt 777 rfl rfl, rfl, by decide +kernel, by decide +kernel, by decide⟩
def m_X4_freeHeap : am_Mi := (RX4, yX4_freeHeap, cX4_freeHeap, 4, (some .int))
set_option maxRecDepth 100000 in
theorem cb_X4_freeHeap : am_CB m_X4_freeHeap 2 := ⟨am_Tt 1 (by decide +kernel) rfl, am_Tt 782 rfl rfl, rfl, by decide +kernel, by decide +kernel, by decide⟩
def m_X4_choose : am_Mi := (RX4, yX4_choose, cX4_choose, 5, (some .long))
set_option maxRecDepth 100000 in
theorem cb_X4_choose : am_CB m_X4_choose 2 := ⟨am_Tt 1 (by decide +kernel) rfl, am_Tt 792 rfl rfl, rfl, by decide +kernel, by decide +kernel, by decide⟩
def m_X4_firstUnlike : am_Mi := (RX4, yX4_firstUnlike, cX4_firstUnlike, 3, (some .int))
set_option maxRecDepth 100000 in
theorem cb_X4_firstUnlike : am_CB m_X4_firstUnlike 2 := ⟨am_Tt 1 (by decide +kernel) rfl, am_Tt 803 rfl rfl, rfl, by decide +kernel, by decide +kernel, by decide⟩
def m_X4_agreeing : am_Mi := (RX4, yX4_agreeing, cX4_agreeing, 12, (some .int))
set_option maxRecDepth 100000 in
theorem cb_X4_agreeing : am_CB m_X4_agreeing 2 := ⟨am_Tt 1 (by decide +kernel) rfl, am_Tt 807 rfl rfl, rfl, by decide +kernel, by decide +kernel, by decide⟩
def m_X5_init : am_Mi := (RX5, yX5_init, cX5_init, 1, none)
set_option maxRecDepth 100000 in
theorem cb_X5_init : am_CB m_X5_init 0 := ⟨am_Tt 6 (by decide +kernel) rfl, am_Tt 859 rfl rfl, rfl, by decide +kernel, by decide +kernel, by decide⟩
def m_X5_refuse : am_Mi := (RX5, yX5_refuse, cX5_refuse, 2, (some .int))
set_option maxRecDepth 100000 in
theorem cb_X5_refuse : am_CB m_X5_refuse 1 := ⟨am_Tt 6 (by decide +kernel) rfl, am_Tt 1002 rfl rfl, rfl, by decide +kernel, by decide +kernel, by decide⟩
def m_X5_in : am_Mi := (RX5, yX5_in, cX5_in, 6, (some .boolean))
set_option maxRecDepth 100000 in
theorem cb_X5_in : am_CB m_X5_in 3 := ⟨am_Tt 6 (by decide +kernel) rfl, am_Tt 996 rfl rfl, rfl, by decide +kernel, by decide +kernel, by decide⟩
def m_X5_row : am_Mi := (RX5, yX5_row, cX5_row, 5, (some .int))
set_option maxRecDepth 100000 in
theorem cb_X5_row : am_CB m_X5_row 3 := ⟨am_Tt 6 (by decide +kernel) rfl, am_Tt 992 rfl rfl, rfl, by decide +kernel, by decide +kernel, by decide⟩
def m_X5_fit : am_Mi := (RX5, yX5_fit, cX5_fit, 3, (some .long))
set_option maxRecDepth 100000 in
theorem cb_X5_fit : am_CB m_X5_fit 2 := ⟨am_Tt 6 (by decide +kernel) rfl, am_Tt 1013 rfl rfl, rfl, by decide +kernel, by decide +kernel, by decide⟩
def m_X5_noRow : am_Mi := (RX5, yX5_noRow, cX5_noRow, 2, (some .int))
set_option maxRecDepth 100000 in
theorem cb_X5_noRow : am_CB m_X5_noRow 1 := ⟨am_Tt 6 (by decide +kernel) rfl, am_Tt 1010 rfl rfl, rfl, by decide +kernel, by decide +kernel, by decide⟩
def m_X5_set : am_Mi := (RX5, yX5_set, cX5_set, 6, (some .int))
set_option maxRecDepth 100000 in
theorem cb_X5_set : am_CB m_X5_set 3 := ⟨am_Tt 6 (by decide +kernel) rfl, am_Tt 1006 rfl rfl, rfl, by decide +kernel, by decide +kernel, by decide⟩
def m_X5_noRows : am_Mi := (RX5, yX5_noRows, cX5_noRows, 4, (some .int))
set_option maxRecDepth 100000 in
theorem cb_X5_noRows : am_CB m_X5_noRows 3 := ⟨am_Tt 6 (by decide +kernel) rfl, am_Tt 1021 rfl rfl, rfl, by decide +kernel, by decide +kernel, by decide⟩
def m_X5_copy : am_Mi := (RX5, yX5_copy, cX5_copy, 8, (some .int))
set_option maxRecDepth 100000 in
theorem cb_X5_copy : am_CB m_X5_copy 5 := ⟨am_Tt 6 (by decide +kernel) rfl, am_Tt 1017 rfl rfl, rfl, by decide +kernel, by decide +kernel, by decide⟩
def m_X5_element : am_Mi := (RX5, yX5_element, cX5_element, 3, (some .long))
set_option maxRecDepth 100000 in
theorem cb_X5_element : am_CB m_X5_element 2 := ⟨am_Tt 6 (by decide +kernel) rfl, am_Tt 1025 rfl rfl, rfl, by decide +kernel, by decide +kernel, by decide⟩
def m_X5_holds : am_Mi := (RX5, yX5_holds, cX5_holds, 2, (some .int))
set_option maxRecDepth 100000 in
theorem cb_X5_holds : am_CB m_X5_holds 1 := ⟨am_Tt 6 (by decide +kernel) rfl, am_Tt 1029 rfl rfl, rfl, by decide +kernel, by decide +kernel, by decide⟩
def m_X5_drawing : am_Mi := (RX5, yX5_drawing, cX5_drawing, 4, (some .int))
set_option maxRecDepth 100000 in
theorem cb_X5_drawing : am_CB m_X5_drawing 3 := ⟨am_Tt 6 (by decide +kernel) rfl, am_Tt 1033 rfl rfl, rfl, by decide +kernel, by decide +kernel, by decide⟩
def m_X5_isUnder : am_Mi := (RX5, yX5_isUnder, cX5_isUnder, 2, (some .boolean))
set_option maxRecDepth 100000 in
theorem cb_X5_isUnder : am_CB m_X5_isUnder 2 := ⟨am_Tt 6 (by decide +kernel) rfl, am_Tt 1042 rfl rfl, rfl, by decide +kernel, by decide +kernel, by decide⟩
def m_X5_says : am_Mi := (RX5, yX5_says, cX5_says, 3, (some .int))
set_option maxRecDepth 100000 in
theorem cb_X5_says : am_CB m_X5_says 2 := ⟨am_Tt 6 (by decide +kernel) rfl, am_Tt 1039 rfl rfl, rfl, by decide +kernel, by decide +kernel, by decide⟩
def m_X5_allA : am_Mi := (RX5, yX5_allA, cX5_allA, 3, (some .int))
set_option maxRecDepth 100000 in
theorem cb_X5_allA : am_CB m_X5_allA 0 := ⟨am_Tt 6 (by decide +kernel) rfl, am_Tt 1058 rfl rfl, rfl, by decide +kernel, by decide +kernel, by decide⟩
def m_X5_all : am_Mi := (RX5, yX5_all, cX5_all, 3, (some .int))
set_option maxRecDepth 100000 in
theorem cb_X5_all : am_CB m_X5_all 0 := ⟨am_Tt 6 (by decide +kernel) rfl, am_Tt 1054 rfl rfl, rfl, by decide +kernel, by decide +kernel, by decide⟩
def m_X5_heap : am_Mi := (RX5, yX5_heap, cX5_heap, 3, (some .int))
set_option maxRecDepth 100000 in
theorem cb_X5_heap : am_CB m_X5_heap 2 := ⟨am_Tt 6 (by decide +kernel) rfl, am_Tt 1090 rfl rfl, rfl, by decide +kernel, by decide +kernel, by decide⟩
def m_X5_addHeap : am_Mi := (RX5, yX5_addHeap, cX5_addHeap, 3, none)
set_option maxRecDepth 100000 in
theorem cb_X5_addHeap : am_CB m_X5_addHeap 2 := ⟨am_Tt 6 (by decide +kernel) rfl, am_Tt 1094 rfl rfl, rfl, by decide +kernel, by decide +kernel, by decide⟩
def m_X5_fact : am_Mi := (RX5, yX5_fact, cX5_fact, 4, (some .int))
set_option maxRecDepth 100000 in
theorem cb_X5_fact : am_CB m_X5_fact 3 := ⟨am_Tt 6 (by decide +kernel) rfl, am_Tt 1098 rfl rfl, rfl, by decide +kernel, by decide +kernel, by decide⟩
def m_X5_forget : am_Mi := (RX5, yX5_forget, cX5_forget, 4, (some .int))
set_option maxRecDepth 100000 in
theorem cb_X5_forget : am_CB m_X5_forget 1 := ⟨am_Tt 6 (by decide +kernel) rfl, am_Tt 1104 rfl rfl, rfl, by decide +kernel, by decide +kernel, by decide⟩
def m_X5_change : am_Mi := (RX5, yX5_change, cX5_change, 4, none)
set_option maxRecDepth 100000 in
theorem cb_X5_change : am_CB m_X5_change 2 := ⟨am_Tt 6 (by decide +kernel) rfl, am_Tt 1112 rfl rfl, rfl, by decide +kernel, by decide +kernel, by decide⟩
def m_X5_swap : am_Mi := (RX5, yX5_swap, cX5_swap, 3, (some .int))
set_option maxRecDepth 100000 in
theorem cb_X5_swap : am_CB m_X5_swap 2 := ⟨am_Tt 6 (by decide +kernel) rfl, am_Tt 1108 rfl rfl, rfl, by decide +kernel, by decide +kernel, by decide⟩
def m_X5_feed : am_Mi := (RX5, yX5_feed, cX5_feed, 2, (some .int))
set_option maxRecDepth 100000 in
theorem cb_X5_feed : am_CB m_X5_feed 1 := ⟨am_Tt 6 (by decide +kernel) rfl, am_Tt 1116 rfl rfl, rfl, by decide +kernel, by decide +kernel, by decide⟩
def m_X5_wipe : am_Mi := (RX5, yX5_wipe, cX5_wipe, 2, (some .int))
set_option maxRecDepth 100000 in
theorem cb_X5_wipe : am_CB m_X5_wipe 0 := ⟨am_Tt 6 (by decide +kernel) rfl, am_Tt 1121 rfl rfl, rfl, by decide +kernel, by decide +kernel, by decide⟩
def m_X5_isLetter : am_Mi := (RX5, yX5_isLetter, cX5_isLetter, 1, (some .boolean))
set_option maxRecDepth 100000 in
theorem cb_X5_isLetter : am_CB m_X5_isLetter 1 := ⟨am_Tt 6 (by decide +kernel) rfl, am_Tt 1149 rfl rfl, rfl, by decide +kernel, by decide +kernel, by decide⟩
def m_X5_isDigit : am_Mi := (RX5, yX5_isDigit, cX5_isDigit, 1, (some .boolean))
set_option maxRecDepth 100000 in
theorem cb_X5_isDigit : am_CB m_X5_isDigit 1 := ⟨am_Tt 6 (by decide +kernel) rfl, am_Tt 1152 rfl rfl, rfl, by decide +kernel, by decide +kernel, by decide⟩
def m_X5_look : am_Mi := (RX5, yX5_look, cX5_look, 1, none)
set_option maxRecDepth 100000 in
theorem cb_X5_look : am_CB m_X5_look 0 := ⟨am_Tt 6 (by decide +kernel) rfl, am_Tt 1146 rfl rfl, rfl, by decide +kernel, by decide +kernel, by decide⟩
def m_X5_wrong : am_Mi := (RX5, yX5_wrong, cX5_wrong, 1, (some .boolean))
set_option maxRecDepth 100000 in
theorem cb_X5_wrong : am_CB m_X5_wrong 0 := ⟨am_Tt 6 (by decide +kernel) rfl, am_Tt 1180 rfl rfl, rfl, by decide +kernel, by decide +kernel, by decide⟩
def m_X5_isWord : am_Mi := (RX5, yX5_isWord, cX5_isWord, 3, (some .boolean))
set_option maxRecDepth 100000 in
theorem cb_X5_isWord : am_CB m_X5_isWord 1 := ⟨am_Tt 6 (by decide +kernel) rfl, am_Tt 1162 rfl rfl, rfl, by decide +kernel, by decide +kernel, by decide⟩
def m_X5_number : am_Mi := (RX5, yX5_number, cX5_number, 4, (some .boolean))
set_option maxRecDepth 100000 in
theorem cb_X5_number : am_CB m_X5_number 3 := ⟨am_Tt 6 (by decide +kernel) rfl, am_Tt 1176 rfl rfl, rfl, by decide +kernel, by decide +kernel, by decide⟩
def m_X5_tells : am_Mi := (RX5, yX5_tells, cX5_tells, 3, (some .boolean))
set_option maxRecDepth 100000 in
theorem cb_X5_tells : am_CB m_X5_tells 2 := ⟨am_Tt 6 (by decide +kernel) rfl, am_Tt 1172 rfl rfl, rfl, by decide +kernel, by decide +kernel, by decide⟩
def m_X5_heapTold : am_Mi := (RX5, yX5_heapTold, cX5_heapTold, 2, (some .boolean))
set_option maxRecDepth 100000 in
theorem cb_X5_heapTold : am_CB m_X5_heapTold 0 := ⟨am_Tt 6 (by decide +kernel) rfl, am_Tt 1168 rfl rfl, rfl, by decide +kernel, by decide +kernel, by decide⟩
def m_X5_readTold : am_Mi := (RX5, yX5_readTold, cX5_readTold, 3, (some .boolean))
set_option maxRecDepth 100000 in
theorem cb_X5_readTold : am_CB m_X5_readTold 0 := ⟨am_Tt 6 (by decide +kernel) rfl, am_Tt 1190 rfl rfl, rfl, by decide +kernel, by decide +kernel, by decide⟩
def m_X5_swapTold : am_Mi := (RX5, yX5_swapTold, cX5_swapTold, 1, (some .boolean))
set_option maxRecDepth 100000 in
theorem cb_X5_swapTold : am_CB m_X5_swapTold 0 := ⟨am_Tt 6 (by decide +kernel) rfl, am_Tt 1185 rfl rfl, rfl, by decide +kernel, by decide +kernel, by decide⟩
def m_X5_statement : am_Mi := (RX5, yX5_statement, cX5_statement, 1, (some .boolean))
set_option maxRecDepth 100000 in
theorem cb_X5_statement : am_CB m_X5_statement 0 := ⟨am_Tt 6 (by decide +kernel) rfl, am_Tt 1157 rfl rfl, rfl, by decide +kernel, by decide +kernel, by decide⟩
def m_X5_readAll : am_Mi := (RX5, yX5_readAll, cX5_readAll, 1, (some .boolean))
set_option maxRecDepth 100000 in
theorem cb_X5_readAll : am_CB m_X5_readAll 0 := ⟨am_Tt 6 (by decide +kernel) rfl, am_Tt 1142 rfl rfl, rfl, by decide +kernel, by decide +kernel, by decide⟩
def m_X5_drum : am_Mi := (RX5, yX5_drum, cX5_drum, 3, (some .int))
set_option maxRecDepth 100000 in
theorem cb_X5_drum : am_CB m_X5_drum 0 := ⟨am_Tt 6 (by decide +kernel) rfl, am_Tt 1125 rfl rfl, rfl, by decide +kernel, by decide +kernel, by decide⟩
def m_X5_heapOf : am_Mi := (RX5, yX5_heapOf, cX5_heapOf, 4, (some .int))
set_option maxRecDepth 100000 in
theorem cb_X5_heapOf : am_CB m_X5_heapOf 2 := ⟨am_Tt 6 (by decide +kernel) rfl, am_Tt 1212 rfl rfl, rfl, by decide +kernel, by decide +kernel, by decide⟩
def m_X5_factOf : am_Mi := (RX5, yX5_factOf, cX5_factOf, 3, (some .int))
set_option maxRecDepth 100000 in
theorem cb_X5_factOf : am_CB m_X5_factOf 2 := ⟨am_Tt 6 (by decide +kernel) rfl, am_Tt 1217 rfl rfl, rfl, by decide +kernel, by decide +kernel, by decide⟩
def m_X5_seeHeaps : am_Mi := (RX5, yX5_seeHeaps, cX5_seeHeaps, 8, none)
set_option maxRecDepth 100000 in
theorem cb_X5_seeHeaps : am_CB m_X5_seeHeaps 0 := ⟨am_Tt 6 (by decide +kernel) rfl, am_Tt 1070 rfl rfl, rfl, by decide +kernel, by decide +kernel, by decide⟩
def m_X5_holds_ : am_Mi := (RX5, yX5_holds_, cX5_holds_, 6, (some .boolean))
set_option maxRecDepth 100000 in
theorem cb_X5_holds_ : am_CB m_X5_holds_ 3 := ⟨am_Tt 6 (by decide +kernel) rfl, am_Tt 1245 rfl rfl, rfl, by decide +kernel, by decide +kernel, by decide⟩
def m_X5_readA : am_Mi := (RX5, yX5_readA, cX5_readA, 4, (some .int))
set_option maxRecDepth 100000 in
theorem cb_X5_readA : am_CB m_X5_readA 1 := ⟨am_Tt 6 (by decide +kernel) rfl, am_Tt 1241 rfl rfl, rfl, by decide +kernel, by decide +kernel, by decide⟩
def m_X5_isFit : am_Mi := (RX5, yX5_isFit, cX5_isFit, 5, (some .boolean))
set_option maxRecDepth 100000 in
theorem cb_X5_isFit : am_CB m_X5_isFit 2 := ⟨am_Tt 6 (by decide +kernel) rfl, am_Tt 1237 rfl rfl, rfl, by decide +kernel, by decide +kernel, by decide⟩
def m_X5_seeAll : am_Mi := (RX5, yX5_seeAll, cX5_seeAll, 3, none)
set_option maxRecDepth 100000 in
theorem cb_X5_seeAll : am_CB m_X5_seeAll 0 := ⟨am_Tt 6 (by decide +kernel) rfl, am_Tt 1233 rfl rfl, rfl, by decide +kernel, by decide +kernel, by decide⟩
def m_X5_isSureAt : am_Mi := (RX5, yX5_isSureAt, cX5_isSureAt, 4, (some .boolean))
set_option maxRecDepth 100000 in
theorem cb_X5_isSureAt : am_CB m_X5_isSureAt 2 := ⟨am_Tt 6 (by decide +kernel) rfl, am_Tt 1086 rfl rfl, rfl, by decide +kernel, by decide +kernel, by decide⟩
def m_X5_isSo : am_Mi := (RX5, yX5_isSo, cX5_isSo, 6, (some .boolean))
set_option maxRecDepth 100000 in
theorem cb_X5_isSo : am_CB m_X5_isSo 4 := ⟨am_Tt 6 (by decide +kernel) rfl, am_Tt 1066 rfl rfl, rfl, by decide +kernel, by decide +kernel, by decide⟩
def m_X5_count : am_Mi := (RX5, yX5_count, cX5_count, 7, (some .long))
set_option maxRecDepth 100000 in
theorem cb_X5_count : am_CB m_X5_count 2 := ⟨am_Tt 6 (by decide +kernel) rfl, am_Tt 1062 rfl rfl, rfl, by decide +kernel, by decide +kernel, by decide⟩
def m_X5_countBack : am_Mi := (RX5, yX5_countBack, cX5_countBack, 5, none)
set_option maxRecDepth 100000 in
theorem cb_X5_countBack : am_CB m_X5_countBack 0 := ⟨am_Tt 6 (by decide +kernel) rfl, am_Tt 1082 rfl rfl, rfl, by decide +kernel, by decide +kernel, by decide⟩
def m_X5_through : am_Mi := (RX5, yX5_through, cX5_through, 3, (some .long))
set_option maxRecDepth 100000 in
theorem cb_X5_through : am_CB m_X5_through 2 := ⟨am_Tt 6 (by decide +kernel) rfl, am_Tt 1309 rfl rfl, rfl, by decide +kernel, by decide +kernel, by decide⟩
def m_X5_rows : am_Mi := (RX5, yX5_rows, cX5_rows, 1, (some .int))
set_option maxRecDepth 100000 in
theorem cb_X5_rows : am_CB m_X5_rows 0 := ⟨am_Tt 6 (by decide +kernel) rfl, am_Tt 1221 rfl rfl, rfl, by decide +kernel, by decide +kernel, by decide⟩
def m_X5_waysOf : am_Mi := (RX5, yX5_waysOf, cX5_waysOf, 1, (some .long))
set_option maxRecDepth 100000 in
theorem cb_X5_waysOf : am_CB m_X5_waysOf 0 := ⟨am_Tt 6 (by decide +kernel) rfl, am_Tt 1229 rfl rfl, rfl, by decide +kernel, by decide +kernel, by decide⟩
def m_X5_ways : am_Mi := (RX5, yX5_ways, cX5_ways, 1, (some .int))
set_option maxRecDepth 100000 in
theorem cb_X5_ways : am_CB m_X5_ways 0 := ⟨am_Tt 6 (by decide +kernel) rfl, am_Tt 1225 rfl rfl, rfl, by decide +kernel, by decide +kernel, by decide⟩
def m_X5_heapAt : am_Mi := (RX5, yX5_heapAt, cX5_heapAt, 5, (some .int))
set_option maxRecDepth 100000 in
theorem cb_X5_heapAt : am_CB m_X5_heapAt 1 := ⟨am_Tt 6 (by decide +kernel) rfl, am_Tt 1202 rfl rfl, rfl, by decide +kernel, by decide +kernel, by decide⟩
def m_X5_startOf : am_Mi := (RX5, yX5_startOf, cX5_startOf, 4, (some .int))
set_option maxRecDepth 100000 in
theorem cb_X5_startOf : am_CB m_X5_startOf 1 := ⟨am_Tt 6 (by decide +kernel) rfl, am_Tt 1206 rfl rfl, rfl, by decide +kernel, by decide +kernel, by decide⟩
def m_X5_leftNow : am_Mi := (RX5, yX5_leftNow, cX5_leftNow, 5, (some .int))
set_option maxRecDepth 100000 in
theorem cb_X5_leftNow : am_CB m_X5_leftNow 1 := ⟨am_Tt 6 (by decide +kernel) rfl, am_Tt 1198 rfl rfl, rfl, by decide +kernel, by decide +kernel, by decide⟩
def m_X5_isThere : am_Mi := (RX5, yX5_isThere, cX5_isThere, 2, (some .boolean))
set_option maxRecDepth 100000 in
theorem cb_X5_isThere : am_CB m_X5_isThere 1 := ⟨am_Tt 6 (by decide +kernel) rfl, am_Tt 1194 rfl rfl, rfl, by decide +kernel, by decide +kernel, by decide⟩
def m_X5_read : am_Mi := (RX5, yX5_read, cX5_read, 2, (some .int))
set_option maxRecDepth 100000 in
theorem cb_X5_read : am_CB m_X5_read 1 := ⟨am_Tt 6 (by decide +kernel) rfl, am_Tt 1249 rfl rfl, rfl, by decide +kernel, by decide +kernel, by decide⟩
def m_X5_slip : am_Mi := (RX5, yX5_slip, cX5_slip, 2, (some .int))
set_option maxRecDepth 100000 in
theorem cb_X5_slip : am_CB m_X5_slip 1 := ⟨am_Tt 6 (by decide +kernel) rfl, am_Tt 1253 rfl rfl, rfl, by decide +kernel, by decide +kernel, by decide⟩
def m_X5_again : am_Mi := (RX5, yX5_again, cX5_again, 2, (some .int))
set_option maxRecDepth 100000 in
theorem cb_X5_again : am_CB m_X5_again 0 := ⟨am_Tt 6 (by decide +kernel) rfl, am_Tt 1257 rfl rfl, rfl, by decide +kernel, by decide +kernel, by decide⟩
def m_X5_lead : am_Mi := (RX5, yX5_lead, cX5_lead, 1, (some .int))
set_option maxRecDepth 100000 in
theorem cb_X5_lead : am_CB m_X5_lead 0 := ⟨am_Tt 6 (by decide +kernel) rfl, am_Tt 1261 rfl rfl, rfl, by decide +kernel, by decide +kernel, by decide⟩
def m_X5_countFits : am_Mi := (RX5, yX5_countFits, cX5_countFits, 3, (some .long))
set_option maxRecDepth 100000 in
theorem cb_X5_countFits : am_CB m_X5_countFits 2 := ⟨am_Tt 6 (by decide +kernel) rfl, am_Tt 1269 rfl rfl, rfl, by decide +kernel, by decide +kernel, by decide⟩
def m_X5_ahead : am_Mi := (RX5, yX5_ahead, cX5_ahead, 2, (some .int))
set_option maxRecDepth 100000 in
theorem cb_X5_ahead : am_CB m_X5_ahead 1 := ⟨am_Tt 6 (by decide +kernel) rfl, am_Tt 1265 rfl rfl, rfl, by decide +kernel, by decide +kernel, by decide⟩
def m_X5_never : am_Mi := (RX5, yX5_never, cX5_never, 1, (some .int))
set_option maxRecDepth 100000 in
theorem cb_X5_never : am_CB m_X5_never 0 := ⟨am_Tt 6 (by decide +kernel) rfl, am_Tt 1273 rfl rfl, rfl, by decide +kernel, by decide +kernel, by decide⟩
def m_X5_countMoments : am_Mi := (RX5, yX5_countMoments, cX5_countMoments, 9, none)
set_option maxRecDepth 100000 in
theorem cb_X5_countMoments : am_CB m_X5_countMoments 1 := ⟨am_Tt 6 (by decide +kernel) rfl, am_Tt 1281 rfl rfl, rfl, by decide +kernel, by decide +kernel, by decide⟩
def m_X5_levels : am_Mi := (RX5, yX5_levels, cX5_levels, 5, (some .long))
set_option maxRecDepth 100000 in
theorem cb_X5_levels : am_CB m_X5_levels 1 := ⟨am_Tt 6 (by decide +kernel) rfl, am_Tt 1285 rfl rfl, rfl, by decide +kernel, by decide +kernel, by decide⟩
def m_X5_level : am_Mi := (RX5, yX5_level, cX5_level, 2, (some .int))
set_option maxRecDepth 100000 in
theorem cb_X5_level : am_CB m_X5_level 1 := ⟨am_Tt 6 (by decide +kernel) rfl, am_Tt 1277 rfl rfl, rfl, by decide +kernel, by decide +kernel, by decide⟩
def m_X5_last : am_Mi := (RX5, yX5_last, cX5_last, 6, (some .int))
set_option maxRecDepth 100000 in
theorem cb_X5_last : am_CB m_X5_last 1 := ⟨am_Tt 6 (by decide +kernel) rfl, am_Tt 1289 rfl rfl, rfl, by decide +kernel, by decide +kernel, by decide⟩
def m_X5_greatest : am_Mi := (RX5, yX5_greatest, cX5_greatest, 4, (some .int))
set_option maxRecDepth 100000 in
theorem cb_X5_greatest : am_CB m_X5_greatest 1 := ⟨am_Tt 6 (by decide +kernel) rfl, am_Tt 1293 rfl rfl, rfl, by decide +kernel, by decide +kernel, by decide⟩
def m_X5_findSure : am_Mi := (RX5, yX5_findSure, cX5_findSure, 6, none)
set_option maxRecDepth 100000 in
theorem cb_X5_findSure : am_CB m_X5_findSure 0 := ⟨am_Tt 6 (by decide +kernel) rfl, am_Tt 1301 rfl rfl, rfl, by decide +kernel, by decide +kernel, by decide⟩
def m_X5_sure : am_Mi := (RX5, yX5_sure, cX5_sure, 2, (some .int))
set_option maxRecDepth 100000 in
theorem cb_X5_sure : am_CB m_X5_sure 1 := ⟨am_Tt 6 (by decide +kernel) rfl, am_Tt 1297 rfl rfl, rfl, by decide +kernel, by decide +kernel, by decide⟩
def m_X5_soFar : am_Mi := (RX5, yX5_soFar, cX5_soFar, 3, (some .int))
set_option maxRecDepth 100000 in
theorem cb_X5_soFar : am_CB m_X5_soFar 2 := ⟨am_Tt 6 (by decide +kernel) rfl, am_Tt 1305 rfl rfl, rfl, by decide +kernel, by decide +kernel, by decide⟩
def m_X5_spentNow : am_Mi := (RX5, yX5_spentNow, cX5_spentNow, 5, (some .long))
set_option maxRecDepth 100000 in
theorem cb_X5_spentNow : am_CB m_X5_spentNow 0 := ⟨am_Tt 6 (by decide +kernel) rfl, am_Tt 1317 rfl rfl, rfl, by decide +kernel, by decide +kernel, by decide⟩
def m_X5_spent : am_Mi := (RX5, yX5_spent, cX5_spent, 1, (some .long))
set_option maxRecDepth 100000 in
theorem cb_X5_spent : am_CB m_X5_spent 0 := ⟨am_Tt 6 (by decide +kernel) rfl, am_Tt 1313 rfl rfl, rfl, by decide +kernel, by decide +kernel, by decide⟩
def m_X5_mean : am_Mi := (RX5, yX5_mean, cX5_mean, 4, (some .long))
set_option maxRecDepth 100000 in
theorem cb_X5_mean : am_CB m_X5_mean 0 := ⟨am_Tt 6 (by decide +kernel) rfl, am_Tt 1321 rfl rfl, rfl, by decide +kernel, by decide +kernel, by decide⟩
def m_X5_price : am_Mi := (RX5, yX5_price, cX5_price, 4, (some .int))
set_option maxRecDepth 100000 in
theorem cb_X5_price : am_CB m_X5_price 1 := ⟨am_Tt 6 (by decide +kernel) rfl, am_Tt 1325 rfl rfl, rfl, by decide +kernel, by decide +kernel, by decide⟩
def m_X5_often : am_Mi := (RX5, yX5_often, cX5_often, 3, (some .int))
set_option maxRecDepth 100000 in
theorem cb_X5_often : am_CB m_X5_often 0 := ⟨am_Tt 6 (by decide +kernel) rfl, am_Tt 1330 rfl rfl, rfl, by decide +kernel, by decide +kernel, by decide⟩
def m_X5_half : am_Mi := (RX5, yX5_half, cX5_half, 6, (some .int))
set_option maxRecDepth 100000 in
theorem cb_X5_half : am_CB m_X5_half 0 := ⟨am_Tt 6 (by decide +kernel) rfl, am_Tt 1334 rfl rfl, rfl, by decide +kernel, by decide +kernel, by decide⟩
def m_X5_isSure : am_Mi := (RX5, yX5_isSure, cX5_isSure, 2, (some .int))
set_option maxRecDepth 100000 in
theorem cb_X5_isSure : am_CB m_X5_isSure 0 := ⟨am_Tt 6 (by decide +kernel) rfl, am_Tt 1338 rfl rfl, rfl, by decide +kernel, by decide +kernel, by decide⟩
def m_X5_seeOneHeap : am_Mi := (RX5, yX5_seeOneHeap, cX5_seeOneHeap, 4, none)
set_option maxRecDepth 100000 in
theorem cb_X5_seeOneHeap : am_CB m_X5_seeOneHeap 0 := ⟨am_Tt 6 (by decide +kernel) rfl, am_Tt 1050 rfl rfl, rfl, by decide +kernel, by decide +kernel, by decide⟩
def m_X5_seeBack : am_Mi := (RX5, yX5_seeBack, cX5_seeBack, 4, none)
set_option maxRecDepth 100000 in
theorem cb_X5_seeBack : am_CB m_X5_seeBack 0 := ⟨am_Tt 6 (by decide +kernel) rfl, am_Tt 1074 rfl rfl, rfl, by decide +kernel, by decide +kernel, by decide⟩
def m_X5_countSurely : am_Mi := (RX5, yX5_countSurely, cX5_countSurely, 9, (some .long))
set_option maxRecDepth 100000 in
theorem cb_X5_countSurely : am_CB m_X5_countSurely 1 := ⟨am_Tt 6 (by decide +kernel) rfl, am_Tt 1078 rfl rfl, rfl, by decide +kernel, by decide +kernel, by decide⟩
def m_X5_drawn : am_Mi := (RX5, yX5_drawn, cX5_drawn, 3, (some .long))
set_option maxRecDepth 100000 in
theorem cb_X5_drawn : am_CB m_X5_drawn 2 := ⟨am_Tt 6 (by decide +kernel) rfl, am_Tt 1046 rfl rfl, rfl, by decide +kernel, by decide +kernel, by decide⟩
def m_X5_head : am_Mi := (RX5, yX5_head, cX5_head, 7, (some .int))
set_option maxRecDepth 100000 in
theorem cb_X5_head : am_CB m_X5_head 0 := ⟨am_Tt 6 (by decide +kernel) rfl, am_Tt 1342 rfl rfl, rfl, by decide +kernel, by decide +kernel, by decide⟩
def m_X5_noRoom : am_Mi := (RX5, yX5_noRoom, cX5_noRoom, 6, (some .int))
set_option maxRecDepth 100000 in
theorem cb_X5_noRoom : am_CB m_X5_noRoom 1 := ⟨am_Tt 6 (by decide +kernel) rfl, am_Tt 1350 rfl rfl, rfl, by decide +kernel, by decide +kernel, by decide⟩
def m_X5_judge : am_Mi := (RX5, yX5_judge, cX5_judge, 3, (some .int))
set_option maxRecDepth 100000 in
theorem cb_X5_judge : am_CB m_X5_judge 1 := ⟨am_Tt 6 (by decide +kernel) rfl, am_Tt 1346 rfl rfl, rfl, by decide +kernel, by decide +kernel, by decide⟩
def m_X5_noWhole : am_Mi := (RX5, yX5_noWhole, cX5_noWhole, 3, (some .int))
set_option maxRecDepth 100000 in
theorem cb_X5_noWhole : am_CB m_X5_noWhole 1 := ⟨am_Tt 6 (by decide +kernel) rfl, am_Tt 1358 rfl rfl, rfl, by decide +kernel, by decide +kernel, by decide⟩
def m_X5_ofTold : am_Mi := (RX5, yX5_ofTold, cX5_ofTold, 8, (some .int))
set_option maxRecDepth 100000 in
theorem cb_X5_ofTold : am_CB m_X5_ofTold 2 := ⟨am_Tt 6 (by decide +kernel) rfl, am_Tt 1362 rfl rfl, rfl, by decide +kernel, by decide +kernel, by decide⟩
def m_X5_told : am_Mi := (RX5, yX5_told, cX5_told, 4, (some .int))
set_option maxRecDepth 100000 in
theorem cb_X5_told : am_CB m_X5_told 2 := ⟨am_Tt 6 (by decide +kernel) rfl, am_Tt 1354 rfl rfl, rfl, by decide +kernel, by decide +kernel, by decide⟩
def m_X5_luck : am_Mi := (RX5, yX5_luck, cX5_luck, 7, (some .int))
set_option maxRecDepth 100000 in
theorem cb_X5_luck : am_CB m_X5_luck 1 := ⟨am_Tt 6 (by decide +kernel) rfl, am_Tt 1366 rfl rfl, rfl, by decide +kernel, by decide +kernel, by decide⟩
def m_X5_seek : am_Mi := (RX5, yX5_seek, cX5_seek, 7, none)
set_option maxRecDepth 100000 in
theorem cb_X5_seek : am_CB m_X5_seek 3 := ⟨am_Tt 6 (by decide +kernel) rfl, am_Tt 1374 rfl rfl, rfl, by decide +kernel, by decide +kernel, by decide⟩
def m_X5_order : am_Mi := (RX5, yX5_order, cX5_order, 4, (some .int))
set_option maxRecDepth 100000 in
theorem cb_X5_order : am_CB m_X5_order 2 := ⟨am_Tt 6 (by decide +kernel) rfl, am_Tt 1370 rfl rfl, rfl, by decide +kernel, by decide +kernel, by decide⟩
def m_X5_lost : am_Mi := (RX5, yX5_lost, cX5_lost, 10, (some .int))
set_option maxRecDepth 100000 in
theorem cb_X5_lost : am_CB m_X5_lost 1 := ⟨am_Tt 6 (by decide +kernel) rfl, am_Tt 1378 rfl rfl, rfl, by decide +kernel, by decide +kernel, by decide⟩
def m_X5_noBooks : am_Mi := (RX5, yX5_noBooks, cX5_noBooks, 4, (some .int))
set_option maxRecDepth 100000 in
theorem cb_X5_noBooks : am_CB m_X5_noBooks 2 := ⟨am_Tt 6 (by decide +kernel) rfl, am_Tt 1387 rfl rfl, rfl, by decide +kernel, by decide +kernel, by decide⟩
def m_X5_unlikeAt : am_Mi := (RX5, yX5_unlikeAt, cX5_unlikeAt, 4, (some .int))
set_option maxRecDepth 100000 in
theorem cb_X5_unlikeAt : am_CB m_X5_unlikeAt 2 := ⟨am_Tt 6 (by decide +kernel) rfl, am_Tt 1391 rfl rfl, rfl, by decide +kernel, by decide +kernel, by decide⟩
def m_X5_books : am_Mi := (RX5, yX5_books, cX5_books, 8, (some .int))
set_option maxRecDepth 100000 in
theorem cb_X5_books : am_CB m_X5_books 2 := ⟨am_Tt 6 (by decide +kernel) rfl, am_Tt 1383 rfl rfl, rfl, by decide +kernel, by decide +kernel, by decide⟩
def m_X5_unlike : am_Mi := (RX5, yX5_unlike, cX5_unlike, 4, (some .int))
set_option maxRecDepth 100000 in
theorem cb_X5_unlike : am_CB m_X5_unlike 2 := ⟨am_Tt 6 (by decide +kernel) rfl, am_Tt 1395 rfl rfl, rfl, by decide +kernel, by decide +kernel, by decide⟩
def m_X5_below : am_Mi := (RX5, yX5_below, cX5_below, 2, (some .int))
set_option maxRecDepth 100000 in
theorem cb_X5_below : am_CB m_X5_below 1 := ⟨am_Tt 6 (by decide +kernel) rfl, am_Tt 1407 rfl rfl, rfl, by decide +kernel, by decide +kernel, by decide⟩
def m_X5_drawOne : am_Mi := (RX5, yX5_drawOne, cX5_drawOne, 3, (some .int))
set_option maxRecDepth 100000 in
theorem cb_X5_drawOne : am_CB m_X5_drawOne 0 := ⟨am_Tt 6 (by decide +kernel) rfl, am_Tt 1403 rfl rfl, rfl, by decide +kernel, by decide +kernel, by decide⟩
def m_X5_draw : am_Mi := (RX5, yX5_draw, cX5_draw, 1, (some .int))
set_option maxRecDepth 100000 in
theorem cb_X5_draw : am_CB m_X5_draw 0 := ⟨am_Tt 6 (by decide +kernel) rfl, am_Tt 1399 rfl rfl, rfl, by decide +kernel, by decide +kernel, by decide⟩
def m_X5_evening : am_Mi := (RX5, yX5_evening, cX5_evening, 3, (some .int))
set_option maxRecDepth 100000 in
theorem cb_X5_evening : am_CB m_X5_evening 0 := ⟨am_Tt 6 (by decide +kernel) rfl, am_Tt 1412 rfl rfl, rfl, by decide +kernel, by decide +kernel, by decide⟩
def m_X5_seed : am_Mi := (RX5, yX5_seed, cX5_seed, 3, (some .int))
set_option maxRecDepth 100000 in
theorem cb_X5_seed : am_CB m_X5_seed 1 := ⟨am_Tt 6 (by decide +kernel) rfl, am_Tt 1416 rfl rfl, rfl, by decide +kernel, by decide +kernel, by decide⟩
def m_X5_fresh : am_Mi := (RX5, yX5_fresh, cX5_fresh, 1, (some (.object "AlwaysAheadModel")))
set_option maxRecDepth 100000 in
theorem cb_X5_fresh : am_CB m_X5_fresh 0 := ⟨am_Tt 6 (by decide +kernel) rfl, am_Tt 1129 rfl rfl, rfl, by decide +kernel, by decide +kernel, by decide⟩
def m_X5_over : am_Mi := (RX5, yX5_over, cX5_over, 3, none)
set_option maxRecDepth 100000 in
theorem cb_X5_over : am_CB m_X5_over 2 := ⟨am_Tt 6 (by decide +kernel) rfl, am_Tt 1138 rfl rfl, rfl, by decide +kernel, by decide +kernel, by decide⟩
def m_X5_takeFrom : am_Mi := (RX5, yX5_takeFrom, cX5_takeFrom, 3, none)
set_option maxRecDepth 100000 in
theorem cb_X5_takeFrom : am_CB m_X5_takeFrom 1 := ⟨am_Tt 6 (by decide +kernel) rfl, am_Tt 1135 rfl rfl, rfl, by decide +kernel, by decide +kernel, by decide⟩
def m_X5_image : am_Mi := (RX5, yX5_image, cX5_image, 1, (some .int))
set_option maxRecDepth 100000 in
theorem cb_X5_image : am_CB m_X5_image 0 := ⟨am_Tt 6 (by decide +kernel) rfl, am_Tt 1420 rfl rfl, rfl, by decide +kernel, by decide +kernel, by decide⟩
def m_X5_back : am_Mi := (RX5, yX5_back, cX5_back, 1, (some .int))
set_option maxRecDepth 100000 in
theorem cb_X5_back : am_CB m_X5_back 0 := ⟨am_Tt 6 (by decide +kernel) rfl, am_Tt 1424 rfl rfl, rfl, by decide +kernel, by decide +kernel, by decide⟩
def m_X5_status : am_Mi := (RX5, yX5_status, cX5_status, 4, (some .int))
set_option maxRecDepth 100000 in
theorem cb_X5_status : am_CB m_X5_status 1 := ⟨am_Tt 6 (by decide +kernel) rfl, am_Tt 1428 rfl rfl, rfl, by decide +kernel, by decide +kernel, by decide⟩
def m_J0_length_8abf5 : am_Mi := (RJ0, yJ0_length_8abf5, cJ0_length_8abf5, 1, (some .int))
set_option maxRecDepth 100000 in
theorem cb_J0_length_8abf5 : am_CB m_J0_length_8abf5 0 := ⟨am_Tt 10 (by decide +kernel) rfl, am_Tt 465 rfl rfl, rfl, by decide +kernel, by decide +kernel, by decide⟩
def m_J0_charAt_5068e : am_Mi := (RJ0, yJ0_charAt_5068e, cJ0_charAt_5068e, 2, (some .char))
set_option maxRecDepth 100000 in
theorem cb_J0_charAt_5068e : am_CB m_J0_charAt_5068e 1 := ⟨am_Tt 10 (by decide +kernel) rfl, am_Tt 475 rfl rfl, rfl, by decide +kernel, by decide +kernel, by decide⟩
def m_J0_coder_7d493 : am_Mi := (RJ0, yJ0_coder_7d493, cJ0_coder_7d493, 1, (some .byte))
set_option maxRecDepth 100000 in
theorem cb_J0_coder_7d493 : am_CB m_J0_coder_7d493 0 := ⟨am_Tt 10 (by decide +kernel) rfl, am_Tt 469 rfl rfl, rfl, by decide +kernel, by decide +kernel, by decide⟩
def m_J0_isLatin1_aae02 : am_Mi := (RJ0, yJ0_isLatin1_aae02, cJ0_isLatin1_aae02, 1, (some .boolean))
set_option maxRecDepth 100000 in
theorem cb_J0_isLatin1_aae02 : am_CB m_J0_isLatin1_aae02 0 := ⟨am_Tt 10 (by decide +kernel) rfl, am_Tt 479 rfl rfl, rfl, by decide +kernel, by decide +kernel, by decide⟩
def m_J0_checkIndex_df160 : am_Mi := (RJ0, yJ0_checkIndex_df160, cJ0_checkIndex_df160, 2, none)
set_option maxRecDepth 100000 in
theorem cb_J0_checkIndex_df160 : am_CB m_J0_checkIndex_df160 2 := ⟨am_Tt 10 (by decide +kernel) rfl, am_Tt 485 rfl rfl, rfl, by decide +kernel, by decide +kernel, by decide⟩
def m_J1_charAt_3b067 : am_Mi := (RJ1, yJ1_charAt_3b067, cJ1_charAt_3b067, 2, (some .char))
set_option maxRecDepth 100000 in
theorem cb_J1_charAt_3b067 : am_CB m_J1_charAt_3b067 2 := ⟨am_Tt 11 (by decide +kernel) rfl, am_Tt 482 rfl rfl, rfl, by decide +kernel, by decide +kernel, by decide⟩
def m_J2_getChar_3b067 : am_Mi := (RJ2, yJ2_getChar_3b067, cJ2_getChar_3b067, 2, (some .char))
set_option maxRecDepth 100000 in
theorem cb_J2_getChar_3b067 : am_CB m_J2_getChar_3b067 2 := ⟨am_Tt 13 (by decide +kernel) rfl, am_Tt 503 rfl rfl, rfl, by decide +kernel, by decide +kernel, by decide⟩
def m_J2_length_9d52b : am_Mi := (RJ2, yJ2_length_9d52b, cJ2_length_9d52b, 1, (some .int))
set_option maxRecDepth 100000 in
theorem cb_J2_length_9d52b : am_CB m_J2_length_9d52b 1 := ⟨am_Tt 13 (by decide +kernel) rfl, am_Tt 499 rfl rfl, rfl, by decide +kernel, by decide +kernel, by decide⟩
def m_J2_charAt_3b067 : am_Mi := (RJ2, yJ2_charAt_3b067, cJ2_charAt_3b067, 2, (some .char))
set_option maxRecDepth 100000 in
theorem cb_J2_charAt_3b067 : am_CB m_J2_charAt_3b067 2 := ⟨am_Tt 13 (by decide +kernel) rfl, am_Tt 493 rfl rfl, rfl, by decide +kernel, by decide +kernel, by decide⟩
def m_J2_checkIndex_2214a : am_Mi := (RJ2, yJ2_checkIndex_2214a, cJ2_checkIndex_2214a, 2, none)
set_option maxRecDepth 100000 in
theorem cb_J2_checkIndex_2214a : am_CB m_J2_checkIndex_2214a 2 := ⟨am_Tt 13 (by decide +kernel) rfl, am_Tt 496 rfl rfl, rfl, by decide +kernel, by decide +kernel, by decide⟩
def m_J7_fill_d0a16 : am_Mi := (RJ7, yJ7_fill_d0a16, cJ7_fill_d0a16, 5, none)
set_option maxRecDepth 100000 in
theorem cb_J7_fill_d0a16 : am_CB m_J7_fill_d0a16 2 := ⟨am_Tt 7 (by decide +kernel) rfl, am_Tt 234 rfl rfl, rfl, by decide +kernel, by decide +kernel, by decide⟩
def m_J7_fill_53178 : am_Mi := (RJ7, yJ7_fill_53178, cJ7_fill_53178, 4, none)
set_option maxRecDepth 100000 in
theorem cb_J7_fill_53178 : am_CB m_J7_fill_53178 2 := ⟨am_Tt 7 (by decide +kernel) rfl, am_Tt 369 rfl rfl, rfl, by decide +kernel, by decide +kernel, by decide⟩
def m_J3_checkIndex_8e157 : am_Mi := (RJ3, yJ3_checkIndex_8e157, cJ3_checkIndex_8e157, 3, (some .int))
set_option maxRecDepth 100000 in
theorem cb_J3_checkIndex_8e157 : am_CB m_J3_checkIndex_8e157 3 := ⟨am_Tt 12 (by decide +kernel) rfl, am_Tt 490 rfl rfl, rfl, by decide +kernel, by decide +kernel, by decide⟩
theorem cv_RL_13 : am_CV RL 13 m_X4_row := ⟨am_Tt 214 (by decide +kernel) rfl, am_Tt 215 (by decide +kernel) rfl, am_Tt 216 (by decide +kernel) rfl⟩
theorem cs_RX4_50 : am_CS RX4 50 m_X4_isShelf := ⟨am_Tt 218 (by decide +kernel) rfl, am_Tt 219 (by decide +kernel) rfl⟩
theorem cs_RX4_54 : am_CS RX4 54 m_X4_isWithin := ⟨am_Tt 221 (by decide +kernel) rfl, am_Tt 222 (by decide +kernel) rfl⟩
theorem cv_RX4_58 : am_CV RX4 58 m_X4_refuse := ⟨am_Tt 224 (by decide +kernel) rfl, am_Tt 226 (by decide +kernel) rfl, am_Tp 0 (by decide +kernel) rfl⟩
theorem cv_RX4_62 : am_CV RX4 62 m_X2_becomeRow := ⟨am_Tt 228 (by decide +kernel) rfl, am_Tt 229 (by decide +kernel) rfl, am_Tt 230 (by decide +kernel) rfl⟩
theorem cs_RX2_22 : am_CS RX2 22 m_J7_fill_d0a16 := ⟨am_Tt 232 (by decide +kernel) rfl, am_Tt 233 (by decide +kernel) rfl⟩
theorem cv_RL_20 : am_CV RL 20 m_X4_set := ⟨am_Tt 235 (by decide +kernel) rfl, am_Tt 236 (by decide +kernel) rfl, am_Tt 237 (by decide +kernel) rfl⟩
theorem cv_RX4_66 : am_CV RX4 66 m_X4_againstRows := ⟨am_Tt 239 (by decide +kernel) rfl, am_Tt 241 (by decide +kernel) rfl, am_Tp 1 (by decide +kernel) rfl⟩
theorem cv_RX4_104 : am_CV RX4 104 m_X2_isDrawing := ⟨am_Tt 243 (by decide +kernel) rfl, am_Tt 244 (by decide +kernel) rfl, am_Tt 245 (by decide +kernel) rfl⟩
theorem cv_RX4_101 : am_CV RX4 101 m_X2_isEmpty := ⟨am_Tt 247 (by decide +kernel) rfl, am_Tt 248 (by decide +kernel) rfl, am_Tt 249 (by decide +kernel) rfl⟩
theorem cv_RX4_70 : am_CV RX4 70 m_X2_hasElement := ⟨am_Tt 251 (by decide +kernel) rfl, am_Tt 252 (by decide +kernel) rfl, am_Tt 253 (by decide +kernel) rfl⟩
theorem cv_RX4_73 : am_CV RX4 73 m_X2_put := ⟨am_Tt 256 (by decide +kernel) rfl, am_Tt 257 (by decide +kernel) rfl, am_Tt 258 (by decide +kernel) rfl⟩
theorem cv_RL_25 : am_CV RL 25 m_X4_copy := ⟨am_Tt 260 (by decide +kernel) rfl, am_Tt 261 (by decide +kernel) rfl, am_Tt 262 (by decide +kernel) rfl⟩
theorem cv_RX4_81 : am_CV RX4 81 m_X2_hasElements := ⟨am_Tt 264 (by decide +kernel) rfl, am_Tt 265 (by decide +kernel) rfl, am_Tt 266 (by decide +kernel) rfl⟩
theorem cv_RL_30 : am_CV RL 30 m_X4_element := ⟨am_Tt 271 (by decide +kernel) rfl, am_Tt 272 (by decide +kernel) rfl, am_Tt 273 (by decide +kernel) rfl⟩
theorem cv_RX4_94 : am_CV RX4 94 m_X2_isRow := ⟨am_Tt 275 (by decide +kernel) rfl, am_Tt 276 (by decide +kernel) rfl, am_Tt 277 (by decide +kernel) rfl⟩
theorem cv_RL_35 : am_CV RL 35 m_X4_holds := ⟨am_Tt 279 (by decide +kernel) rfl, am_Tt 280 (by decide +kernel) rfl, am_Tt 281 (by decide +kernel) rfl⟩
theorem cv_RL_40 : am_CV RL 40 m_X4_drawing := ⟨am_Tt 283 (by decide +kernel) rfl, am_Tt 284 (by decide +kernel) rfl, am_Tt 285 (by decide +kernel) rfl⟩
theorem cv_RX4_98 : am_CV RX4 98 m_X2_becomeDrawing := ⟨am_Tt 287 (by decide +kernel) rfl, am_Tt 288 (by decide +kernel) rfl, am_Tt 289 (by decide +kernel) rfl⟩
theorem cv_RL_44 : am_CV RL 44 m_X4_says := ⟨am_Tt 291 (by decide +kernel) rfl, am_Tt 292 (by decide +kernel) rfl, am_Tt 293 (by decide +kernel) rfl⟩
theorem cv_RX4_107 : am_CV RX4 107 m_X2_kind := ⟨am_Tt 295 (by decide +kernel) rfl, am_Tt 296 (by decide +kernel) rfl, am_Tt 297 (by decide +kernel) rfl⟩
theorem cs_RX4_111 : am_CS RX4 111 m_X4_isUnder := ⟨am_Tt 299 (by decide +kernel) rfl, am_Tt 300 (by decide +kernel) rfl⟩
theorem cv_RX4_117 : am_CV RX4 117 m_X4_saying := ⟨am_Tt 304 (by decide +kernel) rfl, am_Tt 306 (by decide +kernel) rfl, am_Tp 2 (by decide +kernel) rfl⟩
theorem cv_RX4_327 : am_CV RX4 327 m_X0_layShaken := ⟨am_Tt 308 (by decide +kernel) rfl, am_Tt 309 (by decide +kernel) rfl, am_Tt 310 (by decide +kernel) rfl⟩
theorem cv_RX0_31 : am_CV RX0 31 m_X0_layNothing := ⟨am_Tt 312 (by decide +kernel) rfl, am_Tt 314 (by decide +kernel) rfl, am_Tp 3 (by decide +kernel) rfl⟩
theorem cv_RX0_46 : am_CV RX0 46 m_X0_layHeap := ⟨am_Tt 316 (by decide +kernel) rfl, am_Tt 318 (by decide +kernel) rfl, am_Tp 4 (by decide +kernel) rfl⟩
theorem cs_RX0_101 : am_CS RX0 101 m_X0_bits := ⟨am_Tt 326 (by decide +kernel) rfl, am_Tt 327 (by decide +kernel) rfl⟩
theorem cv_RX4_196 : am_CV RX4 196 m_X0_layHeaps := ⟨am_Tt 329 (by decide +kernel) rfl, am_Tt 330 (by decide +kernel) rfl, am_Tt 331 (by decide +kernel) rfl⟩
theorem cv_RX4_330 : am_CV RX4 330 m_X0_keepAheadByTwos := ⟨am_Tt 333 (by decide +kernel) rfl, am_Tt 334 (by decide +kernel) rfl, am_Tt 335 (by decide +kernel) rfl⟩
theorem cv_RX0_104 : am_CV RX0 104 m_X0_keepAhead := ⟨am_Tt 337 (by decide +kernel) rfl, am_Tt 338 (by decide +kernel) rfl, am_Tt 339 (by decide +kernel) rfl⟩
theorem cs_RX0_114 : am_CS RX0 114 m_X0_aheadBits := ⟨am_Tt 341 (by decide +kernel) rfl, am_Tt 342 (by decide +kernel) rfl⟩
theorem cs_RX0_124 : am_CS RX0 124 m_X0_leastAhead := ⟨am_Tt 344 (by decide +kernel) rfl, am_Tt 345 (by decide +kernel) rfl⟩
theorem cv_RX4_333 : am_CV RX4 333 m_X0_keepAheadFromBehind := ⟨am_Tt 347 (by decide +kernel) rfl, am_Tt 348 (by decide +kernel) rfl, am_Tt 349 (by decide +kernel) rfl⟩
theorem cv_RX4_336 : am_CV RX4 336 m_X0_keepAheadUntilSure := ⟨am_Tt 351 (by decide +kernel) rfl, am_Tt 352 (by decide +kernel) rfl, am_Tt 353 (by decide +kernel) rfl⟩
theorem cv_RX4_339 : am_CV RX4 339 m_X4_sayingOnce := ⟨am_Tt 355 (by decide +kernel) rfl, am_Tt 357 (by decide +kernel) rfl, am_Tp 5 (by decide +kernel) rfl⟩
theorem cv_RX4_206 : am_CV RX4 206 m_X0_countRows := ⟨am_Tt 359 (by decide +kernel) rfl, am_Tt 360 (by decide +kernel) rfl, am_Tt 361 (by decide +kernel) rfl⟩
theorem cv_RX0_131 : am_CV RX0 131 m_X0_walk := ⟨am_Tt 363 (by decide +kernel) rfl, am_Tt 365 (by decide +kernel) rfl, am_Tp 6 (by decide +kernel) rfl⟩
theorem cs_RX0_134 : am_CS RX0 134 m_J7_fill_53178 := ⟨am_Tt 367 (by decide +kernel) rfl, am_Tt 368 (by decide +kernel) rfl⟩
theorem cs_RX0_140 : am_CS RX0 140 m_J7_fill_d0a16 := ⟨am_Tt 370 (by decide +kernel) rfl, am_Tt 233 (by decide +kernel) rfl⟩
theorem cv_RX0_143 : am_CV RX0 143 m_X0_walkInto := ⟨am_Tt 371 (by decide +kernel) rfl, am_Tt 373 (by decide +kernel) rfl, am_Tp 7 (by decide +kernel) rfl⟩
theorem cv_RX4_346 : am_CV RX4 346 m_X0_closeAhead := ⟨am_Tt 375 (by decide +kernel) rfl, am_Tt 376 (by decide +kernel) rfl, am_Tt 377 (by decide +kernel) rfl⟩
theorem cv_RX4_342 : am_CV RX4 342 m_X0_keepAhead := ⟨am_Tt 379 (by decide +kernel) rfl, am_Tt 338 (by decide +kernel) rfl, am_Tt 339 (by decide +kernel) rfl⟩
theorem cv_RL_164 : am_CV RL 164 m_X4_head := ⟨am_Tt 380 (by decide +kernel) rfl, am_Tt 381 (by decide +kernel) rfl, am_Tt 382 (by decide +kernel) rfl⟩
theorem cv_RL_49 : am_CV RL 49 m_X4_heap := ⟨am_Tt 384 (by decide +kernel) rfl, am_Tt 385 (by decide +kernel) rfl, am_Tt 386 (by decide +kernel) rfl⟩
theorem cv_RX4_126 : am_CV RX4 126 m_X1_hasRoom := ⟨am_Tt 388 (by decide +kernel) rfl, am_Tt 389 (by decide +kernel) rfl, am_Tt 390 (by decide +kernel) rfl⟩
theorem cv_RX4_129 : am_CV RX4 129 m_X1_layIn := ⟨am_Tt 392 (by decide +kernel) rfl, am_Tt 393 (by decide +kernel) rfl, am_Tt 394 (by decide +kernel) rfl⟩
theorem cv_RL_53 : am_CV RL 53 m_X4_fact := ⟨am_Tt 396 (by decide +kernel) rfl, am_Tt 397 (by decide +kernel) rfl, am_Tt 398 (by decide +kernel) rfl⟩
theorem cv_RX4_135 : am_CV RX4 135 m_X1_remember := ⟨am_Tt 400 (by decide +kernel) rfl, am_Tt 401 (by decide +kernel) rfl, am_Tt 402 (by decide +kernel) rfl⟩
theorem cv_RL_57 : am_CV RL 57 m_X4_forget := ⟨am_Tt 404 (by decide +kernel) rfl, am_Tt 405 (by decide +kernel) rfl, am_Tt 406 (by decide +kernel) rfl⟩
theorem cv_RX4_139 : am_CV RX4 139 m_X1_dropFact := ⟨am_Tt 408 (by decide +kernel) rfl, am_Tt 409 (by decide +kernel) rfl, am_Tt 410 (by decide +kernel) rfl⟩
theorem cv_RL_61 : am_CV RL 61 m_X4_swap := ⟨am_Tt 412 (by decide +kernel) rfl, am_Tt 413 (by decide +kernel) rfl, am_Tt 414 (by decide +kernel) rfl⟩
theorem cv_RX4_142 : am_CV RX4 142 m_X1_exchange := ⟨am_Tt 416 (by decide +kernel) rfl, am_Tt 417 (by decide +kernel) rfl, am_Tt 418 (by decide +kernel) rfl⟩
theorem cv_RL_65 : am_CV RL 65 m_X4_feed := ⟨am_Tt 420 (by decide +kernel) rfl, am_Tt 421 (by decide +kernel) rfl, am_Tt 422 (by decide +kernel) rfl⟩
theorem cv_RX4_148 : am_CV RX4 148 m_X3_append := ⟨am_Tt 424 (by decide +kernel) rfl, am_Tt 425 (by decide +kernel) rfl, am_Tt 426 (by decide +kernel) rfl⟩
theorem cv_RL_69 : am_CV RL 69 m_X4_wipe := ⟨am_Tt 428 (by decide +kernel) rfl, am_Tt 429 (by decide +kernel) rfl, am_Tt 430 (by decide +kernel) rfl⟩
theorem cv_RL_74 : am_CV RL 74 m_X4_drum := ⟨am_Tt 432 (by decide +kernel) rfl, am_Tt 433 (by decide +kernel) rfl, am_Tt 434 (by decide +kernel) rfl⟩
theorem cv_RX4_151 : am_CV RX4 151 m_X1_takeOver := ⟨am_Tt 436 (by decide +kernel) rfl, am_Tt 437 (by decide +kernel) rfl, am_Tt 438 (by decide +kernel) rfl⟩
theorem cv_RX4_155 : am_CV RX4 155 m_X3_readInto := ⟨am_Tt 441 (by decide +kernel) rfl, am_Tt 442 (by decide +kernel) rfl, am_Tt 443 (by decide +kernel) rfl⟩
theorem cv_RX3_22 : am_CV RX3 22 m_X3_nextToken := ⟨am_Tt 445 (by decide +kernel) rfl, am_Tt 447 (by decide +kernel) rfl, am_Tp 8 (by decide +kernel) rfl⟩
theorem cs_RX3_106 : am_CS RX3 106 m_X3_tokenOf := ⟨am_Tt 449 (by decide +kernel) rfl, am_Tt 450 (by decide +kernel) rfl⟩
theorem cv_RX3_25 : am_CV RX3 25 m_X3_statement := ⟨am_Tt 453 (by decide +kernel) rfl, am_Tt 455 (by decide +kernel) rfl, am_Tp 9 (by decide +kernel) rfl⟩
theorem cv_RX3_34 : am_CV RX3 34 m_X3_isWord := ⟨am_Tt 458 (by decide +kernel) rfl, am_Tt 460 (by decide +kernel) rfl, am_Tp 10 (by decide +kernel) rfl⟩
theorem cv_RX3_96 : am_CV RX3 96 m_J0_length_8abf5 := ⟨am_Tt 462 (by decide +kernel) rfl, am_Tt 463 (by decide +kernel) rfl, am_Tt 464 (by decide +kernel) rfl⟩
theorem cv_RJ0_335 : am_CV RJ0 335 m_J0_coder_7d493 := ⟨am_Tt 466 (by decide +kernel) rfl, am_Tt 467 (by decide +kernel) rfl, am_Tt 468 (by decide +kernel) rfl⟩
theorem cv_RX3_102 : am_CV RX3 102 m_J0_charAt_5068e := ⟨am_Tt 472 (by decide +kernel) rfl, am_Tt 473 (by decide +kernel) rfl, am_Tt 474 (by decide +kernel) rfl⟩
theorem cv_RJ0_492 : am_CV RJ0 492 m_J0_isLatin1_aae02 := ⟨am_Tt 476 (by decide +kernel) rfl, am_Tt 477 (by decide +kernel) rfl, am_Tt 478 (by decide +kernel) rfl⟩
theorem cs_RJ0_495 : am_CS RJ0 495 m_J1_charAt_3b067 := ⟨am_Tt 480 (by decide +kernel) rfl, am_Tt 481 (by decide +kernel) rfl⟩
theorem cs_RJ1_9 : am_CS RJ1 9 m_J0_checkIndex_df160 := ⟨am_Tt 483 (by decide +kernel) rfl, am_Tt 484 (by decide +kernel) rfl⟩
theorem cs_RJ0_1059 : am_CS RJ0 1059 m_J3_checkIndex_8e157 := ⟨am_Tt 488 (by decide +kernel) rfl, am_Tt 489 (by decide +kernel) rfl⟩
theorem cs_RJ0_498 : am_CS RJ0 498 m_J2_charAt_3b067 := ⟨am_Tt 491 (by decide +kernel) rfl, am_Tt 492 (by decide +kernel) rfl⟩
theorem cs_RJ2_67 : am_CS RJ2 67 m_J2_checkIndex_2214a := ⟨am_Tt 494 (by decide +kernel) rfl, am_Tt 495 (by decide +kernel) rfl⟩
theorem cs_RJ2_48 : am_CS RJ2 48 m_J2_length_9d52b := ⟨am_Tt 497 (by decide +kernel) rfl, am_Tt 498 (by decide +kernel) rfl⟩
theorem cs_RJ2_414 : am_CS RJ2 414 m_J0_checkIndex_df160 := ⟨am_Tt 500 (by decide +kernel) rfl, am_Tt 484 (by decide +kernel) rfl⟩
theorem cs_RJ2_71 : am_CS RJ2 71 m_J2_getChar_3b067 := ⟨am_Tt 501 (by decide +kernel) rfl, am_Tt 502 (by decide +kernel) rfl⟩
theorem cv_RX3_38 : am_CV RX3 38 m_X3_heapStatement := ⟨am_Tt 510 (by decide +kernel) rfl, am_Tt 512 (by decide +kernel) rfl, am_Tp 11 (by decide +kernel) rfl⟩
theorem cv_RX3_64 : am_CV RX3 64 m_X3_isNumberNext := ⟨am_Tt 514 (by decide +kernel) rfl, am_Tt 516 (by decide +kernel) rfl, am_Tp 12 (by decide +kernel) rfl⟩
theorem cv_RX3_71 : am_CV RX3 71 m_X1_hasRoom := ⟨am_Tt 518 (by decide +kernel) rfl, am_Tt 389 (by decide +kernel) rfl, am_Tt 390 (by decide +kernel) rfl⟩
theorem cv_RX3_74 : am_CV RX3 74 m_X1_layIn := ⟨am_Tt 519 (by decide +kernel) rfl, am_Tt 393 (by decide +kernel) rfl, am_Tt 394 (by decide +kernel) rfl⟩
theorem cv_RX3_43 : am_CV RX3 43 m_X3_factStatement := ⟨am_Tt 521 (by decide +kernel) rfl, am_Tt 523 (by decide +kernel) rfl, am_Tp 13 (by decide +kernel) rfl⟩
theorem cv_RX3_81 : am_CV RX3 81 m_X1_remember := ⟨am_Tt 525 (by decide +kernel) rfl, am_Tt 401 (by decide +kernel) rfl, am_Tt 402 (by decide +kernel) rfl⟩
theorem cv_RX3_48 : am_CV RX3 48 m_X3_readStatement := ⟨am_Tt 527 (by decide +kernel) rfl, am_Tt 529 (by decide +kernel) rfl, am_Tp 14 (by decide +kernel) rfl⟩
theorem cv_RX3_88 : am_CV RX3 88 m_X1_take := ⟨am_Tt 531 (by decide +kernel) rfl, am_Tt 532 (by decide +kernel) rfl, am_Tt 533 (by decide +kernel) rfl⟩
theorem cv_RX1_63 : am_CV RX1 63 m_X1_leftNow := ⟨am_Tt 535 (by decide +kernel) rfl, am_Tt 536 (by decide +kernel) rfl, am_Tt 537 (by decide +kernel) rfl⟩
theorem cv_RX1_52 : am_CV RX1 52 m_X1_heapNow := ⟨am_Tt 539 (by decide +kernel) rfl, am_Tt 540 (by decide +kernel) rfl, am_Tt 541 (by decide +kernel) rfl⟩
theorem cv_RX1_56 : am_CV RX1 56 m_X1_placeOf := ⟨am_Tt 543 (by decide +kernel) rfl, am_Tt 544 (by decide +kernel) rfl, am_Tt 545 (by decide +kernel) rfl⟩
theorem cv_RX3_53 : am_CV RX3 53 m_X3_swapStatement := ⟨am_Tt 548 (by decide +kernel) rfl, am_Tt 550 (by decide +kernel) rfl, am_Tp 15 (by decide +kernel) rfl⟩
theorem cv_RX3_92 : am_CV RX3 92 m_X1_exchange := ⟨am_Tt 552 (by decide +kernel) rfl, am_Tt 417 (by decide +kernel) rfl, am_Tt 418 (by decide +kernel) rfl⟩
theorem cv_RL_78 : am_CV RL 78 m_X4_heapOf := ⟨am_Tt 554 (by decide +kernel) rfl, am_Tt 555 (by decide +kernel) rfl, am_Tt 556 (by decide +kernel) rfl⟩
theorem cv_RX4_162 : am_CV RX4 162 m_X1_placeOf := ⟨am_Tt 558 (by decide +kernel) rfl, am_Tt 544 (by decide +kernel) rfl, am_Tt 545 (by decide +kernel) rfl⟩
theorem cv_RL_82 : am_CV RL 82 m_X4_factOf := ⟨am_Tt 559 (by decide +kernel) rfl, am_Tt 560 (by decide +kernel) rfl, am_Tt 561 (by decide +kernel) rfl⟩
theorem cv_RL_94 : am_CV RL 94 m_X4_read := ⟨am_Tt 563 (by decide +kernel) rfl, am_Tt 564 (by decide +kernel) rfl, am_Tt 565 (by decide +kernel) rfl⟩
theorem cv_RX4_180 : am_CV RX4 180 m_X1_take := ⟨am_Tt 567 (by decide +kernel) rfl, am_Tt 532 (by decide +kernel) rfl, am_Tt 533 (by decide +kernel) rfl⟩
theorem cv_RL_99 : am_CV RL 99 m_X4_slip := ⟨am_Tt 568 (by decide +kernel) rfl, am_Tt 569 (by decide +kernel) rfl, am_Tt 570 (by decide +kernel) rfl⟩
theorem cv_RL_103 : am_CV RL 103 m_X4_again := ⟨am_Tt 572 (by decide +kernel) rfl, am_Tt 573 (by decide +kernel) rfl, am_Tt 574 (by decide +kernel) rfl⟩
theorem cv_RX4_187 : am_CV RX4 187 m_X1_layBack := ⟨am_Tt 576 (by decide +kernel) rfl, am_Tt 577 (by decide +kernel) rfl, am_Tt 578 (by decide +kernel) rfl⟩
theorem cv_RL_107 : am_CV RL 107 m_X4_lead := ⟨am_Tt 580 (by decide +kernel) rfl, am_Tt 581 (by decide +kernel) rfl, am_Tt 582 (by decide +kernel) rfl⟩
theorem cv_RL_160 : am_CV RL 160 m_X4_isSure := ⟨am_Tt 584 (by decide +kernel) rfl, am_Tt 585 (by decide +kernel) rfl, am_Tt 586 (by decide +kernel) rfl⟩
theorem cv_RX4_200 : am_CV RX4 200 m_X0_markUnsure := ⟨am_Tt 588 (by decide +kernel) rfl, am_Tt 589 (by decide +kernel) rfl, am_Tt 590 (by decide +kernel) rfl⟩
theorem cv_RX4_203 : am_CV RX4 203 m_X0_isMarked := ⟨am_Tt 592 (by decide +kernel) rfl, am_Tt 593 (by decide +kernel) rfl, am_Tt 594 (by decide +kernel) rfl⟩
theorem cv_RL_86 : am_CV RL 86 m_X4_rows := ⟨am_Tt 597 (by decide +kernel) rfl, am_Tt 598 (by decide +kernel) rfl, am_Tt 599 (by decide +kernel) rfl⟩
theorem cv_RL_90 : am_CV RL 90 m_X4_ways := ⟨am_Tt 601 (by decide +kernel) rfl, am_Tt 602 (by decide +kernel) rfl, am_Tt 603 (by decide +kernel) rfl⟩
theorem cv_RX4_209 : am_CV RX4 209 m_X0_layFitting := ⟨am_Tt 605 (by decide +kernel) rfl, am_Tt 606 (by decide +kernel) rfl, am_Tt 607 (by decide +kernel) rfl⟩
theorem cv_RX0_59 : am_CV RX0 59 m_X0_layHeaps := ⟨am_Tt 609 (by decide +kernel) rfl, am_Tt 330 (by decide +kernel) rfl, am_Tt 331 (by decide +kernel) rfl⟩
theorem cv_RX0_69 : am_CV RX0 69 m_X0_keepAt := ⟨am_Tt 610 (by decide +kernel) rfl, am_Tt 611 (by decide +kernel) rfl, am_Tt 612 (by decide +kernel) rfl⟩
theorem cv_RX0_84 : am_CV RX0 84 m_X0_keepFact := ⟨am_Tt 614 (by decide +kernel) rfl, am_Tt 616 (by decide +kernel) rfl, am_Tp 16 (by decide +kernel) rfl⟩
theorem cv_RX0_107 : am_CV RX0 107 m_X0_keepLevel := ⟨am_Tt 618 (by decide +kernel) rfl, am_Tt 619 (by decide +kernel) rfl, am_Tt 620 (by decide +kernel) rfl⟩
theorem cs_RX0_120 : am_CS RX0 120 m_X0_levelBits := ⟨am_Tt 622 (by decide +kernel) rfl, am_Tt 623 (by decide +kernel) rfl⟩
theorem cv_RX0_111 : am_CV RX0 111 m_X0_keepNotBehind := ⟨am_Tt 625 (by decide +kernel) rfl, am_Tt 626 (by decide +kernel) rfl, am_Tt 627 (by decide +kernel) rfl⟩
theorem cv_RL_111 : am_CV RL 111 m_X4_ahead := ⟨am_Tt 629 (by decide +kernel) rfl, am_Tt 630 (by decide +kernel) rfl, am_Tt 631 (by decide +kernel) rfl⟩
theorem cv_RX4_212 : am_CV RX4 212 m_X4_fittingAhead := ⟨am_Tt 633 (by decide +kernel) rfl, am_Tt 635 (by decide +kernel) rfl, am_Tp 17 (by decide +kernel) rfl⟩
theorem cv_RL_115 : am_CV RL 115 m_X4_never := ⟨am_Tt 637 (by decide +kernel) rfl, am_Tt 638 (by decide +kernel) rfl, am_Tt 639 (by decide +kernel) rfl⟩
theorem cv_RX4_218 : am_CV RX4 218 m_X0_keepNotBehind := ⟨am_Tt 641 (by decide +kernel) rfl, am_Tt 626 (by decide +kernel) rfl, am_Tt 627 (by decide +kernel) rfl⟩
theorem cv_RL_119 : am_CV RL 119 m_X4_level := ⟨am_Tt 642 (by decide +kernel) rfl, am_Tt 643 (by decide +kernel) rfl, am_Tt 644 (by decide +kernel) rfl⟩
theorem cv_RX4_221 : am_CV RX4 221 m_X4_tallyLevel := ⟨am_Tt 646 (by decide +kernel) rfl, am_Tt 648 (by decide +kernel) rfl, am_Tp 18 (by decide +kernel) rfl⟩
theorem cv_RX4_352 : am_CV RX4 352 m_X0_markLevel := ⟨am_Tt 650 (by decide +kernel) rfl, am_Tt 651 (by decide +kernel) rfl, am_Tt 652 (by decide +kernel) rfl⟩
theorem cv_RX4_266 : am_CV RX4 266 m_X0_tallyMarks := ⟨am_Tt 654 (by decide +kernel) rfl, am_Tt 655 (by decide +kernel) rfl, am_Tt 656 (by decide +kernel) rfl⟩
theorem cv_RX0_146 : am_CV RX0 146 m_X0_tallyInto := ⟨am_Tt 658 (by decide +kernel) rfl, am_Tt 660 (by decide +kernel) rfl, am_Tp 19 (by decide +kernel) rfl⟩
theorem cv_RL_123 : am_CV RL 123 m_X4_last := ⟨am_Tt 663 (by decide +kernel) rfl, am_Tt 664 (by decide +kernel) rfl, am_Tt 665 (by decide +kernel) rfl⟩
theorem cv_RX4_227 : am_CV RX4 227 m_X0_keepLevel := ⟨am_Tt 667 (by decide +kernel) rfl, am_Tt 619 (by decide +kernel) rfl, am_Tt 620 (by decide +kernel) rfl⟩
theorem cv_RX4_231 : am_CV RX4 231 m_X0_closeLevel := ⟨am_Tt 668 (by decide +kernel) rfl, am_Tt 669 (by decide +kernel) rfl, am_Tt 670 (by decide +kernel) rfl⟩
theorem cv_RL_127 : am_CV RL 127 m_X4_greatest := ⟨am_Tt 672 (by decide +kernel) rfl, am_Tt 673 (by decide +kernel) rfl, am_Tt 674 (by decide +kernel) rfl⟩
theorem cv_RX4_234 : am_CV RX4 234 m_X4_fittingNotAbove := ⟨am_Tt 676 (by decide +kernel) rfl, am_Tt 678 (by decide +kernel) rfl, am_Tp 20 (by decide +kernel) rfl⟩
theorem cv_RX4_349 : am_CV RX4 349 m_X0_keepNotAbove := ⟨am_Tt 680 (by decide +kernel) rfl, am_Tt 681 (by decide +kernel) rfl, am_Tt 682 (by decide +kernel) rfl⟩
theorem cv_RL_131 : am_CV RL 131 m_X4_sure := ⟨am_Tt 687 (by decide +kernel) rfl, am_Tt 688 (by decide +kernel) rfl, am_Tt 689 (by decide +kernel) rfl⟩
theorem cv_RX4_237 : am_CV RX4 237 m_X4_tallySure := ⟨am_Tt 691 (by decide +kernel) rfl, am_Tt 693 (by decide +kernel) rfl, am_Tp 21 (by decide +kernel) rfl⟩
theorem cv_RL_135 : am_CV RL 135 m_X4_soFar := ⟨am_Tt 695 (by decide +kernel) rfl, am_Tt 696 (by decide +kernel) rfl, am_Tt 697 (by decide +kernel) rfl⟩
theorem cv_RX4_240 : am_CV RX4 240 m_X0_keepAt := ⟨am_Tt 699 (by decide +kernel) rfl, am_Tt 611 (by decide +kernel) rfl, am_Tt 612 (by decide +kernel) rfl⟩
theorem cv_RL_139 : am_CV RL 139 m_X4_spent := ⟨am_Tt 700 (by decide +kernel) rfl, am_Tt 701 (by decide +kernel) rfl, am_Tt 702 (by decide +kernel) rfl⟩
theorem cv_RX4_243 : am_CV RX4 243 m_X0_markAhead := ⟨am_Tt 704 (by decide +kernel) rfl, am_Tt 705 (by decide +kernel) rfl, am_Tt 706 (by decide +kernel) rfl⟩
theorem cv_RX4_246 : am_CV RX4 246 m_X0_sumMarks := ⟨am_Tt 708 (by decide +kernel) rfl, am_Tt 709 (by decide +kernel) rfl, am_Tt 710 (by decide +kernel) rfl⟩
theorem cv_RL_144 : am_CV RL 144 m_X4_mean := ⟨am_Tt 712 (by decide +kernel) rfl, am_Tt 713 (by decide +kernel) rfl, am_Tt 714 (by decide +kernel) rfl⟩
theorem cv_RL_148 : am_CV RL 148 m_X4_price := ⟨am_Tt 716 (by decide +kernel) rfl, am_Tt 717 (by decide +kernel) rfl, am_Tt 718 (by decide +kernel) rfl⟩
theorem cv_RL_152 : am_CV RL 152 m_X4_often := ⟨am_Tt 721 (by decide +kernel) rfl, am_Tt 722 (by decide +kernel) rfl, am_Tt 723 (by decide +kernel) rfl⟩
theorem cv_RL_156 : am_CV RL 156 m_X4_half := ⟨am_Tt 725 (by decide +kernel) rfl, am_Tt 726 (by decide +kernel) rfl, am_Tt 727 (by decide +kernel) rfl⟩
theorem cv_RX4_252 : am_CV RX4 252 m_X0_tallyFrom := ⟨am_Tt 729 (by decide +kernel) rfl, am_Tt 730 (by decide +kernel) rfl, am_Tt 731 (by decide +kernel) rfl⟩
theorem cv_RL_168 : am_CV RL 168 m_X4_judge := ⟨am_Tt 733 (by decide +kernel) rfl, am_Tt 734 (by decide +kernel) rfl, am_Tt 735 (by decide +kernel) rfl⟩
theorem cv_RX4_255 : am_CV RX4 255 m_X4_firstWrong := ⟨am_Tt 737 (by decide +kernel) rfl, am_Tt 739 (by decide +kernel) rfl, am_Tp 22 (by decide +kernel) rfl⟩
theorem cv_RX4_355 : am_CV RX4 355 m_X2_slipAt := ⟨am_Tt 741 (by decide +kernel) rfl, am_Tt 742 (by decide +kernel) rfl, am_Tt 743 (by decide +kernel) rfl⟩
theorem cv_RX2_35 : am_CV RX2 35 m_X2_hasElement := ⟨am_Tt 745 (by decide +kernel) rfl, am_Tt 252 (by decide +kernel) rfl, am_Tt 253 (by decide +kernel) rfl⟩
theorem cv_RX4_358 : am_CV RX4 358 m_X0_isOpen := ⟨am_Tt 746 (by decide +kernel) rfl, am_Tt 747 (by decide +kernel) rfl, am_Tt 748 (by decide +kernel) rfl⟩
theorem cv_RL_172 : am_CV RL 172 m_X4_told := ⟨am_Tt 750 (by decide +kernel) rfl, am_Tt 751 (by decide +kernel) rfl, am_Tt 752 (by decide +kernel) rfl⟩
theorem cv_RX4_259 : am_CV RX4 259 m_X4_againstTold := ⟨am_Tt 754 (by decide +kernel) rfl, am_Tt 756 (by decide +kernel) rfl, am_Tp 23 (by decide +kernel) rfl⟩
theorem cs_RX4_262 : am_CS RX4 262 m_X4_toldOf := ⟨am_Tt 758 (by decide +kernel) rfl, am_Tt 759 (by decide +kernel) rfl⟩
theorem cv_RL_176 : am_CV RL 176 m_X4_luck := ⟨am_Tt 762 (by decide +kernel) rfl, am_Tt 763 (by decide +kernel) rfl, am_Tt 764 (by decide +kernel) rfl⟩
theorem cv_RL_180 : am_CV RL 180 m_X4_order := ⟨am_Tt 766 (by decide +kernel) rfl, am_Tt 767 (by decide +kernel) rfl, am_Tt 768 (by decide +kernel) rfl⟩
theorem cv_RX4_269 : am_CV RX4 269 m_X4_spentBy := ⟨am_Tt 770 (by decide +kernel) rfl, am_Tt 772 (by decide +kernel) rfl, am_Tp 24 (by decide +kernel) rfl⟩
theorem cv_RX4_276 : am_CV RX4 276 m_X4_tryOrder := ⟨am_Tt 774 (by decide +kernel) rfl, am_Tt 776 (by decide +kernel) rfl, am_Tp 25 (by decide +kernel) rfl⟩
theorem cs_RX4_364 : am_CS RX4 364 m_X4_freeHeap := ⟨am_Tt 780 (by decide +kernel) rfl, am_Tt 781 (by decide +kernel) rfl⟩
theorem cv_RL_185 : am_CV RL 185 m_X4_lost := ⟨am_Tt 783 (by decide +kernel) rfl, am_Tt 784 (by decide +kernel) rfl, am_Tt 785 (by decide +kernel) rfl⟩
theorem cs_RX4_290 : am_CS RX4 290 m_X4_choose := ⟨am_Tt 790 (by decide +kernel) rfl, am_Tt 791 (by decide +kernel) rfl⟩
theorem cv_RL_189 : am_CV RL 189 m_X4_books := ⟨am_Tt 793 (by decide +kernel) rfl, am_Tt 794 (by decide +kernel) rfl, am_Tt 795 (by decide +kernel) rfl⟩
theorem cv_RX4_294 : am_CV RX4 294 m_X4_againstBooks := ⟨am_Tt 797 (by decide +kernel) rfl, am_Tt 799 (by decide +kernel) rfl, am_Tp 26 (by decide +kernel) rfl⟩
theorem cs_RX4_297 : am_CS RX4 297 m_X4_firstUnlike := ⟨am_Tt 801 (by decide +kernel) rfl, am_Tt 802 (by decide +kernel) rfl⟩
theorem cv_RX4_301 : am_CV RX4 301 m_X4_agreeing := ⟨am_Tt 804 (by decide +kernel) rfl, am_Tt 806 (by decide +kernel) rfl, am_Tp 27 (by decide +kernel) rfl⟩
theorem cv_RL_193 : am_CV RL 193 m_X4_unlike := ⟨am_Tt 808 (by decide +kernel) rfl, am_Tt 809 (by decide +kernel) rfl, am_Tt 810 (by decide +kernel) rfl⟩
theorem cv_RL_197 : am_CV RL 197 m_X4_draw := ⟨am_Tt 812 (by decide +kernel) rfl, am_Tt 813 (by decide +kernel) rfl, am_Tt 814 (by decide +kernel) rfl⟩
theorem cv_RX4_304 : am_CV RX4 304 m_X1_takeByDraw := ⟨am_Tt 816 (by decide +kernel) rfl, am_Tt 817 (by decide +kernel) rfl, am_Tt 818 (by decide +kernel) rfl⟩
theorem cv_RX1_67 : am_CV RX1 67 m_X1_drawBelow := ⟨am_Tt 820 (by decide +kernel) rfl, am_Tt 822 (by decide +kernel) rfl, am_Tp 28 (by decide +kernel) rfl⟩
theorem cv_RX1_70 : am_CV RX1 70 m_X1_take := ⟨am_Tt 825 (by decide +kernel) rfl, am_Tt 532 (by decide +kernel) rfl, am_Tt 533 (by decide +kernel) rfl⟩
theorem cv_RL_201 : am_CV RL 201 m_X4_evening := ⟨am_Tt 826 (by decide +kernel) rfl, am_Tt 827 (by decide +kernel) rfl, am_Tt 828 (by decide +kernel) rfl⟩
theorem cv_RX4_307 : am_CV RX4 307 m_X1_momentsAhead := ⟨am_Tt 830 (by decide +kernel) rfl, am_Tt 831 (by decide +kernel) rfl, am_Tt 832 (by decide +kernel) rfl⟩
theorem cv_RL_205 : am_CV RL 205 m_X4_seed := ⟨am_Tt 834 (by decide +kernel) rfl, am_Tt 835 (by decide +kernel) rfl, am_Tt 836 (by decide +kernel) rfl⟩
theorem cv_RL_209 : am_CV RL 209 m_X4_image := ⟨am_Tt 838 (by decide +kernel) rfl, am_Tt 839 (by decide +kernel) rfl, am_Tt 840 (by decide +kernel) rfl⟩
theorem cv_RL_213 : am_CV RL 213 m_X4_back := ⟨am_Tt 842 (by decide +kernel) rfl, am_Tt 843 (by decide +kernel) rfl, am_Tt 844 (by decide +kernel) rfl⟩
theorem cv_RL_217 : am_CV RL 217 m_X4_status := ⟨am_Tt 846 (by decide +kernel) rfl, am_Tt 847 (by decide +kernel) rfl, am_Tt 848 (by decide +kernel) rfl⟩
theorem cv_RX4_317 : am_CV RX4 317 m_X4_shelvesInUse := ⟨am_Tt 850 (by decide +kernel) rfl, am_Tt 852 (by decide +kernel) rfl, am_Tp 29 (by decide +kernel) rfl⟩
theorem cv_RX4_320 : am_CV RX4 320 m_X1_heapNow := ⟨am_Tt 854 (by decide +kernel) rfl, am_Tt 540 (by decide +kernel) rfl, am_Tt 541 (by decide +kernel) rfl⟩
theorem cv_RL_17 : am_CV RL 17 m_X5_row := ⟨am_Tt 989 (by decide +kernel) rfl, am_Tt 990 (by decide +kernel) rfl, am_Tt 991 (by decide +kernel) rfl⟩
theorem cs_RX5_95 : am_CS RX5 95 m_X5_in := ⟨am_Tt 994 (by decide +kernel) rfl, am_Tt 995 (by decide +kernel) rfl⟩
theorem cv_RX5_103 : am_CV RX5 103 m_X5_refuse := ⟨am_Tt 999 (by decide +kernel) rfl, am_Tt 1001 (by decide +kernel) rfl, am_Tp 30 (by decide +kernel) rfl⟩
theorem cv_RL_24 : am_CV RL 24 m_X5_set := ⟨am_Tt 1003 (by decide +kernel) rfl, am_Tt 1004 (by decide +kernel) rfl, am_Tt 1005 (by decide +kernel) rfl⟩
theorem cv_RX5_107 : am_CV RX5 107 m_X5_noRow := ⟨am_Tt 1007 (by decide +kernel) rfl, am_Tt 1009 (by decide +kernel) rfl, am_Tp 31 (by decide +kernel) rfl⟩
theorem cs_RX5_110 : am_CS RX5 110 m_X5_fit := ⟨am_Tt 1011 (by decide +kernel) rfl, am_Tt 1012 (by decide +kernel) rfl⟩
theorem cv_RL_29 : am_CV RL 29 m_X5_copy := ⟨am_Tt 1014 (by decide +kernel) rfl, am_Tt 1015 (by decide +kernel) rfl, am_Tt 1016 (by decide +kernel) rfl⟩
theorem cv_RX5_114 : am_CV RX5 114 m_X5_noRows := ⟨am_Tt 1018 (by decide +kernel) rfl, am_Tt 1020 (by decide +kernel) rfl, am_Tp 32 (by decide +kernel) rfl⟩
theorem cv_RL_34 : am_CV RL 34 m_X5_element := ⟨am_Tt 1022 (by decide +kernel) rfl, am_Tt 1023 (by decide +kernel) rfl, am_Tt 1024 (by decide +kernel) rfl⟩
theorem cv_RL_39 : am_CV RL 39 m_X5_holds := ⟨am_Tt 1026 (by decide +kernel) rfl, am_Tt 1027 (by decide +kernel) rfl, am_Tt 1028 (by decide +kernel) rfl⟩
theorem cv_RL_43 : am_CV RL 43 m_X5_drawing := ⟨am_Tt 1030 (by decide +kernel) rfl, am_Tt 1031 (by decide +kernel) rfl, am_Tt 1032 (by decide +kernel) rfl⟩
theorem cv_RL_48 : am_CV RL 48 m_X5_says := ⟨am_Tt 1036 (by decide +kernel) rfl, am_Tt 1037 (by decide +kernel) rfl, am_Tt 1038 (by decide +kernel) rfl⟩
theorem cs_RX5_122 : am_CS RX5 122 m_X5_isUnder := ⟨am_Tt 1040 (by decide +kernel) rfl, am_Tt 1041 (by decide +kernel) rfl⟩
theorem cv_RX5_126 : am_CV RX5 126 m_X5_drawn := ⟨am_Tt 1043 (by decide +kernel) rfl, am_Tt 1045 (by decide +kernel) rfl, am_Tp 33 (by decide +kernel) rfl⟩
theorem cv_RX5_321 : am_CV RX5 321 m_X5_seeOneHeap := ⟨am_Tt 1047 (by decide +kernel) rfl, am_Tt 1049 (by decide +kernel) rfl, am_Tp 34 (by decide +kernel) rfl⟩
theorem cv_RX5_140 : am_CV RX5 140 m_X5_all := ⟨am_Tt 1051 (by decide +kernel) rfl, am_Tt 1053 (by decide +kernel) rfl, am_Tp 35 (by decide +kernel) rfl⟩
theorem cv_RX5_133 : am_CV RX5 133 m_X5_allA := ⟨am_Tt 1055 (by decide +kernel) rfl, am_Tt 1057 (by decide +kernel) rfl, am_Tp 36 (by decide +kernel) rfl⟩
theorem cv_RX5_273 : am_CV RX5 273 m_X5_count := ⟨am_Tt 1059 (by decide +kernel) rfl, am_Tt 1061 (by decide +kernel) rfl, am_Tp 37 (by decide +kernel) rfl⟩
theorem cv_RX5_269 : am_CV RX5 269 m_X5_isSo := ⟨am_Tt 1063 (by decide +kernel) rfl, am_Tt 1065 (by decide +kernel) rfl, am_Tp 38 (by decide +kernel) rfl⟩
theorem cv_RX5_263 : am_CV RX5 263 m_X5_seeHeaps := ⟨am_Tt 1067 (by decide +kernel) rfl, am_Tt 1069 (by decide +kernel) rfl, am_Tp 39 (by decide +kernel) rfl⟩
theorem cv_RX5_324 : am_CV RX5 324 m_X5_seeBack := ⟨am_Tt 1071 (by decide +kernel) rfl, am_Tt 1073 (by decide +kernel) rfl, am_Tp 40 (by decide +kernel) rfl⟩
theorem cv_RX5_327 : am_CV RX5 327 m_X5_countSurely := ⟨am_Tt 1075 (by decide +kernel) rfl, am_Tt 1077 (by decide +kernel) rfl, am_Tp 41 (by decide +kernel) rfl⟩
theorem cv_RX5_304 : am_CV RX5 304 m_X5_countBack := ⟨am_Tt 1079 (by decide +kernel) rfl, am_Tt 1081 (by decide +kernel) rfl, am_Tp 42 (by decide +kernel) rfl⟩
theorem cv_RX5_307 : am_CV RX5 307 m_X5_isSureAt := ⟨am_Tt 1083 (by decide +kernel) rfl, am_Tt 1085 (by decide +kernel) rfl, am_Tp 43 (by decide +kernel) rfl⟩
theorem cv_RL_52 : am_CV RL 52 m_X5_heap := ⟨am_Tt 1087 (by decide +kernel) rfl, am_Tt 1088 (by decide +kernel) rfl, am_Tt 1089 (by decide +kernel) rfl⟩
theorem cv_RX5_143 : am_CV RX5 143 m_X5_addHeap := ⟨am_Tt 1091 (by decide +kernel) rfl, am_Tt 1093 (by decide +kernel) rfl, am_Tp 44 (by decide +kernel) rfl⟩
theorem cv_RL_56 : am_CV RL 56 m_X5_fact := ⟨am_Tt 1095 (by decide +kernel) rfl, am_Tt 1096 (by decide +kernel) rfl, am_Tt 1097 (by decide +kernel) rfl⟩
theorem cv_RL_60 : am_CV RL 60 m_X5_forget := ⟨am_Tt 1101 (by decide +kernel) rfl, am_Tt 1102 (by decide +kernel) rfl, am_Tt 1103 (by decide +kernel) rfl⟩
theorem cv_RL_64 : am_CV RL 64 m_X5_swap := ⟨am_Tt 1105 (by decide +kernel) rfl, am_Tt 1106 (by decide +kernel) rfl, am_Tt 1107 (by decide +kernel) rfl⟩
theorem cv_RX5_154 : am_CV RX5 154 m_X5_change := ⟨am_Tt 1109 (by decide +kernel) rfl, am_Tt 1111 (by decide +kernel) rfl, am_Tp 45 (by decide +kernel) rfl⟩
theorem cv_RL_68 : am_CV RL 68 m_X5_feed := ⟨am_Tt 1113 (by decide +kernel) rfl, am_Tt 1114 (by decide +kernel) rfl, am_Tt 1115 (by decide +kernel) rfl⟩
theorem cv_RL_73 : am_CV RL 73 m_X5_wipe := ⟨am_Tt 1118 (by decide +kernel) rfl, am_Tt 1119 (by decide +kernel) rfl, am_Tt 1120 (by decide +kernel) rfl⟩
theorem cv_RL_77 : am_CV RL 77 m_X5_drum := ⟨am_Tt 1122 (by decide +kernel) rfl, am_Tt 1123 (by decide +kernel) rfl, am_Tt 1124 (by decide +kernel) rfl⟩
theorem cv_RX5_241 : am_CV RX5 241 m_X5_fresh := ⟨am_Tt 1126 (by decide +kernel) rfl, am_Tt 1128 (by decide +kernel) rfl, am_Tp 46 (by decide +kernel) rfl⟩
theorem cv_RX5_248 : am_CV RX5 248 m_X5_takeFrom := ⟨am_Tt 1132 (by decide +kernel) rfl, am_Tt 1134 (by decide +kernel) rfl, am_Tp 47 (by decide +kernel) rfl⟩
theorem cs_RX5_372 : am_CS RX5 372 m_X5_over := ⟨am_Tt 1136 (by decide +kernel) rfl, am_Tt 1137 (by decide +kernel) rfl⟩
theorem cv_RX5_245 : am_CV RX5 245 m_X5_readAll := ⟨am_Tt 1139 (by decide +kernel) rfl, am_Tt 1141 (by decide +kernel) rfl, am_Tp 48 (by decide +kernel) rfl⟩
theorem cv_RX5_198 : am_CV RX5 198 m_X5_look := ⟨am_Tt 1143 (by decide +kernel) rfl, am_Tt 1145 (by decide +kernel) rfl, am_Tp 49 (by decide +kernel) rfl⟩
theorem cs_RX5_174 : am_CS RX5 174 m_X5_isLetter := ⟨am_Tt 1147 (by decide +kernel) rfl, am_Tt 1148 (by decide +kernel) rfl⟩
theorem cs_RX5_178 : am_CS RX5 178 m_X5_isDigit := ⟨am_Tt 1150 (by decide +kernel) rfl, am_Tt 1151 (by decide +kernel) rfl⟩
theorem cv_RX5_238 : am_CV RX5 238 m_X5_statement := ⟨am_Tt 1154 (by decide +kernel) rfl, am_Tt 1156 (by decide +kernel) rfl, am_Tp 50 (by decide +kernel) rfl⟩
theorem cv_RX5_214 : am_CV RX5 214 m_X5_isWord := ⟨am_Tt 1159 (by decide +kernel) rfl, am_Tt 1161 (by decide +kernel) rfl, am_Tp 51 (by decide +kernel) rfl⟩
theorem cv_RX5_185 : am_CV RX5 185 m_J0_length_8abf5 := ⟨am_Tt 1163 (by decide +kernel) rfl, am_Tt 463 (by decide +kernel) rfl, am_Tt 464 (by decide +kernel) rfl⟩
theorem cv_RX5_190 : am_CV RX5 190 m_J0_charAt_5068e := ⟨am_Tt 1164 (by decide +kernel) rfl, am_Tt 473 (by decide +kernel) rfl, am_Tt 474 (by decide +kernel) rfl⟩
theorem cv_RX5_218 : am_CV RX5 218 m_X5_heapTold := ⟨am_Tt 1165 (by decide +kernel) rfl, am_Tt 1167 (by decide +kernel) rfl, am_Tp 52 (by decide +kernel) rfl⟩
theorem cv_RX5_205 : am_CV RX5 205 m_X5_tells := ⟨am_Tt 1169 (by decide +kernel) rfl, am_Tt 1171 (by decide +kernel) rfl, am_Tp 53 (by decide +kernel) rfl⟩
theorem cv_RX5_201 : am_CV RX5 201 m_X5_number := ⟨am_Tt 1173 (by decide +kernel) rfl, am_Tt 1175 (by decide +kernel) rfl, am_Tp 54 (by decide +kernel) rfl⟩
theorem cv_RX5_194 : am_CV RX5 194 m_X5_wrong := ⟨am_Tt 1177 (by decide +kernel) rfl, am_Tt 1179 (by decide +kernel) rfl, am_Tp 55 (by decide +kernel) rfl⟩
theorem cv_RX5_223 : am_CV RX5 223 m_X5_swapTold := ⟨am_Tt 1182 (by decide +kernel) rfl, am_Tt 1184 (by decide +kernel) rfl, am_Tp 56 (by decide +kernel) rfl⟩
theorem cv_RX5_228 : am_CV RX5 228 m_X5_readTold := ⟨am_Tt 1187 (by decide +kernel) rfl, am_Tt 1189 (by decide +kernel) rfl, am_Tp 57 (by decide +kernel) rfl⟩
theorem cv_RX5_208 : am_CV RX5 208 m_X5_isThere := ⟨am_Tt 1191 (by decide +kernel) rfl, am_Tt 1193 (by decide +kernel) rfl, am_Tp 58 (by decide +kernel) rfl⟩
theorem cv_RX5_289 : am_CV RX5 289 m_X5_leftNow := ⟨am_Tt 1195 (by decide +kernel) rfl, am_Tt 1197 (by decide +kernel) rfl, am_Tp 59 (by decide +kernel) rfl⟩
theorem cv_RX5_283 : am_CV RX5 283 m_X5_heapAt := ⟨am_Tt 1199 (by decide +kernel) rfl, am_Tt 1201 (by decide +kernel) rfl, am_Tp 60 (by decide +kernel) rfl⟩
theorem cv_RX5_286 : am_CV RX5 286 m_X5_startOf := ⟨am_Tt 1203 (by decide +kernel) rfl, am_Tt 1205 (by decide +kernel) rfl, am_Tp 61 (by decide +kernel) rfl⟩
theorem cv_RX5_232 : am_CV RX5 232 m_X5_fact := ⟨am_Tt 1208 (by decide +kernel) rfl, am_Tt 1096 (by decide +kernel) rfl, am_Tt 1097 (by decide +kernel) rfl⟩
theorem cv_RL_81 : am_CV RL 81 m_X5_heapOf := ⟨am_Tt 1209 (by decide +kernel) rfl, am_Tt 1210 (by decide +kernel) rfl, am_Tt 1211 (by decide +kernel) rfl⟩
theorem cv_RL_85 : am_CV RL 85 m_X5_factOf := ⟨am_Tt 1214 (by decide +kernel) rfl, am_Tt 1215 (by decide +kernel) rfl, am_Tt 1216 (by decide +kernel) rfl⟩
theorem cv_RL_89 : am_CV RL 89 m_X5_rows := ⟨am_Tt 1218 (by decide +kernel) rfl, am_Tt 1219 (by decide +kernel) rfl, am_Tt 1220 (by decide +kernel) rfl⟩
theorem cv_RL_93 : am_CV RL 93 m_X5_ways := ⟨am_Tt 1222 (by decide +kernel) rfl, am_Tt 1223 (by decide +kernel) rfl, am_Tt 1224 (by decide +kernel) rfl⟩
theorem cv_RX5_279 : am_CV RX5 279 m_X5_waysOf := ⟨am_Tt 1226 (by decide +kernel) rfl, am_Tt 1228 (by decide +kernel) rfl, am_Tp 62 (by decide +kernel) rfl⟩
theorem cv_RX5_276 : am_CV RX5 276 m_X5_seeAll := ⟨am_Tt 1230 (by decide +kernel) rfl, am_Tt 1232 (by decide +kernel) rfl, am_Tp 63 (by decide +kernel) rfl⟩
theorem cv_RX5_266 : am_CV RX5 266 m_X5_isFit := ⟨am_Tt 1234 (by decide +kernel) rfl, am_Tt 1236 (by decide +kernel) rfl, am_Tp 64 (by decide +kernel) rfl⟩
theorem cv_RX5_257 : am_CV RX5 257 m_X5_readA := ⟨am_Tt 1238 (by decide +kernel) rfl, am_Tt 1240 (by decide +kernel) rfl, am_Tp 65 (by decide +kernel) rfl⟩
theorem cv_RX5_260 : am_CV RX5 260 m_X5_holds_ := ⟨am_Tt 1242 (by decide +kernel) rfl, am_Tt 1244 (by decide +kernel) rfl, am_Tp 66 (by decide +kernel) rfl⟩
theorem cv_RL_98 : am_CV RL 98 m_X5_read := ⟨am_Tt 1246 (by decide +kernel) rfl, am_Tt 1247 (by decide +kernel) rfl, am_Tt 1248 (by decide +kernel) rfl⟩
theorem cv_RL_102 : am_CV RL 102 m_X5_slip := ⟨am_Tt 1250 (by decide +kernel) rfl, am_Tt 1251 (by decide +kernel) rfl, am_Tt 1252 (by decide +kernel) rfl⟩
theorem cv_RL_106 : am_CV RL 106 m_X5_again := ⟨am_Tt 1254 (by decide +kernel) rfl, am_Tt 1255 (by decide +kernel) rfl, am_Tt 1256 (by decide +kernel) rfl⟩
theorem cv_RL_110 : am_CV RL 110 m_X5_lead := ⟨am_Tt 1258 (by decide +kernel) rfl, am_Tt 1259 (by decide +kernel) rfl, am_Tt 1260 (by decide +kernel) rfl⟩
theorem cv_RL_114 : am_CV RL 114 m_X5_ahead := ⟨am_Tt 1262 (by decide +kernel) rfl, am_Tt 1263 (by decide +kernel) rfl, am_Tt 1264 (by decide +kernel) rfl⟩
theorem cv_RX5_293 : am_CV RX5 293 m_X5_countFits := ⟨am_Tt 1266 (by decide +kernel) rfl, am_Tt 1268 (by decide +kernel) rfl, am_Tp 67 (by decide +kernel) rfl⟩
theorem cv_RL_118 : am_CV RL 118 m_X5_never := ⟨am_Tt 1270 (by decide +kernel) rfl, am_Tt 1271 (by decide +kernel) rfl, am_Tt 1272 (by decide +kernel) rfl⟩
theorem cv_RL_122 : am_CV RL 122 m_X5_level := ⟨am_Tt 1274 (by decide +kernel) rfl, am_Tt 1275 (by decide +kernel) rfl, am_Tt 1276 (by decide +kernel) rfl⟩
theorem cv_RX5_296 : am_CV RX5 296 m_X5_countMoments := ⟨am_Tt 1278 (by decide +kernel) rfl, am_Tt 1280 (by decide +kernel) rfl, am_Tp 68 (by decide +kernel) rfl⟩
theorem cv_RX5_300 : am_CV RX5 300 m_X5_levels := ⟨am_Tt 1282 (by decide +kernel) rfl, am_Tt 1284 (by decide +kernel) rfl, am_Tp 69 (by decide +kernel) rfl⟩
theorem cv_RL_126 : am_CV RL 126 m_X5_last := ⟨am_Tt 1286 (by decide +kernel) rfl, am_Tt 1287 (by decide +kernel) rfl, am_Tt 1288 (by decide +kernel) rfl⟩
theorem cv_RL_130 : am_CV RL 130 m_X5_greatest := ⟨am_Tt 1290 (by decide +kernel) rfl, am_Tt 1291 (by decide +kernel) rfl, am_Tt 1292 (by decide +kernel) rfl⟩
theorem cv_RL_134 : am_CV RL 134 m_X5_sure := ⟨am_Tt 1294 (by decide +kernel) rfl, am_Tt 1295 (by decide +kernel) rfl, am_Tt 1296 (by decide +kernel) rfl⟩
theorem cv_RX5_310 : am_CV RX5 310 m_X5_findSure := ⟨am_Tt 1298 (by decide +kernel) rfl, am_Tt 1300 (by decide +kernel) rfl, am_Tp 70 (by decide +kernel) rfl⟩
theorem cv_RL_138 : am_CV RL 138 m_X5_soFar := ⟨am_Tt 1302 (by decide +kernel) rfl, am_Tt 1303 (by decide +kernel) rfl, am_Tt 1304 (by decide +kernel) rfl⟩
theorem cv_RX5_313 : am_CV RX5 313 m_X5_through := ⟨am_Tt 1306 (by decide +kernel) rfl, am_Tt 1308 (by decide +kernel) rfl, am_Tp 71 (by decide +kernel) rfl⟩
theorem cv_RL_143 : am_CV RL 143 m_X5_spent := ⟨am_Tt 1310 (by decide +kernel) rfl, am_Tt 1311 (by decide +kernel) rfl, am_Tt 1312 (by decide +kernel) rfl⟩
theorem cv_RX5_316 : am_CV RX5 316 m_X5_spentNow := ⟨am_Tt 1314 (by decide +kernel) rfl, am_Tt 1316 (by decide +kernel) rfl, am_Tp 72 (by decide +kernel) rfl⟩
theorem cv_RL_147 : am_CV RL 147 m_X5_mean := ⟨am_Tt 1318 (by decide +kernel) rfl, am_Tt 1319 (by decide +kernel) rfl, am_Tt 1320 (by decide +kernel) rfl⟩
theorem cv_RL_151 : am_CV RL 151 m_X5_price := ⟨am_Tt 1322 (by decide +kernel) rfl, am_Tt 1323 (by decide +kernel) rfl, am_Tt 1324 (by decide +kernel) rfl⟩
theorem cv_RL_155 : am_CV RL 155 m_X5_often := ⟨am_Tt 1327 (by decide +kernel) rfl, am_Tt 1328 (by decide +kernel) rfl, am_Tt 1329 (by decide +kernel) rfl⟩
theorem cv_RL_159 : am_CV RL 159 m_X5_half := ⟨am_Tt 1331 (by decide +kernel) rfl, am_Tt 1332 (by decide +kernel) rfl, am_Tt 1333 (by decide +kernel) rfl⟩
theorem cv_RL_163 : am_CV RL 163 m_X5_isSure := ⟨am_Tt 1335 (by decide +kernel) rfl, am_Tt 1336 (by decide +kernel) rfl, am_Tt 1337 (by decide +kernel) rfl⟩
theorem cv_RL_167 : am_CV RL 167 m_X5_head := ⟨am_Tt 1339 (by decide +kernel) rfl, am_Tt 1340 (by decide +kernel) rfl, am_Tt 1341 (by decide +kernel) rfl⟩
theorem cv_RL_171 : am_CV RL 171 m_X5_judge := ⟨am_Tt 1343 (by decide +kernel) rfl, am_Tt 1344 (by decide +kernel) rfl, am_Tt 1345 (by decide +kernel) rfl⟩
theorem cv_RX5_330 : am_CV RX5 330 m_X5_noRoom := ⟨am_Tt 1347 (by decide +kernel) rfl, am_Tt 1349 (by decide +kernel) rfl, am_Tp 73 (by decide +kernel) rfl⟩
theorem cv_RL_175 : am_CV RL 175 m_X5_told := ⟨am_Tt 1351 (by decide +kernel) rfl, am_Tt 1352 (by decide +kernel) rfl, am_Tt 1353 (by decide +kernel) rfl⟩
theorem cv_RX5_333 : am_CV RX5 333 m_X5_noWhole := ⟨am_Tt 1355 (by decide +kernel) rfl, am_Tt 1357 (by decide +kernel) rfl, am_Tp 74 (by decide +kernel) rfl⟩
theorem cv_RX5_336 : am_CV RX5 336 m_X5_ofTold := ⟨am_Tt 1359 (by decide +kernel) rfl, am_Tt 1361 (by decide +kernel) rfl, am_Tp 75 (by decide +kernel) rfl⟩
theorem cv_RL_179 : am_CV RL 179 m_X5_luck := ⟨am_Tt 1363 (by decide +kernel) rfl, am_Tt 1364 (by decide +kernel) rfl, am_Tt 1365 (by decide +kernel) rfl⟩
theorem cv_RL_184 : am_CV RL 184 m_X5_order := ⟨am_Tt 1367 (by decide +kernel) rfl, am_Tt 1368 (by decide +kernel) rfl, am_Tt 1369 (by decide +kernel) rfl⟩
theorem cv_RX5_348 : am_CV RX5 348 m_X5_seek := ⟨am_Tt 1371 (by decide +kernel) rfl, am_Tt 1373 (by decide +kernel) rfl, am_Tp 76 (by decide +kernel) rfl⟩
theorem cv_RL_188 : am_CV RL 188 m_X5_lost := ⟨am_Tt 1375 (by decide +kernel) rfl, am_Tt 1376 (by decide +kernel) rfl, am_Tt 1377 (by decide +kernel) rfl⟩
theorem cv_RL_192 : am_CV RL 192 m_X5_books := ⟨am_Tt 1380 (by decide +kernel) rfl, am_Tt 1381 (by decide +kernel) rfl, am_Tt 1382 (by decide +kernel) rfl⟩
theorem cv_RX5_354 : am_CV RX5 354 m_X5_noBooks := ⟨am_Tt 1384 (by decide +kernel) rfl, am_Tt 1386 (by decide +kernel) rfl, am_Tp 77 (by decide +kernel) rfl⟩
theorem cv_RX5_357 : am_CV RX5 357 m_X5_unlikeAt := ⟨am_Tt 1388 (by decide +kernel) rfl, am_Tt 1390 (by decide +kernel) rfl, am_Tp 78 (by decide +kernel) rfl⟩
theorem cv_RL_196 : am_CV RL 196 m_X5_unlike := ⟨am_Tt 1392 (by decide +kernel) rfl, am_Tt 1393 (by decide +kernel) rfl, am_Tt 1394 (by decide +kernel) rfl⟩
theorem cv_RL_200 : am_CV RL 200 m_X5_draw := ⟨am_Tt 1396 (by decide +kernel) rfl, am_Tt 1397 (by decide +kernel) rfl, am_Tt 1398 (by decide +kernel) rfl⟩
theorem cv_RX5_364 : am_CV RX5 364 m_X5_drawOne := ⟨am_Tt 1400 (by decide +kernel) rfl, am_Tt 1402 (by decide +kernel) rfl, am_Tp 79 (by decide +kernel) rfl⟩
theorem cv_RX5_361 : am_CV RX5 361 m_X5_below := ⟨am_Tt 1404 (by decide +kernel) rfl, am_Tt 1406 (by decide +kernel) rfl, am_Tp 80 (by decide +kernel) rfl⟩
theorem cv_RL_204 : am_CV RL 204 m_X5_evening := ⟨am_Tt 1409 (by decide +kernel) rfl, am_Tt 1410 (by decide +kernel) rfl, am_Tt 1411 (by decide +kernel) rfl⟩
theorem cv_RL_208 : am_CV RL 208 m_X5_seed := ⟨am_Tt 1413 (by decide +kernel) rfl, am_Tt 1414 (by decide +kernel) rfl, am_Tt 1415 (by decide +kernel) rfl⟩
theorem cv_RL_212 : am_CV RL 212 m_X5_image := ⟨am_Tt 1417 (by decide +kernel) rfl, am_Tt 1418 (by decide +kernel) rfl, am_Tt 1419 (by decide +kernel) rfl⟩
theorem cv_RL_216 : am_CV RL 216 m_X5_back := ⟨am_Tt 1421 (by decide +kernel) rfl, am_Tt 1422 (by decide +kernel) rfl, am_Tt 1423 (by decide +kernel) rfl⟩
theorem cv_RL_220 : am_CV RL 220 m_X5_status := ⟨am_Tt 1425 (by decide +kernel) rfl, am_Tt 1426 (by decide +kernel) rfl, am_Tt 1427 (by decide +kernel) rfl⟩
theorem fl_RX0_34 : am_FL RX0 34 1 14 0 := ⟨RX1, TX1, rfl, by decide, am_Tt 28 (by decide +kernel) rfl, fi_X1, tyX1, tyX1_ok, nmX1⟩
theorem fl_RX1_40 : am_FL RX1 40 1 14 0 := ⟨RX1, TX1, rfl, by decide, am_Tt 29 (by decide +kernel) rfl, fi_X1, tyX1, tyX1_ok, nmX1⟩
theorem fl_RX3_61 : am_FL RX3 61 1 14 0 := ⟨RX1, TX1, rfl, by decide, am_Tt 30 (by decide +kernel) rfl, fi_X1, tyX1, tyX1_ok, nmX1⟩
theorem fl_RX4_123 : am_FL RX4 123 1 14 0 := ⟨RX1, TX1, rfl, by decide, am_Tt 31 (by decide +kernel) rfl, fi_X1, tyX1, tyX1_ok, nmX1⟩
theorem fl_RX1_37 : am_FL RX1 37 1 14 1 := ⟨RX1, TX1, rfl, by decide, am_Tt 32 (by decide +kernel) rfl, fi_X1, tyX1, tyX1_ok, nmX1⟩
theorem fl_RX0_53 : am_FL RX0 53 1 14 1 := ⟨RX1, TX1, rfl, by decide, am_Tt 33 (by decide +kernel) rfl, fi_X1, tyX1, tyX1_ok, nmX1⟩
theorem fl_RX4_282 : am_FL RX4 282 1 14 1 := ⟨RX1, TX1, rfl, by decide, am_Tt 34 (by decide +kernel) rfl, fi_X1, tyX1, tyX1_ok, nmX1⟩
theorem fl_RX0_50 : am_FL RX0 50 1 14 2 := ⟨RX1, TX1, rfl, by decide, am_Tt 35 (by decide +kernel) rfl, fi_X1, tyX1, tyX1_ok, nmX1⟩
theorem fl_RX1_43 : am_FL RX1 43 1 14 2 := ⟨RX1, TX1, rfl, by decide, am_Tt 36 (by decide +kernel) rfl, fi_X1, tyX1, tyX1_ok, nmX1⟩
theorem fl_RX4_279 : am_FL RX4 279 1 14 2 := ⟨RX1, TX1, rfl, by decide, am_Tt 37 (by decide +kernel) rfl, fi_X1, tyX1, tyX1_ok, nmX1⟩
theorem fl_RX1_9 : am_FL RX1 9 1 14 3 := ⟨RX1, TX1, rfl, by decide, am_Tt 38 (by decide +kernel) rfl, fi_X1, tyX1, tyX1_ok, nmX1⟩
theorem fl_RX0_40 : am_FL RX0 40 1 14 3 := ⟨RX1, TX1, rfl, by decide, am_Tt 39 (by decide +kernel) rfl, fi_X1, tyX1, tyX1_ok, nmX1⟩
theorem fl_RX4_165 : am_FL RX4 165 1 14 3 := ⟨RX1, TX1, rfl, by decide, am_Tt 40 (by decide +kernel) rfl, fi_X1, tyX1, tyX1_ok, nmX1⟩
theorem fl_RX1_15 : am_FL RX1 15 1 14 4 := ⟨RX1, TX1, rfl, by decide, am_Tt 41 (by decide +kernel) rfl, fi_X1, tyX1, tyX1_ok, nmX1⟩
theorem fl_RX0_43 : am_FL RX0 43 1 14 4 := ⟨RX1, TX1, rfl, by decide, am_Tt 42 (by decide +kernel) rfl, fi_X1, tyX1, tyX1_ok, nmX1⟩
theorem fl_RX4_168 : am_FL RX4 168 1 14 4 := ⟨RX1, TX1, rfl, by decide, am_Tt 43 (by decide +kernel) rfl, fi_X1, tyX1, tyX1_ok, nmX1⟩
theorem fl_RX1_18 : am_FL RX1 18 1 14 5 := ⟨RX1, TX1, rfl, by decide, am_Tt 44 (by decide +kernel) rfl, fi_X1, tyX1, tyX1_ok, nmX1⟩
theorem fl_RX0_56 : am_FL RX0 56 1 14 5 := ⟨RX1, TX1, rfl, by decide, am_Tt 45 (by decide +kernel) rfl, fi_X1, tyX1, tyX1_ok, nmX1⟩
theorem fl_RX4_193 : am_FL RX4 193 1 14 5 := ⟨RX1, TX1, rfl, by decide, am_Tt 46 (by decide +kernel) rfl, fi_X1, tyX1, tyX1_ok, nmX1⟩
theorem fl_RX0_63 : am_FL RX0 63 1 14 6 := ⟨RX1, TX1, rfl, by decide, am_Tt 47 (by decide +kernel) rfl, fi_X1, tyX1, tyX1_ok, nmX1⟩
theorem fl_RX3_56 : am_FL RX3 56 1 14 6 := ⟨RX1, TX1, rfl, by decide, am_Tt 48 (by decide +kernel) rfl, fi_X1, tyX1, tyX1_ok, nmX1⟩
theorem fl_RX1_49 : am_FL RX1 49 1 14 6 := ⟨RX1, TX1, rfl, by decide, am_Tt 49 (by decide +kernel) rfl, fi_X1, tyX1, tyX1_ok, nmX1⟩
theorem fl_RX4_120 : am_FL RX4 120 1 14 6 := ⟨RX1, TX1, rfl, by decide, am_Tt 50 (by decide +kernel) rfl, fi_X1, tyX1, tyX1_ok, nmX1⟩
theorem fl_RX1_60 : am_FL RX1 60 1 14 7 := ⟨RX1, TX1, rfl, by decide, am_Tt 51 (by decide +kernel) rfl, fi_X1, tyX1, tyX1_ok, nmX1⟩
theorem fl_RX4_190 : am_FL RX4 190 1 14 7 := ⟨RX1, TX1, rfl, by decide, am_Tt 52 (by decide +kernel) rfl, fi_X1, tyX1, tyX1_ok, nmX1⟩
theorem fl_RX1_21 : am_FL RX1 21 1 14 8 := ⟨RX1, TX1, rfl, by decide, am_Tt 53 (by decide +kernel) rfl, fi_X1, tyX1, tyX1_ok, nmX1⟩
theorem fl_RX0_66 : am_FL RX0 66 1 14 8 := ⟨RX1, TX1, rfl, by decide, am_Tt 54 (by decide +kernel) rfl, fi_X1, tyX1, tyX1_ok, nmX1⟩
theorem fl_RX4_184 : am_FL RX4 184 1 14 8 := ⟨RX1, TX1, rfl, by decide, am_Tt 55 (by decide +kernel) rfl, fi_X1, tyX1, tyX1_ok, nmX1⟩
theorem fl_RX1_46 : am_FL RX1 46 1 14 9 := ⟨RX1, TX1, rfl, by decide, am_Tt 56 (by decide +kernel) rfl, fi_X1, tyX1, tyX1_ok, nmX1⟩
theorem fl_RX0_72 : am_FL RX0 72 1 14 9 := ⟨RX1, TX1, rfl, by decide, am_Tt 57 (by decide +kernel) rfl, fi_X1, tyX1, tyX1_ok, nmX1⟩
theorem fl_RX3_78 : am_FL RX3 78 1 14 9 := ⟨RX1, TX1, rfl, by decide, am_Tt 58 (by decide +kernel) rfl, fi_X1, tyX1, tyX1_ok, nmX1⟩
theorem fl_RX4_132 : am_FL RX4 132 1 14 9 := ⟨RX1, TX1, rfl, by decide, am_Tt 59 (by decide +kernel) rfl, fi_X1, tyX1, tyX1_ok, nmX1⟩
theorem fl_RX1_24 : am_FL RX1 24 1 14 10 := ⟨RX1, TX1, rfl, by decide, am_Tt 60 (by decide +kernel) rfl, fi_X1, tyX1, tyX1_ok, nmX1⟩
theorem fl_RX0_75 : am_FL RX0 75 1 14 10 := ⟨RX1, TX1, rfl, by decide, am_Tt 61 (by decide +kernel) rfl, fi_X1, tyX1, tyX1_ok, nmX1⟩
theorem fl_RX4_171 : am_FL RX4 171 1 14 10 := ⟨RX1, TX1, rfl, by decide, am_Tt 62 (by decide +kernel) rfl, fi_X1, tyX1, tyX1_ok, nmX1⟩
theorem fl_RX1_27 : am_FL RX1 27 1 14 11 := ⟨RX1, TX1, rfl, by decide, am_Tt 63 (by decide +kernel) rfl, fi_X1, tyX1, tyX1_ok, nmX1⟩
theorem fl_RX0_78 : am_FL RX0 78 1 14 11 := ⟨RX1, TX1, rfl, by decide, am_Tt 64 (by decide +kernel) rfl, fi_X1, tyX1, tyX1_ok, nmX1⟩
theorem fl_RX4_174 : am_FL RX4 174 1 14 11 := ⟨RX1, TX1, rfl, by decide, am_Tt 65 (by decide +kernel) rfl, fi_X1, tyX1, tyX1_ok, nmX1⟩
theorem fl_RX1_30 : am_FL RX1 30 1 14 12 := ⟨RX1, TX1, rfl, by decide, am_Tt 66 (by decide +kernel) rfl, fi_X1, tyX1, tyX1_ok, nmX1⟩
theorem fl_RX0_81 : am_FL RX0 81 1 14 12 := ⟨RX1, TX1, rfl, by decide, am_Tt 67 (by decide +kernel) rfl, fi_X1, tyX1, tyX1_ok, nmX1⟩
theorem fl_RX4_177 : am_FL RX4 177 1 14 12 := ⟨RX1, TX1, rfl, by decide, am_Tt 68 (by decide +kernel) rfl, fi_X1, tyX1, tyX1_ok, nmX1⟩
theorem fl_RX1_33 : am_FL RX1 33 1 14 13 := ⟨RX1, TX1, rfl, by decide, am_Tt 69 (by decide +kernel) rfl, fi_X1, tyX1, tyX1_ok, nmX1⟩
theorem fl_RX4_310 : am_FL RX4 310 1 14 13 := ⟨RX1, TX1, rfl, by decide, am_Tt 70 (by decide +kernel) rfl, fi_X1, tyX1, tyX1_ok, nmX1⟩
theorem fl_RX0_88 : am_FL RX0 88 0 8 0 := ⟨RX0, TX0, rfl, by decide, am_Tt 107 (by decide +kernel) rfl, fi_X0, tyX0, tyX0_ok, nmX0⟩
theorem fl_RX4_215 : am_FL RX4 215 0 8 0 := ⟨RX0, TX0, rfl, by decide, am_Tt 108 (by decide +kernel) rfl, fi_X0, tyX0, tyX0_ok, nmX0⟩
theorem fl_RX0_91 : am_FL RX0 91 0 8 1 := ⟨RX0, TX0, rfl, by decide, am_Tt 109 (by decide +kernel) rfl, fi_X0, tyX0, tyX0_ok, nmX0⟩
theorem fl_RX0_9 : am_FL RX0 9 0 8 2 := ⟨RX0, TX0, rfl, by decide, am_Tt 110 (by decide +kernel) rfl, fi_X0, tyX0, tyX0_ok, nmX0⟩
theorem fl_RX4_224 : am_FL RX4 224 0 8 2 := ⟨RX0, TX0, rfl, by decide, am_Tt 111 (by decide +kernel) rfl, fi_X0, tyX0, tyX0_ok, nmX0⟩
theorem fl_RX0_15 : am_FL RX0 15 0 8 3 := ⟨RX0, TX0, rfl, by decide, am_Tt 112 (by decide +kernel) rfl, fi_X0, tyX0, tyX0_ok, nmX0⟩
theorem fl_RX0_18 : am_FL RX0 18 0 8 4 := ⟨RX0, TX0, rfl, by decide, am_Tt 113 (by decide +kernel) rfl, fi_X0, tyX0, tyX0_ok, nmX0⟩
theorem fl_RX0_21 : am_FL RX0 21 0 8 5 := ⟨RX0, TX0, rfl, by decide, am_Tt 114 (by decide +kernel) rfl, fi_X0, tyX0, tyX0_ok, nmX0⟩
theorem fl_RX0_24 : am_FL RX0 24 0 8 6 := ⟨RX0, TX0, rfl, by decide, am_Tt 115 (by decide +kernel) rfl, fi_X0, tyX0, tyX0_ok, nmX0⟩
theorem fl_RX0_28 : am_FL RX0 28 0 8 7 := ⟨RX0, TX0, rfl, by decide, am_Tt 116 (by decide +kernel) rfl, fi_X0, tyX0, tyX0_ok, nmX0⟩
theorem fl_RX3_15 : am_FL RX3 15 3 6 0 := ⟨RX3, TX3, rfl, by decide, am_Tt 141 (by decide +kernel) rfl, fi_X3, tyX3, tyX3_ok, nmX3⟩
theorem fl_RX4_145 : am_FL RX4 145 3 6 0 := ⟨RX3, TX3, rfl, by decide, am_Tt 142 (by decide +kernel) rfl, fi_X3, tyX3, tyX3_ok, nmX3⟩
theorem fl_RX3_85 : am_FL RX3 85 3 6 1 := ⟨RX3, TX3, rfl, by decide, am_Tt 143 (by decide +kernel) rfl, fi_X3, tyX3, tyX3_ok, nmX3⟩
theorem fl_RX4_159 : am_FL RX4 159 3 6 1 := ⟨RX3, TX3, rfl, by decide, am_Tt 144 (by decide +kernel) rfl, fi_X3, tyX3, tyX3_ok, nmX3⟩
theorem fl_RX3_9 : am_FL RX3 9 3 6 2 := ⟨RX3, TX3, rfl, by decide, am_Tt 145 (by decide +kernel) rfl, fi_X3, tyX3, tyX3_ok, nmX3⟩
theorem fl_RX3_19 : am_FL RX3 19 3 6 3 := ⟨RX3, TX3, rfl, by decide, am_Tt 146 (by decide +kernel) rfl, fi_X3, tyX3, tyX3_ok, nmX3⟩
theorem fl_RX3_29 : am_FL RX3 29 3 6 4 := ⟨RX3, TX3, rfl, by decide, am_Tt 147 (by decide +kernel) rfl, fi_X3, tyX3, tyX3_ok, nmX3⟩
theorem fl_RX3_68 : am_FL RX3 68 3 6 5 := ⟨RX3, TX3, rfl, by decide, am_Tt 148 (by decide +kernel) rfl, fi_X3, tyX3, tyX3_ok, nmX3⟩
theorem fl_RX2_9 : am_FL RX2 9 2 4 0 := ⟨RX2, TX2, rfl, by decide, am_Tt 169 (by decide +kernel) rfl, fi_X2, tyX2, tyX2_ok, nmX2⟩
theorem fl_RX4_77 : am_FL RX4 77 2 4 0 := ⟨RX2, TX2, rfl, by decide, am_Tt 170 (by decide +kernel) rfl, fi_X2, tyX2, tyX2_ok, nmX2⟩
theorem fl_RX2_19 : am_FL RX2 19 2 4 1 := ⟨RX2, TX2, rfl, by decide, am_Tt 171 (by decide +kernel) rfl, fi_X2, tyX2, tyX2_ok, nmX2⟩
theorem fl_RX4_323 : am_FL RX4 323 2 4 1 := ⟨RX2, TX2, rfl, by decide, am_Tt 172 (by decide +kernel) rfl, fi_X2, tyX2, tyX2_ok, nmX2⟩
theorem fl_RX2_28 : am_FL RX2 28 2 4 2 := ⟨RX2, TX2, rfl, by decide, am_Tt 173 (by decide +kernel) rfl, fi_X2, tyX2, tyX2_ok, nmX2⟩
theorem fl_RX4_114 : am_FL RX4 114 2 4 2 := ⟨RX2, TX2, rfl, by decide, am_Tt 174 (by decide +kernel) rfl, fi_X2, tyX2, tyX2_ok, nmX2⟩
theorem fl_RX2_15 : am_FL RX2 15 2 4 3 := ⟨RX2, TX2, rfl, by decide, am_Tt 175 (by decide +kernel) rfl, fi_X2, tyX2, tyX2_ok, nmX2⟩
theorem fl_RX4_84 : am_FL RX4 84 2 4 3 := ⟨RX2, TX2, rfl, by decide, am_Tt 176 (by decide +kernel) rfl, fi_X2, tyX2, tyX2_ok, nmX2⟩
theorem fl_RX4_12 : am_FL RX4 12 4 9 0 := ⟨RX4, TX4, rfl, by decide, am_Tt 186 (by decide +kernel) rfl, fi_X4, tyX4, tyX4_ok, nmX4⟩
theorem fl_RX4_16 : am_FL RX4 16 4 9 1 := ⟨RX4, TX4, rfl, by decide, am_Tt 187 (by decide +kernel) rfl, fi_X4, tyX4, tyX4_ok, nmX4⟩
theorem fl_RX4_19 : am_FL RX4 19 4 9 2 := ⟨RX4, TX4, rfl, by decide, am_Tt 188 (by decide +kernel) rfl, fi_X4, tyX4, tyX4_ok, nmX4⟩
theorem fl_RX4_25 : am_FL RX4 25 4 9 3 := ⟨RX4, TX4, rfl, by decide, am_Tt 189 (by decide +kernel) rfl, fi_X4, tyX4, tyX4_ok, nmX4⟩
theorem fl_RX4_32 : am_FL RX4 32 4 9 4 := ⟨RX4, TX4, rfl, by decide, am_Tt 190 (by decide +kernel) rfl, fi_X4, tyX4, tyX4_ok, nmX4⟩
theorem fl_RX4_38 : am_FL RX4 38 4 9 5 := ⟨RX4, TX4, rfl, by decide, am_Tt 191 (by decide +kernel) rfl, fi_X4, tyX4, tyX4_ok, nmX4⟩
theorem fl_RX4_42 : am_FL RX4 42 4 9 6 := ⟨RX4, TX4, rfl, by decide, am_Tt 192 (by decide +kernel) rfl, fi_X4, tyX4, tyX4_ok, nmX4⟩
theorem fl_RX4_46 : am_FL RX4 46 4 9 7 := ⟨RX4, TX4, rfl, by decide, am_Tt 193 (by decide +kernel) rfl, fi_X4, tyX4, tyX4_ok, nmX4⟩
theorem fl_RX4_313 : am_FL RX4 313 4 9 8 := ⟨RX4, TX4, rfl, by decide, am_Tt 194 (by decide +kernel) rfl, fi_X4, tyX4, tyX4_ok, nmX4⟩
theorem fs_RX4_324 : Cond.fieldLink RX4 324 "AlwaysAhead" "KIND_ABOVE" "[I" ∈ am_T := am_Tt 302 (by decide +kernel) rfl
theorem fs_RJ0_38 : Cond.fieldLink RJ0 38 "java/lang/String" "COMPACT_STRINGS" "Z" ∈ am_T := am_Tt 470 (by decide +kernel) rfl
theorem fs_RJ0_1053 : Cond.fieldLink RJ0 1053 "jdk/internal/util/Preconditions" "SIOOBE_FORMATTER" "Ljava/util/function/BiFunction;" ∈ am_T := am_Tt 486 (by decide +kernel) rfl
theorem fs_RJ2_44 : Cond.fieldLink RJ2 44 "java/lang/StringUTF16" "$assertionsDisabled" "Z" ∈ am_T := am_Tt 504 (by decide +kernel) rfl
theorem fs_RJ2_59 : Cond.fieldLink RJ2 59 "java/lang/StringUTF16" "HI_BYTE_SHIFT" "I" ∈ am_T := am_Tt 506 (by decide +kernel) rfl
theorem fs_RJ2_63 : Cond.fieldLink RJ2 63 "java/lang/StringUTF16" "LO_BYTE_SHIFT" "I" ∈ am_T := am_Tt 508 (by decide +kernel) rfl
theorem fs_RX4_273 : Cond.fieldLink RX4 273 "AlwaysAhead" "ORDERS" "[I" ∈ am_T := am_Tt 778 (by decide +kernel) rfl
theorem fl_RX5_7 : am_FL RX5 7 5 40 0 := ⟨RX5, TX5, rfl, by decide, am_Tt 867 (by decide +kernel) rfl, fi_X5, tyX5, tyX5_ok, nmX5⟩
theorem fl_RX5_13 : am_FL RX5 13 5 40 1 := ⟨RX5, TX5, rfl, by decide, am_Tt 868 (by decide +kernel) rfl, fi_X5, tyX5, tyX5_ok, nmX5⟩
theorem fl_RX5_16 : am_FL RX5 16 5 40 2 := ⟨RX5, TX5, rfl, by decide, am_Tt 869 (by decide +kernel) rfl, fi_X5, tyX5, tyX5_ok, nmX5⟩
theorem fl_RX5_21 : am_FL RX5 21 5 40 3 := ⟨RX5, TX5, rfl, by decide, am_Tt 870 (by decide +kernel) rfl, fi_X5, tyX5, tyX5_ok, nmX5⟩
theorem fl_RX5_24 : am_FL RX5 24 5 40 4 := ⟨RX5, TX5, rfl, by decide, am_Tt 871 (by decide +kernel) rfl, fi_X5, tyX5, tyX5_ok, nmX5⟩
theorem fl_RX5_28 : am_FL RX5 28 5 40 5 := ⟨RX5, TX5, rfl, by decide, am_Tt 872 (by decide +kernel) rfl, fi_X5, tyX5, tyX5_ok, nmX5⟩
theorem fl_RX5_31 : am_FL RX5 31 5 40 6 := ⟨RX5, TX5, rfl, by decide, am_Tt 873 (by decide +kernel) rfl, fi_X5, tyX5, tyX5_ok, nmX5⟩
theorem fl_RX5_34 : am_FL RX5 34 5 40 7 := ⟨RX5, TX5, rfl, by decide, am_Tt 874 (by decide +kernel) rfl, fi_X5, tyX5, tyX5_ok, nmX5⟩
theorem fl_RX5_159 : am_FL RX5 159 5 40 8 := ⟨RX5, TX5, rfl, by decide, am_Tt 875 (by decide +kernel) rfl, fi_X5, tyX5, tyX5_ok, nmX5⟩
theorem fl_RX5_37 : am_FL RX5 37 5 40 9 := ⟨RX5, TX5, rfl, by decide, am_Tt 876 (by decide +kernel) rfl, fi_X5, tyX5, tyX5_ok, nmX5⟩
theorem fl_RX5_130 : am_FL RX5 130 5 40 10 := ⟨RX5, TX5, rfl, by decide, am_Tt 877 (by decide +kernel) rfl, fi_X5, tyX5, tyX5_ok, nmX5⟩
theorem fl_RX5_40 : am_FL RX5 40 5 40 11 := ⟨RX5, TX5, rfl, by decide, am_Tt 878 (by decide +kernel) rfl, fi_X5, tyX5, tyX5_ok, nmX5⟩
theorem fl_RX5_43 : am_FL RX5 43 5 40 12 := ⟨RX5, TX5, rfl, by decide, am_Tt 879 (by decide +kernel) rfl, fi_X5, tyX5, tyX5_ok, nmX5⟩
theorem fl_RX5_46 : am_FL RX5 46 5 40 13 := ⟨RX5, TX5, rfl, by decide, am_Tt 880 (by decide +kernel) rfl, fi_X5, tyX5, tyX5_ok, nmX5⟩
theorem fl_RX5_151 : am_FL RX5 151 5 40 14 := ⟨RX5, TX5, rfl, by decide, am_Tt 881 (by decide +kernel) rfl, fi_X5, tyX5, tyX5_ok, nmX5⟩
theorem fl_RX5_51 : am_FL RX5 51 5 40 15 := ⟨RX5, TX5, rfl, by decide, am_Tt 882 (by decide +kernel) rfl, fi_X5, tyX5, tyX5_ok, nmX5⟩
theorem fl_RX5_137 : am_FL RX5 137 5 40 16 := ⟨RX5, TX5, rfl, by decide, am_Tt 883 (by decide +kernel) rfl, fi_X5, tyX5, tyX5_ok, nmX5⟩
theorem fl_RX5_54 : am_FL RX5 54 5 40 17 := ⟨RX5, TX5, rfl, by decide, am_Tt 884 (by decide +kernel) rfl, fi_X5, tyX5, tyX5_ok, nmX5⟩
theorem fl_RX5_57 : am_FL RX5 57 5 40 18 := ⟨RX5, TX5, rfl, by decide, am_Tt 885 (by decide +kernel) rfl, fi_X5, tyX5, tyX5_ok, nmX5⟩
theorem fl_RX5_376 : am_FL RX5 376 5 40 19 := ⟨RX5, TX5, rfl, by decide, am_Tt 886 (by decide +kernel) rfl, fi_X5, tyX5, tyX5_ok, nmX5⟩
theorem fl_RX5_367 : am_FL RX5 367 5 40 20 := ⟨RX5, TX5, rfl, by decide, am_Tt 887 (by decide +kernel) rfl, fi_X5, tyX5, tyX5_ok, nmX5⟩
theorem fl_RX5_162 : am_FL RX5 162 5 40 21 := ⟨RX5, TX5, rfl, by decide, am_Tt 888 (by decide +kernel) rfl, fi_X5, tyX5, tyX5_ok, nmX5⟩
theorem fl_RX5_171 : am_FL RX5 171 5 40 22 := ⟨RX5, TX5, rfl, by decide, am_Tt 889 (by decide +kernel) rfl, fi_X5, tyX5, tyX5_ok, nmX5⟩
theorem fl_RX5_165 : am_FL RX5 165 5 40 23 := ⟨RX5, TX5, rfl, by decide, am_Tt 890 (by decide +kernel) rfl, fi_X5, tyX5, tyX5_ok, nmX5⟩
theorem fl_RX5_168 : am_FL RX5 168 5 40 24 := ⟨RX5, TX5, rfl, by decide, am_Tt 891 (by decide +kernel) rfl, fi_X5, tyX5, tyX5_ok, nmX5⟩
theorem fl_RX5_182 : am_FL RX5 182 5 40 25 := ⟨RX5, TX5, rfl, by decide, am_Tt 892 (by decide +kernel) rfl, fi_X5, tyX5, tyX5_ok, nmX5⟩
theorem fl_RX5_61 : am_FL RX5 61 5 40 26 := ⟨RX5, TX5, rfl, by decide, am_Tt 893 (by decide +kernel) rfl, fi_X5, tyX5, tyX5_ok, nmX5⟩
theorem fl_RX5_235 : am_FL RX5 235 5 40 27 := ⟨RX5, TX5, rfl, by decide, am_Tt 894 (by decide +kernel) rfl, fi_X5, tyX5, tyX5_ok, nmX5⟩
theorem fl_RX5_66 : am_FL RX5 66 5 40 28 := ⟨RX5, TX5, rfl, by decide, am_Tt 895 (by decide +kernel) rfl, fi_X5, tyX5, tyX5_ok, nmX5⟩
theorem fl_RX5_254 : am_FL RX5 254 5 40 29 := ⟨RX5, TX5, rfl, by decide, am_Tt 896 (by decide +kernel) rfl, fi_X5, tyX5, tyX5_ok, nmX5⟩
theorem fl_RX5_69 : am_FL RX5 69 5 40 30 := ⟨RX5, TX5, rfl, by decide, am_Tt 897 (by decide +kernel) rfl, fi_X5, tyX5, tyX5_ok, nmX5⟩
theorem fl_RX5_72 : am_FL RX5 72 5 40 31 := ⟨RX5, TX5, rfl, by decide, am_Tt 898 (by decide +kernel) rfl, fi_X5, tyX5, tyX5_ok, nmX5⟩
theorem fl_RX5_75 : am_FL RX5 75 5 40 32 := ⟨RX5, TX5, rfl, by decide, am_Tt 899 (by decide +kernel) rfl, fi_X5, tyX5, tyX5_ok, nmX5⟩
theorem fl_RX5_78 : am_FL RX5 78 5 40 33 := ⟨RX5, TX5, rfl, by decide, am_Tt 900 (by decide +kernel) rfl, fi_X5, tyX5, tyX5_ok, nmX5⟩
theorem fl_RX5_81 : am_FL RX5 81 5 40 34 := ⟨RX5, TX5, rfl, by decide, am_Tt 901 (by decide +kernel) rfl, fi_X5, tyX5, tyX5_ok, nmX5⟩
theorem fl_RX5_84 : am_FL RX5 84 5 40 35 := ⟨RX5, TX5, rfl, by decide, am_Tt 902 (by decide +kernel) rfl, fi_X5, tyX5, tyX5_ok, nmX5⟩
theorem fl_RX5_87 : am_FL RX5 87 5 40 36 := ⟨RX5, TX5, rfl, by decide, am_Tt 903 (by decide +kernel) rfl, fi_X5, tyX5, tyX5_ok, nmX5⟩
theorem fl_RX5_90 : am_FL RX5 90 5 40 37 := ⟨RX5, TX5, rfl, by decide, am_Tt 904 (by decide +kernel) rfl, fi_X5, tyX5, tyX5_ok, nmX5⟩
theorem fl_RX5_344 : am_FL RX5 344 5 40 38 := ⟨RX5, TX5, rfl, by decide, am_Tt 905 (by decide +kernel) rfl, fi_X5, tyX5, tyX5_ok, nmX5⟩
theorem fl_RX5_340 : am_FL RX5 340 5 40 39 := ⟨RX5, TX5, rfl, by decide, am_Tt 906 (by decide +kernel) rfl, fi_X5, tyX5, tyX5_ok, nmX5⟩
theorem fs_RJ0_9 : Cond.fieldLink RJ0 9 "java/lang/String" "value" "[B" ∈ am_T := am_Tt 1432 (by decide +kernel) rfl
theorem fs_RJ0_15 : Cond.fieldLink RJ0 15 "java/lang/String" "coder" "B" ∈ am_T := am_Tt 1433 (by decide +kernel) rfl
theorem kc_RX4_250 : Cond.constantLong RX4 250 (1000) ∈ am_T := am_Tt 720 (by decide +kernel) rfl
theorem kc_RX1_74 : Cond.constant RX1 74 (1103515245) ∈ am_T := am_Tt 824 (by decide +kernel) rfl
theorem kc_RX5_93 : Cond.constantLong RX5 93 (7) ∈ am_T := am_Tt 993 (by decide +kernel) rfl
theorem kc_RX5_99 : Cond.constantLong RX5 99 (4) ∈ am_T := am_Tt 997 (by decide +kernel) rfl
theorem kc_RX5_101 : Cond.constantLong RX5 101 (40) ∈ am_T := am_Tt 998 (by decide +kernel) rfl
theorem kc_RX5_118 : Cond.constantLong RX5 118 (6) ∈ am_T := am_Tt 1034 (by decide +kernel) rfl
theorem kc_RX5_120 : Cond.constantLong RX5 120 (9) ∈ am_T := am_Tt 1035 (by decide +kernel) rfl
theorem kc_RX5_147 : Cond.constantLong RX5 147 (3) ∈ am_T := am_Tt 1099 (by decide +kernel) rfl
theorem kc_RX5_149 : Cond.constantLong RX5 149 (24) ∈ am_T := am_Tt 1100 (by decide +kernel) rfl
theorem kc_RX5_157 : Cond.constantLong RX5 157 (255) ∈ am_T := am_Tt 1117 (by decide +kernel) rfl
theorem kc_RX5_181 : Cond.constant RX5 181 (100000) ∈ am_T := am_Tt 1153 (by decide +kernel) rfl
theorem kc_RX5_252 : Cond.constantLong RX5 252 (2) ∈ am_T := am_Tt 1213 (by decide +kernel) rfl
theorem kc_RX5_319 : Cond.constantLong RX5 319 (1000) ∈ am_T := am_Tt 1326 (by decide +kernel) rfl
theorem kc_RX5_352 : Cond.constantLong RX5 352 (20) ∈ am_T := am_Tt 1379 (by decide +kernel) rfl
theorem kc_RX5_360 : Cond.constant RX5 360 (1103515245) ∈ am_T := am_Tt 1408 (by decide +kernel) rfl
theorem kc_RX5_379 : Cond.constantLong RX5 379 (12) ∈ am_T := am_Tt 1429 (by decide +kernel) rfl
theorem kc_RX5_381 : Cond.constantLong RX5 381 (16) ∈ am_T := am_Tt 1430 (by decide +kernel) rfl
theorem kc_RL_18 : Cond.constantLong RL 18 (4294967295) ∈ am_T := am_Tt 1431 (by decide +kernel) rfl
theorem cc_RX4_88 : am_CC RX4 88 := ⟨am_Tt 268 (by decide +kernel) rfl, am_Tt 270 (by decide +kernel) rfl, am_Tt 269 (by decide +kernel) rfl, am_Tt 8 (by decide +kernel) rfl⟩
theorem cc_RX1_75 : am_CC RX1 75 := ⟨am_Tt 440 (by decide +kernel) rfl, am_Tt 270 (by decide +kernel) rfl, am_Tt 269 (by decide +kernel) rfl, am_Tt 8 (by decide +kernel) rfl⟩
theorem cc_RX0_149 : am_CC RX0 149 := ⟨am_Tt 662 (by decide +kernel) rfl, am_Tt 270 (by decide +kernel) rfl, am_Tt 269 (by decide +kernel) rfl, am_Tt 8 (by decide +kernel) rfl⟩
theorem cm_RX0_92 : am_CM RX0 92 Lib.Math.max.name Lib.Math.max.code 2 := ⟨am_Tt 320 (by decide +kernel) rfl, am_Tt 321 (by decide +kernel) rfl, am_Tt 9 (by decide +kernel) rfl, am_Tt 322 (by decide +kernel) rfl⟩
theorem cm_RX0_98 : am_CM RX0 98 Lib.Math.min.name Lib.Math.min.code 2 := ⟨am_Tt 323 (by decide +kernel) rfl, am_Tt 324 (by decide +kernel) rfl, am_Tt 9 (by decide +kernel) rfl, am_Tt 325 (by decide +kernel) rfl⟩
theorem cm_RX3_110 : am_CM RX3 110 Lib.Math.min.name Lib.Math.min.code 2 := ⟨am_Tt 452 (by decide +kernel) rfl, am_Tt 324 (by decide +kernel) rfl, am_Tt 9 (by decide +kernel) rfl, am_Tt 325 (by decide +kernel) rfl⟩
theorem cm_RX0_117 : am_CM RX0 117 yJ9_floorDiv_7cf53 cJ9_floorDiv_7cf53 3 := ⟨am_Tt 684 (by decide +kernel) rfl, am_Tt 685 (by decide +kernel) rfl, am_Tt 9 (by decide +kernel) rfl, am_Tt 686 (by decide +kernel) rfl⟩
theorem cm_RX4_361 : am_CM RX4 361 Lib.Math.max.name Lib.Math.max.code 2 := ⟨am_Tt 761 (by decide +kernel) rfl, am_Tt 321 (by decide +kernel) rfl, am_Tt 9 (by decide +kernel) rfl, am_Tt 322 (by decide +kernel) rfl⟩
theorem cm_RX4_285 : am_CM RX4 285 Lib.Math.abs.name Lib.Math.abs.code 1 := ⟨am_Tt 787 (by decide +kernel) rfl, am_Tt 788 (by decide +kernel) rfl, am_Tt 9 (by decide +kernel) rfl, am_Tt 789 (by decide +kernel) rfl⟩
