def m_Cu_init : zMT := (yX0_init, cX0_init, 1, none, 1, 20, 0, 0)
def m_Cu_write : zMT := (yX0_write, cX0_write, 5, none, 0, 0, 0, 0)
def m_Cu_isUpright : zMT := (yX0_isUpright, cX0_isUpright, 1, some .boolean, 0, 0, 0, 0)
def m_Cu_isSuch : zMT := (yX0_isSuch, cX0_isSuch, 2, some .boolean, 0, 0, 0, 0)
def m_Cu_squareOf : zMT := (yX0_squareOf, cX0_squareOf, 1, some .int, 0, 0, 0, 0)
def m_Cu_slopeAs : zMT := (yX0_slopeAs, cX0_slopeAs, 2, some .int, 0, 0, 0, 0)
def m_Cu_sideAs : zMT := (yX0_sideAs, cX0_sideAs, 5, some .int, 1, 21, 0, 0)
def m_Cu_turnOver : zMT := (yX0_turnOver, cX0_turnOver, 1, none, 1, 20, 0, 0)
def m_Di_init : zMT := (yX1_init, cX1_init, 1, none, 1, 20, 0, 0)
def m_Di_next : zMT := (yX1_next, cX1_next, 2, some .int, 0, 0, 0, 0)
def m_Ex_sign3 : zMT := (yX2_sign, cX2_sign, 8, some .int, 1, 23, 0, 0)
def m_Ex_sign5 : zMT := (yX2_sign_, cX2_sign_, 12, some .int, 2, 50, 0, 0)
def m_Ex_rootDown : zMT := (yX2_rootDown, cX2_rootDown, 6, some .long, 0, 0, 0, 0)
def m_Fo_init : zMT := (yX3_init, cX3_init, 1, none, 1, 20, 1, 4)
def m_Fo_isForm : zMT := (yX3_isForm, cX3_isForm, 1, some .boolean, 0, 0, 0, 0)
def m_Fo_read : zMT := (yX3_read, cX3_read, 5, none, 0, 0, 0, 0)
def m_Fo_holdsIn : zMT := (yX3_holdsIn, cX3_holdsIn, 5, some .boolean, 2, 45, 0, 0)
def m_Fo_allows : zMT := (yX3_allows, cX3_allows, 2, some .boolean, 0, 0, 0, 0)
def m_Gr_init : zMT := (yX4_init, cX4_init, 1, none, 1, 20, 1, 225)
def m_Gr_number : zMT := (yX4_number, cX4_number, 5, some .int, 3, 74, 0, 0)
def m_Gr_placeOf : zMT := (yX4_placeOf, cX4_placeOf, 2, some .int, 0, 0, 0, 0)
def m_Gr_begin : zMT := (yX4_begin, cX4_begin, 3, none, 0, 0, 0, 0)
def m_Gr_joinNeighbours : zMT := (yX4_joinNeighbours, cX4_joinNeighbours, 8, none, 2, 47, 0, 0)
def m_Gr_join : zMT := (yX4_join, cX4_join, 5, none, 1, 23, 0, 0)
def m_Gr_standsFor : zMT := (yX4_standsFor, cX4_standsFor, 4, some .int, 0, 0, 0, 0)
def m_Pa_init : zMT := (yX5_init, cX5_init, 1, none, 1, 20, 1, 24)
def m_Pa_append : zMT := (yX5_append, cX5_append, 2, some .boolean, 0, 0, 0, 0)
def m_Pa_firstFault : zMT := (yX5_firstFault, cX5_firstFault, 2, some .int, 2, 43, 0, 0)
def m_Pa_isPlane : zMT := (yX5_isPlane, cX5_isPlane, 1, some .boolean, 3, 64, 0, 0)
def m_Pa_fits : zMT := (yX5_fits, cX5_fits, 3, some .boolean, 1, 21, 0, 0)
def m_Pa_kindAt : zMT := (yX5_kindAt, cX5_kindAt, 2, some .int, 0, 0, 0, 0)
def m_Pa_numberAt : zMT := (yX5_numberAt, cX5_numberAt, 3, some .int, 0, 0, 0, 0)
def m_Ri_init : zMT := (yX6_init, cX6_init, 1, none, 1, 20, 1, 8)
def m_Ri_append : zMT := (yX6_append, cX6_append, 2, none, 1, 21, 0, 0)
def m_Ri_back : zMT := (yX6_back, cX6_back, 2, some .int, 1, 22, 0, 0)
def m_Ro_init : zMT := (yX7_init, cX7_init, 1, none, 1, 20, 0, 0)
def m_Ro_write : zMT := (yX7_write, cX7_write, 11, none, 0, 0, 0, 0)
def m_Ro_isFraction : zMT := (yX7_isFraction, cX7_isFraction, 1, some .boolean, 0, 0, 0, 0)
def m_Ro_orderTo : zMT := (yX7_orderTo, cX7_orderTo, 4, some .int, 3, 81, 0, 0)
def m_Ro_signOf : zMT := (yX7_signOf, cX7_signOf, 11, some .int, 2, 50, 0, 0)
def m_Ro_thousandths : zMT := (yX7_thousandths, cX7_thousandths, 5, some .int, 1, 25, 0, 0)
def m_Rw_init : zMT := (yX8_init, cX8_init, 2, none, 2, 40, 5, 20)
def m_Rw_has : zMT := (yX8_has, cX8_has, 2, some .boolean, 0, 0, 0, 0)
def m_Rw_append : zMT := (yX8_append, cX8_append, 5, some .boolean, 1, 24, 0, 0)
def m_Rw_remove : zMT := (yX8_remove, cX8_remove, 4, none, 1, 24, 0, 0)
def m_Rw_copy : zMT := (yX8_copy, cX8_copy, 4, none, 1, 24, 0, 0)
def m_Se_init : zMT := (yX9_init, cX9_init, 1, none, 1, 20, 4, 24)
def m_Se_append : zMT := (yX9_append, cX9_append, 5, some .boolean, 0, 0, 0, 0)
def m_Se_copy : zMT := (yX9_copy, cX9_copy, 3, none, 0, 0, 0, 0)
def m_Se_sortsOf : zMT := (yX9_sortsOf, cX9_sortsOf, 5, some .int, 3, 69, 0, 0)
def m_Se_canBe : zMT := (yX9_canBe, cX9_canBe, 5, some .boolean, 2, 45, 0, 0)
def m_Se_nextAsk : zMT := (yX9_nextAsk, cX9_nextAsk, 6, some .int, 3, 72, 0, 0)
def m_Se_leftAtWorst : zMT := (yX9_leftAtWorst, cX9_leftAtWorst, 8, some .int, 2, 45, 0, 0)
def m_St_init : zMT := (yX10_init, cX10_init, 2, none, 2, 40, 20, 217)
def m_St_build : zMT := (yX10_build, cX10_build, 4, none, 6, 167, 0, 0)
def m_St_readCurves : zMT := (yX10_readCurves, cX10_readCurves, 4, none, 1, 21, 0, 0)
def m_St_meet : zMT := (yX10_meet, cX10_meet, 13, none, 5, 135, 0, 0)
def m_St_enter : zMT := (yX10_enter, cX10_enter, 12, none, 4, 104, 0, 0)
def m_St_comeFromFarLeft : zMT := (yX10_comeFromFarLeft, cX10_comeFromFarLeft, 4, none, 1, 23, 0, 0)
def m_St_stopAt : zMT := (yX10_stopAt, cX10_stopAt, 4, none, 3, 80, 0, 0)
def m_St_goOnFrom : zMT := (yX10_goOnFrom, cX10_goOnFrom, 6, none, 3, 80, 0, 0)
def m_St_note : zMT := (yX10_note, cX10_note, 4, none, 0, 0, 0, 0)
def m_St_settle : zMT := (yX10_settle, cX10_settle, 4, none, 2, 45, 0, 0)
def m_St_isFirstOfItsY : zMT := (yX10_isFirstOfItsY, cX10_isFirstOfItsY, 3, some .boolean, 0, 0, 0, 0)
def m_St_sectionsBelow : zMT := (yX10_sectionsBelow, cX10_sectionsBelow, 4, some .int, 1, 22, 0, 0)
def m_St_placeUprights : zMT := (yX10_placeUprights, cX10_placeUprights, 4, none, 4, 102, 0, 0)
def m_St_stackAt : zMT := (yX10_stackAt, cX10_stackAt, 3, some .int, 3, 80, 0, 0)
def m_St_has : zMT := (yX10_has, cX10_has, 2, some .boolean, 0, 0, 0, 0)
def m_St_hasCell : zMT := (yX10_hasCell, cX10_hasCell, 3, some .boolean, 1, 21, 0, 0)
def m_St_sections : zMT := (yX10_sections, cX10_sections, 3, some .int, 0, 0, 0, 0)
def m_St_cells : zMT := (yX10_cells, cX10_cells, 1, some .int, 1, 22, 0, 0)
def m_St_sideOf : zMT := (yX10_sideOf, cX10_sideOf, 5, some .int, 1, 21, 0, 0)
def m_St_uprightsAt : zMT := (yX10_uprightsAt, cX10_uprightsAt, 4, some .int, 0, 0, 0, 0)
def m_St_pairsMeetingAt : zMT := (yX10_pairsMeetingAt, cX10_pairsMeetingAt, 5, some .int, 1, 25, 0, 0)
def m_St_meetAt : zMT := (yX10_meetAt, cX10_meetAt, 6, some .boolean, 0, 0, 0, 0)
def m_St_neighboursOf : zMT := (yX10_neighboursOf, cX10_neighboursOf, 5, some .int, 3, 72, 0, 0)
def m_St_comingTo : zMT := (yX10_comingTo, cX10_comingTo, 6, some .int, 2, 47, 0, 0)
def m_St_lowestBeside : zMT := (yX10_lowestBeside, cX10_lowestBeside, 4, some .int, 1, 24, 0, 0)
def m_St_highestBeside : zMT := (yX10_highestBeside, cX10_highestBeside, 4, some .int, 1, 24, 0, 0)
def m_St_sectionBeside : zMT := (yX10_sectionBeside, cX10_sectionBeside, 5, some .int, 0, 0, 0, 0)
def m_Cp_init : zMT := (yX11_init, cX11_init, 1, none, 3, 61, 79, 851)
def m_Cp_letter : zMT := (yX11_letter, cX11_letter, 2, some .int, 1, 21, 0, 0)
def m_Cp_blank : zMT := (yX11_blank, cX11_blank, 2, some .int, 0, 0, 0, 0)
def m_Cp_fault : zMT := (yX11_fault, cX11_fault, 1, some .int, 3, 64, 0, 0)
def m_Cp_plane : zMT := (yX11_plane, cX11_plane, 4, some .int, 7, 190, 0, 0)
def m_Cp_curve : zMT := (yX11_curve, cX11_curve, 4, some .int, 4, 97, 0, 0)
def m_Cp_as : zMT := (yX11_as, cX11_as, 3, some .int, 1, 21, 0, 0)
def m_Cp_point : zMT := (yX11_point, cX11_point, 3, some .int, 2, 49, 0, 0)
def m_Cp_stack : zMT := (yX11_stack, cX11_stack, 2, some .int, 1, 21, 0, 0)
def m_Cp_cell : zMT := (yX11_cell, cX11_cell, 4, some .int, 2, 45, 0, 0)
def m_Cp_neighbours : zMT := (yX11_neighbours, cX11_neighbours, 3, some .int, 4, 96, 0, 0)
def m_Cp_put : zMT := (yX11_put, cX11_put, 4, some .int, 7, 190, 0, 0)
def m_Cp_take : zMT := (yX11_take, cX11_take, 3, some .int, 7, 190, 0, 0)
def m_Cp_move : zMT := (yX11_move, cX11_move, 4, some .int, 7, 190, 0, 0)
def m_Cp_change : zMT := (yX11_change, cX11_change, 4, some .int, 7, 190, 0, 0)
def m_Cp_mirror : zMT := (yX11_mirror, cX11_mirror, 2, some .int, 7, 190, 0, 0)
def m_Cp_sentence : zMT := (yX11_sentence, cX11_sentence, 6, some .int, 5, 117, 0, 0)
def m_Cp_pieces : zMT := (yX11_pieces, cX11_pieces, 3, some .int, 4, 98, 0, 0)
def m_Cp_loose : zMT := (yX11_loose, cX11_loose, 4, some .int, 7, 190, 0, 0)
def m_Cp_see : zMT := (yX11_see, cX11_see, 5, some .int, 1, 24, 0, 0)
def m_Cp_forget : zMT := (yX11_forget, cX11_forget, 2, some .int, 0, 0, 0, 0)
def m_Cp_dice : zMT := (yX11_dice, cX11_dice, 2, some .int, 1, 21, 0, 0)
def m_Cp_latest : zMT := (yX11_latest, cX11_latest, 2, some .int, 2, 43, 0, 0)
def m_Cp_image : zMT := (yX11_image, cX11_image, 1, some .int, 2, 47, 0, 0)
def m_Cp_restore : zMT := (yX11_restore, cX11_restore, 1, some .int, 7, 190, 0, 0)
def m_Cp_count : zMT := (yX11_count, cX11_count, 2, some .int, 2, 42, 0, 0)
def m_Cp_digest : zMT := (yX11_digest, cX11_digest, 4, some .long, 6, 146, 0, 0)
def m_Cp_mix : zMT := (yX11_mix, cX11_mix, 3, some .long, 0, 0, 0, 0)
def m_Cp_mixCurves : zMT := (yX11_mixCurves, cX11_mixCurves, 7, some .long, 5, 120, 0, 0)
def m_Cp_mixPoints : zMT := (yX11_mixPoints, cX11_mixPoints, 7, some .long, 3, 71, 0, 0)
def m_Cp_mixStacks : zMT := (yX11_mixStacks, cX11_mixStacks, 8, some .long, 2, 45, 0, 0)
def m_Cp_isKind : zMT := (yX11_isKind, cX11_isKind, 1, some .boolean, 0, 0, 0, 0)
def m_Cp_isNear : zMT := (yX11_isNear, cX11_isNear, 1, some .boolean, 0, 0, 0, 0)
def m_Cp_isBit : zMT := (yX11_isBit, cX11_isBit, 1, some .boolean, 0, 0, 0, 0)
def m_Cp_appendCurve : zMT := (yX11_appendCurve, cX11_appendCurve, 4, none, 2, 48, 0, 0)
def m_Cp_isSo : zMT := (yX11_isSo, cX11_isSo, 5, some .boolean, 4, 93, 0, 0)
def m_Cp_isSoOver : zMT := (yX11_isSoOver, cX11_isSoOver, 5, some .boolean, 3, 69, 0, 0)
def m_Mo_init : zMT := (yX12_init, cX12_init, 1, none, 1, 20, 19, 928)
def m_Mo_in : zMT := (yX12_in, cX12_in, 6, some .boolean, 0, 0, 0, 0)
def m_Mo_copy : zMT := (yX12_copy, cX12_copy, 3, none, 0, 0, 0, 0)
def m_Mo_letter : zMT := (yX12_letter, cX12_letter, 2, some .int, 1, 25, 0, 0)
def m_Mo_blank : zMT := (yX12_blank, cX12_blank, 2, some .int, 0, 0, 0, 0)
def m_Mo_kindBy : zMT := (yX12_kindBy, cX12_kindBy, 1, some .int, 0, 0, 0, 0)
def m_Mo_isGood : zMT := (yX12_isGood, cX12_isGood, 3, some .boolean, 1, 25, 0, 0)
def m_Mo_faultOf : zMT := (yX12_faultOf, cX12_faultOf, 2, some .int, 2, 47, 0, 0)
def m_Mo_fault : zMT := (yX12_fault, cX12_fault, 1, some .int, 3, 68, 0, 0)
def m_Mo_numberAt : zMT := (yX12_numberAt, cX12_numberAt, 2, some .int, 0, 0, 0, 0)
def m_Mo_name : zMT := (yX12_name, cX12_name, 2, none, 0, 0, 0, 0)
def m_Mo_plane : zMT := (yX12_plane, cX12_plane, 2, some .int, 3, 68, 0, 0)
def m_Mo_lacks : zMT := (yX12_lacks, cX12_lacks, 1, some .boolean, 0, 0, 0, 0)
def m_Mo_isCurve : zMT := (yX12_isCurve, cX12_isCurve, 2, some .boolean, 1, 25, 0, 0)
def m_Mo_squareBy : zMT := (yX12_squareBy, cX12_squareBy, 1, some .int, 0, 0, 0, 0)
def m_Mo_square : zMT := (yX12_square, cX12_square, 2, some .int, 1, 20, 0, 0)
def m_Mo_slope : zMT := (yX12_slope, cX12_slope, 2, some .int, 0, 0, 0, 0)
def m_Mo_isFlat : zMT := (yX12_isFlat, cX12_isFlat, 2, some .boolean, 0, 0, 0, 0)
def m_Mo_isSame : zMT := (yX12_isSame, cX12_isSame, 3, some .boolean, 2, 41, 0, 0)
def m_Mo_signOf : zMT := (yX12_signOf, cX12_signOf, 2, some .int, 0, 0, 0, 0)
def m_Mo_signRoot : zMT := (yX12_signRoot, cX12_signRoot, 9, some .int, 1, 21, 0, 0)
def m_Mo_signRoots : zMT := (yX12_signRoots, cX12_signRoots, 16, some .int, 2, 49, 0, 0)
def m_Mo_layNumber : zMT := (yX12_layNumber, cX12_layNumber, 13, none, 0, 0, 0, 0)
def m_Mo_compare : zMT := (yX12_compare, cX12_compare, 5, some .int, 3, 84, 0, 0)
def m_Mo_compareTo : zMT := (yX12_compareTo, cX12_compareTo, 6, some .int, 2, 49, 0, 0)
def m_Mo_floorOf : zMT := (yX12_floorOf, cX12_floorOf, 10, some .long, 3, 74, 0, 0)
def m_Mo_difference : zMT := (yX12_difference, cX12_difference, 18, some .int, 2, 49, 0, 0)
def m_Mo_addPoint : zMT := (yX12_addPoint, cX12_addPoint, 11, none, 4, 108, 0, 0)
def m_Mo_addRoots : zMT := (yX12_addRoots, cX12_addRoots, 7, none, 5, 138, 0, 0)
def m_Mo_layPoints : zMT := (yX12_layPoints, cX12_layPoints, 4, none, 6, 164, 0, 0)
def m_Mo_laySample : zMT := (yX12_laySample, cX12_laySample, 8, none, 4, 103, 0, 0)
def m_Mo_laySamples : zMT := (yX12_laySamples, cX12_laySamples, 2, none, 5, 130, 0, 0)
def m_Mo_layRanks : zMT := (yX12_layRanks, cX12_layRanks, 9, none, 4, 110, 0, 0)
def m_Mo_isFirst : zMT := (yX12_isFirst, cX12_isFirst, 5, some .boolean, 3, 86, 0, 0)
def m_Mo_layAll : zMT := (yX12_layAll, cX12_layAll, 2, none, 7, 187, 0, 0)
def m_Mo_freshen : zMT := (yX12_freshen, cX12_freshen, 1, none, 8, 208, 0, 0)
def m_Mo_cellsIn : zMT := (yX12_cellsIn, cX12_cellsIn, 2, some .int, 0, 0, 0, 0)
def m_Mo_cellsAll : zMT := (yX12_cellsAll, cX12_cellsAll, 3, some .int, 1, 21, 0, 0)
def m_Mo_isStack : zMT := (yX12_isStack, cX12_isStack, 2, some .boolean, 9, 228, 0, 0)
def m_Mo_isCell : zMT := (yX12_isCell, cX12_isCell, 3, some .boolean, 10, 249, 0, 0)
def m_Mo_lies : zMT := (yX12_lies, cX12_lies, 5, some .int, 3, 74, 0, 0)
def m_Mo_stack : zMT := (yX12_stack, cX12_stack, 2, some .int, 10, 249, 0, 0)
def m_Mo_cell : zMT := (yX12_cell, cX12_cell, 4, some .int, 11, 271, 0, 0)
def m_Mo_comesTo : zMT := (yX12_comesTo, cX12_comesTo, 6, some .int, 1, 21, 0, 0)
def m_Mo_isBeside : zMT := (yX12_isBeside, cX12_isBeside, 7, some .boolean, 2, 46, 0, 0)
def m_Mo_isNeighbour : zMT := (yX12_isNeighbour, cX12_isNeighbour, 6, some .boolean, 3, 72, 0, 0)
def m_Mo_neighbours : zMT := (yX12_neighbours, cX12_neighbours, 6, some .int, 11, 271, 0, 0)
def m_Mo_isForm : zMT := (yX12_isForm, cX12_isForm, 3, some .boolean, 1, 25, 0, 0)
def m_Mo_figureOf : zMT := (yX12_figureOf, cX12_figureOf, 4, some .int, 0, 0, 0, 0)
def m_Mo_isSo : zMT := (yX12_isSo, cX12_isSo, 2, some .boolean, 0, 0, 0, 0)
def m_Mo_holds : zMT := (yX12_holds, cX12_holds, 10, some .boolean, 4, 98, 0, 0)
def m_Mo_holdsIn : zMT := (yX12_holdsIn, cX12_holdsIn, 9, some .boolean, 5, 127, 0, 0)
def m_Mo_sentence : zMT := (yX12_sentence, cX12_sentence, 9, some .int, 9, 228, 0, 0)
def m_Mo_latest : zMT := (yX12_latest, cX12_latest, 2, some .int, 1, 25, 0, 0)
def m_Mo_isSpread : zMT := (yX12_isSpread, cX12_isSpread, 8, some .boolean, 4, 97, 0, 0)
def m_Mo_piecesOf : zMT := (yX12_piecesOf, cX12_piecesOf, 7, some .int, 9, 228, 0, 0)
def m_Mo_pieces : zMT := (yX12_pieces, cX12_pieces, 3, some .int, 10, 254, 0, 0)
def m_Mo_loose : zMT := (yX12_loose, cX12_loose, 4, some .int, 8, 208, 0, 0)
def m_Mo_tellCurve : zMT := (yX12_tellCurve, cX12_tellCurve, 3, some .int, 4, 100, 0, 0)
def m_Mo_curve : zMT := (yX12_curve, cX12_curve, 3, some .int, 5, 122, 0, 0)
def m_Mo_as : zMT := (yX12_as, cX12_as, 4, some .int, 2, 46, 0, 0)
def m_Mo_meeting : zMT := (yX12_meeting, cX12_meeting, 5, some .int, 3, 86, 0, 0)
def m_Mo_standing : zMT := (yX12_standing, cX12_standing, 4, some .int, 3, 74, 0, 0)
def m_Mo_tellPoint : zMT := (yX12_tellPoint, cX12_tellPoint, 3, some .int, 4, 110, 0, 0)
def m_Mo_point : zMT := (yX12_point, cX12_point, 3, some .int, 9, 228, 0, 0)
def m_Mo_isNumber : zMT := (yX12_isNumber, cX12_isNumber, 1, some .boolean, 1, 25, 0, 0)
def m_Mo_put : zMT := (yX12_put, cX12_put, 4, some .int, 2, 45, 0, 0)
def m_Mo_take : zMT := (yX12_take, cX12_take, 4, some .int, 2, 46, 0, 0)
def m_Mo_cellsNow : zMT := (yX12_cellsNow, cX12_cellsNow, 1, some .int, 9, 228, 0, 0)
def m_Mo_move : zMT := (yX12_move, cX12_move, 4, some .int, 10, 248, 0, 0)
def m_Mo_change : zMT := (yX12_change, cX12_change, 4, some .int, 2, 46, 0, 0)
def m_Mo_mirror : zMT := (yX12_mirror, cX12_mirror, 2, some .int, 10, 248, 0, 0)
def m_Mo_see : zMT := (yX12_see, cX12_see, 5, some .int, 2, 46, 0, 0)
def m_Mo_forget : zMT := (yX12_forget, cX12_forget, 2, some .int, 0, 0, 0, 0)
def m_Mo_liesAt : zMT := (yX12_liesAt, cX12_liesAt, 7, some .int, 1, 20, 0, 0)
def m_Mo_sortsOf : zMT := (yX12_sortsOf, cX12_sortsOf, 6, some .int, 2, 46, 0, 0)
def m_Mo_askOf : zMT := (yX12_askOf, cX12_askOf, 10, some .int, 3, 71, 0, 0)
def m_Mo_dice : zMT := (yX12_dice, cX12_dice, 2, some .int, 1, 25, 0, 0)
def m_Mo_image : zMT := (yX12_image, cX12_image, 1, some .int, 1, 22, 0, 0)
def m_Mo_restore : zMT := (yX12_restore, cX12_restore, 1, some .int, 1, 22, 0, 0)
def m_Mo_sectionsAll : zMT := (yX12_sectionsAll, cX12_sectionsAll, 3, some .int, 0, 0, 0, 0)
def m_Mo_countPlane : zMT := (yX12_countPlane, cX12_countPlane, 2, some .int, 9, 228, 0, 0)
def m_Mo_countOf : zMT := (yX12_countOf, cX12_countOf, 2, some .int, 10, 249, 0, 0)
def m_Mo_count : zMT := (yX12_count, cX12_count, 2, some .int, 11, 270, 0, 0)
def m_Mo_say : zMT := (yX12_say, cX12_say, 3, none, 0, 0, 0, 0)
def m_Mo_sayStacks : zMT := (yX12_sayStacks, cX12_sayStacks, 4, none, 4, 98, 0, 0)
def m_Mo_digest : zMT := (yX12_digest, cX12_digest, 3, some .long, 11, 270, 0, 0)
def m_In_compare : zMT := (yJ6_compare_7cf53, cJ6_compare_7cf53, 2, some .int, 0, 0, 0, 0)
def m_Lo_compare : zMT := (yJ13_compare_74951, cJ13_compare_74951, 4, some .int, 0, 0, 0, 0)
def m_Ma_floorDiv : zMT := (yJ9_floorDiv_f86c9, cJ9_floorDiv_f86c9, 6, some .long, 0, 0, 0, 0)
def m_Ma_floorMod : zMT := (yJ9_floorMod_7cf53, cJ9_floorMod_7cf53, 3, some .int, 0, 0, 0, 0)
def m_Ma_max : zMT := (yJ9_max_7cf53, cJ9_max_7cf53, 2, some .int, 0, 0, 0, 0)
def m_Ma_min : zMT := (yJ9_min_7cf53, cJ9_min_7cf53, 2, some .int, 0, 0, 0, 0)
def m_La_law : zMT := (yL_law, cL_law, 4, some .boolean, 14, 608, 600000, 7302250)
set_option maxRecDepth 20000 in
theorem k_Cu_init : zMi m_Cu_init 0 := ⟨⟨zin 80 (by decide +kernel) (by decide +kernel), zin 128 (by decide +kernel) (by decide +kernel), by decide +kernel, by decide +kernel, by decide +kernel⟩, zin 127 (by decide +kernel) (by decide +kernel), rfl, rfl⟩
set_option maxRecDepth 20000 in
theorem k_Cu_write : zMv m_Cu_write 4 0 := ⟨⟨zin 80 (by decide +kernel) (by decide +kernel), zin 410 (by decide +kernel) (by decide +kernel), by decide +kernel, by decide +kernel, by decide +kernel⟩, zin 408 (by decide +kernel) (by decide +kernel), zin 409 (by decide +kernel) (by decide +kernel), by decide, rfl⟩
set_option maxRecDepth 20000 in
theorem k_Cu_isUpright : zMv m_Cu_isUpright 0 0 := ⟨⟨zin 80 (by decide +kernel) (by decide +kernel), zin 422 (by decide +kernel) (by decide +kernel), by decide +kernel, by decide +kernel, by decide +kernel⟩, zin 420 (by decide +kernel) (by decide +kernel), zin 421 (by decide +kernel) (by decide +kernel), by decide, rfl⟩
set_option maxRecDepth 20000 in
theorem k_Cu_isSuch : zMv m_Cu_isSuch 1 0 := ⟨⟨zin 80 (by decide +kernel) (by decide +kernel), zin 551 (by decide +kernel) (by decide +kernel), by decide +kernel, by decide +kernel, by decide +kernel⟩, zin 549 (by decide +kernel) (by decide +kernel), zin 550 (by decide +kernel) (by decide +kernel), by decide, rfl⟩
set_option maxRecDepth 20000 in
theorem k_Cu_squareOf : zMs m_Cu_squareOf 1 := ⟨⟨zin 80 (by decide +kernel) (by decide +kernel), zin 425 (by decide +kernel) (by decide +kernel), by decide +kernel, by decide +kernel, by decide +kernel⟩, zin 424 (by decide +kernel) (by decide +kernel)⟩
set_option maxRecDepth 20000 in
theorem k_Cu_slopeAs : zMv m_Cu_slopeAs 1 0 := ⟨⟨zin 80 (by decide +kernel) (by decide +kernel), zin 429 (by decide +kernel) (by decide +kernel), by decide +kernel, by decide +kernel, by decide +kernel⟩, zin 427 (by decide +kernel) (by decide +kernel), zin 428 (by decide +kernel) (by decide +kernel), by decide, rfl⟩
set_option maxRecDepth 20000 in
theorem k_Cu_sideAs : zMv m_Cu_sideAs 3 0 := ⟨⟨zin 80 (by decide +kernel) (by decide +kernel), zin 528 (by decide +kernel) (by decide +kernel), by decide +kernel, by decide +kernel, by decide +kernel⟩, zin 526 (by decide +kernel) (by decide +kernel), zin 527 (by decide +kernel) (by decide +kernel), by decide, rfl⟩
set_option maxRecDepth 20000 in
theorem k_Cu_turnOver : zMv m_Cu_turnOver 0 0 := ⟨⟨zin 80 (by decide +kernel) (by decide +kernel), zin 667 (by decide +kernel) (by decide +kernel), by decide +kernel, by decide +kernel, by decide +kernel⟩, zin 665 (by decide +kernel) (by decide +kernel), zin 666 (by decide +kernel) (by decide +kernel), by decide, rfl⟩
set_option maxRecDepth 20000 in
theorem k_Di_init : zMi m_Di_init 0 := ⟨⟨zin 86 (by decide +kernel) (by decide +kernel), zin 285 (by decide +kernel) (by decide +kernel), by decide +kernel, by decide +kernel, by decide +kernel⟩, zin 284 (by decide +kernel) (by decide +kernel), rfl, rfl⟩
set_option maxRecDepth 20000 in
theorem k_Di_next : zMv m_Di_next 1 1 := ⟨⟨zin 86 (by decide +kernel) (by decide +kernel), zin 766 (by decide +kernel) (by decide +kernel), by decide +kernel, by decide +kernel, by decide +kernel⟩, zin 764 (by decide +kernel) (by decide +kernel), zin 765 (by decide +kernel) (by decide +kernel), by decide, rfl⟩
set_option maxRecDepth 20000 in
theorem k_Ex_sign3 : zMs m_Ex_sign3 3 := ⟨⟨zin 89 (by decide +kernel) (by decide +kernel), zin 448 (by decide +kernel) (by decide +kernel), by decide +kernel, by decide +kernel, by decide +kernel⟩, zin 447 (by decide +kernel) (by decide +kernel)⟩
set_option maxRecDepth 20000 in
theorem k_Ex_sign5 : zMs m_Ex_sign5 5 := ⟨⟨zin 89 (by decide +kernel) (by decide +kernel), zin 445 (by decide +kernel) (by decide +kernel), by decide +kernel, by decide +kernel, by decide +kernel⟩, zin 444 (by decide +kernel) (by decide +kernel)⟩
set_option maxRecDepth 20000 in
theorem k_Ex_rootDown : zMs m_Ex_rootDown 1 := ⟨⟨zin 89 (by decide +kernel) (by decide +kernel), zin 460 (by decide +kernel) (by decide +kernel), by decide +kernel, by decide +kernel, by decide +kernel⟩, zin 459 (by decide +kernel) (by decide +kernel)⟩
set_option maxRecDepth 20000 in
theorem k_Fo_init : zMi m_Fo_init 0 := ⟨⟨zin 84 (by decide +kernel) (by decide +kernel), zin 259 (by decide +kernel) (by decide +kernel), by decide +kernel, by decide +kernel, by decide +kernel⟩, zin 258 (by decide +kernel) (by decide +kernel), rfl, rfl⟩
set_option maxRecDepth 20000 in
theorem k_Fo_isForm : zMs m_Fo_isForm 1 := ⟨⟨zin 84 (by decide +kernel) (by decide +kernel), zin 678 (by decide +kernel) (by decide +kernel), by decide +kernel, by decide +kernel, by decide +kernel⟩, zin 677 (by decide +kernel) (by decide +kernel)⟩
set_option maxRecDepth 20000 in
theorem k_Fo_read : zMv m_Fo_read 2 2 := ⟨⟨zin 84 (by decide +kernel) (by decide +kernel), zin 682 (by decide +kernel) (by decide +kernel), by decide +kernel, by decide +kernel, by decide +kernel⟩, zin 680 (by decide +kernel) (by decide +kernel), zin 681 (by decide +kernel) (by decide +kernel), by decide, rfl⟩
set_option maxRecDepth 20000 in
theorem k_Fo_holdsIn : zMv m_Fo_holdsIn 3 2 := ⟨⟨zin 84 (by decide +kernel) (by decide +kernel), zin 694 (by decide +kernel) (by decide +kernel), by decide +kernel, by decide +kernel, by decide +kernel⟩, zin 692 (by decide +kernel) (by decide +kernel), zin 693 (by decide +kernel) (by decide +kernel), by decide, rfl⟩
set_option maxRecDepth 20000 in
theorem k_Fo_allows : zMs m_Fo_allows 2 := ⟨⟨zin 84 (by decide +kernel) (by decide +kernel), zin 698 (by decide +kernel) (by decide +kernel), by decide +kernel, by decide +kernel, by decide +kernel⟩, zin 697 (by decide +kernel) (by decide +kernel)⟩
set_option maxRecDepth 20000 in
theorem k_Gr_init : zMi m_Gr_init 0 := ⟨⟨zin 85 (by decide +kernel) (by decide +kernel), zin 272 (by decide +kernel) (by decide +kernel), by decide +kernel, by decide +kernel, by decide +kernel⟩, zin 271 (by decide +kernel) (by decide +kernel), rfl, rfl⟩
set_option maxRecDepth 20000 in
theorem k_Gr_number : zMv m_Gr_number 2 3 := ⟨⟨zin 85 (by decide +kernel) (by decide +kernel), zin 713 (by decide +kernel) (by decide +kernel), by decide +kernel, by decide +kernel, by decide +kernel⟩, zin 711 (by decide +kernel) (by decide +kernel), zin 712 (by decide +kernel) (by decide +kernel), by decide, rfl⟩
set_option maxRecDepth 20000 in
theorem k_Gr_placeOf : zMs m_Gr_placeOf 2 := ⟨⟨zin 85 (by decide +kernel) (by decide +kernel), zin 716 (by decide +kernel) (by decide +kernel), by decide +kernel, by decide +kernel, by decide +kernel⟩, zin 715 (by decide +kernel) (by decide +kernel)⟩
set_option maxRecDepth 20000 in
theorem k_Gr_begin : zMv m_Gr_begin 2 3 := ⟨⟨zin 85 (by decide +kernel) (by decide +kernel), zin 721 (by decide +kernel) (by decide +kernel), by decide +kernel, by decide +kernel, by decide +kernel⟩, zin 720 (by decide +kernel) (by decide +kernel), zin 20 (by decide +kernel) (by decide +kernel), by decide, rfl⟩
set_option maxRecDepth 20000 in
theorem k_Gr_joinNeighbours : zMv m_Gr_joinNeighbours 3 3 := ⟨⟨zin 85 (by decide +kernel) (by decide +kernel), zin 725 (by decide +kernel) (by decide +kernel), by decide +kernel, by decide +kernel, by decide +kernel⟩, zin 724 (by decide +kernel) (by decide +kernel), zin 21 (by decide +kernel) (by decide +kernel), by decide, rfl⟩
set_option maxRecDepth 20000 in
theorem k_Gr_join : zMv m_Gr_join 2 3 := ⟨⟨zin 85 (by decide +kernel) (by decide +kernel), zin 729 (by decide +kernel) (by decide +kernel), by decide +kernel, by decide +kernel, by decide +kernel⟩, zin 728 (by decide +kernel) (by decide +kernel), zin 22 (by decide +kernel) (by decide +kernel), by decide, rfl⟩
set_option maxRecDepth 20000 in
theorem k_Gr_standsFor : zMv m_Gr_standsFor 1 3 := ⟨⟨zin 85 (by decide +kernel) (by decide +kernel), zin 733 (by decide +kernel) (by decide +kernel), by decide +kernel, by decide +kernel, by decide +kernel⟩, zin 732 (by decide +kernel) (by decide +kernel), zin 23 (by decide +kernel) (by decide +kernel), by decide, rfl⟩
set_option maxRecDepth 20000 in
theorem k_Pa_init : zMi m_Pa_init 0 := ⟨⟨zin 78 (by decide +kernel) (by decide +kernel), zin 105 (by decide +kernel) (by decide +kernel), by decide +kernel, by decide +kernel, by decide +kernel⟩, zin 104 (by decide +kernel) (by decide +kernel), rfl, rfl⟩
set_option maxRecDepth 20000 in
theorem k_Pa_append : zMv m_Pa_append 1 4 := ⟨⟨zin 78 (by decide +kernel) (by decide +kernel), zin 364 (by decide +kernel) (by decide +kernel), by decide +kernel, by decide +kernel, by decide +kernel⟩, zin 362 (by decide +kernel) (by decide +kernel), zin 363 (by decide +kernel) (by decide +kernel), by decide, rfl⟩
set_option maxRecDepth 20000 in
theorem k_Pa_firstFault : zMv m_Pa_firstFault 0 4 := ⟨⟨zin 78 (by decide +kernel) (by decide +kernel), zin 376 (by decide +kernel) (by decide +kernel), by decide +kernel, by decide +kernel, by decide +kernel⟩, zin 374 (by decide +kernel) (by decide +kernel), zin 375 (by decide +kernel) (by decide +kernel), by decide, rfl⟩
set_option maxRecDepth 20000 in
theorem k_Pa_isPlane : zMv m_Pa_isPlane 0 4 := ⟨⟨zin 78 (by decide +kernel) (by decide +kernel), zin 392 (by decide +kernel) (by decide +kernel), by decide +kernel, by decide +kernel, by decide +kernel⟩, zin 390 (by decide +kernel) (by decide +kernel), zin 391 (by decide +kernel) (by decide +kernel), by decide, rfl⟩
set_option maxRecDepth 20000 in
theorem k_Pa_fits : zMv m_Pa_fits 1 4 := ⟨⟨zin 78 (by decide +kernel) (by decide +kernel), zin 380 (by decide +kernel) (by decide +kernel), by decide +kernel, by decide +kernel, by decide +kernel⟩, zin 379 (by decide +kernel) (by decide +kernel), zin 0 (by decide +kernel) (by decide +kernel), by decide, rfl⟩
set_option maxRecDepth 20000 in
theorem k_Pa_kindAt : zMv m_Pa_kindAt 1 4 := ⟨⟨zin 78 (by decide +kernel) (by decide +kernel), zin 384 (by decide +kernel) (by decide +kernel), by decide +kernel, by decide +kernel, by decide +kernel⟩, zin 382 (by decide +kernel) (by decide +kernel), zin 383 (by decide +kernel) (by decide +kernel), by decide, rfl⟩
set_option maxRecDepth 20000 in
theorem k_Pa_numberAt : zMv m_Pa_numberAt 1 4 := ⟨⟨zin 78 (by decide +kernel) (by decide +kernel), zin 397 (by decide +kernel) (by decide +kernel), by decide +kernel, by decide +kernel, by decide +kernel⟩, zin 395 (by decide +kernel) (by decide +kernel), zin 396 (by decide +kernel) (by decide +kernel), by decide, rfl⟩
set_option maxRecDepth 20000 in
theorem k_Ri_init : zMi m_Ri_init 0 := ⟨⟨zin 87 (by decide +kernel) (by decide +kernel), zin 295 (by decide +kernel) (by decide +kernel), by decide +kernel, by decide +kernel, by decide +kernel⟩, zin 294 (by decide +kernel) (by decide +kernel), rfl, rfl⟩
set_option maxRecDepth 20000 in
theorem k_Ri_append : zMv m_Ri_append 1 5 := ⟨⟨zin 87 (by decide +kernel) (by decide +kernel), zin 702 (by decide +kernel) (by decide +kernel), by decide +kernel, by decide +kernel, by decide +kernel⟩, zin 700 (by decide +kernel) (by decide +kernel), zin 701 (by decide +kernel) (by decide +kernel), by decide, rfl⟩
set_option maxRecDepth 20000 in
theorem k_Ri_back : zMv m_Ri_back 1 5 := ⟨⟨zin 87 (by decide +kernel) (by decide +kernel), zin 778 (by decide +kernel) (by decide +kernel), by decide +kernel, by decide +kernel, by decide +kernel⟩, zin 776 (by decide +kernel) (by decide +kernel), zin 777 (by decide +kernel) (by decide +kernel), by decide, rfl⟩
set_option maxRecDepth 20000 in
theorem k_Ro_init : zMi m_Ro_init 0 := ⟨⟨zin 83 (by decide +kernel) (by decide +kernel), zin 198 (by decide +kernel) (by decide +kernel), by decide +kernel, by decide +kernel, by decide +kernel⟩, zin 197 (by decide +kernel) (by decide +kernel), rfl, rfl⟩
set_option maxRecDepth 20000 in
theorem k_Ro_write : zMv m_Ro_write 4 6 := ⟨⟨zin 83 (by decide +kernel) (by decide +kernel), zin 437 (by decide +kernel) (by decide +kernel), by decide +kernel, by decide +kernel, by decide +kernel⟩, zin 435 (by decide +kernel) (by decide +kernel), zin 436 (by decide +kernel) (by decide +kernel), by decide, rfl⟩
set_option maxRecDepth 20000 in
theorem k_Ro_isFraction : zMv m_Ro_isFraction 0 6 := ⟨⟨zin 83 (by decide +kernel) (by decide +kernel), zin 570 (by decide +kernel) (by decide +kernel), by decide +kernel, by decide +kernel, by decide +kernel⟩, zin 568 (by decide +kernel) (by decide +kernel), zin 569 (by decide +kernel) (by decide +kernel), by decide, rfl⟩
set_option maxRecDepth 20000 in
theorem k_Ro_orderTo : zMv m_Ro_orderTo 1 6 := ⟨⟨zin 83 (by decide +kernel) (by decide +kernel), zin 442 (by decide +kernel) (by decide +kernel), by decide +kernel, by decide +kernel, by decide +kernel⟩, zin 440 (by decide +kernel) (by decide +kernel), zin 441 (by decide +kernel) (by decide +kernel), by decide, rfl⟩
set_option maxRecDepth 20000 in
theorem k_Ro_signOf : zMv m_Ro_signOf 3 6 := ⟨⟨zin 83 (by decide +kernel) (by decide +kernel), zin 494 (by decide +kernel) (by decide +kernel), by decide +kernel, by decide +kernel, by decide +kernel⟩, zin 492 (by decide +kernel) (by decide +kernel), zin 493 (by decide +kernel) (by decide +kernel), by decide, rfl⟩
set_option maxRecDepth 20000 in
theorem k_Ro_thousandths : zMv m_Ro_thousandths 0 6 := ⟨⟨zin 83 (by decide +kernel) (by decide +kernel), zin 560 (by decide +kernel) (by decide +kernel), by decide +kernel, by decide +kernel, by decide +kernel⟩, zin 558 (by decide +kernel) (by decide +kernel), zin 559 (by decide +kernel) (by decide +kernel), by decide, rfl⟩
set_option maxRecDepth 20000 in
theorem k_Rw_init : zMi m_Rw_init 0 := ⟨⟨zin 79 (by decide +kernel) (by decide +kernel), zin 121 (by decide +kernel) (by decide +kernel), by decide +kernel, by decide +kernel, by decide +kernel⟩, zin 120 (by decide +kernel) (by decide +kernel), rfl, rfl⟩
set_option maxRecDepth 20000 in
theorem k_Rw_has : zMv m_Rw_has 1 7 := ⟨⟨zin 79 (by decide +kernel) (by decide +kernel), zin 516 (by decide +kernel) (by decide +kernel), by decide +kernel, by decide +kernel, by decide +kernel⟩, zin 514 (by decide +kernel) (by decide +kernel), zin 515 (by decide +kernel) (by decide +kernel), by decide, rfl⟩
set_option maxRecDepth 20000 in
theorem k_Rw_append : zMv m_Rw_append 4 7 := ⟨⟨zin 79 (by decide +kernel) (by decide +kernel), zin 406 (by decide +kernel) (by decide +kernel), by decide +kernel, by decide +kernel, by decide +kernel⟩, zin 404 (by decide +kernel) (by decide +kernel), zin 405 (by decide +kernel) (by decide +kernel), by decide, rfl⟩
set_option maxRecDepth 20000 in
theorem k_Rw_remove : zMv m_Rw_remove 1 7 := ⟨⟨zin 79 (by decide +kernel) (by decide +kernel), zin 642 (by decide +kernel) (by decide +kernel), by decide +kernel, by decide +kernel, by decide +kernel⟩, zin 640 (by decide +kernel) (by decide +kernel), zin 641 (by decide +kernel) (by decide +kernel), by decide, rfl⟩
set_option maxRecDepth 20000 in
theorem k_Rw_copy : zMv m_Rw_copy 1 7 := ⟨⟨zin 79 (by decide +kernel) (by decide +kernel), zin 746 (by decide +kernel) (by decide +kernel), by decide +kernel, by decide +kernel, by decide +kernel⟩, zin 744 (by decide +kernel) (by decide +kernel), zin 745 (by decide +kernel) (by decide +kernel), by decide, rfl⟩
set_option maxRecDepth 20000 in
theorem k_Se_init : zMi m_Se_init 0 := ⟨⟨zin 81 (by decide +kernel) (by decide +kernel), zin 168 (by decide +kernel) (by decide +kernel), by decide +kernel, by decide +kernel, by decide +kernel⟩, zin 167 (by decide +kernel) (by decide +kernel), rfl, rfl⟩
set_option maxRecDepth 20000 in
theorem k_Se_append : zMv m_Se_append 4 8 := ⟨⟨zin 81 (by decide +kernel) (by decide +kernel), zin 754 (by decide +kernel) (by decide +kernel), by decide +kernel, by decide +kernel, by decide +kernel⟩, zin 752 (by decide +kernel) (by decide +kernel), zin 753 (by decide +kernel) (by decide +kernel), by decide, rfl⟩
set_option maxRecDepth 20000 in
theorem k_Se_copy : zMv m_Se_copy 1 8 := ⟨⟨zin 81 (by decide +kernel) (by decide +kernel), zin 789 (by decide +kernel) (by decide +kernel), by decide +kernel, by decide +kernel, by decide +kernel⟩, zin 787 (by decide +kernel) (by decide +kernel), zin 788 (by decide +kernel) (by decide +kernel), by decide, rfl⟩
set_option maxRecDepth 20000 in
theorem k_Se_sortsOf : zMv m_Se_sortsOf 2 8 := ⟨⟨zin 81 (by decide +kernel) (by decide +kernel), zin 520 (by decide +kernel) (by decide +kernel), by decide +kernel, by decide +kernel, by decide +kernel⟩, zin 518 (by decide +kernel) (by decide +kernel), zin 519 (by decide +kernel) (by decide +kernel), by decide, rfl⟩
set_option maxRecDepth 20000 in
theorem k_Se_canBe : zMv m_Se_canBe 3 8 := ⟨⟨zin 81 (by decide +kernel) (by decide +kernel), zin 524 (by decide +kernel) (by decide +kernel), by decide +kernel, by decide +kernel, by decide +kernel⟩, zin 523 (by decide +kernel) (by decide +kernel), zin 14 (by decide +kernel) (by decide +kernel), by decide, rfl⟩
set_option maxRecDepth 20000 in
theorem k_Se_nextAsk : zMs m_Se_nextAsk 2 := ⟨⟨zin 81 (by decide +kernel) (by decide +kernel), zin 534 (by decide +kernel) (by decide +kernel), by decide +kernel, by decide +kernel, by decide +kernel⟩, zin 533 (by decide +kernel) (by decide +kernel)⟩
set_option maxRecDepth 20000 in
theorem k_Se_leftAtWorst : zMs m_Se_leftAtWorst 3 := ⟨⟨zin 81 (by decide +kernel) (by decide +kernel), zin 537 (by decide +kernel) (by decide +kernel), by decide +kernel, by decide +kernel, by decide +kernel⟩, zin 536 (by decide +kernel) (by decide +kernel)⟩
set_option maxRecDepth 20000 in
theorem k_St_init : zMi m_St_init 0 := ⟨⟨zin 82 (by decide +kernel) (by decide +kernel), zin 191 (by decide +kernel) (by decide +kernel), by decide +kernel, by decide +kernel, by decide +kernel⟩, zin 190 (by decide +kernel) (by decide +kernel), rfl, rfl⟩
set_option maxRecDepth 20000 in
theorem k_St_build : zMv m_St_build 1 9 := ⟨⟨zin 82 (by decide +kernel) (by decide +kernel), zin 414 (by decide +kernel) (by decide +kernel), by decide +kernel, by decide +kernel, by decide +kernel⟩, zin 412 (by decide +kernel) (by decide +kernel), zin 413 (by decide +kernel) (by decide +kernel), by decide, rfl⟩
set_option maxRecDepth 20000 in
theorem k_St_readCurves : zMv m_St_readCurves 1 9 := ⟨⟨zin 82 (by decide +kernel) (by decide +kernel), zin 418 (by decide +kernel) (by decide +kernel), by decide +kernel, by decide +kernel, by decide +kernel⟩, zin 417 (by decide +kernel) (by decide +kernel), zin 2 (by decide +kernel) (by decide +kernel), by decide, rfl⟩
set_option maxRecDepth 20000 in
theorem k_St_meet : zMv m_St_meet 2 9 := ⟨⟨zin 82 (by decide +kernel) (by decide +kernel), zin 456 (by decide +kernel) (by decide +kernel), by decide +kernel, by decide +kernel, by decide +kernel⟩, zin 455 (by decide +kernel) (by decide +kernel), zin 4 (by decide +kernel) (by decide +kernel), by decide, rfl⟩
set_option maxRecDepth 20000 in
theorem k_St_enter : zMv m_St_enter 4 9 := ⟨⟨zin 82 (by decide +kernel) (by decide +kernel), zin 433 (by decide +kernel) (by decide +kernel), by decide +kernel, by decide +kernel, by decide +kernel⟩, zin 432 (by decide +kernel) (by decide +kernel), zin 3 (by decide +kernel) (by decide +kernel), by decide, rfl⟩
set_option maxRecDepth 20000 in
theorem k_St_comeFromFarLeft : zMv m_St_comeFromFarLeft 0 9 := ⟨⟨zin 82 (by decide +kernel) (by decide +kernel), zin 467 (by decide +kernel) (by decide +kernel), by decide +kernel, by decide +kernel, by decide +kernel⟩, zin 466 (by decide +kernel) (by decide +kernel), zin 5 (by decide +kernel) (by decide +kernel), by decide, rfl⟩
set_option maxRecDepth 20000 in
theorem k_St_stopAt : zMv m_St_stopAt 1 9 := ⟨⟨zin 82 (by decide +kernel) (by decide +kernel), zin 490 (by decide +kernel) (by decide +kernel), by decide +kernel, by decide +kernel, by decide +kernel⟩, zin 489 (by decide +kernel) (by decide +kernel), zin 10 (by decide +kernel) (by decide +kernel), by decide, rfl⟩
set_option maxRecDepth 20000 in
theorem k_St_goOnFrom : zMv m_St_goOnFrom 1 9 := ⟨⟨zin 82 (by decide +kernel) (by decide +kernel), zin 500 (by decide +kernel) (by decide +kernel), by decide +kernel, by decide +kernel, by decide +kernel⟩, zin 499 (by decide +kernel) (by decide +kernel), zin 11 (by decide +kernel) (by decide +kernel), by decide, rfl⟩
set_option maxRecDepth 20000 in
theorem k_St_note : zMv m_St_note 3 9 := ⟨⟨zin 82 (by decide +kernel) (by decide +kernel), zin 474 (by decide +kernel) (by decide +kernel), by decide +kernel, by decide +kernel, by decide +kernel⟩, zin 473 (by decide +kernel) (by decide +kernel), zin 6 (by decide +kernel) (by decide +kernel), by decide, rfl⟩
set_option maxRecDepth 20000 in
theorem k_St_settle : zMv m_St_settle 1 9 := ⟨⟨zin 82 (by decide +kernel) (by decide +kernel), zin 478 (by decide +kernel) (by decide +kernel), by decide +kernel, by decide +kernel, by decide +kernel⟩, zin 477 (by decide +kernel) (by decide +kernel), zin 7 (by decide +kernel) (by decide +kernel), by decide, rfl⟩
set_option maxRecDepth 20000 in
theorem k_St_isFirstOfItsY : zMv m_St_isFirstOfItsY 1 9 := ⟨⟨zin 82 (by decide +kernel) (by decide +kernel), zin 482 (by decide +kernel) (by decide +kernel), by decide +kernel, by decide +kernel, by decide +kernel⟩, zin 481 (by decide +kernel) (by decide +kernel), zin 8 (by decide +kernel) (by decide +kernel), by decide, rfl⟩
set_option maxRecDepth 20000 in
theorem k_St_sectionsBelow : zMv m_St_sectionsBelow 1 9 := ⟨⟨zin 82 (by decide +kernel) (by decide +kernel), zin 486 (by decide +kernel) (by decide +kernel), by decide +kernel, by decide +kernel, by decide +kernel⟩, zin 485 (by decide +kernel) (by decide +kernel), zin 9 (by decide +kernel) (by decide +kernel), by decide, rfl⟩
set_option maxRecDepth 20000 in
theorem k_St_placeUprights : zMv m_St_placeUprights 0 9 := ⟨⟨zin 82 (by decide +kernel) (by decide +kernel), zin 504 (by decide +kernel) (by decide +kernel), by decide +kernel, by decide +kernel, by decide +kernel⟩, zin 503 (by decide +kernel) (by decide +kernel), zin 12 (by decide +kernel) (by decide +kernel), by decide, rfl⟩
set_option maxRecDepth 20000 in
theorem k_St_stackAt : zMv m_St_stackAt 1 9 := ⟨⟨zin 82 (by decide +kernel) (by decide +kernel), zin 508 (by decide +kernel) (by decide +kernel), by decide +kernel, by decide +kernel, by decide +kernel⟩, zin 507 (by decide +kernel) (by decide +kernel), zin 13 (by decide +kernel) (by decide +kernel), by decide, rfl⟩
set_option maxRecDepth 20000 in
theorem k_St_has : zMv m_St_has 1 9 := ⟨⟨zin 82 (by decide +kernel) (by decide +kernel), zin 590 (by decide +kernel) (by decide +kernel), by decide +kernel, by decide +kernel, by decide +kernel⟩, zin 588 (by decide +kernel) (by decide +kernel), zin 589 (by decide +kernel) (by decide +kernel), by decide, rfl⟩
set_option maxRecDepth 20000 in
theorem k_St_hasCell : zMv m_St_hasCell 2 9 := ⟨⟨zin 82 (by decide +kernel) (by decide +kernel), zin 598 (by decide +kernel) (by decide +kernel), by decide +kernel, by decide +kernel, by decide +kernel⟩, zin 596 (by decide +kernel) (by decide +kernel), zin 597 (by decide +kernel) (by decide +kernel), by decide, rfl⟩
set_option maxRecDepth 20000 in
theorem k_St_sections : zMv m_St_sections 0 9 := ⟨⟨zin 82 (by decide +kernel) (by decide +kernel), zin 655 (by decide +kernel) (by decide +kernel), by decide +kernel, by decide +kernel, by decide +kernel⟩, zin 653 (by decide +kernel) (by decide +kernel), zin 654 (by decide +kernel) (by decide +kernel), by decide, rfl⟩
set_option maxRecDepth 20000 in
theorem k_St_cells : zMv m_St_cells 0 9 := ⟨⟨zin 82 (by decide +kernel) (by decide +kernel), zin 651 (by decide +kernel) (by decide +kernel), by decide +kernel, by decide +kernel, by decide +kernel⟩, zin 649 (by decide +kernel) (by decide +kernel), zin 650 (by decide +kernel) (by decide +kernel), by decide, rfl⟩
set_option maxRecDepth 20000 in
theorem k_St_sideOf : zMv m_St_sideOf 3 9 := ⟨⟨zin 82 (by decide +kernel) (by decide +kernel), zin 603 (by decide +kernel) (by decide +kernel), by decide +kernel, by decide +kernel, by decide +kernel⟩, zin 601 (by decide +kernel) (by decide +kernel), zin 602 (by decide +kernel) (by decide +kernel), by decide, rfl⟩
set_option maxRecDepth 20000 in
theorem k_St_uprightsAt : zMv m_St_uprightsAt 1 9 := ⟨⟨zin 82 (by decide +kernel) (by decide +kernel), zin 582 (by decide +kernel) (by decide +kernel), by decide +kernel, by decide +kernel, by decide +kernel⟩, zin 580 (by decide +kernel) (by decide +kernel), zin 581 (by decide +kernel) (by decide +kernel), by decide, rfl⟩
set_option maxRecDepth 20000 in
theorem k_St_pairsMeetingAt : zMv m_St_pairsMeetingAt 1 9 := ⟨⟨zin 82 (by decide +kernel) (by decide +kernel), zin 574 (by decide +kernel) (by decide +kernel), by decide +kernel, by decide +kernel, by decide +kernel⟩, zin 572 (by decide +kernel) (by decide +kernel), zin 573 (by decide +kernel) (by decide +kernel), by decide, rfl⟩
set_option maxRecDepth 20000 in
theorem k_St_meetAt : zMv m_St_meetAt 3 9 := ⟨⟨zin 82 (by decide +kernel) (by decide +kernel), zin 578 (by decide +kernel) (by decide +kernel), by decide +kernel, by decide +kernel, by decide +kernel⟩, zin 577 (by decide +kernel) (by decide +kernel), zin 15 (by decide +kernel) (by decide +kernel), by decide, rfl⟩
set_option maxRecDepth 20000 in
theorem k_St_neighboursOf : zMv m_St_neighboursOf 2 9 := ⟨⟨zin 82 (by decide +kernel) (by decide +kernel), zin 611 (by decide +kernel) (by decide +kernel), by decide +kernel, by decide +kernel, by decide +kernel⟩, zin 609 (by decide +kernel) (by decide +kernel), zin 610 (by decide +kernel) (by decide +kernel), by decide, rfl⟩
set_option maxRecDepth 20000 in
theorem k_St_comingTo : zMv m_St_comingTo 3 9 := ⟨⟨zin 82 (by decide +kernel) (by decide +kernel), zin 627 (by decide +kernel) (by decide +kernel), by decide +kernel, by decide +kernel, by decide +kernel⟩, zin 626 (by decide +kernel) (by decide +kernel), zin 17 (by decide +kernel) (by decide +kernel), by decide, rfl⟩
set_option maxRecDepth 20000 in
theorem k_St_lowestBeside : zMv m_St_lowestBeside 3 9 := ⟨⟨zin 82 (by decide +kernel) (by decide +kernel), zin 623 (by decide +kernel) (by decide +kernel), by decide +kernel, by decide +kernel, by decide +kernel⟩, zin 621 (by decide +kernel) (by decide +kernel), zin 622 (by decide +kernel) (by decide +kernel), by decide, rfl⟩
set_option maxRecDepth 20000 in
theorem k_St_highestBeside : zMv m_St_highestBeside 3 9 := ⟨⟨zin 82 (by decide +kernel) (by decide +kernel), zin 615 (by decide +kernel) (by decide +kernel), by decide +kernel, by decide +kernel, by decide +kernel⟩, zin 613 (by decide +kernel) (by decide +kernel), zin 614 (by decide +kernel) (by decide +kernel), by decide, rfl⟩
set_option maxRecDepth 20000 in
theorem k_St_sectionBeside : zMv m_St_sectionBeside 3 9 := ⟨⟨zin 82 (by decide +kernel) (by decide +kernel), zin 619 (by decide +kernel) (by decide +kernel), by decide +kernel, by decide +kernel, by decide +kernel⟩, zin 618 (by decide +kernel) (by decide +kernel), zin 16 (by decide +kernel) (by decide +kernel), by decide, rfl⟩
set_option maxRecDepth 20000 in
theorem k_Cp_init : zMi m_Cp_init 0 := ⟨⟨zin 77 (by decide +kernel) (by decide +kernel), zin 97 (by decide +kernel) (by decide +kernel), by decide +kernel, by decide +kernel, by decide +kernel⟩, zin 96 (by decide +kernel) (by decide +kernel), rfl, rfl⟩
set_option maxRecDepth 20000 in
theorem k_Cp_letter : zMv m_Cp_letter 1 10 := ⟨⟨zin 77 (by decide +kernel) (by decide +kernel), zin 360 (by decide +kernel) (by decide +kernel), by decide +kernel, by decide +kernel, by decide +kernel⟩, zin 358 (by decide +kernel) (by decide +kernel), zin 359 (by decide +kernel) (by decide +kernel), by decide, rfl⟩
set_option maxRecDepth 20000 in
theorem k_Cp_blank : zMv m_Cp_blank 0 10 := ⟨⟨zin 77 (by decide +kernel) (by decide +kernel), zin 368 (by decide +kernel) (by decide +kernel), by decide +kernel, by decide +kernel, by decide +kernel⟩, zin 366 (by decide +kernel) (by decide +kernel), zin 367 (by decide +kernel) (by decide +kernel), by decide, rfl⟩
set_option maxRecDepth 20000 in
theorem k_Cp_fault : zMv m_Cp_fault 0 10 := ⟨⟨zin 77 (by decide +kernel) (by decide +kernel), zin 372 (by decide +kernel) (by decide +kernel), by decide +kernel, by decide +kernel, by decide +kernel⟩, zin 370 (by decide +kernel) (by decide +kernel), zin 371 (by decide +kernel) (by decide +kernel), by decide, rfl⟩
set_option maxRecDepth 20000 in
theorem k_Cp_plane : zMv m_Cp_plane 0 10 := ⟨⟨zin 77 (by decide +kernel) (by decide +kernel), zin 388 (by decide +kernel) (by decide +kernel), by decide +kernel, by decide +kernel, by decide +kernel⟩, zin 386 (by decide +kernel) (by decide +kernel), zin 387 (by decide +kernel) (by decide +kernel), by decide, rfl⟩
set_option maxRecDepth 20000 in
theorem k_Cp_curve : zMv m_Cp_curve 2 10 := ⟨⟨zin 77 (by decide +kernel) (by decide +kernel), zin 512 (by decide +kernel) (by decide +kernel), by decide +kernel, by decide +kernel, by decide +kernel⟩, zin 510 (by decide +kernel) (by decide +kernel), zin 511 (by decide +kernel) (by decide +kernel), by decide, rfl⟩
set_option maxRecDepth 20000 in
theorem k_Cp_as : zMv m_Cp_as 2 10 := ⟨⟨zin 77 (by decide +kernel) (by decide +kernel), zin 544 (by decide +kernel) (by decide +kernel), by decide +kernel, by decide +kernel, by decide +kernel⟩, zin 542 (by decide +kernel) (by decide +kernel), zin 543 (by decide +kernel) (by decide +kernel), by decide, rfl⟩
set_option maxRecDepth 20000 in
theorem k_Cp_point : zMv m_Cp_point 2 10 := ⟨⟨zin 77 (by decide +kernel) (by decide +kernel), zin 555 (by decide +kernel) (by decide +kernel), by decide +kernel, by decide +kernel, by decide +kernel⟩, zin 553 (by decide +kernel) (by decide +kernel), zin 554 (by decide +kernel) (by decide +kernel), by decide, rfl⟩
set_option maxRecDepth 20000 in
theorem k_Cp_stack : zMv m_Cp_stack 1 10 := ⟨⟨zin 77 (by decide +kernel) (by decide +kernel), zin 586 (by decide +kernel) (by decide +kernel), by decide +kernel, by decide +kernel, by decide +kernel⟩, zin 584 (by decide +kernel) (by decide +kernel), zin 585 (by decide +kernel) (by decide +kernel), by decide, rfl⟩
set_option maxRecDepth 20000 in
theorem k_Cp_cell : zMv m_Cp_cell 3 10 := ⟨⟨zin 77 (by decide +kernel) (by decide +kernel), zin 594 (by decide +kernel) (by decide +kernel), by decide +kernel, by decide +kernel, by decide +kernel⟩, zin 592 (by decide +kernel) (by decide +kernel), zin 593 (by decide +kernel) (by decide +kernel), by decide, rfl⟩
set_option maxRecDepth 20000 in
theorem k_Cp_neighbours : zMv m_Cp_neighbours 2 10 := ⟨⟨zin 77 (by decide +kernel) (by decide +kernel), zin 607 (by decide +kernel) (by decide +kernel), by decide +kernel, by decide +kernel, by decide +kernel⟩, zin 605 (by decide +kernel) (by decide +kernel), zin 606 (by decide +kernel) (by decide +kernel), by decide, rfl⟩
set_option maxRecDepth 20000 in
theorem k_Cp_put : zMv m_Cp_put 3 10 := ⟨⟨zin 77 (by decide +kernel) (by decide +kernel), zin 631 (by decide +kernel) (by decide +kernel), by decide +kernel, by decide +kernel, by decide +kernel⟩, zin 629 (by decide +kernel) (by decide +kernel), zin 630 (by decide +kernel) (by decide +kernel), by decide, rfl⟩
set_option maxRecDepth 20000 in
theorem k_Cp_take : zMv m_Cp_take 1 10 := ⟨⟨zin 77 (by decide +kernel) (by decide +kernel), zin 638 (by decide +kernel) (by decide +kernel), by decide +kernel, by decide +kernel, by decide +kernel⟩, zin 636 (by decide +kernel) (by decide +kernel), zin 637 (by decide +kernel) (by decide +kernel), by decide, rfl⟩
set_option maxRecDepth 20000 in
theorem k_Cp_move : zMv m_Cp_move 3 10 := ⟨⟨zin 77 (by decide +kernel) (by decide +kernel), zin 647 (by decide +kernel) (by decide +kernel), by decide +kernel, by decide +kernel, by decide +kernel⟩, zin 645 (by decide +kernel) (by decide +kernel), zin 646 (by decide +kernel) (by decide +kernel), by decide, rfl⟩
set_option maxRecDepth 20000 in
theorem k_Cp_change : zMv m_Cp_change 2 10 := ⟨⟨zin 77 (by decide +kernel) (by decide +kernel), zin 659 (by decide +kernel) (by decide +kernel), by decide +kernel, by decide +kernel, by decide +kernel⟩, zin 657 (by decide +kernel) (by decide +kernel), zin 658 (by decide +kernel) (by decide +kernel), by decide, rfl⟩
set_option maxRecDepth 20000 in
theorem k_Cp_mirror : zMv m_Cp_mirror 0 10 := ⟨⟨zin 77 (by decide +kernel) (by decide +kernel), zin 663 (by decide +kernel) (by decide +kernel), by decide +kernel, by decide +kernel, by decide +kernel⟩, zin 661 (by decide +kernel) (by decide +kernel), zin 662 (by decide +kernel) (by decide +kernel), by decide, rfl⟩
set_option maxRecDepth 20000 in
theorem k_Cp_sentence : zMv m_Cp_sentence 4 10 := ⟨⟨zin 77 (by decide +kernel) (by decide +kernel), zin 672 (by decide +kernel) (by decide +kernel), by decide +kernel, by decide +kernel, by decide +kernel⟩, zin 670 (by decide +kernel) (by decide +kernel), zin 671 (by decide +kernel) (by decide +kernel), by decide, rfl⟩
set_option maxRecDepth 20000 in
theorem k_Cp_pieces : zMv m_Cp_pieces 2 10 := ⟨⟨zin 77 (by decide +kernel) (by decide +kernel), zin 709 (by decide +kernel) (by decide +kernel), by decide +kernel, by decide +kernel, by decide +kernel⟩, zin 707 (by decide +kernel) (by decide +kernel), zin 708 (by decide +kernel) (by decide +kernel), by decide, rfl⟩
set_option maxRecDepth 20000 in
theorem k_Cp_loose : zMv m_Cp_loose 0 10 := ⟨⟨zin 77 (by decide +kernel) (by decide +kernel), zin 742 (by decide +kernel) (by decide +kernel), by decide +kernel, by decide +kernel, by decide +kernel⟩, zin 740 (by decide +kernel) (by decide +kernel), zin 741 (by decide +kernel) (by decide +kernel), by decide, rfl⟩
set_option maxRecDepth 20000 in
theorem k_Cp_see : zMv m_Cp_see 4 10 := ⟨⟨zin 77 (by decide +kernel) (by decide +kernel), zin 750 (by decide +kernel) (by decide +kernel), by decide +kernel, by decide +kernel, by decide +kernel⟩, zin 748 (by decide +kernel) (by decide +kernel), zin 749 (by decide +kernel) (by decide +kernel), by decide, rfl⟩
set_option maxRecDepth 20000 in
theorem k_Cp_forget : zMv m_Cp_forget 0 10 := ⟨⟨zin 77 (by decide +kernel) (by decide +kernel), zin 758 (by decide +kernel) (by decide +kernel), by decide +kernel, by decide +kernel, by decide +kernel⟩, zin 756 (by decide +kernel) (by decide +kernel), zin 757 (by decide +kernel) (by decide +kernel), by decide, rfl⟩
set_option maxRecDepth 20000 in
theorem k_Cp_dice : zMv m_Cp_dice 1 10 := ⟨⟨zin 77 (by decide +kernel) (by decide +kernel), zin 762 (by decide +kernel) (by decide +kernel), by decide +kernel, by decide +kernel, by decide +kernel⟩, zin 760 (by decide +kernel) (by decide +kernel), zin 761 (by decide +kernel) (by decide +kernel), by decide, rfl⟩
set_option maxRecDepth 20000 in
theorem k_Cp_latest : zMv m_Cp_latest 1 10 := ⟨⟨zin 77 (by decide +kernel) (by decide +kernel), zin 774 (by decide +kernel) (by decide +kernel), by decide +kernel, by decide +kernel, by decide +kernel⟩, zin 772 (by decide +kernel) (by decide +kernel), zin 773 (by decide +kernel) (by decide +kernel), by decide, rfl⟩
set_option maxRecDepth 20000 in
theorem k_Cp_image : zMv m_Cp_image 0 10 := ⟨⟨zin 77 (by decide +kernel) (by decide +kernel), zin 785 (by decide +kernel) (by decide +kernel), by decide +kernel, by decide +kernel, by decide +kernel⟩, zin 783 (by decide +kernel) (by decide +kernel), zin 784 (by decide +kernel) (by decide +kernel), by decide, rfl⟩
set_option maxRecDepth 20000 in
theorem k_Cp_restore : zMv m_Cp_restore 0 10 := ⟨⟨zin 77 (by decide +kernel) (by decide +kernel), zin 793 (by decide +kernel) (by decide +kernel), by decide +kernel, by decide +kernel, by decide +kernel⟩, zin 791 (by decide +kernel) (by decide +kernel), zin 792 (by decide +kernel) (by decide +kernel), by decide, rfl⟩
set_option maxRecDepth 20000 in
theorem k_Cp_count : zMv m_Cp_count 1 10 := ⟨⟨zin 77 (by decide +kernel) (by decide +kernel), zin 797 (by decide +kernel) (by decide +kernel), by decide +kernel, by decide +kernel, by decide +kernel⟩, zin 795 (by decide +kernel) (by decide +kernel), zin 796 (by decide +kernel) (by decide +kernel), by decide, rfl⟩
set_option maxRecDepth 20000 in
theorem k_Cp_digest : zMv m_Cp_digest 0 10 := ⟨⟨zin 77 (by decide +kernel) (by decide +kernel), zin 802 (by decide +kernel) (by decide +kernel), by decide +kernel, by decide +kernel, by decide +kernel⟩, zin 800 (by decide +kernel) (by decide +kernel), zin 801 (by decide +kernel) (by decide +kernel), by decide, rfl⟩
set_option maxRecDepth 20000 in
theorem k_Cp_mix : zMs m_Cp_mix 2 := ⟨⟨zin 77 (by decide +kernel) (by decide +kernel), zin 811 (by decide +kernel) (by decide +kernel), by decide +kernel, by decide +kernel, by decide +kernel⟩, zin 810 (by decide +kernel) (by decide +kernel)⟩
set_option maxRecDepth 20000 in
theorem k_Cp_mixCurves : zMv m_Cp_mixCurves 1 10 := ⟨⟨zin 77 (by decide +kernel) (by decide +kernel), zin 807 (by decide +kernel) (by decide +kernel), by decide +kernel, by decide +kernel, by decide +kernel⟩, zin 806 (by decide +kernel) (by decide +kernel), zin 24 (by decide +kernel) (by decide +kernel), by decide, rfl⟩
set_option maxRecDepth 20000 in
theorem k_Cp_mixPoints : zMv m_Cp_mixPoints 1 10 := ⟨⟨zin 77 (by decide +kernel) (by decide +kernel), zin 816 (by decide +kernel) (by decide +kernel), by decide +kernel, by decide +kernel, by decide +kernel⟩, zin 815 (by decide +kernel) (by decide +kernel), zin 25 (by decide +kernel) (by decide +kernel), by decide, rfl⟩
set_option maxRecDepth 20000 in
theorem k_Cp_mixStacks : zMv m_Cp_mixStacks 1 10 := ⟨⟨zin 77 (by decide +kernel) (by decide +kernel), zin 821 (by decide +kernel) (by decide +kernel), by decide +kernel, by decide +kernel, by decide +kernel⟩, zin 820 (by decide +kernel) (by decide +kernel), zin 26 (by decide +kernel) (by decide +kernel), by decide, rfl⟩
set_option maxRecDepth 20000 in
theorem k_Cp_isKind : zMs m_Cp_isKind 1 := ⟨⟨zin 77 (by decide +kernel) (by decide +kernel), zin 547 (by decide +kernel) (by decide +kernel), by decide +kernel, by decide +kernel, by decide +kernel⟩, zin 546 (by decide +kernel) (by decide +kernel)⟩
set_option maxRecDepth 20000 in
theorem k_Cp_isNear : zMs m_Cp_isNear 1 := ⟨⟨zin 77 (by decide +kernel) (by decide +kernel), zin 634 (by decide +kernel) (by decide +kernel), by decide +kernel, by decide +kernel, by decide +kernel⟩, zin 633 (by decide +kernel) (by decide +kernel)⟩
set_option maxRecDepth 20000 in
theorem k_Cp_isBit : zMs m_Cp_isBit 1 := ⟨⟨zin 77 (by decide +kernel) (by decide +kernel), zin 675 (by decide +kernel) (by decide +kernel), by decide +kernel, by decide +kernel, by decide +kernel⟩, zin 674 (by decide +kernel) (by decide +kernel)⟩
set_option maxRecDepth 20000 in
theorem k_Cp_appendCurve : zMv m_Cp_appendCurve 3 10 := ⟨⟨zin 77 (by decide +kernel) (by decide +kernel), zin 402 (by decide +kernel) (by decide +kernel), by decide +kernel, by decide +kernel, by decide +kernel⟩, zin 401 (by decide +kernel) (by decide +kernel), zin 1 (by decide +kernel) (by decide +kernel), by decide, rfl⟩
set_option maxRecDepth 20000 in
theorem k_Cp_isSo : zMv m_Cp_isSo 2 10 := ⟨⟨zin 77 (by decide +kernel) (by decide +kernel), zin 686 (by decide +kernel) (by decide +kernel), by decide +kernel, by decide +kernel, by decide +kernel⟩, zin 685 (by decide +kernel) (by decide +kernel), zin 18 (by decide +kernel) (by decide +kernel), by decide, rfl⟩
set_option maxRecDepth 20000 in
theorem k_Cp_isSoOver : zMv m_Cp_isSoOver 2 10 := ⟨⟨zin 77 (by decide +kernel) (by decide +kernel), zin 690 (by decide +kernel) (by decide +kernel), by decide +kernel, by decide +kernel, by decide +kernel⟩, zin 689 (by decide +kernel) (by decide +kernel), zin 19 (by decide +kernel) (by decide +kernel), by decide, rfl⟩
set_option maxRecDepth 20000 in
theorem k_Mo_init : zMi m_Mo_init 0 := ⟨⟨zin 88 (by decide +kernel) (by decide +kernel), zin 828 (by decide +kernel) (by decide +kernel), by decide +kernel, by decide +kernel, by decide +kernel⟩, zin 827 (by decide +kernel) (by decide +kernel), rfl, rfl⟩
set_option maxRecDepth 20000 in
theorem k_Mo_in : zMs m_Mo_in 3 := ⟨⟨zin 88 (by decide +kernel) (by decide +kernel), zin 941 (by decide +kernel) (by decide +kernel), by decide +kernel, by decide +kernel, by decide +kernel⟩, zin 940 (by decide +kernel) (by decide +kernel)⟩
set_option maxRecDepth 20000 in
theorem k_Mo_copy : zMs m_Mo_copy 2 := ⟨⟨zin 88 (by decide +kernel) (by decide +kernel), zin 1252 (by decide +kernel) (by decide +kernel), by decide +kernel, by decide +kernel, by decide +kernel⟩, zin 1251 (by decide +kernel) (by decide +kernel)⟩
set_option maxRecDepth 20000 in
theorem k_Mo_letter : zMv m_Mo_letter 1 11 := ⟨⟨zin 88 (by decide +kernel) (by decide +kernel), zin 937 (by decide +kernel) (by decide +kernel), by decide +kernel, by decide +kernel, by decide +kernel⟩, zin 935 (by decide +kernel) (by decide +kernel), zin 936 (by decide +kernel) (by decide +kernel), by decide, rfl⟩
set_option maxRecDepth 20000 in
theorem k_Mo_blank : zMv m_Mo_blank 0 11 := ⟨⟨zin 88 (by decide +kernel) (by decide +kernel), zin 945 (by decide +kernel) (by decide +kernel), by decide +kernel, by decide +kernel, by decide +kernel⟩, zin 943 (by decide +kernel) (by decide +kernel), zin 944 (by decide +kernel) (by decide +kernel), by decide, rfl⟩
set_option maxRecDepth 20000 in
theorem k_Mo_kindBy : zMs m_Mo_kindBy 1 := ⟨⟨zin 88 (by decide +kernel) (by decide +kernel), zin 960 (by decide +kernel) (by decide +kernel), by decide +kernel, by decide +kernel, by decide +kernel⟩, zin 959 (by decide +kernel) (by decide +kernel)⟩
set_option maxRecDepth 20000 in
theorem k_Mo_isGood : zMv m_Mo_isGood 1 11 := ⟨⟨zin 88 (by decide +kernel) (by decide +kernel), zin 957 (by decide +kernel) (by decide +kernel), by decide +kernel, by decide +kernel, by decide +kernel⟩, zin 956 (by decide +kernel) (by decide +kernel), zin 28 (by decide +kernel) (by decide +kernel), by decide, rfl⟩
set_option maxRecDepth 20000 in
theorem k_Mo_faultOf : zMv m_Mo_faultOf 0 11 := ⟨⟨zin 88 (by decide +kernel) (by decide +kernel), zin 953 (by decide +kernel) (by decide +kernel), by decide +kernel, by decide +kernel, by decide +kernel⟩, zin 952 (by decide +kernel) (by decide +kernel), zin 27 (by decide +kernel) (by decide +kernel), by decide, rfl⟩
set_option maxRecDepth 20000 in
theorem k_Mo_fault : zMv m_Mo_fault 0 11 := ⟨⟨zin 88 (by decide +kernel) (by decide +kernel), zin 949 (by decide +kernel) (by decide +kernel), by decide +kernel, by decide +kernel, by decide +kernel⟩, zin 947 (by decide +kernel) (by decide +kernel), zin 948 (by decide +kernel) (by decide +kernel), by decide, rfl⟩
set_option maxRecDepth 20000 in
theorem k_Mo_numberAt : zMv m_Mo_numberAt 1 11 := ⟨⟨zin 88 (by decide +kernel) (by decide +kernel), zin 970 (by decide +kernel) (by decide +kernel), by decide +kernel, by decide +kernel, by decide +kernel⟩, zin 969 (by decide +kernel) (by decide +kernel), zin 29 (by decide +kernel) (by decide +kernel), by decide, rfl⟩
set_option maxRecDepth 20000 in
theorem k_Mo_name : zMv m_Mo_name 1 11 := ⟨⟨zin 88 (by decide +kernel) (by decide +kernel), zin 974 (by decide +kernel) (by decide +kernel), by decide +kernel, by decide +kernel, by decide +kernel⟩, zin 973 (by decide +kernel) (by decide +kernel), zin 30 (by decide +kernel) (by decide +kernel), by decide, rfl⟩
set_option maxRecDepth 20000 in
theorem k_Mo_plane : zMv m_Mo_plane 0 11 := ⟨⟨zin 88 (by decide +kernel) (by decide +kernel), zin 966 (by decide +kernel) (by decide +kernel), by decide +kernel, by decide +kernel, by decide +kernel⟩, zin 964 (by decide +kernel) (by decide +kernel), zin 965 (by decide +kernel) (by decide +kernel), by decide, rfl⟩
set_option maxRecDepth 20000 in
theorem k_Mo_lacks : zMv m_Mo_lacks 0 11 := ⟨⟨zin 88 (by decide +kernel) (by decide +kernel), zin 986 (by decide +kernel) (by decide +kernel), by decide +kernel, by decide +kernel, by decide +kernel⟩, zin 985 (by decide +kernel) (by decide +kernel), zin 32 (by decide +kernel) (by decide +kernel), by decide, rfl⟩
set_option maxRecDepth 20000 in
theorem k_Mo_isCurve : zMv m_Mo_isCurve 1 11 := ⟨⟨zin 88 (by decide +kernel) (by decide +kernel), zin 1087 (by decide +kernel) (by decide +kernel), by decide +kernel, by decide +kernel, by decide +kernel⟩, zin 1086 (by decide +kernel) (by decide +kernel), zin 52 (by decide +kernel) (by decide +kernel), by decide, rfl⟩
set_option maxRecDepth 20000 in
theorem k_Mo_squareBy : zMs m_Mo_squareBy 1 := ⟨⟨zin 88 (by decide +kernel) (by decide +kernel), zin 1035 (by decide +kernel) (by decide +kernel), by decide +kernel, by decide +kernel, by decide +kernel⟩, zin 1034 (by decide +kernel) (by decide +kernel)⟩
set_option maxRecDepth 20000 in
theorem k_Mo_square : zMv m_Mo_square 1 11 := ⟨⟨zin 88 (by decide +kernel) (by decide +kernel), zin 1032 (by decide +kernel) (by decide +kernel), by decide +kernel, by decide +kernel, by decide +kernel⟩, zin 1031 (by decide +kernel) (by decide +kernel), zin 41 (by decide +kernel) (by decide +kernel), by decide, rfl⟩
set_option maxRecDepth 20000 in
theorem k_Mo_slope : zMv m_Mo_slope 1 11 := ⟨⟨zin 88 (by decide +kernel) (by decide +kernel), zin 1039 (by decide +kernel) (by decide +kernel), by decide +kernel, by decide +kernel, by decide +kernel⟩, zin 1038 (by decide +kernel) (by decide +kernel), zin 42 (by decide +kernel) (by decide +kernel), by decide, rfl⟩
set_option maxRecDepth 20000 in
theorem k_Mo_isFlat : zMv m_Mo_isFlat 1 11 := ⟨⟨zin 88 (by decide +kernel) (by decide +kernel), zin 1002 (by decide +kernel) (by decide +kernel), by decide +kernel, by decide +kernel, by decide +kernel⟩, zin 1001 (by decide +kernel) (by decide +kernel), zin 36 (by decide +kernel) (by decide +kernel), by decide, rfl⟩
set_option maxRecDepth 20000 in
theorem k_Mo_isSame : zMv m_Mo_isSame 2 11 := ⟨⟨zin 88 (by decide +kernel) (by decide +kernel), zin 1196 (by decide +kernel) (by decide +kernel), by decide +kernel, by decide +kernel, by decide +kernel⟩, zin 1195 (by decide +kernel) (by decide +kernel), zin 68 (by decide +kernel) (by decide +kernel), by decide, rfl⟩
set_option maxRecDepth 20000 in
theorem k_Mo_signOf : zMs m_Mo_signOf 1 := ⟨⟨zin 88 (by decide +kernel) (by decide +kernel), zin 1023 (by decide +kernel) (by decide +kernel), by decide +kernel, by decide +kernel, by decide +kernel⟩, zin 1022 (by decide +kernel) (by decide +kernel)⟩
set_option maxRecDepth 20000 in
theorem k_Mo_signRoot : zMs m_Mo_signRoot 3 := ⟨⟨zin 88 (by decide +kernel) (by decide +kernel), zin 1020 (by decide +kernel) (by decide +kernel), by decide +kernel, by decide +kernel, by decide +kernel⟩, zin 1019 (by decide +kernel) (by decide +kernel)⟩
set_option maxRecDepth 20000 in
theorem k_Mo_signRoots : zMs m_Mo_signRoots 5 := ⟨⟨zin 88 (by decide +kernel) (by decide +kernel), zin 1017 (by decide +kernel) (by decide +kernel), by decide +kernel, by decide +kernel, by decide +kernel⟩, zin 1016 (by decide +kernel) (by decide +kernel)⟩
set_option maxRecDepth 20000 in
theorem k_Mo_layNumber : zMv m_Mo_layNumber 5 11 := ⟨⟨zin 88 (by decide +kernel) (by decide +kernel), zin 1010 (by decide +kernel) (by decide +kernel), by decide +kernel, by decide +kernel, by decide +kernel⟩, zin 1009 (by decide +kernel) (by decide +kernel), zin 38 (by decide +kernel) (by decide +kernel), by decide, rfl⟩
set_option maxRecDepth 20000 in
theorem k_Mo_compare : zMv m_Mo_compare 2 11 := ⟨⟨zin 88 (by decide +kernel) (by decide +kernel), zin 1014 (by decide +kernel) (by decide +kernel), by decide +kernel, by decide +kernel, by decide +kernel⟩, zin 1013 (by decide +kernel) (by decide +kernel), zin 39 (by decide +kernel) (by decide +kernel), by decide, rfl⟩
set_option maxRecDepth 20000 in
theorem k_Mo_compareTo : zMv m_Mo_compareTo 3 11 := ⟨⟨zin 88 (by decide +kernel) (by decide +kernel), zin 1059 (by decide +kernel) (by decide +kernel), by decide +kernel, by decide +kernel, by decide +kernel⟩, zin 1058 (by decide +kernel) (by decide +kernel), zin 46 (by decide +kernel) (by decide +kernel), by decide, rfl⟩
set_option maxRecDepth 20000 in
theorem k_Mo_floorOf : zMv m_Mo_floorOf 2 11 := ⟨⟨zin 88 (by decide +kernel) (by decide +kernel), zin 1052 (by decide +kernel) (by decide +kernel), by decide +kernel, by decide +kernel, by decide +kernel⟩, zin 1051 (by decide +kernel) (by decide +kernel), zin 45 (by decide +kernel) (by decide +kernel), by decide, rfl⟩
set_option maxRecDepth 20000 in
theorem k_Mo_difference : zMv m_Mo_difference 3 11 := ⟨⟨zin 88 (by decide +kernel) (by decide +kernel), zin 1067 (by decide +kernel) (by decide +kernel), by decide +kernel, by decide +kernel, by decide +kernel⟩, zin 1066 (by decide +kernel) (by decide +kernel), zin 48 (by decide +kernel) (by decide +kernel), by decide, rfl⟩
set_option maxRecDepth 20000 in
theorem k_Mo_addPoint : zMv m_Mo_addPoint 4 11 := ⟨⟨zin 88 (by decide +kernel) (by decide +kernel), zin 1006 (by decide +kernel) (by decide +kernel), by decide +kernel, by decide +kernel, by decide +kernel⟩, zin 1005 (by decide +kernel) (by decide +kernel), zin 37 (by decide +kernel) (by decide +kernel), by decide, rfl⟩
set_option maxRecDepth 20000 in
theorem k_Mo_addRoots : zMv m_Mo_addRoots 2 11 := ⟨⟨zin 88 (by decide +kernel) (by decide +kernel), zin 1028 (by decide +kernel) (by decide +kernel), by decide +kernel, by decide +kernel, by decide +kernel⟩, zin 1027 (by decide +kernel) (by decide +kernel), zin 40 (by decide +kernel) (by decide +kernel), by decide, rfl⟩
set_option maxRecDepth 20000 in
theorem k_Mo_layPoints : zMv m_Mo_layPoints 1 11 := ⟨⟨zin 88 (by decide +kernel) (by decide +kernel), zin 998 (by decide +kernel) (by decide +kernel), by decide +kernel, by decide +kernel, by decide +kernel⟩, zin 997 (by decide +kernel) (by decide +kernel), zin 35 (by decide +kernel) (by decide +kernel), by decide, rfl⟩
set_option maxRecDepth 20000 in
theorem k_Mo_laySample : zMv m_Mo_laySample 2 11 := ⟨⟨zin 88 (by decide +kernel) (by decide +kernel), zin 1048 (by decide +kernel) (by decide +kernel), by decide +kernel, by decide +kernel, by decide +kernel⟩, zin 1047 (by decide +kernel) (by decide +kernel), zin 44 (by decide +kernel) (by decide +kernel), by decide, rfl⟩
set_option maxRecDepth 20000 in
theorem k_Mo_laySamples : zMv m_Mo_laySamples 0 11 := ⟨⟨zin 88 (by decide +kernel) (by decide +kernel), zin 1044 (by decide +kernel) (by decide +kernel), by decide +kernel, by decide +kernel, by decide +kernel⟩, zin 1043 (by decide +kernel) (by decide +kernel), zin 43 (by decide +kernel) (by decide +kernel), by decide, rfl⟩
set_option maxRecDepth 20000 in
theorem k_Mo_layRanks : zMv m_Mo_layRanks 1 11 := ⟨⟨zin 88 (by decide +kernel) (by decide +kernel), zin 1063 (by decide +kernel) (by decide +kernel), by decide +kernel, by decide +kernel, by decide +kernel⟩, zin 1062 (by decide +kernel) (by decide +kernel), zin 47 (by decide +kernel) (by decide +kernel), by decide, rfl⟩
set_option maxRecDepth 20000 in
theorem k_Mo_isFirst : zMv m_Mo_isFirst 3 11 := ⟨⟨zin 88 (by decide +kernel) (by decide +kernel), zin 1071 (by decide +kernel) (by decide +kernel), by decide +kernel, by decide +kernel, by decide +kernel⟩, zin 1070 (by decide +kernel) (by decide +kernel), zin 49 (by decide +kernel) (by decide +kernel), by decide, rfl⟩
set_option maxRecDepth 20000 in
theorem k_Mo_layAll : zMv m_Mo_layAll 1 11 := ⟨⟨zin 88 (by decide +kernel) (by decide +kernel), zin 994 (by decide +kernel) (by decide +kernel), by decide +kernel, by decide +kernel, by decide +kernel⟩, zin 993 (by decide +kernel) (by decide +kernel), zin 34 (by decide +kernel) (by decide +kernel), by decide, rfl⟩
set_option maxRecDepth 20000 in
theorem k_Mo_freshen : zMv m_Mo_freshen 0 11 := ⟨⟨zin 88 (by decide +kernel) (by decide +kernel), zin 990 (by decide +kernel) (by decide +kernel), by decide +kernel, by decide +kernel, by decide +kernel⟩, zin 989 (by decide +kernel) (by decide +kernel), zin 33 (by decide +kernel) (by decide +kernel), by decide, rfl⟩
set_option maxRecDepth 20000 in
theorem k_Mo_cellsIn : zMv m_Mo_cellsIn 1 11 := ⟨⟨zin 88 (by decide +kernel) (by decide +kernel), zin 1075 (by decide +kernel) (by decide +kernel), by decide +kernel, by decide +kernel, by decide +kernel⟩, zin 1074 (by decide +kernel) (by decide +kernel), zin 50 (by decide +kernel) (by decide +kernel), by decide, rfl⟩
set_option maxRecDepth 20000 in
theorem k_Mo_cellsAll : zMv m_Mo_cellsAll 0 11 := ⟨⟨zin 88 (by decide +kernel) (by decide +kernel), zin 1153 (by decide +kernel) (by decide +kernel), by decide +kernel, by decide +kernel, by decide +kernel⟩, zin 1152 (by decide +kernel) (by decide +kernel), zin 61 (by decide +kernel) (by decide +kernel), by decide, rfl⟩
set_option maxRecDepth 20000 in
theorem k_Mo_isStack : zMv m_Mo_isStack 1 11 := ⟨⟨zin 88 (by decide +kernel) (by decide +kernel), zin 982 (by decide +kernel) (by decide +kernel), by decide +kernel, by decide +kernel, by decide +kernel⟩, zin 981 (by decide +kernel) (by decide +kernel), zin 31 (by decide +kernel) (by decide +kernel), by decide, rfl⟩
set_option maxRecDepth 20000 in
theorem k_Mo_isCell : zMv m_Mo_isCell 2 11 := ⟨⟨zin 88 (by decide +kernel) (by decide +kernel), zin 1083 (by decide +kernel) (by decide +kernel), by decide +kernel, by decide +kernel, by decide +kernel⟩, zin 1082 (by decide +kernel) (by decide +kernel), zin 51 (by decide +kernel) (by decide +kernel), by decide, rfl⟩
set_option maxRecDepth 20000 in
theorem k_Mo_lies : zMv m_Mo_lies 3 11 := ⟨⟨zin 88 (by decide +kernel) (by decide +kernel), zin 1091 (by decide +kernel) (by decide +kernel), by decide +kernel, by decide +kernel, by decide +kernel⟩, zin 1090 (by decide +kernel) (by decide +kernel), zin 53 (by decide +kernel) (by decide +kernel), by decide, rfl⟩
set_option maxRecDepth 20000 in
theorem k_Mo_stack : zMv m_Mo_stack 1 11 := ⟨⟨zin 88 (by decide +kernel) (by decide +kernel), zin 978 (by decide +kernel) (by decide +kernel), by decide +kernel, by decide +kernel, by decide +kernel⟩, zin 976 (by decide +kernel) (by decide +kernel), zin 977 (by decide +kernel) (by decide +kernel), by decide, rfl⟩
set_option maxRecDepth 20000 in
theorem k_Mo_cell : zMv m_Mo_cell 3 11 := ⟨⟨zin 88 (by decide +kernel) (by decide +kernel), zin 1079 (by decide +kernel) (by decide +kernel), by decide +kernel, by decide +kernel, by decide +kernel⟩, zin 1077 (by decide +kernel) (by decide +kernel), zin 1078 (by decide +kernel) (by decide +kernel), by decide, rfl⟩
set_option maxRecDepth 20000 in
theorem k_Mo_comesTo : zMv m_Mo_comesTo 3 11 := ⟨⟨zin 88 (by decide +kernel) (by decide +kernel), zin 1107 (by decide +kernel) (by decide +kernel), by decide +kernel, by decide +kernel, by decide +kernel⟩, zin 1106 (by decide +kernel) (by decide +kernel), zin 56 (by decide +kernel) (by decide +kernel), by decide, rfl⟩
set_option maxRecDepth 20000 in
theorem k_Mo_isBeside : zMv m_Mo_isBeside 4 11 := ⟨⟨zin 88 (by decide +kernel) (by decide +kernel), zin 1103 (by decide +kernel) (by decide +kernel), by decide +kernel, by decide +kernel, by decide +kernel⟩, zin 1102 (by decide +kernel) (by decide +kernel), zin 55 (by decide +kernel) (by decide +kernel), by decide, rfl⟩
set_option maxRecDepth 20000 in
theorem k_Mo_isNeighbour : zMv m_Mo_isNeighbour 4 11 := ⟨⟨zin 88 (by decide +kernel) (by decide +kernel), zin 1099 (by decide +kernel) (by decide +kernel), by decide +kernel, by decide +kernel, by decide +kernel⟩, zin 1098 (by decide +kernel) (by decide +kernel), zin 54 (by decide +kernel) (by decide +kernel), by decide, rfl⟩
set_option maxRecDepth 20000 in
theorem k_Mo_neighbours : zMv m_Mo_neighbours 2 11 := ⟨⟨zin 88 (by decide +kernel) (by decide +kernel), zin 1095 (by decide +kernel) (by decide +kernel), by decide +kernel, by decide +kernel, by decide +kernel⟩, zin 1093 (by decide +kernel) (by decide +kernel), zin 1094 (by decide +kernel) (by decide +kernel), by decide, rfl⟩
set_option maxRecDepth 20000 in
theorem k_Mo_isForm : zMs m_Mo_isForm 1 := ⟨⟨zin 88 (by decide +kernel) (by decide +kernel), zin 1114 (by decide +kernel) (by decide +kernel), by decide +kernel, by decide +kernel, by decide +kernel⟩, zin 1113 (by decide +kernel) (by decide +kernel)⟩
set_option maxRecDepth 20000 in
theorem k_Mo_figureOf : zMs m_Mo_figureOf 2 := ⟨⟨zin 88 (by decide +kernel) (by decide +kernel), zin 1126 (by decide +kernel) (by decide +kernel), by decide +kernel, by decide +kernel, by decide +kernel⟩, zin 1125 (by decide +kernel) (by decide +kernel)⟩
set_option maxRecDepth 20000 in
theorem k_Mo_isSo : zMs m_Mo_isSo 2 := ⟨⟨zin 88 (by decide +kernel) (by decide +kernel), zin 1129 (by decide +kernel) (by decide +kernel), by decide +kernel, by decide +kernel, by decide +kernel⟩, zin 1128 (by decide +kernel) (by decide +kernel)⟩
set_option maxRecDepth 20000 in
theorem k_Mo_holds : zMv m_Mo_holds 4 11 := ⟨⟨zin 88 (by decide +kernel) (by decide +kernel), zin 1123 (by decide +kernel) (by decide +kernel), by decide +kernel, by decide +kernel, by decide +kernel⟩, zin 1122 (by decide +kernel) (by decide +kernel), zin 58 (by decide +kernel) (by decide +kernel), by decide, rfl⟩
set_option maxRecDepth 20000 in
theorem k_Mo_holdsIn : zMv m_Mo_holdsIn 4 11 := ⟨⟨zin 88 (by decide +kernel) (by decide +kernel), zin 1119 (by decide +kernel) (by decide +kernel), by decide +kernel, by decide +kernel, by decide +kernel⟩, zin 1118 (by decide +kernel) (by decide +kernel), zin 57 (by decide +kernel) (by decide +kernel), by decide, rfl⟩
set_option maxRecDepth 20000 in
theorem k_Mo_sentence : zMv m_Mo_sentence 4 11 := ⟨⟨zin 88 (by decide +kernel) (by decide +kernel), zin 1111 (by decide +kernel) (by decide +kernel), by decide +kernel, by decide +kernel, by decide +kernel⟩, zin 1109 (by decide +kernel) (by decide +kernel), zin 1110 (by decide +kernel) (by decide +kernel), by decide, rfl⟩
set_option maxRecDepth 20000 in
theorem k_Mo_latest : zMv m_Mo_latest 1 11 := ⟨⟨zin 88 (by decide +kernel) (by decide +kernel), zin 1133 (by decide +kernel) (by decide +kernel), by decide +kernel, by decide +kernel, by decide +kernel⟩, zin 1131 (by decide +kernel) (by decide +kernel), zin 1132 (by decide +kernel) (by decide +kernel), by decide, rfl⟩
set_option maxRecDepth 20000 in
theorem k_Mo_isSpread : zMv m_Mo_isSpread 0 11 := ⟨⟨zin 88 (by decide +kernel) (by decide +kernel), zin 1145 (by decide +kernel) (by decide +kernel), by decide +kernel, by decide +kernel, by decide +kernel⟩, zin 1144 (by decide +kernel) (by decide +kernel), zin 60 (by decide +kernel) (by decide +kernel), by decide, rfl⟩
set_option maxRecDepth 20000 in
theorem k_Mo_piecesOf : zMv m_Mo_piecesOf 2 11 := ⟨⟨zin 88 (by decide +kernel) (by decide +kernel), zin 1141 (by decide +kernel) (by decide +kernel), by decide +kernel, by decide +kernel, by decide +kernel⟩, zin 1140 (by decide +kernel) (by decide +kernel), zin 59 (by decide +kernel) (by decide +kernel), by decide, rfl⟩
set_option maxRecDepth 20000 in
theorem k_Mo_pieces : zMv m_Mo_pieces 2 11 := ⟨⟨zin 88 (by decide +kernel) (by decide +kernel), zin 1137 (by decide +kernel) (by decide +kernel), by decide +kernel, by decide +kernel, by decide +kernel⟩, zin 1135 (by decide +kernel) (by decide +kernel), zin 1136 (by decide +kernel) (by decide +kernel), by decide, rfl⟩
set_option maxRecDepth 20000 in
theorem k_Mo_loose : zMv m_Mo_loose 0 11 := ⟨⟨zin 88 (by decide +kernel) (by decide +kernel), zin 1149 (by decide +kernel) (by decide +kernel), by decide +kernel, by decide +kernel, by decide +kernel⟩, zin 1147 (by decide +kernel) (by decide +kernel), zin 1148 (by decide +kernel) (by decide +kernel), by decide, rfl⟩
set_option maxRecDepth 20000 in
theorem k_Mo_tellCurve : zMv m_Mo_tellCurve 2 11 := ⟨⟨zin 88 (by decide +kernel) (by decide +kernel), zin 1161 (by decide +kernel) (by decide +kernel), by decide +kernel, by decide +kernel, by decide +kernel⟩, zin 1160 (by decide +kernel) (by decide +kernel), zin 62 (by decide +kernel) (by decide +kernel), by decide, rfl⟩
set_option maxRecDepth 20000 in
theorem k_Mo_curve : zMv m_Mo_curve 2 11 := ⟨⟨zin 88 (by decide +kernel) (by decide +kernel), zin 1157 (by decide +kernel) (by decide +kernel), by decide +kernel, by decide +kernel, by decide +kernel⟩, zin 1155 (by decide +kernel) (by decide +kernel), zin 1156 (by decide +kernel) (by decide +kernel), by decide, rfl⟩
set_option maxRecDepth 20000 in
theorem k_Mo_as : zMv m_Mo_as 2 11 := ⟨⟨zin 88 (by decide +kernel) (by decide +kernel), zin 1177 (by decide +kernel) (by decide +kernel), by decide +kernel, by decide +kernel, by decide +kernel⟩, zin 1175 (by decide +kernel) (by decide +kernel), zin 1176 (by decide +kernel) (by decide +kernel), by decide, rfl⟩
set_option maxRecDepth 20000 in
theorem k_Mo_meeting : zMv m_Mo_meeting 1 11 := ⟨⟨zin 88 (by decide +kernel) (by decide +kernel), zin 1192 (by decide +kernel) (by decide +kernel), by decide +kernel, by decide +kernel, by decide +kernel⟩, zin 1191 (by decide +kernel) (by decide +kernel), zin 67 (by decide +kernel) (by decide +kernel), by decide, rfl⟩
set_option maxRecDepth 20000 in
theorem k_Mo_standing : zMv m_Mo_standing 1 11 := ⟨⟨zin 88 (by decide +kernel) (by decide +kernel), zin 1200 (by decide +kernel) (by decide +kernel), by decide +kernel, by decide +kernel, by decide +kernel⟩, zin 1199 (by decide +kernel) (by decide +kernel), zin 69 (by decide +kernel) (by decide +kernel), by decide, rfl⟩
set_option maxRecDepth 20000 in
theorem k_Mo_tellPoint : zMv m_Mo_tellPoint 2 11 := ⟨⟨zin 88 (by decide +kernel) (by decide +kernel), zin 1186 (by decide +kernel) (by decide +kernel), by decide +kernel, by decide +kernel, by decide +kernel⟩, zin 1185 (by decide +kernel) (by decide +kernel), zin 66 (by decide +kernel) (by decide +kernel), by decide, rfl⟩
set_option maxRecDepth 20000 in
theorem k_Mo_point : zMv m_Mo_point 2 11 := ⟨⟨zin 88 (by decide +kernel) (by decide +kernel), zin 1182 (by decide +kernel) (by decide +kernel), by decide +kernel, by decide +kernel, by decide +kernel⟩, zin 1180 (by decide +kernel) (by decide +kernel), zin 1181 (by decide +kernel) (by decide +kernel), by decide, rfl⟩
set_option maxRecDepth 20000 in
theorem k_Mo_isNumber : zMs m_Mo_isNumber 1 := ⟨⟨zin 88 (by decide +kernel) (by decide +kernel), zin 1207 (by decide +kernel) (by decide +kernel), by decide +kernel, by decide +kernel, by decide +kernel⟩, zin 1206 (by decide +kernel) (by decide +kernel)⟩
set_option maxRecDepth 20000 in
theorem k_Mo_put : zMv m_Mo_put 3 11 := ⟨⟨zin 88 (by decide +kernel) (by decide +kernel), zin 1204 (by decide +kernel) (by decide +kernel), by decide +kernel, by decide +kernel, by decide +kernel⟩, zin 1202 (by decide +kernel) (by decide +kernel), zin 1203 (by decide +kernel) (by decide +kernel), by decide, rfl⟩
set_option maxRecDepth 20000 in
theorem k_Mo_take : zMv m_Mo_take 1 11 := ⟨⟨zin 88 (by decide +kernel) (by decide +kernel), zin 1213 (by decide +kernel) (by decide +kernel), by decide +kernel, by decide +kernel, by decide +kernel⟩, zin 1211 (by decide +kernel) (by decide +kernel), zin 1212 (by decide +kernel) (by decide +kernel), by decide, rfl⟩
set_option maxRecDepth 20000 in
theorem k_Mo_cellsNow : zMv m_Mo_cellsNow 0 11 := ⟨⟨zin 88 (by decide +kernel) (by decide +kernel), zin 1221 (by decide +kernel) (by decide +kernel), by decide +kernel, by decide +kernel, by decide +kernel⟩, zin 1220 (by decide +kernel) (by decide +kernel), zin 70 (by decide +kernel) (by decide +kernel), by decide, rfl⟩
set_option maxRecDepth 20000 in
theorem k_Mo_move : zMv m_Mo_move 3 11 := ⟨⟨zin 88 (by decide +kernel) (by decide +kernel), zin 1217 (by decide +kernel) (by decide +kernel), by decide +kernel, by decide +kernel, by decide +kernel⟩, zin 1215 (by decide +kernel) (by decide +kernel), zin 1216 (by decide +kernel) (by decide +kernel), by decide, rfl⟩
set_option maxRecDepth 20000 in
theorem k_Mo_change : zMv m_Mo_change 2 11 := ⟨⟨zin 88 (by decide +kernel) (by decide +kernel), zin 1225 (by decide +kernel) (by decide +kernel), by decide +kernel, by decide +kernel, by decide +kernel⟩, zin 1223 (by decide +kernel) (by decide +kernel), zin 1224 (by decide +kernel) (by decide +kernel), by decide, rfl⟩
set_option maxRecDepth 20000 in
theorem k_Mo_mirror : zMv m_Mo_mirror 0 11 := ⟨⟨zin 88 (by decide +kernel) (by decide +kernel), zin 1229 (by decide +kernel) (by decide +kernel), by decide +kernel, by decide +kernel, by decide +kernel⟩, zin 1227 (by decide +kernel) (by decide +kernel), zin 1228 (by decide +kernel) (by decide +kernel), by decide, rfl⟩
set_option maxRecDepth 20000 in
theorem k_Mo_see : zMv m_Mo_see 4 11 := ⟨⟨zin 88 (by decide +kernel) (by decide +kernel), zin 1233 (by decide +kernel) (by decide +kernel), by decide +kernel, by decide +kernel, by decide +kernel⟩, zin 1231 (by decide +kernel) (by decide +kernel), zin 1232 (by decide +kernel) (by decide +kernel), by decide, rfl⟩
set_option maxRecDepth 20000 in
theorem k_Mo_forget : zMv m_Mo_forget 0 11 := ⟨⟨zin 88 (by decide +kernel) (by decide +kernel), zin 1237 (by decide +kernel) (by decide +kernel), by decide +kernel, by decide +kernel, by decide +kernel⟩, zin 1235 (by decide +kernel) (by decide +kernel), zin 1236 (by decide +kernel) (by decide +kernel), by decide, rfl⟩
set_option maxRecDepth 20000 in
theorem k_Mo_liesAt : zMv m_Mo_liesAt 4 11 := ⟨⟨zin 88 (by decide +kernel) (by decide +kernel), zin 1169 (by decide +kernel) (by decide +kernel), by decide +kernel, by decide +kernel, by decide +kernel⟩, zin 1168 (by decide +kernel) (by decide +kernel), zin 64 (by decide +kernel) (by decide +kernel), by decide, rfl⟩
set_option maxRecDepth 20000 in
theorem k_Mo_sortsOf : zMv m_Mo_sortsOf 1 11 := ⟨⟨zin 88 (by decide +kernel) (by decide +kernel), zin 1165 (by decide +kernel) (by decide +kernel), by decide +kernel, by decide +kernel, by decide +kernel⟩, zin 1164 (by decide +kernel) (by decide +kernel), zin 63 (by decide +kernel) (by decide +kernel), by decide, rfl⟩
set_option maxRecDepth 20000 in
theorem k_Mo_askOf : zMv m_Mo_askOf 1 11 := ⟨⟨zin 88 (by decide +kernel) (by decide +kernel), zin 1173 (by decide +kernel) (by decide +kernel), by decide +kernel, by decide +kernel, by decide +kernel⟩, zin 1172 (by decide +kernel) (by decide +kernel), zin 65 (by decide +kernel) (by decide +kernel), by decide, rfl⟩
set_option maxRecDepth 20000 in
theorem k_Mo_dice : zMv m_Mo_dice 1 11 := ⟨⟨zin 88 (by decide +kernel) (by decide +kernel), zin 1241 (by decide +kernel) (by decide +kernel), by decide +kernel, by decide +kernel, by decide +kernel⟩, zin 1239 (by decide +kernel) (by decide +kernel), zin 1240 (by decide +kernel) (by decide +kernel), by decide, rfl⟩
set_option maxRecDepth 20000 in
theorem k_Mo_image : zMv m_Mo_image 0 11 := ⟨⟨zin 88 (by decide +kernel) (by decide +kernel), zin 1249 (by decide +kernel) (by decide +kernel), by decide +kernel, by decide +kernel, by decide +kernel⟩, zin 1247 (by decide +kernel) (by decide +kernel), zin 1248 (by decide +kernel) (by decide +kernel), by decide, rfl⟩
set_option maxRecDepth 20000 in
theorem k_Mo_restore : zMv m_Mo_restore 0 11 := ⟨⟨zin 88 (by decide +kernel) (by decide +kernel), zin 1256 (by decide +kernel) (by decide +kernel), by decide +kernel, by decide +kernel, by decide +kernel⟩, zin 1254 (by decide +kernel) (by decide +kernel), zin 1255 (by decide +kernel) (by decide +kernel), by decide, rfl⟩
set_option maxRecDepth 20000 in
theorem k_Mo_sectionsAll : zMv m_Mo_sectionsAll 0 11 := ⟨⟨zin 88 (by decide +kernel) (by decide +kernel), zin 1272 (by decide +kernel) (by decide +kernel), by decide +kernel, by decide +kernel, by decide +kernel⟩, zin 1271 (by decide +kernel) (by decide +kernel), zin 73 (by decide +kernel) (by decide +kernel), by decide, rfl⟩
set_option maxRecDepth 20000 in
theorem k_Mo_countPlane : zMv m_Mo_countPlane 1 11 := ⟨⟨zin 88 (by decide +kernel) (by decide +kernel), zin 1268 (by decide +kernel) (by decide +kernel), by decide +kernel, by decide +kernel, by decide +kernel⟩, zin 1267 (by decide +kernel) (by decide +kernel), zin 72 (by decide +kernel) (by decide +kernel), by decide, rfl⟩
set_option maxRecDepth 20000 in
theorem k_Mo_countOf : zMv m_Mo_countOf 1 11 := ⟨⟨zin 88 (by decide +kernel) (by decide +kernel), zin 1264 (by decide +kernel) (by decide +kernel), by decide +kernel, by decide +kernel, by decide +kernel⟩, zin 1263 (by decide +kernel) (by decide +kernel), zin 71 (by decide +kernel) (by decide +kernel), by decide, rfl⟩
set_option maxRecDepth 20000 in
theorem k_Mo_count : zMv m_Mo_count 1 11 := ⟨⟨zin 88 (by decide +kernel) (by decide +kernel), zin 1260 (by decide +kernel) (by decide +kernel), by decide +kernel, by decide +kernel, by decide +kernel⟩, zin 1258 (by decide +kernel) (by decide +kernel), zin 1259 (by decide +kernel) (by decide +kernel), by decide, rfl⟩
set_option maxRecDepth 20000 in
theorem k_Mo_say : zMv m_Mo_say 1 11 := ⟨⟨zin 88 (by decide +kernel) (by decide +kernel), zin 1281 (by decide +kernel) (by decide +kernel), by decide +kernel, by decide +kernel, by decide +kernel⟩, zin 1280 (by decide +kernel) (by decide +kernel), zin 74 (by decide +kernel) (by decide +kernel), by decide, rfl⟩
set_option maxRecDepth 20000 in
theorem k_Mo_sayStacks : zMv m_Mo_sayStacks 0 11 := ⟨⟨zin 88 (by decide +kernel) (by decide +kernel), zin 1286 (by decide +kernel) (by decide +kernel), by decide +kernel, by decide +kernel, by decide +kernel⟩, zin 1285 (by decide +kernel) (by decide +kernel), zin 75 (by decide +kernel) (by decide +kernel), by decide, rfl⟩
set_option maxRecDepth 20000 in
theorem k_Mo_digest : zMv m_Mo_digest 0 11 := ⟨⟨zin 88 (by decide +kernel) (by decide +kernel), zin 1276 (by decide +kernel) (by decide +kernel), by decide +kernel, by decide +kernel, by decide +kernel⟩, zin 1274 (by decide +kernel) (by decide +kernel), zin 1275 (by decide +kernel) (by decide +kernel), by decide, rfl⟩
set_option maxRecDepth 20000 in
theorem k_In_compare : zMs m_In_compare 2 := ⟨⟨zin 91 (by decide +kernel) (by decide +kernel), zin 470 (by decide +kernel) (by decide +kernel), by decide +kernel, by decide +kernel, by decide +kernel⟩, zin 469 (by decide +kernel) (by decide +kernel)⟩
set_option maxRecDepth 20000 in
theorem k_Lo_compare : zMs m_Lo_compare 2 := ⟨⟨zin 90 (by decide +kernel) (by decide +kernel), zin 451 (by decide +kernel) (by decide +kernel), by decide +kernel, by decide +kernel, by decide +kernel⟩, zin 450 (by decide +kernel) (by decide +kernel)⟩
set_option maxRecDepth 20000 in
theorem k_Ma_floorDiv : zMs m_Ma_floorDiv 2 := ⟨⟨zin 92 (by decide +kernel) (by decide +kernel), zin 566 (by decide +kernel) (by decide +kernel), by decide +kernel, by decide +kernel, by decide +kernel⟩, zin 565 (by decide +kernel) (by decide +kernel)⟩
set_option maxRecDepth 20000 in
theorem k_Ma_floorMod : zMs m_Ma_floorMod 2 := ⟨⟨zin 92 (by decide +kernel) (by decide +kernel), zin 781 (by decide +kernel) (by decide +kernel), by decide +kernel, by decide +kernel, by decide +kernel⟩, zin 780 (by decide +kernel) (by decide +kernel)⟩
set_option maxRecDepth 20000 in
theorem k_Ma_max : zMs m_Ma_max 2 := ⟨⟨zin 92 (by decide +kernel) (by decide +kernel), zin 540 (by decide +kernel) (by decide +kernel), by decide +kernel, by decide +kernel, by decide +kernel⟩, zin 539 (by decide +kernel) (by decide +kernel)⟩
set_option maxRecDepth 20000 in
theorem k_Ma_min : zMs m_Ma_min 2 := ⟨⟨zin 92 (by decide +kernel) (by decide +kernel), zin 705 (by decide +kernel) (by decide +kernel), by decide +kernel, by decide +kernel, by decide +kernel⟩, zin 704 (by decide +kernel) (by decide +kernel)⟩
set_option maxRecDepth 20000 in
theorem c_La_7 : zCk RL 7 10 := ⟨by decide, zin 93 (by decide +kernel) (by decide +kernel), zin 94 (by decide +kernel) (by decide +kernel), zin 77 (by decide +kernel) (by decide +kernel)⟩
set_option maxRecDepth 20000 in
theorem a_La_7 : Cond.classLink RL 7 RX11 ∈ zwsG := zin 93 (by decide +kernel) (by decide +kernel)
set_option maxRecDepth 20000 in
theorem l_La_9 : Cond.methodLink RL 9 yX11_init ∈ zwsG := zin 95 (by decide +kernel) (by decide +kernel)
set_option maxRecDepth 20000 in
theorem l_Cp_3 : Cond.methodLink RX11 3 objectInit ∈ zwsG := zin 98 (by decide +kernel) (by decide +kernel)
set_option maxRecDepth 20000 in
theorem c_Cp_9 : zCk RX11 9 4 := ⟨by decide, zin 101 (by decide +kernel) (by decide +kernel), zin 102 (by decide +kernel) (by decide +kernel), zin 78 (by decide +kernel) (by decide +kernel)⟩
set_option maxRecDepth 20000 in
theorem a_Cp_9 : Cond.classLink RX11 9 RX5 ∈ zwsG := zin 101 (by decide +kernel) (by decide +kernel)
set_option maxRecDepth 20000 in
theorem l_Pa_5 : Cond.methodLink RX5 5 objectInit ∈ zwsG := zin 106 (by decide +kernel) (by decide +kernel)
set_option maxRecDepth 20000 in
theorem f_Pa_11 : zFl RX5 11 4 0 2 0 := ⟨zin 107 (by decide +kernel) (by decide +kernel), by decide, by decide +kernel, by decide +kernel, rfl⟩
set_option maxRecDepth 20000 in
theorem f_Cp_267 : zFl RX11 267 4 0 2 0 := ⟨zin 108 (by decide +kernel) (by decide +kernel), by decide, by decide +kernel, by decide +kernel, rfl⟩
set_option maxRecDepth 20000 in
theorem f_Pa_15 : zFl RX5 15 4 1 0 1 := ⟨zin 109 (by decide +kernel) (by decide +kernel), by decide, by decide +kernel, by decide +kernel, rfl⟩
set_option maxRecDepth 20000 in
theorem f_Cp_95 : zFl RX11 95 4 1 0 1 := ⟨zin 110 (by decide +kernel) (by decide +kernel), by decide, by decide +kernel, by decide +kernel, rfl⟩
set_option maxRecDepth 20000 in
theorem c_Cp_16 : zCk RX11 16 7 := ⟨by decide, zin 117 (by decide +kernel) (by decide +kernel), zin 118 (by decide +kernel) (by decide +kernel), zin 79 (by decide +kernel) (by decide +kernel)⟩
set_option maxRecDepth 20000 in
theorem a_Cp_16 : Cond.classLink RX11 16 RX8 ∈ zwsG := zin 117 (by decide +kernel) (by decide +kernel)
set_option maxRecDepth 20000 in
theorem l_Cp_18 : Cond.methodLink RX11 18 yX8_init ∈ zwsG := zin 119 (by decide +kernel) (by decide +kernel)
set_option maxRecDepth 20000 in
theorem l_Rw_3 : Cond.methodLink RX8 3 objectInit ∈ zwsG := zin 122 (by decide +kernel) (by decide +kernel)
set_option maxRecDepth 20000 in
theorem c_Rw_9 : zCk RX8 9 0 := ⟨by decide, zin 123 (by decide +kernel) (by decide +kernel), zin 125 (by decide +kernel) (by decide +kernel), zin 80 (by decide +kernel) (by decide +kernel)⟩
set_option maxRecDepth 20000 in
theorem a_Rw_9 : Cond.classLink RX8 9 RX0 ∈ zwsG := zin 123 (by decide +kernel) (by decide +kernel)
set_option maxRecDepth 20000 in
theorem l_Cu_3 : Cond.methodLink RX0 3 objectInit ∈ zwsG := zin 129 (by decide +kernel) (by decide +kernel)
set_option maxRecDepth 20000 in
theorem f_Cu_9 : zFl RX0 9 0 0 0 0 := ⟨zin 130 (by decide +kernel) (by decide +kernel), by decide, by decide +kernel, by decide +kernel, rfl⟩
set_option maxRecDepth 20000 in
theorem f_St_93 : zFl RX10 93 0 0 0 0 := ⟨zin 131 (by decide +kernel) (by decide +kernel), by decide, by decide +kernel, by decide +kernel, rfl⟩
set_option maxRecDepth 20000 in
theorem f_Rw_30 : zFl RX8 30 0 0 0 0 := ⟨zin 132 (by decide +kernel) (by decide +kernel), by decide, by decide +kernel, by decide +kernel, rfl⟩
set_option maxRecDepth 20000 in
theorem f_Cp_130 : zFl RX11 130 0 0 0 0 := ⟨zin 133 (by decide +kernel) (by decide +kernel), by decide, by decide +kernel, by decide +kernel, rfl⟩
set_option maxRecDepth 20000 in
theorem f_Cu_15 : zFl RX0 15 0 1 0 1 := ⟨zin 134 (by decide +kernel) (by decide +kernel), by decide, by decide +kernel, by decide +kernel, rfl⟩
set_option maxRecDepth 20000 in
theorem f_Rw_33 : zFl RX8 33 0 1 0 1 := ⟨zin 135 (by decide +kernel) (by decide +kernel), by decide, by decide +kernel, by decide +kernel, rfl⟩
set_option maxRecDepth 20000 in
theorem f_Cp_135 : zFl RX11 135 0 1 0 1 := ⟨zin 136 (by decide +kernel) (by decide +kernel), by decide, by decide +kernel, by decide +kernel, rfl⟩
set_option maxRecDepth 20000 in
theorem f_Cu_18 : zFl RX0 18 0 2 0 2 := ⟨zin 137 (by decide +kernel) (by decide +kernel), by decide, by decide +kernel, by decide +kernel, rfl⟩
set_option maxRecDepth 20000 in
theorem f_St_103 : zFl RX10 103 0 2 0 2 := ⟨zin 138 (by decide +kernel) (by decide +kernel), by decide, by decide +kernel, by decide +kernel, rfl⟩
set_option maxRecDepth 20000 in
theorem f_Rw_36 : zFl RX8 36 0 2 0 2 := ⟨zin 139 (by decide +kernel) (by decide +kernel), by decide, by decide +kernel, by decide +kernel, rfl⟩
set_option maxRecDepth 20000 in
theorem f_Cp_138 : zFl RX11 138 0 2 0 2 := ⟨zin 140 (by decide +kernel) (by decide +kernel), by decide, by decide +kernel, by decide +kernel, rfl⟩
set_option maxRecDepth 20000 in
theorem f_Cu_21 : zFl RX0 21 0 3 0 3 := ⟨zin 141 (by decide +kernel) (by decide +kernel), by decide, by decide +kernel, by decide +kernel, rfl⟩
set_option maxRecDepth 20000 in
theorem f_Rw_39 : zFl RX8 39 0 3 0 3 := ⟨zin 142 (by decide +kernel) (by decide +kernel), by decide, by decide +kernel, by decide +kernel, rfl⟩
set_option maxRecDepth 20000 in
theorem f_Cp_141 : zFl RX11 141 0 3 0 3 := ⟨zin 143 (by decide +kernel) (by decide +kernel), by decide, by decide +kernel, by decide +kernel, rfl⟩
set_option maxRecDepth 20000 in
theorem f_Rw_11 : zFl RX8 11 7 0 2 0 := ⟨zin 153 (by decide +kernel) (by decide +kernel), by decide, by decide +kernel, by decide +kernel, rfl⟩
set_option maxRecDepth 20000 in
theorem f_St_83 : zFl RX10 83 7 0 2 0 := ⟨zin 154 (by decide +kernel) (by decide +kernel), by decide, by decide +kernel, by decide +kernel, rfl⟩
set_option maxRecDepth 20000 in
theorem f_Cp_126 : zFl RX11 126 7 0 2 0 := ⟨zin 155 (by decide +kernel) (by decide +kernel), by decide, by decide +kernel, by decide +kernel, rfl⟩
set_option maxRecDepth 20000 in
theorem f_Rw_17 : zFl RX8 17 7 1 0 1 := ⟨zin 156 (by decide +kernel) (by decide +kernel), by decide, by decide +kernel, by decide +kernel, rfl⟩
set_option maxRecDepth 20000 in
theorem f_St_80 : zFl RX10 80 7 1 0 1 := ⟨zin 157 (by decide +kernel) (by decide +kernel), by decide, by decide +kernel, by decide +kernel, rfl⟩
set_option maxRecDepth 20000 in
theorem f_Cp_106 : zFl RX11 106 7 1 0 1 := ⟨zin 158 (by decide +kernel) (by decide +kernel), by decide, by decide +kernel, by decide +kernel, rfl⟩
set_option maxRecDepth 20000 in
theorem c_Cp_29 : zCk RX11 29 8 := ⟨by decide, zin 164 (by decide +kernel) (by decide +kernel), zin 165 (by decide +kernel) (by decide +kernel), zin 81 (by decide +kernel) (by decide +kernel)⟩
set_option maxRecDepth 20000 in
theorem a_Cp_29 : Cond.classLink RX11 29 RX9 ∈ zwsG := zin 164 (by decide +kernel) (by decide +kernel)
set_option maxRecDepth 20000 in
theorem l_Se_3 : Cond.methodLink RX9 3 objectInit ∈ zwsG := zin 169 (by decide +kernel) (by decide +kernel)
set_option maxRecDepth 20000 in
theorem f_Se_9 : zFl RX9 9 8 0 2 0 := ⟨zin 170 (by decide +kernel) (by decide +kernel), by decide, by decide +kernel, by decide +kernel, rfl⟩
set_option maxRecDepth 20000 in
theorem f_Se_15 : zFl RX9 15 8 1 2 1 := ⟨zin 171 (by decide +kernel) (by decide +kernel), by decide, by decide +kernel, by decide +kernel, rfl⟩
set_option maxRecDepth 20000 in
theorem f_Se_18 : zFl RX9 18 8 2 2 2 := ⟨zin 172 (by decide +kernel) (by decide +kernel), by decide, by decide +kernel, by decide +kernel, rfl⟩
set_option maxRecDepth 20000 in
theorem f_Se_21 : zFl RX9 21 8 3 2 3 := ⟨zin 173 (by decide +kernel) (by decide +kernel), by decide, by decide +kernel, by decide +kernel, rfl⟩
set_option maxRecDepth 20000 in
theorem f_Se_24 : zFl RX9 24 8 4 0 4 := ⟨zin 174 (by decide +kernel) (by decide +kernel), by decide, by decide +kernel, by decide +kernel, rfl⟩
set_option maxRecDepth 20000 in
theorem f_Cp_118 : zFl RX11 118 8 4 0 4 := ⟨zin 175 (by decide +kernel) (by decide +kernel), by decide, by decide +kernel, by decide +kernel, rfl⟩
set_option maxRecDepth 20000 in
theorem c_Cp_39 : zCk RX11 39 9 := ⟨by decide, zin 187 (by decide +kernel) (by decide +kernel), zin 188 (by decide +kernel) (by decide +kernel), zin 82 (by decide +kernel) (by decide +kernel)⟩
set_option maxRecDepth 20000 in
theorem a_Cp_39 : Cond.classLink RX11 39 RX10 ∈ zwsG := zin 187 (by decide +kernel) (by decide +kernel)
set_option maxRecDepth 20000 in
theorem l_Cp_41 : Cond.methodLink RX11 41 yX10_init ∈ zwsG := zin 189 (by decide +kernel) (by decide +kernel)
set_option maxRecDepth 20000 in
theorem l_St_3 : Cond.methodLink RX10 3 objectInit ∈ zwsG := zin 192 (by decide +kernel) (by decide +kernel)
set_option maxRecDepth 20000 in
theorem c_St_9 : zCk RX10 9 6 := ⟨by decide, zin 193 (by decide +kernel) (by decide +kernel), zin 195 (by decide +kernel) (by decide +kernel), zin 83 (by decide +kernel) (by decide +kernel)⟩
set_option maxRecDepth 20000 in
theorem a_St_9 : Cond.classLink RX10 9 RX7 ∈ zwsG := zin 193 (by decide +kernel) (by decide +kernel)
set_option maxRecDepth 20000 in
theorem l_Ro_1 : Cond.methodLink RX7 1 objectInit ∈ zwsG := zin 199 (by decide +kernel) (by decide +kernel)
set_option maxRecDepth 20000 in
theorem f_Ro_7 : zFl RX7 7 6 0 1 0 := ⟨zin 200 (by decide +kernel) (by decide +kernel), by decide, by decide +kernel, by decide +kernel, rfl⟩
set_option maxRecDepth 20000 in
theorem f_Ro_13 : zFl RX7 13 6 1 1 1 := ⟨zin 201 (by decide +kernel) (by decide +kernel), by decide, by decide +kernel, by decide +kernel, rfl⟩
set_option maxRecDepth 20000 in
theorem f_Ro_16 : zFl RX7 16 6 2 1 2 := ⟨zin 202 (by decide +kernel) (by decide +kernel), by decide, by decide +kernel, by decide +kernel, rfl⟩
set_option maxRecDepth 20000 in
theorem f_Ro_19 : zFl RX7 19 6 3 1 3 := ⟨zin 203 (by decide +kernel) (by decide +kernel), by decide, by decide +kernel, by decide +kernel, rfl⟩
set_option maxRecDepth 20000 in
theorem f_St_11 : zFl RX10 11 9 0 2 0 := ⟨zin 214 (by decide +kernel) (by decide +kernel), by decide, by decide +kernel, by decide +kernel, rfl⟩
set_option maxRecDepth 20000 in
theorem f_Cp_161 : zFl RX11 161 9 0 2 0 := ⟨zin 215 (by decide +kernel) (by decide +kernel), by decide, by decide +kernel, by decide +kernel, rfl⟩
set_option maxRecDepth 20000 in
theorem f_St_17 : zFl RX10 17 9 1 0 1 := ⟨zin 216 (by decide +kernel) (by decide +kernel), by decide, by decide +kernel, by decide +kernel, rfl⟩
set_option maxRecDepth 20000 in
theorem f_Cp_157 : zFl RX11 157 9 1 0 1 := ⟨zin 217 (by decide +kernel) (by decide +kernel), by decide, by decide +kernel, by decide +kernel, rfl⟩
set_option maxRecDepth 20000 in
theorem f_St_21 : zFl RX10 21 9 2 0 2 := ⟨zin 218 (by decide +kernel) (by decide +kernel), by decide, by decide +kernel, by decide +kernel, rfl⟩
set_option maxRecDepth 20000 in
theorem f_Gr_19 : zFl RX4 19 9 2 0 2 := ⟨zin 219 (by decide +kernel) (by decide +kernel), by decide, by decide +kernel, by decide +kernel, rfl⟩
set_option maxRecDepth 20000 in
theorem f_Cp_244 : zFl RX11 244 9 2 0 2 := ⟨zin 220 (by decide +kernel) (by decide +kernel), by decide, by decide +kernel, by decide +kernel, rfl⟩
set_option maxRecDepth 20000 in
theorem f_St_24 : zFl RX10 24 9 3 0 3 := ⟨zin 221 (by decide +kernel) (by decide +kernel), by decide, by decide +kernel, by decide +kernel, rfl⟩
set_option maxRecDepth 20000 in
theorem f_Fo_19 : zFl RX3 19 9 3 0 3 := ⟨zin 222 (by decide +kernel) (by decide +kernel), by decide, by decide +kernel, by decide +kernel, rfl⟩
set_option maxRecDepth 20000 in
theorem f_St_27 : zFl RX10 27 9 4 2 4 := ⟨zin 223 (by decide +kernel) (by decide +kernel), by decide, by decide +kernel, by decide +kernel, rfl⟩
set_option maxRecDepth 20000 in
theorem f_Gr_24 : zFl RX4 24 9 4 2 4 := ⟨zin 224 (by decide +kernel) (by decide +kernel), by decide, by decide +kernel, by decide +kernel, rfl⟩
set_option maxRecDepth 20000 in
theorem f_Cp_180 : zFl RX11 180 9 4 2 4 := ⟨zin 225 (by decide +kernel) (by decide +kernel), by decide, by decide +kernel, by decide +kernel, rfl⟩
set_option maxRecDepth 20000 in
theorem f_St_31 : zFl RX10 31 9 5 2 5 := ⟨zin 226 (by decide +kernel) (by decide +kernel), by decide, by decide +kernel, by decide +kernel, rfl⟩
set_option maxRecDepth 20000 in
theorem f_St_34 : zFl RX10 34 9 6 2 6 := ⟨zin 227 (by decide +kernel) (by decide +kernel), by decide, by decide +kernel, by decide +kernel, rfl⟩
set_option maxRecDepth 20000 in
theorem f_St_38 : zFl RX10 38 9 7 2 7 := ⟨zin 228 (by decide +kernel) (by decide +kernel), by decide, by decide +kernel, by decide +kernel, rfl⟩
set_option maxRecDepth 20000 in
theorem f_St_41 : zFl RX10 41 9 8 2 8 := ⟨zin 229 (by decide +kernel) (by decide +kernel), by decide, by decide +kernel, by decide +kernel, rfl⟩
set_option maxRecDepth 20000 in
theorem f_St_44 : zFl RX10 44 9 9 2 9 := ⟨zin 230 (by decide +kernel) (by decide +kernel), by decide, by decide +kernel, by decide +kernel, rfl⟩
set_option maxRecDepth 20000 in
theorem f_St_47 : zFl RX10 47 9 10 2 10 := ⟨zin 231 (by decide +kernel) (by decide +kernel), by decide, by decide +kernel, by decide +kernel, rfl⟩
set_option maxRecDepth 20000 in
theorem c_Cp_49 : zCk RX11 49 2 := ⟨by decide, zin 255 (by decide +kernel) (by decide +kernel), zin 256 (by decide +kernel) (by decide +kernel), zin 84 (by decide +kernel) (by decide +kernel)⟩
set_option maxRecDepth 20000 in
theorem a_Cp_49 : Cond.classLink RX11 49 RX3 ∈ zwsG := zin 255 (by decide +kernel) (by decide +kernel)
set_option maxRecDepth 20000 in
theorem l_Fo_3 : Cond.methodLink RX3 3 objectInit ∈ zwsG := zin 260 (by decide +kernel) (by decide +kernel)
set_option maxRecDepth 20000 in
theorem f_Fo_9 : zFl RX3 9 2 0 2 0 := ⟨zin 261 (by decide +kernel) (by decide +kernel), by decide, by decide +kernel, by decide +kernel, rfl⟩
set_option maxRecDepth 20000 in
theorem f_Fo_15 : zFl RX3 15 2 1 0 1 := ⟨zin 262 (by decide +kernel) (by decide +kernel), by decide, by decide +kernel, by decide +kernel, rfl⟩
set_option maxRecDepth 20000 in
theorem c_Cp_56 : zCk RX11 56 3 := ⟨by decide, zin 268 (by decide +kernel) (by decide +kernel), zin 269 (by decide +kernel) (by decide +kernel), zin 85 (by decide +kernel) (by decide +kernel)⟩
set_option maxRecDepth 20000 in
theorem a_Cp_56 : Cond.classLink RX11 56 RX4 ∈ zwsG := zin 268 (by decide +kernel) (by decide +kernel)
set_option maxRecDepth 20000 in
theorem l_Gr_3 : Cond.methodLink RX4 3 objectInit ∈ zwsG := zin 273 (by decide +kernel) (by decide +kernel)
set_option maxRecDepth 20000 in
theorem f_Gr_9 : zFl RX4 9 3 0 2 0 := ⟨zin 274 (by decide +kernel) (by decide +kernel), by decide, by decide +kernel, by decide +kernel, rfl⟩
set_option maxRecDepth 20000 in
theorem f_Gr_15 : zFl RX4 15 3 1 0 1 := ⟨zin 275 (by decide +kernel) (by decide +kernel), by decide, by decide +kernel, by decide +kernel, rfl⟩
set_option maxRecDepth 20000 in
theorem c_Cp_63 : zCk RX11 63 1 := ⟨by decide, zin 281 (by decide +kernel) (by decide +kernel), zin 282 (by decide +kernel) (by decide +kernel), zin 86 (by decide +kernel) (by decide +kernel)⟩
set_option maxRecDepth 20000 in
theorem a_Cp_63 : Cond.classLink RX11 63 RX1 ∈ zwsG := zin 281 (by decide +kernel) (by decide +kernel)
set_option maxRecDepth 20000 in
theorem l_Di_1 : Cond.methodLink RX1 1 objectInit ∈ zwsG := zin 286 (by decide +kernel) (by decide +kernel)
set_option maxRecDepth 20000 in
theorem f_Di_7 : zFl RX1 7 1 0 1 0 := ⟨zin 287 (by decide +kernel) (by decide +kernel), by decide, by decide +kernel, by decide +kernel, rfl⟩
set_option maxRecDepth 20000 in
theorem c_Cp_70 : zCk RX11 70 5 := ⟨by decide, zin 291 (by decide +kernel) (by decide +kernel), zin 292 (by decide +kernel) (by decide +kernel), zin 87 (by decide +kernel) (by decide +kernel)⟩
set_option maxRecDepth 20000 in
theorem a_Cp_70 : Cond.classLink RX11 70 RX6 ∈ zwsG := zin 291 (by decide +kernel) (by decide +kernel)
set_option maxRecDepth 20000 in
theorem l_Ri_3 : Cond.methodLink RX6 3 objectInit ∈ zwsG := zin 296 (by decide +kernel) (by decide +kernel)
set_option maxRecDepth 20000 in
theorem f_Ri_9 : zFl RX6 9 5 0 2 0 := ⟨zin 297 (by decide +kernel) (by decide +kernel), by decide, by decide +kernel, by decide +kernel, rfl⟩
set_option maxRecDepth 20000 in
theorem f_Ri_15 : zFl RX6 15 5 1 0 1 := ⟨zin 298 (by decide +kernel) (by decide +kernel), by decide, by decide +kernel, by decide +kernel, rfl⟩
set_option maxRecDepth 20000 in
theorem f_Ri_19 : zFl RX6 19 5 2 0 2 := ⟨zin 299 (by decide +kernel) (by decide +kernel), by decide, by decide +kernel, by decide +kernel, rfl⟩
set_option maxRecDepth 20000 in
theorem f_Cp_237 : zFl RX11 237 5 2 0 2 := ⟨zin 300 (by decide +kernel) (by decide +kernel), by decide, by decide +kernel, by decide +kernel, rfl⟩
set_option maxRecDepth 20000 in
theorem f_Cp_12 : zFl RX11 12 10 0 2 0 := ⟨zin 308 (by decide +kernel) (by decide +kernel), by decide, by decide +kernel, by decide +kernel, rfl⟩
set_option maxRecDepth 20000 in
theorem f_Cp_19 : zFl RX11 19 10 1 2 1 := ⟨zin 309 (by decide +kernel) (by decide +kernel), by decide, by decide +kernel, by decide +kernel, rfl⟩
set_option maxRecDepth 20000 in
theorem f_Cp_23 : zFl RX11 23 10 2 2 2 := ⟨zin 310 (by decide +kernel) (by decide +kernel), by decide, by decide +kernel, by decide +kernel, rfl⟩
set_option maxRecDepth 20000 in
theorem f_Cp_26 : zFl RX11 26 10 3 2 3 := ⟨zin 311 (by decide +kernel) (by decide +kernel), by decide, by decide +kernel, by decide +kernel, rfl⟩
set_option maxRecDepth 20000 in
theorem f_Cp_32 : zFl RX11 32 10 4 2 4 := ⟨zin 312 (by decide +kernel) (by decide +kernel), by decide, by decide +kernel, by decide +kernel, rfl⟩
set_option maxRecDepth 20000 in
theorem f_Cp_36 : zFl RX11 36 10 5 2 5 := ⟨zin 313 (by decide +kernel) (by decide +kernel), by decide, by decide +kernel, by decide +kernel, rfl⟩
set_option maxRecDepth 20000 in
theorem f_Cp_42 : zFl RX11 42 10 6 2 6 := ⟨zin 314 (by decide +kernel) (by decide +kernel), by decide, by decide +kernel, by decide +kernel, rfl⟩
set_option maxRecDepth 20000 in
theorem f_Cp_46 : zFl RX11 46 10 7 2 7 := ⟨zin 315 (by decide +kernel) (by decide +kernel), by decide, by decide +kernel, by decide +kernel, rfl⟩
set_option maxRecDepth 20000 in
theorem f_Cp_52 : zFl RX11 52 10 8 2 8 := ⟨zin 316 (by decide +kernel) (by decide +kernel), by decide, by decide +kernel, by decide +kernel, rfl⟩
set_option maxRecDepth 20000 in
theorem f_Cp_59 : zFl RX11 59 10 9 2 9 := ⟨zin 317 (by decide +kernel) (by decide +kernel), by decide, by decide +kernel, by decide +kernel, rfl⟩
set_option maxRecDepth 20000 in
theorem f_Cp_66 : zFl RX11 66 10 10 2 10 := ⟨zin 318 (by decide +kernel) (by decide +kernel), by decide, by decide +kernel, by decide +kernel, rfl⟩
set_option maxRecDepth 20000 in
theorem f_Cp_73 : zFl RX11 73 10 11 2 11 := ⟨zin 319 (by decide +kernel) (by decide +kernel), by decide, by decide +kernel, by decide +kernel, rfl⟩
set_option maxRecDepth 20000 in
theorem f_Cp_77 : zFl RX11 77 10 12 0 12 := ⟨zin 320 (by decide +kernel) (by decide +kernel), by decide, by decide +kernel, by decide +kernel, rfl⟩
set_option maxRecDepth 20000 in
theorem f_Cp_81 : zFl RX11 81 10 13 0 13 := ⟨zin 321 (by decide +kernel) (by decide +kernel), by decide, by decide +kernel, by decide +kernel, rfl⟩
set_option maxRecDepth 20000 in
theorem f_Cp_85 : zFl RX11 85 10 14 0 14 := ⟨zin 322 (by decide +kernel) (by decide +kernel), by decide, by decide +kernel, by decide +kernel, rfl⟩
set_option maxRecDepth 20000 in
theorem f_Cp_88 : zFl RX11 88 10 15 0 15 := ⟨zin 323 (by decide +kernel) (by decide +kernel), by decide, by decide +kernel, by decide +kernel, rfl⟩
set_option maxRecDepth 20000 in
theorem l_La_13 : Cond.methodLink RL 13 yX11_letter ∈ zwsG := zin 357 (by decide +kernel) (by decide +kernel)
set_option maxRecDepth 20000 in
theorem l_Cp_91 : Cond.methodLink RX11 91 yX5_append ∈ zwsG := zin 361 (by decide +kernel) (by decide +kernel)
set_option maxRecDepth 20000 in
theorem l_La_18 : Cond.methodLink RL 18 yX11_blank ∈ zwsG := zin 365 (by decide +kernel) (by decide +kernel)
set_option maxRecDepth 20000 in
theorem l_La_23 : Cond.methodLink RL 23 yX11_fault ∈ zwsG := zin 369 (by decide +kernel) (by decide +kernel)
set_option maxRecDepth 20000 in
theorem l_Cp_98 : Cond.methodLink RX11 98 yX5_firstFault ∈ zwsG := zin 373 (by decide +kernel) (by decide +kernel)
set_option maxRecDepth 20000 in
theorem l_Pa_19 : Cond.methodLink RX5 19 yX5_fits ∈ zwsG := zin 377 (by decide +kernel) (by decide +kernel)
set_option maxRecDepth 20000 in
theorem l_Pa_27 : Cond.methodLink RX5 27 yX5_kindAt ∈ zwsG := zin 381 (by decide +kernel) (by decide +kernel)
set_option maxRecDepth 20000 in
theorem l_La_27 : Cond.methodLink RL 27 yX11_plane ∈ zwsG := zin 385 (by decide +kernel) (by decide +kernel)
set_option maxRecDepth 20000 in
theorem l_Cp_102 : Cond.methodLink RX11 102 yX5_isPlane ∈ zwsG := zin 389 (by decide +kernel) (by decide +kernel)
set_option maxRecDepth 20000 in
theorem l_Pa_23 : Cond.methodLink RX5 23 yX5_firstFault ∈ zwsG := zin 393 (by decide +kernel) (by decide +kernel)
set_option maxRecDepth 20000 in
theorem l_Cp_107 : Cond.methodLink RX11 107 yX5_numberAt ∈ zwsG := zin 394 (by decide +kernel) (by decide +kernel)
set_option maxRecDepth 20000 in
theorem l_Cp_111 : Cond.methodLink RX11 111 yX5_kindAt ∈ zwsG := zin 398 (by decide +kernel) (by decide +kernel)
set_option maxRecDepth 20000 in
theorem l_Cp_114 : Cond.methodLink RX11 114 yX11_appendCurve ∈ zwsG := zin 399 (by decide +kernel) (by decide +kernel)
set_option maxRecDepth 20000 in
theorem l_Cp_281 : Cond.methodLink RX11 281 yX8_append ∈ zwsG := zin 403 (by decide +kernel) (by decide +kernel)
set_option maxRecDepth 20000 in
theorem l_Rw_22 : Cond.methodLink RX8 22 yX0_write ∈ zwsG := zin 407 (by decide +kernel) (by decide +kernel)
set_option maxRecDepth 20000 in
theorem l_Cp_119 : Cond.methodLink RX11 119 yX10_build ∈ zwsG := zin 411 (by decide +kernel) (by decide +kernel)
set_option maxRecDepth 20000 in
theorem l_St_51 : Cond.methodLink RX10 51 yX10_readCurves ∈ zwsG := zin 415 (by decide +kernel) (by decide +kernel)
set_option maxRecDepth 20000 in
theorem l_St_87 : Cond.methodLink RX10 87 yX0_isUpright ∈ zwsG := zin 419 (by decide +kernel) (by decide +kernel)
set_option maxRecDepth 20000 in
theorem l_St_96 : Cond.methodLink RX10 96 yX0_squareOf ∈ zwsG := zin 423 (by decide +kernel) (by decide +kernel)
set_option maxRecDepth 20000 in
theorem l_St_100 : Cond.methodLink RX10 100 yX0_slopeAs ∈ zwsG := zin 426 (by decide +kernel) (by decide +kernel)
set_option maxRecDepth 20000 in
theorem l_St_55 : Cond.methodLink RX10 55 yX10_enter ∈ zwsG := zin 430 (by decide +kernel) (by decide +kernel)
set_option maxRecDepth 20000 in
theorem l_St_118 : Cond.methodLink RX10 118 yX7_write ∈ zwsG := zin 434 (by decide +kernel) (by decide +kernel)
set_option maxRecDepth 20000 in
theorem n_Ro_22 : Cond.constantLong RX7 22 (-1 : Int64) ∈ zwsG := zin 438 (by decide +kernel) (by decide +kernel)
set_option maxRecDepth 20000 in
theorem l_St_121 : Cond.methodLink RX10 121 yX7_orderTo ∈ zwsG := zin 439 (by decide +kernel) (by decide +kernel)
set_option maxRecDepth 20000 in
theorem l_Ro_24 : Cond.methodLink RX7 24 yX2_sign_ ∈ zwsG := zin 443 (by decide +kernel) (by decide +kernel)
set_option maxRecDepth 20000 in
theorem l_Ex_13 : Cond.methodLink RX2 13 yX2_sign ∈ zwsG := zin 446 (by decide +kernel) (by decide +kernel)
set_option maxRecDepth 20000 in
theorem l_Ex_7 : Cond.methodLink RX2 7 yJ13_compare_74951 ∈ zwsG := zin 449 (by decide +kernel) (by decide +kernel)
set_option maxRecDepth 20000 in
theorem n_Ex_19 : Cond.constantLong RX2 19 (2 : Int64) ∈ zwsG := zin 452 (by decide +kernel) (by decide +kernel)
set_option maxRecDepth 20000 in
theorem l_St_59 : Cond.methodLink RX10 59 yX10_meet ∈ zwsG := zin 453 (by decide +kernel) (by decide +kernel)
set_option maxRecDepth 20000 in
theorem n_St_106 : Cond.constantLong RX10 106 (4 : Int64) ∈ zwsG := zin 457 (by decide +kernel) (by decide +kernel)
set_option maxRecDepth 20000 in
theorem l_St_108 : Cond.methodLink RX10 108 yX2_rootDown ∈ zwsG := zin 458 (by decide +kernel) (by decide +kernel)
set_option maxRecDepth 20000 in
theorem n_Ex_21 : Cond.constantLong RX2 21 (32768 : Int64) ∈ zwsG := zin 461 (by decide +kernel) (by decide +kernel)
set_option maxRecDepth 20000 in
theorem n_St_114 : Cond.constantLong RX10 114 (2 : Int64) ∈ zwsG := zin 462 (by decide +kernel) (by decide +kernel)
set_option maxRecDepth 20000 in
theorem n_St_116 : Cond.constantLong RX10 116 (-1 : Int64) ∈ zwsG := zin 463 (by decide +kernel) (by decide +kernel)
set_option maxRecDepth 20000 in
theorem l_St_63 : Cond.methodLink RX10 63 yX10_comeFromFarLeft ∈ zwsG := zin 464 (by decide +kernel) (by decide +kernel)
set_option maxRecDepth 20000 in
theorem l_St_125 : Cond.methodLink RX10 125 yJ6_compare_7cf53 ∈ zwsG := zin 468 (by decide +kernel) (by decide +kernel)
set_option maxRecDepth 20000 in
theorem l_St_131 : Cond.methodLink RX10 131 yX10_note ∈ zwsG := zin 471 (by decide +kernel) (by decide +kernel)
set_option maxRecDepth 20000 in
theorem l_St_66 : Cond.methodLink RX10 66 yX10_settle ∈ zwsG := zin 475 (by decide +kernel) (by decide +kernel)
set_option maxRecDepth 20000 in
theorem l_St_139 : Cond.methodLink RX10 139 yX10_isFirstOfItsY ∈ zwsG := zin 479 (by decide +kernel) (by decide +kernel)
set_option maxRecDepth 20000 in
theorem l_St_143 : Cond.methodLink RX10 143 yX10_sectionsBelow ∈ zwsG := zin 483 (by decide +kernel) (by decide +kernel)
set_option maxRecDepth 20000 in
theorem l_St_70 : Cond.methodLink RX10 70 yX10_stopAt ∈ zwsG := zin 487 (by decide +kernel) (by decide +kernel)
set_option maxRecDepth 20000 in
theorem l_St_135 : Cond.methodLink RX10 135 yX7_signOf ∈ zwsG := zin 491 (by decide +kernel) (by decide +kernel)
set_option maxRecDepth 20000 in
theorem n_Ro_30 : Cond.constantLong RX7 30 (2 : Int64) ∈ zwsG := zin 495 (by decide +kernel) (by decide +kernel)
set_option maxRecDepth 20000 in
theorem l_Ro_32 : Cond.methodLink RX7 32 yX2_sign ∈ zwsG := zin 496 (by decide +kernel) (by decide +kernel)
set_option maxRecDepth 20000 in
theorem l_St_74 : Cond.methodLink RX10 74 yX10_goOnFrom ∈ zwsG := zin 497 (by decide +kernel) (by decide +kernel)
set_option maxRecDepth 20000 in
theorem l_St_77 : Cond.methodLink RX10 77 yX10_placeUprights ∈ zwsG := zin 501 (by decide +kernel) (by decide +kernel)
set_option maxRecDepth 20000 in
theorem l_St_146 : Cond.methodLink RX10 146 yX10_stackAt ∈ zwsG := zin 505 (by decide +kernel) (by decide +kernel)
set_option maxRecDepth 20000 in
theorem l_La_31 : Cond.methodLink RL 31 yX11_curve ∈ zwsG := zin 509 (by decide +kernel) (by decide +kernel)
set_option maxRecDepth 20000 in
theorem l_Cp_123 : Cond.methodLink RX11 123 yX8_has ∈ zwsG := zin 513 (by decide +kernel) (by decide +kernel)
set_option maxRecDepth 20000 in
theorem l_Cp_144 : Cond.methodLink RX11 144 yX9_sortsOf ∈ zwsG := zin 517 (by decide +kernel) (by decide +kernel)
set_option maxRecDepth 20000 in
theorem l_Se_28 : Cond.methodLink RX9 28 yX9_canBe ∈ zwsG := zin 521 (by decide +kernel) (by decide +kernel)
set_option maxRecDepth 20000 in
theorem l_Se_32 : Cond.methodLink RX9 32 yX0_sideAs ∈ zwsG := zin 525 (by decide +kernel) (by decide +kernel)
set_option maxRecDepth 20000 in
theorem l_Cu_24 : Cond.methodLink RX0 24 yX0_squareOf ∈ zwsG := zin 529 (by decide +kernel) (by decide +kernel)
set_option maxRecDepth 20000 in
theorem l_Cu_28 : Cond.methodLink RX0 28 yX0_slopeAs ∈ zwsG := zin 530 (by decide +kernel) (by decide +kernel)
set_option maxRecDepth 20000 in
theorem l_Cu_31 : Cond.methodLink RX0 31 yJ6_compare_7cf53 ∈ zwsG := zin 531 (by decide +kernel) (by decide +kernel)
set_option maxRecDepth 20000 in
theorem l_Cp_148 : Cond.methodLink RX11 148 yX9_nextAsk ∈ zwsG := zin 532 (by decide +kernel) (by decide +kernel)
set_option maxRecDepth 20000 in
theorem l_Se_38 : Cond.methodLink RX9 38 yX9_leftAtWorst ∈ zwsG := zin 535 (by decide +kernel) (by decide +kernel)
set_option maxRecDepth 20000 in
theorem l_Se_42 : Cond.methodLink RX9 42 yJ9_max_7cf53 ∈ zwsG := zin 538 (by decide +kernel) (by decide +kernel)
set_option maxRecDepth 20000 in
theorem l_La_36 : Cond.methodLink RL 36 yX11_as ∈ zwsG := zin 541 (by decide +kernel) (by decide +kernel)
set_option maxRecDepth 20000 in
theorem l_Cp_151 : Cond.methodLink RX11 151 yX11_isKind ∈ zwsG := zin 545 (by decide +kernel) (by decide +kernel)
set_option maxRecDepth 20000 in
theorem l_Cp_154 : Cond.methodLink RX11 154 yX0_isSuch ∈ zwsG := zin 548 (by decide +kernel) (by decide +kernel)
set_option maxRecDepth 20000 in
theorem l_La_40 : Cond.methodLink RL 40 yX11_point ∈ zwsG := zin 552 (by decide +kernel) (by decide +kernel)
set_option maxRecDepth 20000 in
theorem n_Cp_160 : Cond.constant RX11 160 (100000 : Int32) ∈ zwsG := zin 556 (by decide +kernel) (by decide +kernel)
set_option maxRecDepth 20000 in
theorem l_Cp_165 : Cond.methodLink RX11 165 yX7_thousandths ∈ zwsG := zin 557 (by decide +kernel) (by decide +kernel)
set_option maxRecDepth 20000 in
theorem n_Ro_35 : Cond.constantLong RX7 35 (1000000 : Int64) ∈ zwsG := zin 561 (by decide +kernel) (by decide +kernel)
set_option maxRecDepth 20000 in
theorem l_Ro_37 : Cond.methodLink RX7 37 yX2_rootDown ∈ zwsG := zin 562 (by decide +kernel) (by decide +kernel)
set_option maxRecDepth 20000 in
theorem n_Ro_41 : Cond.constantLong RX7 41 (1000 : Int64) ∈ zwsG := zin 563 (by decide +kernel) (by decide +kernel)
set_option maxRecDepth 20000 in
theorem l_Ro_43 : Cond.methodLink RX7 43 yJ9_floorDiv_f86c9 ∈ zwsG := zin 564 (by decide +kernel) (by decide +kernel)
set_option maxRecDepth 20000 in
theorem l_Cp_170 : Cond.methodLink RX11 170 yX7_isFraction ∈ zwsG := zin 567 (by decide +kernel) (by decide +kernel)
set_option maxRecDepth 20000 in
theorem l_Cp_173 : Cond.methodLink RX11 173 yX10_pairsMeetingAt ∈ zwsG := zin 571 (by decide +kernel) (by decide +kernel)
set_option maxRecDepth 20000 in
theorem l_St_156 : Cond.methodLink RX10 156 yX10_meetAt ∈ zwsG := zin 575 (by decide +kernel) (by decide +kernel)
set_option maxRecDepth 20000 in
theorem l_Cp_176 : Cond.methodLink RX11 176 yX10_uprightsAt ∈ zwsG := zin 579 (by decide +kernel) (by decide +kernel)
set_option maxRecDepth 20000 in
theorem l_La_44 : Cond.methodLink RL 44 yX11_stack ∈ zwsG := zin 583 (by decide +kernel) (by decide +kernel)
set_option maxRecDepth 20000 in
theorem l_Cp_179 : Cond.methodLink RX11 179 yX10_has ∈ zwsG := zin 587 (by decide +kernel) (by decide +kernel)
set_option maxRecDepth 20000 in
theorem l_La_48 : Cond.methodLink RL 48 yX11_cell ∈ zwsG := zin 591 (by decide +kernel) (by decide +kernel)
set_option maxRecDepth 20000 in
theorem l_Cp_184 : Cond.methodLink RX11 184 yX10_hasCell ∈ zwsG := zin 595 (by decide +kernel) (by decide +kernel)
set_option maxRecDepth 20000 in
theorem l_St_149 : Cond.methodLink RX10 149 yX10_has ∈ zwsG := zin 599 (by decide +kernel) (by decide +kernel)
set_option maxRecDepth 20000 in
theorem l_Cp_188 : Cond.methodLink RX11 188 yX10_sideOf ∈ zwsG := zin 600 (by decide +kernel) (by decide +kernel)
set_option maxRecDepth 20000 in
theorem l_La_53 : Cond.methodLink RL 53 yX11_neighbours ∈ zwsG := zin 604 (by decide +kernel) (by decide +kernel)
set_option maxRecDepth 20000 in
theorem l_Cp_192 : Cond.methodLink RX11 192 yX10_neighboursOf ∈ zwsG := zin 608 (by decide +kernel) (by decide +kernel)
set_option maxRecDepth 20000 in
theorem l_St_160 : Cond.methodLink RX10 160 yX10_highestBeside ∈ zwsG := zin 612 (by decide +kernel) (by decide +kernel)
set_option maxRecDepth 20000 in
theorem l_St_170 : Cond.methodLink RX10 170 yX10_sectionBeside ∈ zwsG := zin 616 (by decide +kernel) (by decide +kernel)
set_option maxRecDepth 20000 in
theorem l_St_164 : Cond.methodLink RX10 164 yX10_lowestBeside ∈ zwsG := zin 620 (by decide +kernel) (by decide +kernel)
set_option maxRecDepth 20000 in
theorem l_St_167 : Cond.methodLink RX10 167 yX10_comingTo ∈ zwsG := zin 624 (by decide +kernel) (by decide +kernel)
set_option maxRecDepth 20000 in
theorem l_La_57 : Cond.methodLink RL 57 yX11_put ∈ zwsG := zin 628 (by decide +kernel) (by decide +kernel)
set_option maxRecDepth 20000 in
theorem l_Cp_196 : Cond.methodLink RX11 196 yX11_isNear ∈ zwsG := zin 632 (by decide +kernel) (by decide +kernel)
set_option maxRecDepth 20000 in
theorem l_La_61 : Cond.methodLink RL 61 yX11_take ∈ zwsG := zin 635 (by decide +kernel) (by decide +kernel)
set_option maxRecDepth 20000 in
theorem l_Cp_199 : Cond.methodLink RX11 199 yX8_remove ∈ zwsG := zin 639 (by decide +kernel) (by decide +kernel)
set_option maxRecDepth 20000 in
theorem l_Rw_26 : Cond.methodLink RX8 26 yX8_has ∈ zwsG := zin 643 (by decide +kernel) (by decide +kernel)
set_option maxRecDepth 20000 in
theorem l_La_65 : Cond.methodLink RL 65 yX11_move ∈ zwsG := zin 644 (by decide +kernel) (by decide +kernel)
set_option maxRecDepth 20000 in
theorem l_Cp_203 : Cond.methodLink RX11 203 yX10_cells ∈ zwsG := zin 648 (by decide +kernel) (by decide +kernel)
set_option maxRecDepth 20000 in
theorem l_St_152 : Cond.methodLink RX10 152 yX10_sections ∈ zwsG := zin 652 (by decide +kernel) (by decide +kernel)
set_option maxRecDepth 20000 in
theorem l_La_69 : Cond.methodLink RL 69 yX11_change ∈ zwsG := zin 656 (by decide +kernel) (by decide +kernel)
set_option maxRecDepth 20000 in
theorem l_La_73 : Cond.methodLink RL 73 yX11_mirror ∈ zwsG := zin 660 (by decide +kernel) (by decide +kernel)
set_option maxRecDepth 20000 in
theorem l_Cp_206 : Cond.methodLink RX11 206 yX0_turnOver ∈ zwsG := zin 664 (by decide +kernel) (by decide +kernel)
set_option maxRecDepth 20000 in
theorem l_Cu_37 : Cond.methodLink RX0 37 yX0_isUpright ∈ zwsG := zin 668 (by decide +kernel) (by decide +kernel)
set_option maxRecDepth 20000 in
theorem l_La_77 : Cond.methodLink RL 77 yX11_sentence ∈ zwsG := zin 669 (by decide +kernel) (by decide +kernel)
set_option maxRecDepth 20000 in
theorem l_Cp_209 : Cond.methodLink RX11 209 yX11_isBit ∈ zwsG := zin 673 (by decide +kernel) (by decide +kernel)
set_option maxRecDepth 20000 in
theorem l_Cp_212 : Cond.methodLink RX11 212 yX3_isForm ∈ zwsG := zin 676 (by decide +kernel) (by decide +kernel)
set_option maxRecDepth 20000 in
theorem l_Cp_215 : Cond.methodLink RX11 215 yX3_read ∈ zwsG := zin 679 (by decide +kernel) (by decide +kernel)
set_option maxRecDepth 20000 in
theorem l_Cp_219 : Cond.methodLink RX11 219 yX11_isSo ∈ zwsG := zin 683 (by decide +kernel) (by decide +kernel)
set_option maxRecDepth 20000 in
theorem l_Cp_282 : Cond.methodLink RX11 282 yX11_isSoOver ∈ zwsG := zin 687 (by decide +kernel) (by decide +kernel)
set_option maxRecDepth 20000 in
theorem l_Cp_285 : Cond.methodLink RX11 285 yX3_holdsIn ∈ zwsG := zin 691 (by decide +kernel) (by decide +kernel)
set_option maxRecDepth 20000 in
theorem l_Fo_25 : Cond.methodLink RX3 25 yX10_sideOf ∈ zwsG := zin 695 (by decide +kernel) (by decide +kernel)
set_option maxRecDepth 20000 in
theorem l_Fo_29 : Cond.methodLink RX3 29 yX3_allows ∈ zwsG := zin 696 (by decide +kernel) (by decide +kernel)
set_option maxRecDepth 20000 in
theorem l_Cp_222 : Cond.methodLink RX11 222 yX6_append ∈ zwsG := zin 699 (by decide +kernel) (by decide +kernel)
set_option maxRecDepth 20000 in
theorem l_Ri_22 : Cond.methodLink RX6 22 yJ9_min_7cf53 ∈ zwsG := zin 703 (by decide +kernel) (by decide +kernel)
set_option maxRecDepth 20000 in
theorem l_La_82 : Cond.methodLink RL 82 yX11_pieces ∈ zwsG := zin 706 (by decide +kernel) (by decide +kernel)
set_option maxRecDepth 20000 in
theorem l_Cp_224 : Cond.methodLink RX11 224 yX4_number ∈ zwsG := zin 710 (by decide +kernel) (by decide +kernel)
set_option maxRecDepth 20000 in
theorem l_Gr_27 : Cond.methodLink RX4 27 yX4_placeOf ∈ zwsG := zin 714 (by decide +kernel) (by decide +kernel)
set_option maxRecDepth 20000 in
theorem l_Gr_31 : Cond.methodLink RX4 31 yX3_holdsIn ∈ zwsG := zin 717 (by decide +kernel) (by decide +kernel)
set_option maxRecDepth 20000 in
theorem l_Gr_37 : Cond.methodLink RX4 37 yX4_begin ∈ zwsG := zin 718 (by decide +kernel) (by decide +kernel)
set_option maxRecDepth 20000 in
theorem l_Gr_41 : Cond.methodLink RX4 41 yX4_joinNeighbours ∈ zwsG := zin 722 (by decide +kernel) (by decide +kernel)
set_option maxRecDepth 20000 in
theorem l_Gr_45 : Cond.methodLink RX4 45 yX4_join ∈ zwsG := zin 726 (by decide +kernel) (by decide +kernel)
set_option maxRecDepth 20000 in
theorem l_Gr_60 : Cond.methodLink RX4 60 yX4_standsFor ∈ zwsG := zin 730 (by decide +kernel) (by decide +kernel)
set_option maxRecDepth 20000 in
theorem l_Gr_64 : Cond.methodLink RX4 64 yJ9_max_7cf53 ∈ zwsG := zin 734 (by decide +kernel) (by decide +kernel)
set_option maxRecDepth 20000 in
theorem l_Gr_69 : Cond.methodLink RX4 69 yJ9_min_7cf53 ∈ zwsG := zin 735 (by decide +kernel) (by decide +kernel)
set_option maxRecDepth 20000 in
theorem l_Gr_49 : Cond.methodLink RX4 49 yX10_has ∈ zwsG := zin 736 (by decide +kernel) (by decide +kernel)
set_option maxRecDepth 20000 in
theorem l_Gr_53 : Cond.methodLink RX4 53 yX10_highestBeside ∈ zwsG := zin 737 (by decide +kernel) (by decide +kernel)
set_option maxRecDepth 20000 in
theorem l_Gr_57 : Cond.methodLink RX4 57 yX10_lowestBeside ∈ zwsG := zin 738 (by decide +kernel) (by decide +kernel)
set_option maxRecDepth 20000 in
theorem l_La_86 : Cond.methodLink RL 86 yX11_loose ∈ zwsG := zin 739 (by decide +kernel) (by decide +kernel)
set_option maxRecDepth 20000 in
theorem l_Cp_228 : Cond.methodLink RX11 228 yX8_copy ∈ zwsG := zin 743 (by decide +kernel) (by decide +kernel)
set_option maxRecDepth 20000 in
theorem l_La_90 : Cond.methodLink RL 90 yX11_see ∈ zwsG := zin 747 (by decide +kernel) (by decide +kernel)
set_option maxRecDepth 20000 in
theorem l_Cp_231 : Cond.methodLink RX11 231 yX9_append ∈ zwsG := zin 751 (by decide +kernel) (by decide +kernel)
set_option maxRecDepth 20000 in
theorem l_La_94 : Cond.methodLink RL 94 yX11_forget ∈ zwsG := zin 755 (by decide +kernel) (by decide +kernel)
set_option maxRecDepth 20000 in
theorem l_La_98 : Cond.methodLink RL 98 yX11_dice ∈ zwsG := zin 759 (by decide +kernel) (by decide +kernel)
set_option maxRecDepth 20000 in
theorem l_Cp_234 : Cond.methodLink RX11 234 yX1_next ∈ zwsG := zin 763 (by decide +kernel) (by decide +kernel)
set_option maxRecDepth 20000 in
theorem n_Di_13 : Cond.constantLong RX1 13 (1103515245 : Int64) ∈ zwsG := zin 767 (by decide +kernel) (by decide +kernel)
set_option maxRecDepth 20000 in
theorem n_Di_15 : Cond.constantLong RX1 15 (12345 : Int64) ∈ zwsG := zin 768 (by decide +kernel) (by decide +kernel)
set_option maxRecDepth 20000 in
theorem n_Di_17 : Cond.constantLong RX1 17 (2147483648 : Int64) ∈ zwsG := zin 769 (by decide +kernel) (by decide +kernel)
set_option maxRecDepth 20000 in
theorem n_Di_19 : Cond.constantLong RX1 19 (65536 : Int64) ∈ zwsG := zin 770 (by decide +kernel) (by decide +kernel)
set_option maxRecDepth 20000 in
theorem l_La_102 : Cond.methodLink RL 102 yX11_latest ∈ zwsG := zin 771 (by decide +kernel) (by decide +kernel)
set_option maxRecDepth 20000 in
theorem l_Cp_238 : Cond.methodLink RX11 238 yX6_back ∈ zwsG := zin 775 (by decide +kernel) (by decide +kernel)
set_option maxRecDepth 20000 in
theorem l_Ri_28 : Cond.methodLink RX6 28 yJ9_floorMod_7cf53 ∈ zwsG := zin 779 (by decide +kernel) (by decide +kernel)
set_option maxRecDepth 20000 in
theorem l_La_106 : Cond.methodLink RL 106 yX11_image ∈ zwsG := zin 782 (by decide +kernel) (by decide +kernel)
set_option maxRecDepth 20000 in
theorem l_Cp_241 : Cond.methodLink RX11 241 yX9_copy ∈ zwsG := zin 786 (by decide +kernel) (by decide +kernel)
set_option maxRecDepth 20000 in
theorem l_La_110 : Cond.methodLink RL 110 yX11_restore ∈ zwsG := zin 790 (by decide +kernel) (by decide +kernel)
set_option maxRecDepth 20000 in
theorem l_La_114 : Cond.methodLink RL 114 yX11_count ∈ zwsG := zin 794 (by decide +kernel) (by decide +kernel)
set_option maxRecDepth 20000 in
theorem l_Cp_245 : Cond.methodLink RX11 245 yX10_sections ∈ zwsG := zin 798 (by decide +kernel) (by decide +kernel)
set_option maxRecDepth 20000 in
theorem l_La_118 : Cond.methodLink RL 118 yX11_digest ∈ zwsG := zin 799 (by decide +kernel) (by decide +kernel)
set_option maxRecDepth 20000 in
theorem n_Cp_248 : Cond.constantLong RX11 248 (1433 : Int64) ∈ zwsG := zin 803 (by decide +kernel) (by decide +kernel)
set_option maxRecDepth 20000 in
theorem l_Cp_250 : Cond.methodLink RX11 250 yX11_mixCurves ∈ zwsG := zin 804 (by decide +kernel) (by decide +kernel)
set_option maxRecDepth 20000 in
theorem l_Cp_275 : Cond.methodLink RX11 275 yX11_curve ∈ zwsG := zin 808 (by decide +kernel) (by decide +kernel)
set_option maxRecDepth 20000 in
theorem l_Cp_263 : Cond.methodLink RX11 263 yX11_mix ∈ zwsG := zin 809 (by decide +kernel) (by decide +kernel)
set_option maxRecDepth 20000 in
theorem n_Cp_273 : Cond.constantLong RX11 273 (31 : Int64) ∈ zwsG := zin 812 (by decide +kernel) (by decide +kernel)
set_option maxRecDepth 20000 in
theorem l_Cp_254 : Cond.methodLink RX11 254 yX11_mixPoints ∈ zwsG := zin 813 (by decide +kernel) (by decide +kernel)
set_option maxRecDepth 20000 in
theorem l_Cp_278 : Cond.methodLink RX11 278 yX11_point ∈ zwsG := zin 817 (by decide +kernel) (by decide +kernel)
set_option maxRecDepth 20000 in
theorem l_Cp_257 : Cond.methodLink RX11 257 yX11_mixStacks ∈ zwsG := zin 818 (by decide +kernel) (by decide +kernel)
set_option maxRecDepth 20000 in
theorem l_Cp_260 : Cond.methodLink RX11 260 yX11_pieces ∈ zwsG := zin 822 (by decide +kernel) (by decide +kernel)
set_option maxRecDepth 20000 in
theorem l_Cp_270 : Cond.methodLink RX11 270 yX11_count ∈ zwsG := zin 823 (by decide +kernel) (by decide +kernel)
set_option maxRecDepth 20000 in
theorem c_La_10 : zCk RL 10 11 := ⟨by decide, zin 824 (by decide +kernel) (by decide +kernel), zin 825 (by decide +kernel) (by decide +kernel), zin 88 (by decide +kernel) (by decide +kernel)⟩
set_option maxRecDepth 20000 in
theorem a_La_10 : Cond.classLink RL 10 RX12 ∈ zwsG := zin 824 (by decide +kernel) (by decide +kernel)
set_option maxRecDepth 20000 in
theorem l_La_12 : Cond.methodLink RL 12 yX12_init ∈ zwsG := zin 826 (by decide +kernel) (by decide +kernel)
set_option maxRecDepth 20000 in
theorem l_Mo_1 : Cond.methodLink RX12 1 objectInit ∈ zwsG := zin 829 (by decide +kernel) (by decide +kernel)
set_option maxRecDepth 20000 in
theorem f_Mo_7 : zFl RX12 7 11 0 2 0 := ⟨zin 830 (by decide +kernel) (by decide +kernel), by decide, by decide +kernel, by decide +kernel, rfl⟩
set_option maxRecDepth 20000 in
theorem f_Mo_84 : zFl RX12 84 11 1 0 1 := ⟨zin 831 (by decide +kernel) (by decide +kernel), by decide, by decide +kernel, by decide +kernel, rfl⟩
set_option maxRecDepth 20000 in
theorem f_Mo_103 : zFl RX12 103 11 2 0 2 := ⟨zin 832 (by decide +kernel) (by decide +kernel), by decide, by decide +kernel, by decide +kernel, rfl⟩
set_option maxRecDepth 20000 in
theorem f_Mo_116 : zFl RX12 116 11 3 0 3 := ⟨zin 833 (by decide +kernel) (by decide +kernel), by decide, by decide +kernel, by decide +kernel, rfl⟩
set_option maxRecDepth 20000 in
theorem f_Mo_72 : zFl RX12 72 11 4 0 4 := ⟨zin 834 (by decide +kernel) (by decide +kernel), by decide, by decide +kernel, by decide +kernel, rfl⟩
set_option maxRecDepth 20000 in
theorem f_Mo_13 : zFl RX12 13 11 5 2 5 := ⟨zin 835 (by decide +kernel) (by decide +kernel), by decide, by decide +kernel, by decide +kernel, rfl⟩
set_option maxRecDepth 20000 in
theorem f_Mo_16 : zFl RX12 16 11 6 2 6 := ⟨zin 836 (by decide +kernel) (by decide +kernel), by decide, by decide +kernel, by decide +kernel, rfl⟩
set_option maxRecDepth 20000 in
theorem f_Mo_19 : zFl RX12 19 11 7 2 7 := ⟨zin 837 (by decide +kernel) (by decide +kernel), by decide, by decide +kernel, by decide +kernel, rfl⟩
set_option maxRecDepth 20000 in
theorem f_Mo_22 : zFl RX12 22 11 8 2 8 := ⟨zin 838 (by decide +kernel) (by decide +kernel), by decide, by decide +kernel, by decide +kernel, rfl⟩
set_option maxRecDepth 20000 in
theorem f_Mo_119 : zFl RX12 119 11 9 0 9 := ⟨zin 839 (by decide +kernel) (by decide +kernel), by decide, by decide +kernel, by decide +kernel, rfl⟩
set_option maxRecDepth 20000 in
theorem f_Mo_25 : zFl RX12 25 11 10 2 10 := ⟨zin 840 (by decide +kernel) (by decide +kernel), by decide, by decide +kernel, by decide +kernel, rfl⟩
set_option maxRecDepth 20000 in
theorem f_Mo_29 : zFl RX12 29 11 11 2 11 := ⟨zin 841 (by decide +kernel) (by decide +kernel), by decide, by decide +kernel, by decide +kernel, rfl⟩
set_option maxRecDepth 20000 in
theorem f_Mo_32 : zFl RX12 32 11 12 2 12 := ⟨zin 842 (by decide +kernel) (by decide +kernel), by decide, by decide +kernel, by decide +kernel, rfl⟩
set_option maxRecDepth 20000 in
theorem f_Mo_35 : zFl RX12 35 11 13 2 13 := ⟨zin 843 (by decide +kernel) (by decide +kernel), by decide, by decide +kernel, by decide +kernel, rfl⟩
set_option maxRecDepth 20000 in
theorem f_Mo_156 : zFl RX12 156 11 14 0 14 := ⟨zin 844 (by decide +kernel) (by decide +kernel), by decide, by decide +kernel, by decide +kernel, rfl⟩
set_option maxRecDepth 20000 in
theorem f_Mo_184 : zFl RX12 184 11 15 0 15 := ⟨zin 845 (by decide +kernel) (by decide +kernel), by decide, by decide +kernel, by decide +kernel, rfl⟩
set_option maxRecDepth 20000 in
theorem f_Mo_38 : zFl RX12 38 11 16 2 16 := ⟨zin 846 (by decide +kernel) (by decide +kernel), by decide, by decide +kernel, by decide +kernel, rfl⟩
set_option maxRecDepth 20000 in
theorem f_Mo_41 : zFl RX12 41 11 17 2 17 := ⟨zin 847 (by decide +kernel) (by decide +kernel), by decide, by decide +kernel, by decide +kernel, rfl⟩
set_option maxRecDepth 20000 in
theorem f_Mo_263 : zFl RX12 263 11 18 0 18 := ⟨zin 848 (by decide +kernel) (by decide +kernel), by decide, by decide +kernel, by decide +kernel, rfl⟩
set_option maxRecDepth 20000 in
theorem f_Mo_44 : zFl RX12 44 11 19 2 19 := ⟨zin 849 (by decide +kernel) (by decide +kernel), by decide, by decide +kernel, by decide +kernel, rfl⟩
set_option maxRecDepth 20000 in
theorem f_Mo_260 : zFl RX12 260 11 20 0 20 := ⟨zin 850 (by decide +kernel) (by decide +kernel), by decide, by decide +kernel, by decide +kernel, rfl⟩
set_option maxRecDepth 20000 in
theorem f_Mo_47 : zFl RX12 47 11 21 2 21 := ⟨zin 851 (by decide +kernel) (by decide +kernel), by decide, by decide +kernel, by decide +kernel, rfl⟩
set_option maxRecDepth 20000 in
theorem f_Mo_113 : zFl RX12 113 11 22 0 22 := ⟨zin 852 (by decide +kernel) (by decide +kernel), by decide, by decide +kernel, by decide +kernel, rfl⟩
set_option maxRecDepth 20000 in
theorem f_Mo_50 : zFl RX12 50 11 23 2 23 := ⟨zin 853 (by decide +kernel) (by decide +kernel), by decide, by decide +kernel, by decide +kernel, rfl⟩
set_option maxRecDepth 20000 in
theorem f_Mo_75 : zFl RX12 75 11 24 0 24 := ⟨zin 854 (by decide +kernel) (by decide +kernel), by decide, by decide +kernel, by decide +kernel, rfl⟩
set_option maxRecDepth 20000 in
theorem f_Mo_68 : zFl RX12 68 11 25 0 25 := ⟨zin 855 (by decide +kernel) (by decide +kernel), by decide, by decide +kernel, by decide +kernel, rfl⟩
set_option maxRecDepth 20000 in
theorem f_Mo_326 : zFl RX12 326 11 26 0 26 := ⟨zin 856 (by decide +kernel) (by decide +kernel), by decide, by decide +kernel, by decide +kernel, rfl⟩
set_option maxRecDepth 20000 in
theorem f_Mo_329 : zFl RX12 329 11 27 0 27 := ⟨zin 857 (by decide +kernel) (by decide +kernel), by decide, by decide +kernel, by decide +kernel, rfl⟩
set_option maxRecDepth 20000 in
theorem f_Mo_53 : zFl RX12 53 11 28 2 28 := ⟨zin 858 (by decide +kernel) (by decide +kernel), by decide, by decide +kernel, by decide +kernel, rfl⟩
set_option maxRecDepth 20000 in
theorem f_Mo_56 : zFl RX12 56 11 29 2 29 := ⟨zin 859 (by decide +kernel) (by decide +kernel), by decide, by decide +kernel, by decide +kernel, rfl⟩
set_option maxRecDepth 20000 in
theorem f_Mo_59 : zFl RX12 59 11 30 2 30 := ⟨zin 860 (by decide +kernel) (by decide +kernel), by decide, by decide +kernel, by decide +kernel, rfl⟩
set_option maxRecDepth 20000 in
theorem f_Mo_62 : zFl RX12 62 11 31 2 31 := ⟨zin 861 (by decide +kernel) (by decide +kernel), by decide, by decide +kernel, by decide +kernel, rfl⟩
set_option maxRecDepth 20000 in
theorem f_Mo_65 : zFl RX12 65 11 32 2 32 := ⟨zin 862 (by decide +kernel) (by decide +kernel), by decide, by decide +kernel, by decide +kernel, rfl⟩
set_option maxRecDepth 20000 in
theorem f_Mo_343 : zFl RX12 343 11 33 1 33 := ⟨zin 863 (by decide +kernel) (by decide +kernel), by decide, by decide +kernel, by decide +kernel, rfl⟩
set_option maxRecDepth 20000 in
theorem l_La_17 : Cond.methodLink RL 17 yX12_letter ∈ zwsG := zin 934 (by decide +kernel) (by decide +kernel)
set_option maxRecDepth 20000 in
theorem n_Mo_78 : Cond.constantLong RX12 78 (126 : Int64) ∈ zwsG := zin 938 (by decide +kernel) (by decide +kernel)
set_option maxRecDepth 20000 in
theorem l_Mo_80 : Cond.methodLink RX12 80 yX12_in ∈ zwsG := zin 939 (by decide +kernel) (by decide +kernel)
set_option maxRecDepth 20000 in
theorem l_La_22 : Cond.methodLink RL 22 yX12_blank ∈ zwsG := zin 942 (by decide +kernel) (by decide +kernel)
set_option maxRecDepth 20000 in
theorem l_La_26 : Cond.methodLink RL 26 yX12_fault ∈ zwsG := zin 946 (by decide +kernel) (by decide +kernel)
set_option maxRecDepth 20000 in
theorem l_Mo_99 : Cond.methodLink RX12 99 yX12_faultOf ∈ zwsG := zin 950 (by decide +kernel) (by decide +kernel)
set_option maxRecDepth 20000 in
theorem l_Mo_95 : Cond.methodLink RX12 95 yX12_isGood ∈ zwsG := zin 954 (by decide +kernel) (by decide +kernel)
set_option maxRecDepth 20000 in
theorem l_Mo_87 : Cond.methodLink RX12 87 yX12_kindBy ∈ zwsG := zin 958 (by decide +kernel) (by decide +kernel)
set_option maxRecDepth 20000 in
theorem n_Mo_91 : Cond.constantLong RX12 91 (48 : Int64) ∈ zwsG := zin 961 (by decide +kernel) (by decide +kernel)
set_option maxRecDepth 20000 in
theorem n_Mo_93 : Cond.constantLong RX12 93 (57 : Int64) ∈ zwsG := zin 962 (by decide +kernel) (by decide +kernel)
set_option maxRecDepth 20000 in
theorem l_La_30 : Cond.methodLink RL 30 yX12_plane ∈ zwsG := zin 963 (by decide +kernel) (by decide +kernel)
set_option maxRecDepth 20000 in
theorem l_Mo_106 : Cond.methodLink RX12 106 yX12_numberAt ∈ zwsG := zin 967 (by decide +kernel) (by decide +kernel)
set_option maxRecDepth 20000 in
theorem l_Mo_109 : Cond.methodLink RX12 109 yX12_name ∈ zwsG := zin 971 (by decide +kernel) (by decide +kernel)
set_option maxRecDepth 20000 in
theorem l_La_47 : Cond.methodLink RL 47 yX12_stack ∈ zwsG := zin 975 (by decide +kernel) (by decide +kernel)
set_option maxRecDepth 20000 in
theorem l_Mo_220 : Cond.methodLink RX12 220 yX12_isStack ∈ zwsG := zin 979 (by decide +kernel) (by decide +kernel)
set_option maxRecDepth 20000 in
theorem l_Mo_213 : Cond.methodLink RX12 213 yX12_lacks ∈ zwsG := zin 983 (by decide +kernel) (by decide +kernel)
set_option maxRecDepth 20000 in
theorem l_Mo_217 : Cond.methodLink RX12 217 yX12_freshen ∈ zwsG := zin 987 (by decide +kernel) (by decide +kernel)
set_option maxRecDepth 20000 in
theorem l_Mo_207 : Cond.methodLink RX12 207 yX12_layAll ∈ zwsG := zin 991 (by decide +kernel) (by decide +kernel)
set_option maxRecDepth 20000 in
theorem l_Mo_198 : Cond.methodLink RX12 198 yX12_layPoints ∈ zwsG := zin 995 (by decide +kernel) (by decide +kernel)
set_option maxRecDepth 20000 in
theorem l_Mo_173 : Cond.methodLink RX12 173 yX12_isFlat ∈ zwsG := zin 999 (by decide +kernel) (by decide +kernel)
set_option maxRecDepth 20000 in
theorem l_Mo_167 : Cond.methodLink RX12 167 yX12_addPoint ∈ zwsG := zin 1003 (by decide +kernel) (by decide +kernel)
set_option maxRecDepth 20000 in
theorem l_Mo_159 : Cond.methodLink RX12 159 yX12_layNumber ∈ zwsG := zin 1007 (by decide +kernel) (by decide +kernel)
set_option maxRecDepth 20000 in
theorem l_Mo_163 : Cond.methodLink RX12 163 yX12_compare ∈ zwsG := zin 1011 (by decide +kernel) (by decide +kernel)
set_option maxRecDepth 20000 in
theorem l_Mo_142 : Cond.methodLink RX12 142 yX12_signRoots ∈ zwsG := zin 1015 (by decide +kernel) (by decide +kernel)
set_option maxRecDepth 20000 in
theorem l_Mo_136 : Cond.methodLink RX12 136 yX12_signRoot ∈ zwsG := zin 1018 (by decide +kernel) (by decide +kernel)
set_option maxRecDepth 20000 in
theorem l_Mo_132 : Cond.methodLink RX12 132 yX12_signOf ∈ zwsG := zin 1021 (by decide +kernel) (by decide +kernel)
set_option maxRecDepth 20000 in
theorem n_Mo_140 : Cond.constantLong RX12 140 (-2 : Int64) ∈ zwsG := zin 1024 (by decide +kernel) (by decide +kernel)
set_option maxRecDepth 20000 in
theorem l_Mo_176 : Cond.methodLink RX12 176 yX12_addRoots ∈ zwsG := zin 1025 (by decide +kernel) (by decide +kernel)
set_option maxRecDepth 20000 in
theorem l_Mo_126 : Cond.methodLink RX12 126 yX12_square ∈ zwsG := zin 1029 (by decide +kernel) (by decide +kernel)
set_option maxRecDepth 20000 in
theorem l_Mo_123 : Cond.methodLink RX12 123 yX12_squareBy ∈ zwsG := zin 1033 (by decide +kernel) (by decide +kernel)
set_option maxRecDepth 20000 in
theorem l_Mo_129 : Cond.methodLink RX12 129 yX12_slope ∈ zwsG := zin 1036 (by decide +kernel) (by decide +kernel)
set_option maxRecDepth 20000 in
theorem n_Mo_171 : Cond.constantLong RX12 171 (-1 : Int64) ∈ zwsG := zin 1040 (by decide +kernel) (by decide +kernel)
set_option maxRecDepth 20000 in
theorem l_Mo_201 : Cond.methodLink RX12 201 yX12_laySamples ∈ zwsG := zin 1041 (by decide +kernel) (by decide +kernel)
set_option maxRecDepth 20000 in
theorem l_Mo_187 : Cond.methodLink RX12 187 yX12_laySample ∈ zwsG := zin 1045 (by decide +kernel) (by decide +kernel)
set_option maxRecDepth 20000 in
theorem l_Mo_180 : Cond.methodLink RX12 180 yX12_floorOf ∈ zwsG := zin 1049 (by decide +kernel) (by decide +kernel)
set_option maxRecDepth 20000 in
theorem n_Mo_146 : Cond.constantLong RX12 146 (-100 : Int64) ∈ zwsG := zin 1053 (by decide +kernel) (by decide +kernel)
set_option maxRecDepth 20000 in
theorem n_Mo_148 : Cond.constantLong RX12 148 (100 : Int64) ∈ zwsG := zin 1054 (by decide +kernel) (by decide +kernel)
set_option maxRecDepth 20000 in
theorem n_Mo_150 : Cond.constantLong RX12 150 (2 : Int64) ∈ zwsG := zin 1055 (by decide +kernel) (by decide +kernel)
set_option maxRecDepth 20000 in
theorem l_Mo_152 : Cond.methodLink RX12 152 yX12_compareTo ∈ zwsG := zin 1056 (by decide +kernel) (by decide +kernel)
set_option maxRecDepth 20000 in
theorem l_Mo_204 : Cond.methodLink RX12 204 yX12_layRanks ∈ zwsG := zin 1060 (by decide +kernel) (by decide +kernel)
set_option maxRecDepth 20000 in
theorem l_Mo_190 : Cond.methodLink RX12 190 yX12_difference ∈ zwsG := zin 1064 (by decide +kernel) (by decide +kernel)
set_option maxRecDepth 20000 in
theorem l_Mo_194 : Cond.methodLink RX12 194 yX12_isFirst ∈ zwsG := zin 1068 (by decide +kernel) (by decide +kernel)
set_option maxRecDepth 20000 in
theorem l_Mo_210 : Cond.methodLink RX12 210 yX12_cellsIn ∈ zwsG := zin 1072 (by decide +kernel) (by decide +kernel)
set_option maxRecDepth 20000 in
theorem l_La_52 : Cond.methodLink RL 52 yX12_cell ∈ zwsG := zin 1076 (by decide +kernel) (by decide +kernel)
set_option maxRecDepth 20000 in
theorem l_Mo_223 : Cond.methodLink RX12 223 yX12_isCell ∈ zwsG := zin 1080 (by decide +kernel) (by decide +kernel)
set_option maxRecDepth 20000 in
theorem l_Mo_227 : Cond.methodLink RX12 227 yX12_isCurve ∈ zwsG := zin 1084 (by decide +kernel) (by decide +kernel)
set_option maxRecDepth 20000 in
theorem l_Mo_230 : Cond.methodLink RX12 230 yX12_lies ∈ zwsG := zin 1088 (by decide +kernel) (by decide +kernel)
set_option maxRecDepth 20000 in
theorem l_La_56 : Cond.methodLink RL 56 yX12_neighbours ∈ zwsG := zin 1092 (by decide +kernel) (by decide +kernel)
set_option maxRecDepth 20000 in
theorem l_Mo_240 : Cond.methodLink RX12 240 yX12_isNeighbour ∈ zwsG := zin 1096 (by decide +kernel) (by decide +kernel)
set_option maxRecDepth 20000 in
theorem l_Mo_236 : Cond.methodLink RX12 236 yX12_isBeside ∈ zwsG := zin 1100 (by decide +kernel) (by decide +kernel)
set_option maxRecDepth 20000 in
theorem l_Mo_233 : Cond.methodLink RX12 233 yX12_comesTo ∈ zwsG := zin 1104 (by decide +kernel) (by decide +kernel)
set_option maxRecDepth 20000 in
theorem l_La_81 : Cond.methodLink RL 81 yX12_sentence ∈ zwsG := zin 1108 (by decide +kernel) (by decide +kernel)
set_option maxRecDepth 20000 in
theorem l_Mo_254 : Cond.methodLink RX12 254 yX12_isForm ∈ zwsG := zin 1112 (by decide +kernel) (by decide +kernel)
set_option maxRecDepth 20000 in
theorem n_Mo_243 : Cond.constantLong RX12 243 (6666 : Int64) ∈ zwsG := zin 1115 (by decide +kernel) (by decide +kernel)
set_option maxRecDepth 20000 in
theorem l_Mo_257 : Cond.methodLink RX12 257 yX12_holdsIn ∈ zwsG := zin 1116 (by decide +kernel) (by decide +kernel)
set_option maxRecDepth 20000 in
theorem l_Mo_251 : Cond.methodLink RX12 251 yX12_holds ∈ zwsG := zin 1120 (by decide +kernel) (by decide +kernel)
set_option maxRecDepth 20000 in
theorem l_Mo_245 : Cond.methodLink RX12 245 yX12_figureOf ∈ zwsG := zin 1124 (by decide +kernel) (by decide +kernel)
set_option maxRecDepth 20000 in
theorem l_Mo_248 : Cond.methodLink RX12 248 yX12_isSo ∈ zwsG := zin 1127 (by decide +kernel) (by decide +kernel)
set_option maxRecDepth 20000 in
theorem l_La_105 : Cond.methodLink RL 105 yX12_latest ∈ zwsG := zin 1130 (by decide +kernel) (by decide +kernel)
set_option maxRecDepth 20000 in
theorem l_La_85 : Cond.methodLink RL 85 yX12_pieces ∈ zwsG := zin 1134 (by decide +kernel) (by decide +kernel)
set_option maxRecDepth 20000 in
theorem l_Mo_269 : Cond.methodLink RX12 269 yX12_piecesOf ∈ zwsG := zin 1138 (by decide +kernel) (by decide +kernel)
set_option maxRecDepth 20000 in
theorem l_Mo_266 : Cond.methodLink RX12 266 yX12_isSpread ∈ zwsG := zin 1142 (by decide +kernel) (by decide +kernel)
set_option maxRecDepth 20000 in
theorem l_La_89 : Cond.methodLink RL 89 yX12_loose ∈ zwsG := zin 1146 (by decide +kernel) (by decide +kernel)
set_option maxRecDepth 20000 in
theorem l_Mo_272 : Cond.methodLink RX12 272 yX12_cellsAll ∈ zwsG := zin 1150 (by decide +kernel) (by decide +kernel)
set_option maxRecDepth 20000 in
theorem l_La_35 : Cond.methodLink RL 35 yX12_curve ∈ zwsG := zin 1154 (by decide +kernel) (by decide +kernel)
set_option maxRecDepth 20000 in
theorem l_Mo_281 : Cond.methodLink RX12 281 yX12_tellCurve ∈ zwsG := zin 1158 (by decide +kernel) (by decide +kernel)
set_option maxRecDepth 20000 in
theorem l_Mo_275 : Cond.methodLink RX12 275 yX12_sortsOf ∈ zwsG := zin 1162 (by decide +kernel) (by decide +kernel)
set_option maxRecDepth 20000 in
theorem l_Mo_311 : Cond.methodLink RX12 311 yX12_liesAt ∈ zwsG := zin 1166 (by decide +kernel) (by decide +kernel)
set_option maxRecDepth 20000 in
theorem l_Mo_278 : Cond.methodLink RX12 278 yX12_askOf ∈ zwsG := zin 1170 (by decide +kernel) (by decide +kernel)
set_option maxRecDepth 20000 in
theorem l_La_39 : Cond.methodLink RL 39 yX12_as ∈ zwsG := zin 1174 (by decide +kernel) (by decide +kernel)
set_option maxRecDepth 20000 in
theorem n_Mo_284 : Cond.constantLong RX12 284 (4 : Int64) ∈ zwsG := zin 1178 (by decide +kernel) (by decide +kernel)
set_option maxRecDepth 20000 in
theorem l_La_43 : Cond.methodLink RL 43 yX12_point ∈ zwsG := zin 1179 (by decide +kernel) (by decide +kernel)
set_option maxRecDepth 20000 in
theorem l_Mo_298 : Cond.methodLink RX12 298 yX12_tellPoint ∈ zwsG := zin 1183 (by decide +kernel) (by decide +kernel)
set_option maxRecDepth 20000 in
theorem n_Mo_289 : Cond.constant RX12 289 (100000 : Int32) ∈ zwsG := zin 1187 (by decide +kernel) (by decide +kernel)
set_option maxRecDepth 20000 in
theorem n_Mo_290 : Cond.constantLong RX12 290 (1000 : Int64) ∈ zwsG := zin 1188 (by decide +kernel) (by decide +kernel)
set_option maxRecDepth 20000 in
theorem l_Mo_292 : Cond.methodLink RX12 292 yX12_meeting ∈ zwsG := zin 1189 (by decide +kernel) (by decide +kernel)
set_option maxRecDepth 20000 in
theorem l_Mo_286 : Cond.methodLink RX12 286 yX12_isSame ∈ zwsG := zin 1193 (by decide +kernel) (by decide +kernel)
set_option maxRecDepth 20000 in
theorem l_Mo_295 : Cond.methodLink RX12 295 yX12_standing ∈ zwsG := zin 1197 (by decide +kernel) (by decide +kernel)
set_option maxRecDepth 20000 in
theorem l_La_60 : Cond.methodLink RL 60 yX12_put ∈ zwsG := zin 1201 (by decide +kernel) (by decide +kernel)
set_option maxRecDepth 20000 in
theorem l_Mo_305 : Cond.methodLink RX12 305 yX12_isNumber ∈ zwsG := zin 1205 (by decide +kernel) (by decide +kernel)
set_option maxRecDepth 20000 in
theorem n_Mo_301 : Cond.constantLong RX12 301 (-9 : Int64) ∈ zwsG := zin 1208 (by decide +kernel) (by decide +kernel)
set_option maxRecDepth 20000 in
theorem n_Mo_303 : Cond.constantLong RX12 303 (9 : Int64) ∈ zwsG := zin 1209 (by decide +kernel) (by decide +kernel)
set_option maxRecDepth 20000 in
theorem l_La_64 : Cond.methodLink RL 64 yX12_take ∈ zwsG := zin 1210 (by decide +kernel) (by decide +kernel)
set_option maxRecDepth 20000 in
theorem l_La_68 : Cond.methodLink RL 68 yX12_move ∈ zwsG := zin 1214 (by decide +kernel) (by decide +kernel)
set_option maxRecDepth 20000 in
theorem l_Mo_308 : Cond.methodLink RX12 308 yX12_cellsNow ∈ zwsG := zin 1218 (by decide +kernel) (by decide +kernel)
set_option maxRecDepth 20000 in
theorem l_La_72 : Cond.methodLink RL 72 yX12_change ∈ zwsG := zin 1222 (by decide +kernel) (by decide +kernel)
set_option maxRecDepth 20000 in
theorem l_La_76 : Cond.methodLink RL 76 yX12_mirror ∈ zwsG := zin 1226 (by decide +kernel) (by decide +kernel)
set_option maxRecDepth 20000 in
theorem l_La_93 : Cond.methodLink RL 93 yX12_see ∈ zwsG := zin 1230 (by decide +kernel) (by decide +kernel)
set_option maxRecDepth 20000 in
theorem l_La_97 : Cond.methodLink RL 97 yX12_forget ∈ zwsG := zin 1234 (by decide +kernel) (by decide +kernel)
set_option maxRecDepth 20000 in
theorem l_La_101 : Cond.methodLink RL 101 yX12_dice ∈ zwsG := zin 1238 (by decide +kernel) (by decide +kernel)
set_option maxRecDepth 20000 in
theorem n_Mo_315 : Cond.constantLong RX12 315 (1103515245 : Int64) ∈ zwsG := zin 1242 (by decide +kernel) (by decide +kernel)
set_option maxRecDepth 20000 in
theorem n_Mo_317 : Cond.constantLong RX12 317 (12345 : Int64) ∈ zwsG := zin 1243 (by decide +kernel) (by decide +kernel)
set_option maxRecDepth 20000 in
theorem n_Mo_319 : Cond.constantLong RX12 319 (2147483647 : Int64) ∈ zwsG := zin 1244 (by decide +kernel) (by decide +kernel)
set_option maxRecDepth 20000 in
theorem n_Mo_321 : Cond.constant RX12 321 (65536 : Int32) ∈ zwsG := zin 1245 (by decide +kernel) (by decide +kernel)
set_option maxRecDepth 20000 in
theorem l_La_109 : Cond.methodLink RL 109 yX12_image ∈ zwsG := zin 1246 (by decide +kernel) (by decide +kernel)
set_option maxRecDepth 20000 in
theorem l_Mo_322 : Cond.methodLink RX12 322 yX12_copy ∈ zwsG := zin 1250 (by decide +kernel) (by decide +kernel)
set_option maxRecDepth 20000 in
theorem l_La_113 : Cond.methodLink RL 113 yX12_restore ∈ zwsG := zin 1253 (by decide +kernel) (by decide +kernel)
set_option maxRecDepth 20000 in
theorem l_La_117 : Cond.methodLink RL 117 yX12_count ∈ zwsG := zin 1257 (by decide +kernel) (by decide +kernel)
set_option maxRecDepth 20000 in
theorem l_Mo_338 : Cond.methodLink RX12 338 yX12_countOf ∈ zwsG := zin 1261 (by decide +kernel) (by decide +kernel)
set_option maxRecDepth 20000 in
theorem l_Mo_335 : Cond.methodLink RX12 335 yX12_countPlane ∈ zwsG := zin 1265 (by decide +kernel) (by decide +kernel)
set_option maxRecDepth 20000 in
theorem l_Mo_332 : Cond.methodLink RX12 332 yX12_sectionsAll ∈ zwsG := zin 1269 (by decide +kernel) (by decide +kernel)
set_option maxRecDepth 20000 in
theorem l_La_122 : Cond.methodLink RL 122 yX12_digest ∈ zwsG := zin 1273 (by decide +kernel) (by decide +kernel)
set_option maxRecDepth 20000 in
theorem n_Mo_351 : Cond.constantLong RX12 351 (1433 : Int64) ∈ zwsG := zin 1277 (by decide +kernel) (by decide +kernel)
set_option maxRecDepth 20000 in
theorem l_Mo_347 : Cond.methodLink RX12 347 yX12_say ∈ zwsG := zin 1278 (by decide +kernel) (by decide +kernel)
set_option maxRecDepth 20000 in
theorem n_Mo_341 : Cond.constantLong RX12 341 (31 : Int64) ∈ zwsG := zin 1282 (by decide +kernel) (by decide +kernel)
set_option maxRecDepth 20000 in
theorem l_Mo_353 : Cond.methodLink RX12 353 yX12_sayStacks ∈ zwsG := zin 1283 (by decide +kernel) (by decide +kernel)
set_option maxRecDepth 20000 in
theorem zo_inst : Cond.instanceMethod objectInit ∈ zwsG := zin 99 (by decide +kernel) (by decide +kernel)
set_option maxRecDepth 20000 in
theorem zo_code : Cond.code objectInit ⟨#[0xb1]⟩ 1 none ∈ zwsG := zin 100 (by decide +kernel) (by decide +kernel)
set_option maxRecDepth 20000 in
theorem zw_int : Cond.arrayClass .int ∈ zwsG := zin 116 (by decide +kernel) (by decide +kernel)
set_option maxRecDepth 20000 in
theorem zw_long : Cond.arrayClass .long ∈ zwsG := zin 933 (by decide +kernel) (by decide +kernel)
set_option maxRecDepth 20000 in
theorem zw_boolean : Cond.arrayClass .boolean ∈ zwsG := zin 213 (by decide +kernel) (by decide +kernel)
