/-! the methods, as the little machine knows them; links of fields and of calls -/
def zJ0_charAt_5068e : zY := (yJ0_charAt_5068e, cJ0_charAt_5068e, 2, some FieldType.char)
def zJ0_checkIndex_df160 : zY := (yJ0_checkIndex_df160, cJ0_checkIndex_df160, 2, none)
def zJ0_coder_7d493 : zY := (yJ0_coder_7d493, cJ0_coder_7d493, 1, some FieldType.byte)
def zJ0_isLatin1_aae02 : zY := (yJ0_isLatin1_aae02, cJ0_isLatin1_aae02, 1, some FieldType.boolean)
def zJ0_length_8abf5 : zY := (yJ0_length_8abf5, cJ0_length_8abf5, 1, some FieldType.int)
def zJ1_charAt_3b067 : zY := (yJ1_charAt_3b067, cJ1_charAt_3b067, 2, some FieldType.char)
def zJ2_charAt_3b067 : zY := (yJ2_charAt_3b067, cJ2_charAt_3b067, 2, some FieldType.char)
def zJ2_checkIndex_2214a : zY := (yJ2_checkIndex_2214a, cJ2_checkIndex_2214a, 2, none)
def zJ2_getChar_3b067 : zY := (yJ2_getChar_3b067, cJ2_getChar_3b067, 2, some FieldType.char)
def zJ2_length_9d52b : zY := (yJ2_length_9d52b, cJ2_length_9d52b, 1, some FieldType.int)
def zJ3_checkIndex_8e157 : zY := (yJ3_checkIndex_8e157, cJ3_checkIndex_8e157, 3, some FieldType.int)
def zJ6_bitCount_0f7a4 : zY := (yJ6_bitCount_0f7a4, cJ6_bitCount_0f7a4, 1, some FieldType.int)
def zJ7_fill_53178 : zY := (yJ7_fill_53178, cJ7_fill_53178, 4, none)
def zJ9_max_7cf53 : zY := (yJ9_max_7cf53, cJ9_max_7cf53, 2, some FieldType.int)
def zJ9_min_7cf53 : zY := (yJ9_min_7cf53, cJ9_min_7cf53, 2, some FieldType.int)
def zJ9_min_f86c9 : zY := (yJ9_min_f86c9, cJ9_min_f86c9, 4, some FieldType.long)
def zX0_build : zY := (yX0_build, cX0_build, 7, none)
def zX0_codeAt : zY := (yX0_codeAt, cX0_codeAt, 3, some FieldType.int)
def zX0_connectedPairings : zY := (yX0_connectedPairings, cX0_connectedPairings, 3, some FieldType.int)
def zX0_countWith : zY := (yX0_countWith, cX0_countWith, 5, some FieldType.int)
def zX0_diagramOf : zY := (yX0_diagramOf, cX0_diagramOf, 2, some FieldType.int)
def zX0_fact : zY := (yX0_fact, cX0_fact, 4, some FieldType.int)
def zX0_factFor : zY := (yX0_factFor, cX0_factFor, 1, some FieldType.int)
def zX0_find : zY := (yX0_find, cX0_find, 4, some FieldType.int)
def zX0_imageOf : zY := (yX0_imageOf, cX0_imageOf, 6, some FieldType.long)
def zX0_init : zY := (yX0_init, cX0_init, 1, none)
def zX0_isLinked : zY := (yX0_isLinked, cX0_isLinked, 2, some FieldType.boolean)
def zX0_keyOf : zY := (yX0_keyOf, cX0_keyOf, 7, some FieldType.long)
def zX0_linkedDiagrams : zY := (yX0_linkedDiagrams, cX0_linkedDiagrams, 3, some FieldType.int)
def zX0_linkedPairings : zY := (yX0_linkedPairings, cX0_linkedPairings, 3, some FieldType.int)
def zX0_listChanges : zY := (yX0_listChanges, cX0_listChanges, 7, none)
def zX0_makeRoom : zY := (yX0_makeRoom, cX0_makeRoom, 2, none)
def zX0_nameOf : zY := (yX0_nameOf, cX0_nameOf, 2, some FieldType.long)
def zX0_open : zY := (yX0_open, cX0_open, 11, none)
def zX0_partsOf : zY := (yX0_partsOf, cX0_partsOf, 2, some FieldType.int)
def zX0_rowOf : zY := (yX0_rowOf, cX0_rowOf, 7, some FieldType.long)
def zX0_shapeOf : zY := (yX0_shapeOf, cX0_shapeOf, 5, some FieldType.int)
def zX0_sink : zY := (yX0_sink, cX0_sink, 7, none)
def zX0_sortByName : zY := (yX0_sortByName, cX0_sortByName, 3, none)
def zX0_symmetry : zY := (yX0_symmetry, cX0_symmetry, 2, some FieldType.int)
def zX0_thickest : zY := (yX0_thickest, cX0_thickest, 5, some FieldType.int)
def zX10_fill : zY := (yX10_fill, cX10_fill, 8, none)
def zX10_init : zY := (yX10_init, cX10_init, 1, none)
def zX10_of : zY := (yX10_of, cX10_of, 2, some FieldType.int)
def zX10_withLines : zY := (yX10_withLines, cX10_withLines, 4, some FieldType.int)
def zX11_answer : zY := (yX11_answer, cX11_answer, 2, some FieldType.int)
def zX11_by : zY := (yX11_by, cX11_by, 3, some FieldType.int)
def zX11_code : zY := (yX11_code, cX11_code, 3, some FieldType.int)
def zX11_copy : zY := (yX11_copy, cX11_copy, 2, some FieldType.int)
def zX11_core : zY := (yX11_core, cX11_core, 5, some FieldType.int)
def zX11_countHanging : zY := (yX11_countHanging, cX11_countHanging, 7, some FieldType.int)
def zX11_diagram : zY := (yX11_diagram, cX11_diagram, 3, some FieldType.int)
def zX11_diagrams : zY := (yX11_diagrams, cX11_diagrams, 3, some FieldType.int)
def zX11_drawPairing : zY := (yX11_drawPairing, cX11_drawPairing, 6, none)
def zX11_drop : zY := (yX11_drop, cX11_drop, 2, some FieldType.int)
def zX11_far : zY := (yX11_far, cX11_far, 5, some FieldType.int)
def zX11_fault : zY := (yX11_fault, cX11_fault, 2, some FieldType.int)
def zX11_feed : zY := (yX11_feed, cX11_feed, 6, some FieldType.int)
def zX11_field : zY := (yX11_field, cX11_field, 3, some FieldType.int)
def zX11_forgetAll : zY := (yX11_forgetAll, cX11_forgetAll, 1, none)
def zX11_graphOf : zY := (yX11_graphOf, cX11_graphOf, 2, some (FieldType.object "ContractionCounter$Graph"))
def zX11_hasDiagram : zY := (yX11_hasDiagram, cX11_hasDiagram, 2, some FieldType.boolean)
def zX11_hasPairing : zY := (yX11_hasPairing, cX11_hasPairing, 2, some FieldType.boolean)
def zX11_holds : zY := (yX11_holds, cX11_holds, 2, some FieldType.int)
def zX11_init : zY := (yX11_init, cX11_init, 1, none)
def zX11_isOnTape : zY := (yX11_isOnTape, cX11_isOnTape, 2, some FieldType.boolean)
def zX11_knownDiagrams : zY := (yX11_knownDiagrams, cX11_knownDiagrams, 1, some (FieldType.object "ContractionCounter$DiagramTable"))
def zX11_knownPairings : zY := (yX11_knownPairings, cX11_knownPairings, 1, some (FieldType.object "ContractionCounter$PairingTable"))
def zX11_knownRounds : zY := (yX11_knownRounds, cX11_knownRounds, 2, some (FieldType.object "ContractionCounter$PairingTable"))
def zX11_knownWays : zY := (yX11_knownWays, cX11_knownWays, 1, some (FieldType.object "ContractionCounter$WayTable"))
def zX11_leastOf : zY := (yX11_leastOf, cX11_leastOf, 1, some FieldType.int)
def zX11_letter : zY := (yX11_letter, cX11_letter, 3, some FieldType.int)
def zX11_lines : zY := (yX11_lines, cX11_lines, 3, some FieldType.int)
def zX11_load : zY := (yX11_load, cX11_load, 3, some FieldType.int)
def zX11_many : zY := (yX11_many, cX11_many, 2, some FieldType.int)
def zX11_mate : zY := (yX11_mate, cX11_mate, 3, some FieldType.int)
def zX11_move : zY := (yX11_move, cX11_move, 3, some FieldType.int)
def zX11_name : zY := (yX11_name, cX11_name, 3, some FieldType.int)
def zX11_normal : zY := (yX11_normal, cX11_normal, 3, some FieldType.int)
def zX11_ofDiagram : zY := (yX11_ofDiagram, cX11_ofDiagram, 8, some FieldType.int)
def zX11_out : zY := (yX11_out, cX11_out, 2, some FieldType.int)
def zX11_overlay : zY := (yX11_overlay, cX11_overlay, 5, some FieldType.int)
def zX11_pairing : zY := (yX11_pairing, cX11_pairing, 3, some FieldType.int)
def zX11_pairingCount : zY := (yX11_pairingCount, cX11_pairingCount, 1, some FieldType.int)
def zX11_pairingsOf : zY := (yX11_pairingsOf, cX11_pairingsOf, 2, some (FieldType.object "ContractionCounter$PairingTable"))
def zX11_pairs : zY := (yX11_pairs, cX11_pairs, 3, some FieldType.int)
def zX11_part : zY := (yX11_part, cX11_part, 3, some FieldType.int)
def zX11_partial : zY := (yX11_partial, cX11_partial, 2, some FieldType.int)
def zX11_point : zY := (yX11_point, cX11_point, 3, some FieldType.int)
def zX11_print : zY := (yX11_print, cX11_print, 4, some FieldType.int)
def zX11_printPairs : zY := (yX11_printPairs, cX11_printPairs, 4, some FieldType.int)
def zX11_refuse : zY := (yX11_refuse, cX11_refuse, 2, some FieldType.int)
def zX11_roomFor : zY := (yX11_roomFor, cX11_roomFor, 3, some FieldType.int)
def zX11_signedBy : zY := (yX11_signedBy, cX11_signedBy, 3, some FieldType.int)
def zX11_status : zY := (yX11_status, cX11_status, 1, some FieldType.int)
def zX11_sub : zY := (yX11_sub, cX11_sub, 5, some FieldType.int)
def zX11_sum : zY := (yX11_sum, cX11_sum, 5, some FieldType.long)
def zX11_sumOf : zY := (yX11_sumOf, cX11_sumOf, 6, some FieldType.long)
def zX11_swap : zY := (yX11_swap, cX11_swap, 3, some FieldType.int)
def zX11_ways : zY := (yX11_ways, cX11_ways, 4, some FieldType.int)
def zX11_worth : zY := (yX11_worth, cX11_worth, 4, some FieldType.int)
def zX11_worthOf : zY := (yX11_worthOf, cX11_worthOf, 7, some FieldType.long)
def zX12_alikeTo : zY := (yX12_alikeTo, cX12_alikeTo, 4, some FieldType.int)
def zX12_allPoints : zY := (yX12_allPoints, cX12_allPoints, 1, some FieldType.int)
def zX12_areAlike : zY := (yX12_areAlike, cX12_areAlike, 4, some FieldType.boolean)
def zX12_asDiagram : zY := (yX12_asDiagram, cX12_asDiagram, 1, some FieldType.int)
def zX12_at : zY := (yX12_at, cX12_at, 2, some FieldType.int)
def zX12_begins : zY := (yX12_begins, cX12_begins, 3, none)
def zX12_beginsText : zY := (yX12_beginsText, cX12_beginsText, 3, none)
def zX12_bits : zY := (yX12_bits, cX12_bits, 3, some FieldType.int)
def zX12_bridges : zY := (yX12_bridges, cX12_bridges, 3, some FieldType.int)
def zX12_by : zY := (yX12_by, cX12_by, 3, some FieldType.int)
def zX12_changes : zY := (yX12_changes, cX12_changes, 1, none)
def zX12_code : zY := (yX12_code, cX12_code, 3, some FieldType.int)
def zX12_codeOf : zY := (yX12_codeOf, cX12_codeOf, 7, some FieldType.int)
def zX12_codesOf : zY := (yX12_codesOf, cX12_codesOf, 3, none)
def zX12_copy : zY := (yX12_copy, cX12_copy, 2, some FieldType.int)
def zX12_core : zY := (yX12_core, cX12_core, 6, some FieldType.int)
def zX12_countOf : zY := (yX12_countOf, cX12_countOf, 4, some FieldType.int)
def zX12_countsSub : zY := (yX12_countsSub, cX12_countsSub, 2, none)
def zX12_crossingsNow : zY := (yX12_crossingsNow, cX12_crossingsNow, 4, some FieldType.int)
def zX12_diagram : zY := (yX12_diagram, cX12_diagram, 3, some FieldType.int)
def zX12_diagramMany : zY := (yX12_diagramMany, cX12_diagramMany, 1, some FieldType.int)
def zX12_diagramOf : zY := (yX12_diagramOf, cX12_diagramOf, 2, some FieldType.int)
def zX12_diagrams : zY := (yX12_diagrams, cX12_diagrams, 5, some FieldType.int)
def zX12_doCross : zY := (yX12_doCross, cX12_doCross, 3, some FieldType.boolean)
def zX12_drop : zY := (yX12_drop, cX12_drop, 3, some FieldType.int)
def zX12_endsText : zY := (yX12_endsText, cX12_endsText, 1, none)
def zX12_far : zY := (yX12_far, cX12_far, 8, some FieldType.int)
def zX12_fault : zY := (yX12_fault, cX12_fault, 2, some FieldType.int)
def zX12_feed : zY := (yX12_feed, cX12_feed, 6, some FieldType.int)
def zX12_field : zY := (yX12_field, cX12_field, 3, some FieldType.int)
def zX12_fieldHere : zY := (yX12_fieldHere, cX12_fieldHere, 2, some FieldType.int)
def zX12_fieldTold : zY := (yX12_fieldTold, cX12_fieldTold, 2, some FieldType.int)
def zX12_firstFree : zY := (yX12_firstFree, cX12_firstFree, 2, some FieldType.int)
def zX12_firstOf : zY := (yX12_firstOf, cX12_firstOf, 4, some FieldType.int)
def zX12_firstPairing : zY := (yX12_firstPairing, cX12_firstPairing, 3, some FieldType.int)
def zX12_fromOf : zY := (yX12_fromOf, cX12_fromOf, 2, some FieldType.int)
def zX12_has : zY := (yX12_has, cX12_has, 2, some FieldType.boolean)
def zX12_holds : zY := (yX12_holds, cX12_holds, 6, some FieldType.int)
def zX12_holds0 : zY := (yX12_holds0, cX12_holds0, 3, none)
def zX12_holesOf : zY := (yX12_holesOf, cX12_holesOf, 2, some FieldType.int)
def zX12_init : zY := (yX12_init, cX12_init, 1, none)
def zX12_is : zY := (yX12_is, cX12_is, 2, some FieldType.boolean)
def zX12_isCode : zY := (yX12_isCode, cX12_isCode, 3, some FieldType.boolean)
def zX12_isConnected : zY := (yX12_isConnected, cX12_isConnected, 2, some FieldType.boolean)
def zX12_isDiagram : zY := (yX12_isDiagram, cX12_isDiagram, 2, some FieldType.boolean)
def zX12_isIn : zY := (yX12_isIn, cX12_isIn, 3, some FieldType.boolean)
def zX12_isLetter : zY := (yX12_isLetter, cX12_isLetter, 2, some FieldType.boolean)
def zX12_isLinked : zY := (yX12_isLinked, cX12_isLinked, 2, some FieldType.boolean)
def zX12_isNormal : zY := (yX12_isNormal, cX12_isNormal, 2, some FieldType.boolean)
def zX12_isOdd : zY := (yX12_isOdd, cX12_isOdd, 2, some FieldType.boolean)
def zX12_isOf : zY := (yX12_isOf, cX12_isOf, 4, some FieldType.boolean)
def zX12_isPair : zY := (yX12_isPair, cX12_isPair, 2, some FieldType.boolean)
def zX12_isPairing : zY := (yX12_isPairing, cX12_isPairing, 2, some FieldType.boolean)
def zX12_isPoint : zY := (yX12_isPoint, cX12_isPoint, 2, some FieldType.boolean)
def zX12_isRealSort : zY := (yX12_isRealSort, cX12_isRealSort, 2, some FieldType.boolean)
def zX12_isSign : zY := (yX12_isSign, cX12_isSign, 2, some FieldType.boolean)
def zX12_isSignByte : zY := (yX12_isSignByte, cX12_isSignByte, 2, some FieldType.boolean)
def zX12_isSuch : zY := (yX12_isSuch, cX12_isSuch, 4, some FieldType.boolean)
def zX12_isVertex : zY := (yX12_isVertex, cX12_isVertex, 2, some FieldType.boolean)
def zX12_isVertexBehind : zY := (yX12_isVertexBehind, cX12_isVertexBehind, 3, some FieldType.boolean)
def zX12_isWord : zY := (yX12_isWord, cX12_isWord, 2, some FieldType.boolean)
def zX12_lays : zY := (yX12_lays, cX12_lays, 1, none)
def zX12_laysAll : zY := (yX12_laysAll, cX12_laysAll, 3, none)
def zX12_laysHeld : zY := (yX12_laysHeld, cX12_laysHeld, 3, none)
def zX12_laysNames : zY := (yX12_laysNames, cX12_laysNames, 2, none)
def zX12_laysSub : zY := (yX12_laysSub, cX12_laysSub, 3, none)
def zX12_leastOf : zY := (yX12_leastOf, cX12_leastOf, 3, some FieldType.long)
def zX12_leaving : zY := (yX12_leaving, cX12_leaving, 2, some FieldType.int)
def zX12_letter : zY := (yX12_letter, cX12_letter, 5, some FieldType.int)
def zX12_lettersTold : zY := (yX12_lettersTold, cX12_lettersTold, 3, some FieldType.int)
def zX12_line : zY := (yX12_line, cX12_line, 1, none)
def zX12_lines : zY := (yX12_lines, cX12_lines, 3, some FieldType.int)
def zX12_load : zY := (yX12_load, cX12_load, 3, some FieldType.int)
def zX12_loops : zY := (yX12_loops, cX12_loops, 1, some FieldType.int)
def zX12_lost : zY := (yX12_lost, cX12_lost, 4, some FieldType.int)
def zX12_many : zY := (yX12_many, cX12_many, 2, some FieldType.int)
def zX12_manySuch : zY := (yX12_manySuch, cX12_manySuch, 5, some FieldType.int)
def zX12_mate : zY := (yX12_mate, cX12_mate, 3, some FieldType.int)
def zX12_mateOf : zY := (yX12_mateOf, cX12_mateOf, 3, some FieldType.int)
def zX12_mayBe : zY := (yX12_mayBe, cX12_mayBe, 5, some FieldType.boolean)
def zX12_mixOf : zY := (yX12_mixOf, cX12_mixOf, 6, some FieldType.int)
def zX12_mostOfOne : zY := (yX12_mostOfOne, cX12_mostOfOne, 5, some FieldType.int)
def zX12_move : zY := (yX12_move, cX12_move, 4, some FieldType.int)
def zX12_must : zY := (yX12_must, cX12_must, 3, none)
def zX12_name : zY := (yX12_name, cX12_name, 3, some FieldType.int)
def zX12_named : zY := (yX12_named, cX12_named, 5, some FieldType.long)
def zX12_needsNumber : zY := (yX12_needsNumber, cX12_needsNumber, 2, none)
def zX12_normal : zY := (yX12_normal, cX12_normal, 3, some FieldType.int)
def zX12_ofDiagram : zY := (yX12_ofDiagram, cX12_ofDiagram, 6, some FieldType.int)
def zX12_ofDiagram0 : zY := (yX12_ofDiagram0, cX12_ofDiagram0, 3, some FieldType.int)
def zX12_opens : zY := (yX12_opens, cX12_opens, 2, none)
def zX12_orders : zY := (yX12_orders, cX12_orders, 4, some FieldType.long)
def zX12_out : zY := (yX12_out, cX12_out, 2, some FieldType.int)
def zX12_outerPoints : zY := (yX12_outerPoints, cX12_outerPoints, 3, some FieldType.int)
def zX12_overlay : zY := (yX12_overlay, cX12_overlay, 6, some FieldType.int)
def zX12_packed : zY := (yX12_packed, cX12_packed, 5, some FieldType.long)
def zX12_pairing : zY := (yX12_pairing, cX12_pairing, 3, some FieldType.int)
def zX12_pairs : zY := (yX12_pairs, cX12_pairs, 3, some FieldType.int)
def zX12_part : zY := (yX12_part, cX12_part, 3, some FieldType.int)
def zX12_partial : zY := (yX12_partial, cX12_partial, 2, some FieldType.int)
def zX12_partials : zY := (yX12_partials, cX12_partials, 7, some FieldType.int)
def zX12_partsOf : zY := (yX12_partsOf, cX12_partsOf, 6, some FieldType.int)
def zX12_placeIn : zY := (yX12_placeIn, cX12_placeIn, 7, some FieldType.int)
def zX12_point : zY := (yX12_point, cX12_point, 3, some FieldType.int)
def zX12_pointsChange : zY := (yX12_pointsChange, cX12_pointsChange, 1, none)
def zX12_print : zY := (yX12_print, cX12_print, 5, some FieldType.int)
def zX12_printPairs : zY := (yX12_printPairs, cX12_printPairs, 3, some FieldType.int)
def zX12_puts : zY := (yX12_puts, cX12_puts, 3, none)
def zX12_reached : zY := (yX12_reached, cX12_reached, 7, some FieldType.int)
def zX12_reads : zY := (yX12_reads, cX12_reads, 1, none)
def zX12_readsField : zY := (yX12_readsField, cX12_readsField, 6, none)
def zX12_readsLine : zY := (yX12_readsLine, cX12_readsLine, 5, none)
def zX12_readsMix : zY := (yX12_readsMix, cX12_readsMix, 3, none)
def zX12_readsPoint : zY := (yX12_readsPoint, cX12_readsPoint, 8, none)
def zX12_readsTwo : zY := (yX12_readsTwo, cX12_readsTwo, 2, none)
def zX12_refuse : zY := (yX12_refuse, cX12_refuse, 2, some FieldType.int)
def zX12_rings : zY := (yX12_rings, cX12_rings, 3, some FieldType.int)
def zX12_ringsOf : zY := (yX12_ringsOf, cX12_ringsOf, 7, some FieldType.int)
def zX12_roundsNow : zY := (yX12_roundsNow, cX12_roundsNow, 5, some FieldType.int)
def zX12_says : zY := (yX12_says, cX12_says, 2, none)
def zX12_saysField : zY := (yX12_saysField, cX12_saysField, 2, none)
def zX12_saysNumber : zY := (yX12_saysNumber, cX12_saysNumber, 2, none)
def zX12_shifts : zY := (yX12_shifts, cX12_shifts, 4, none)
def zX12_signNow : zY := (yX12_signNow, cX12_signNow, 4, some FieldType.int)
def zX12_signedBy : zY := (yX12_signedBy, cX12_signedBy, 3, some FieldType.int)
def zX12_signedOf : zY := (yX12_signedOf, cX12_signedOf, 4, some FieldType.int)
def zX12_signs : zY := (yX12_signs, cX12_signs, 3, some FieldType.int)
def zX12_sinks : zY := (yX12_sinks, cX12_sinks, 7, none)
def zX12_sizeOf : zY := (yX12_sizeOf, cX12_sizeOf, 2, some FieldType.int)
def zX12_sortHere : zY := (yX12_sortHere, cX12_sortHere, 2, some FieldType.int)
def zX12_sorts : zY := (yX12_sorts, cX12_sorts, 5, none)
def zX12_sorts_ : zY := (yX12_sorts_, cX12_sorts_, 5, some FieldType.int)
def zX12_stands : zY := (yX12_stands, cX12_stands, 3, none)
def zX12_status : zY := (yX12_status, cX12_status, 1, some FieldType.int)
def zX12_sub : zY := (yX12_sub, cX12_sub, 5, some FieldType.int)
def zX12_sum : zY := (yX12_sum, cX12_sum, 4, some FieldType.long)
def zX12_sumOf : zY := (yX12_sumOf, cX12_sumOf, 5, some FieldType.long)
def zX12_summed : zY := (yX12_summed, cX12_summed, 6, some FieldType.int)
def zX12_swap : zY := (yX12_swap, cX12_swap, 4, some FieldType.int)
def zX12_symmetryOf : zY := (yX12_symmetryOf, cX12_symmetryOf, 9, some FieldType.int)
def zX12_takes : zY := (yX12_takes, cX12_takes, 2, none)
def zX12_toOf : zY := (yX12_toOf, cX12_toOf, 2, some FieldType.int)
def zX12_tries : zY := (yX12_tries, cX12_tries, 5, none)
def zX12_uncrossed : zY := (yX12_uncrossed, cX12_uncrossed, 3, some FieldType.int)
def zX12_unpacks : zY := (yX12_unpacks, cX12_unpacks, 5, none)
def zX12_unworths : zY := (yX12_unworths, cX12_unworths, 2, none)
def zX12_vertices : zY := (yX12_vertices, cX12_vertices, 3, some FieldType.int)
def zX12_ways : zY := (yX12_ways, cX12_ways, 6, some FieldType.int)
def zX12_whichPairing : zY := (yX12_whichPairing, cX12_whichPairing, 4, some FieldType.int)
def zX12_worth : zY := (yX12_worth, cX12_worth, 4, some FieldType.int)
def zX12_worthOf : zY := (yX12_worthOf, cX12_worthOf, 5, some FieldType.long)
def zX1_addLine : zY := (yX1_addLine, cX1_addLine, 4, none)
def zX1_bridges : zY := (yX1_bridges, cX1_bridges, 4, some FieldType.int)
def zX1_clear : zY := (yX1_clear, cX1_clear, 2, none)
def zX1_cutPoints : zY := (yX1_cutPoints, cX1_cutPoints, 3, some FieldType.int)
def zX1_distance : zY := (yX1_distance, cX1_distance, 5, some FieldType.int)
def zX1_hasTwin : zY := (yX1_hasTwin, cX1_hasTwin, 5, some FieldType.boolean)
def zX1_init : zY := (yX1_init, cX1_init, 1, none)
def zX1_isCut : zY := (yX1_isCut, cX1_isCut, 4, some FieldType.boolean)
def zX1_linesWithin : zY := (yX1_linesWithin, cX1_linesWithin, 4, some FieldType.int)
def zX1_nextTo : zY := (yX1_nextTo, cX1_nextTo, 4, some FieldType.int)
def zX1_partCount : zY := (yX1_partCount, cX1_partCount, 4, some FieldType.int)
def zX1_reach : zY := (yX1_reach, cX1_reach, 6, some FieldType.int)
def zX1_readName : zY := (yX1_readName, cX1_readName, 6, none)
def zX1_rings : zY := (yX1_rings, cX1_rings, 3, some FieldType.int)
def zX2_clear : zY := (yX2_clear, cX2_clear, 3, none)
def zX2_find : zY := (yX2_find, cX2_find, 4, some FieldType.int)
def zX2_init : zY := (yX2_init, cX2_init, 1, none)
def zX2_put : zY := (yX2_put, cX2_put, 5, none)
def zX2_slotOf : zY := (yX2_slotOf, cX2_slotOf, 5, some FieldType.int)
def zX3_init : zY := (yX3_init, cX3_init, 1, none)
def zX3_readLines : zY := (yX3_readLines, cX3_readLines, 4, some FieldType.boolean)
def zX3_readNumber : zY := (yX3_readNumber, cX3_readNumber, 3, some FieldType.boolean)
def zX3_readOneLine : zY := (yX3_readOneLine, cX3_readOneLine, 7, some FieldType.boolean)
def zX3_readOnePair : zY := (yX3_readOnePair, cX3_readOnePair, 5, some FieldType.boolean)
def zX3_readPairs : zY := (yX3_readPairs, cX3_readPairs, 4, some FieldType.boolean)
def zX3_readSort : zY := (yX3_readSort, cX3_readSort, 5, some FieldType.int)
def zX3_sortedKey : zY := (yX3_sortedKey, cX3_sortedKey, 1, some FieldType.long)
def zX4_commonLines : zY := (yX4_commonLines, cX4_commonLines, 5, some FieldType.int)
def zX4_commonRings : zY := (yX4_commonRings, cX4_commonRings, 9, some FieldType.int)
def zX4_countRounds : zY := (yX4_countRounds, cX4_countRounds, 8, some FieldType.int)
def zX4_crossings : zY := (yX4_crossings, cX4_crossings, 2, some FieldType.int)
def zX4_extend : zY := (yX4_extend, cX4_extend, 13, none)
def zX4_fill : zY := (yX4_fill, cX4_fill, 5, none)
def zX4_find : zY := (yX4_find, cX4_find, 7, some FieldType.int)
def zX4_holesOf : zY := (yX4_holesOf, cX4_holesOf, 2, some FieldType.int)
def zX4_init : zY := (yX4_init, cX4_init, 1, none)
def zX4_mateOf : zY := (yX4_mateOf, cX4_mateOf, 3, some FieldType.int)
def zX4_packed : zY := (yX4_packed, cX4_packed, 2, some FieldType.long)
def zX4_rounds : zY := (yX4_rounds, cX4_rounds, 2, some FieldType.int)
def zX4_sign : zY := (yX4_sign, cX4_sign, 2, some FieldType.int)
def zX4_signs : zY := (yX4_signs, cX4_signs, 3, some FieldType.int)
def zX4_store : zY := (yX4_store, cX4_store, 4, none)
def zX4_tally : zY := (yX4_tally, cX4_tally, 6, some FieldType.int)
def zX4_together : zY := (yX4_together, cX4_together, 6, some FieldType.int)
def zX4_traceRounds : zY := (yX4_traceRounds, cX4_traceRounds, 2, none)
def zX4_withLine : zY := (yX4_withLine, cX4_withLine, 8, some FieldType.int)
def zX5_addKind : zY := (yX5_addKind, cX5_addKind, 2, none)
def zX5_become : zY := (yX5_become, cX5_become, 3, none)
def zX5_begin : zY := (yX5_begin, cX5_begin, 3, none)
def zX5_init : zY := (yX5_init, cX5_init, 1, none)
def zX5_isAlike : zY := (yX5_isAlike, cX5_isAlike, 3, some FieldType.boolean)
def zX5_orders : zY := (yX5_orders, cX5_orders, 5, some FieldType.int)
def zX6_clear : zY := (yX6_clear, cX6_clear, 1, none)
def zX6_init : zY := (yX6_init, cX6_init, 1, none)
def zX6_put : zY := (yX6_put, cX6_put, 2, none)
def zX6_putLine : zY := (yX6_putLine, cX6_putLine, 4, none)
def zX6_putNumber : zY := (yX6_putNumber, cX6_putNumber, 2, none)
def zX6_putPair : zY := (yX6_putPair, cX6_putPair, 3, none)
def zX6_putSymbol : zY := (yX6_putSymbol, cX6_putSymbol, 3, none)
def zX7_addField : zY := (yX7_addField, cX7_addField, 4, none)
def zX7_addMix : zY := (yX7_addMix, cX7_addMix, 3, none)
def zX7_alikeUpTo : zY := (yX7_alikeUpTo, cX7_alikeUpTo, 5, some FieldType.int)
def zX7_allLetters : zY := (yX7_allLetters, cX7_allLetters, 1, some FieldType.int)
def zX7_allPoints : zY := (yX7_allPoints, cX7_allPoints, 1, some FieldType.int)
def zX7_clear : zY := (yX7_clear, cX7_clear, 1, none)
def zX7_codeFor : zY := (yX7_codeFor, cX7_codeFor, 5, some FieldType.int)
def zX7_codeOf : zY := (yX7_codeOf, cX7_codeOf, 3, some FieldType.int)
def zX7_copyPoint : zY := (yX7_copyPoint, cX7_copyPoint, 2, none)
def zX7_exchangeLetters : zY := (yX7_exchangeLetters, cX7_exchangeLetters, 5, none)
def zX7_fieldFact : zY := (yX7_fieldFact, cX7_fieldFact, 4, some FieldType.int)
def zX7_fieldOf : zY := (yX7_fieldOf, cX7_fieldOf, 3, some FieldType.int)
def zX7_firstLetter : zY := (yX7_firstLetter, cX7_firstLetter, 4, some FieldType.int)
def zX7_hasCode : zY := (yX7_hasCode, cX7_hasCode, 5, some FieldType.boolean)
def zX7_hasLetter : zY := (yX7_hasLetter, cX7_hasLetter, 2, some FieldType.boolean)
def zX7_hasPoint : zY := (yX7_hasPoint, cX7_hasPoint, 2, some FieldType.boolean)
def zX7_hasRoomForCopy : zY := (yX7_hasRoomForCopy, cX7_hasRoomForCopy, 2, some FieldType.boolean)
def zX7_hasSort : zY := (yX7_hasSort, cX7_hasSort, 2, some FieldType.boolean)
def zX7_init : zY := (yX7_init, cX7_init, 2, none)
def zX7_isPairSort : zY := (yX7_isPairSort, cX7_isPairSort, 2, some FieldType.boolean)
def zX7_isRealSort : zY := (yX7_isRealSort, cX7_isRealSort, 2, some FieldType.boolean)
def zX7_letterFact : zY := (yX7_letterFact, cX7_letterFact, 3, some FieldType.int)
def zX7_lettersOf : zY := (yX7_lettersOf, cX7_lettersOf, 4, some FieldType.int)
def zX7_linkLetters : zY := (yX7_linkLetters, cX7_linkLetters, 6, none)
def zX7_mayPair : zY := (yX7_mayPair, cX7_mayPair, 3, some FieldType.boolean)
def zX7_mixOf : zY := (yX7_mixOf, cX7_mixOf, 5, some FieldType.int)
def zX7_mixOfLetters : zY := (yX7_mixOfLetters, cX7_mixOfLetters, 4, some FieldType.int)
def zX7_openPoint : zY := (yX7_openPoint, cX7_openPoint, 4, some (FieldType.object "ContractionCounter$Point"))
def zX7_orders : zY := (yX7_orders, cX7_orders, 3, some FieldType.int)
def zX7_outerPoints : zY := (yX7_outerPoints, cX7_outerPoints, 3, some FieldType.int)
def zX7_pointFact : zY := (yX7_pointFact, cX7_pointFact, 3, some FieldType.int)
def zX7_removePoint : zY := (yX7_removePoint, cX7_removePoint, 2, none)
def zX7_renumber : zY := (yX7_renumber, cX7_renumber, 3, none)
def zX7_setCode : zY := (yX7_setCode, cX7_setCode, 5, none)
def zX7_setNormal : zY := (yX7_setNormal, cX7_setNormal, 3, none)
def zX7_shiftPoint : zY := (yX7_shiftPoint, cX7_shiftPoint, 5, none)
def zX7_vertexCount : zY := (yX7_vertexCount, cX7_vertexCount, 1, some FieldType.int)
def zX8_init : zY := (yX8_init, cX8_init, 1, none)
def zX8_readField : zY := (yX8_readField, cX8_readField, 6, some FieldType.boolean)
def zX8_readKnownField : zY := (yX8_readKnownField, cX8_readKnownField, 4, some FieldType.int)
def zX8_readMix : zY := (yX8_readMix, cX8_readMix, 6, some FieldType.boolean)
def zX8_readPoint : zY := (yX8_readPoint, cX8_readPoint, 7, some FieldType.boolean)
def zX8_readRow : zY := (yX8_readRow, cX8_readRow, 7, some FieldType.boolean)
def zX8_readTheory : zY := (yX8_readTheory, cX8_readTheory, 5, some FieldType.boolean)
def zX9_advance : zY := (yX9_advance, cX9_advance, 1, none)
def zX9_append : zY := (yX9_append, cX9_append, 3, none)
def zX9_begin : zY := (yX9_begin, cX9_begin, 3, none)
def zX9_failAt : zY := (yX9_failAt, cX9_failAt, 3, some FieldType.boolean)
def zX9_failHere : zY := (yX9_failHere, cX9_failHere, 2, some FieldType.boolean)
def zX9_init : zY := (yX9_init, cX9_init, 1, none)
def zX9_isDigit : zY := (yX9_isDigit, cX9_isDigit, 1, some FieldType.boolean)
def zX9_isSign : zY := (yX9_isSign, cX9_isSign, 2, some FieldType.boolean)
def zX9_isSingle : zY := (yX9_isSingle, cX9_isSingle, 1, some FieldType.boolean)
def zX9_isSmall : zY := (yX9_isSmall, cX9_isSmall, 1, some FieldType.boolean)
def zX9_isWord : zY := (yX9_isWord, cX9_isWord, 3, some FieldType.boolean)
def zX9_letterAt : zY := (yX9_letterAt, cX9_letterAt, 2, some FieldType.int)
def zX9_misplaced : zY := (yX9_misplaced, cX9_misplaced, 1, some FieldType.boolean)
def zX9_passSign : zY := (yX9_passSign, cX9_passSign, 2, some FieldType.boolean)
def zX9_size : zY := (yX9_size, cX9_size, 1, some FieldType.int)
def zX9_takeNumber : zY := (yX9_takeNumber, cX9_takeNumber, 1, none)
def zX9_takeSign : zY := (yX9_takeSign, cX9_takeSign, 2, none)
def zX9_takeWord : zY := (yX9_takeWord, cX9_takeWord, 1, none)
theorem flX11_10 : zFl RX11 10 11 0 := ⟨_, _, _, rfl, by decide, Or.inl (zg2 147 (by decide +kernel) rfl)⟩
theorem fpX11_10 : zFp RX11 "<init>" 10 11 0 := ⟨_, _, _, rfl, by decide, Or.inl ⟨(zg2 147 (by decide +kernel) rfl), Or.inr ⟨rfl, rfl, rfl⟩⟩⟩
theorem flX11_19 : zFl RX11 19 11 1 := ⟨_, _, _, rfl, by decide, Or.inl (zg2 148 (by decide +kernel) rfl)⟩
theorem fpX11_19 : zFp RX11 "<init>" 19 11 1 := ⟨_, _, _, rfl, by decide, Or.inl ⟨(zg2 148 (by decide +kernel) rfl), Or.inr ⟨rfl, rfl, rfl⟩⟩⟩
theorem flX11_26 : zFl RX11 26 11 2 := ⟨_, _, _, rfl, by decide, Or.inl (zg2 149 (by decide +kernel) rfl)⟩
theorem fpX11_26 : zFp RX11 "<init>" 26 11 2 := ⟨_, _, _, rfl, by decide, Or.inl ⟨(zg2 149 (by decide +kernel) rfl), Or.inr ⟨rfl, rfl, rfl⟩⟩⟩
theorem flX11_33 : zFl RX11 33 11 3 := ⟨_, _, _, rfl, by decide, Or.inl (zg2 150 (by decide +kernel) rfl)⟩
theorem fpX11_33 : zFp RX11 "<init>" 33 11 3 := ⟨_, _, _, rfl, by decide, Or.inl ⟨(zg2 150 (by decide +kernel) rfl), Or.inr ⟨rfl, rfl, rfl⟩⟩⟩
theorem flX11_40 : zFl RX11 40 11 4 := ⟨_, _, _, rfl, by decide, Or.inl (zg2 151 (by decide +kernel) rfl)⟩
theorem fpX11_40 : zFp RX11 "<init>" 40 11 4 := ⟨_, _, _, rfl, by decide, Or.inl ⟨(zg2 151 (by decide +kernel) rfl), Or.inr ⟨rfl, rfl, rfl⟩⟩⟩
theorem flX11_44 : zFl RX11 44 11 5 := ⟨_, _, _, rfl, by decide, Or.inl (zg2 152 (by decide +kernel) rfl)⟩
theorem fpX11_44 : zFp RX11 "<init>" 44 11 5 := ⟨_, _, _, rfl, by decide, Or.inl ⟨(zg2 152 (by decide +kernel) rfl), Or.inr ⟨rfl, rfl, rfl⟩⟩⟩
theorem flX11_50 : zFl RX11 50 11 6 := ⟨_, _, _, rfl, by decide, Or.inl (zg2 153 (by decide +kernel) rfl)⟩
theorem fpX11_50 : zFp RX11 "<init>" 50 11 6 := ⟨_, _, _, rfl, by decide, Or.inl ⟨(zg2 153 (by decide +kernel) rfl), Or.inr ⟨rfl, rfl, rfl⟩⟩⟩
theorem flX11_57 : zFl RX11 57 11 7 := ⟨_, _, _, rfl, by decide, Or.inl (zg2 154 (by decide +kernel) rfl)⟩
theorem fpX11_57 : zFp RX11 "<init>" 57 11 7 := ⟨_, _, _, rfl, by decide, Or.inl ⟨(zg2 154 (by decide +kernel) rfl), Or.inr ⟨rfl, rfl, rfl⟩⟩⟩
theorem flX11_64 : zFl RX11 64 11 8 := ⟨_, _, _, rfl, by decide, Or.inl (zg2 155 (by decide +kernel) rfl)⟩
theorem fpX11_64 : zFp RX11 "<init>" 64 11 8 := ⟨_, _, _, rfl, by decide, Or.inl ⟨(zg2 155 (by decide +kernel) rfl), Or.inr ⟨rfl, rfl, rfl⟩⟩⟩
theorem flX11_71 : zFl RX11 71 11 9 := ⟨_, _, _, rfl, by decide, Or.inl (zg2 156 (by decide +kernel) rfl)⟩
theorem fpX11_71 (nm : String) : zFp RX11 nm 71 11 9 := ⟨_, _, _, rfl, by decide, Or.inl ⟨(zg2 156 (by decide +kernel) rfl), Or.inl rfl⟩⟩
theorem flX11_75 : zFl RX11 75 11 10 := ⟨_, _, _, rfl, by decide, Or.inl (zg2 157 (by decide +kernel) rfl)⟩
theorem fpX11_75 (nm : String) : zFp RX11 nm 75 11 10 := ⟨_, _, _, rfl, by decide, Or.inl ⟨(zg2 157 (by decide +kernel) rfl), Or.inl rfl⟩⟩
theorem flX11_78 : zFl RX11 78 11 11 := ⟨_, _, _, rfl, by decide, Or.inl (zg2 158 (by decide +kernel) rfl)⟩
theorem fpX11_78 (nm : String) : zFp RX11 nm 78 11 11 := ⟨_, _, _, rfl, by decide, Or.inl ⟨(zg2 158 (by decide +kernel) rfl), Or.inl rfl⟩⟩
theorem flX11_82 : zFl RX11 82 9 1 := ⟨_, _, _, rfl, by decide, Or.inr ⟨"ContractionCounter", zn1 37 (by decide +kernel)⟩⟩
theorem fpX11_82 (nm : String) : zFp RX11 nm 82 9 1 := ⟨_, _, _, rfl, by decide, Or.inr ⟨"ContractionCounter", zn1 37 (by decide +kernel), rfl⟩⟩
theorem flX11_108 : zFl RX11 108 7 14 := ⟨_, _, _, rfl, by decide, Or.inr ⟨"ContractionCounter", zn2 110 (by decide +kernel)⟩⟩
theorem fpX11_108 (nm : String) : zFp RX11 nm 108 7 14 := ⟨_, _, _, rfl, by decide, Or.inr ⟨"ContractionCounter", zn2 110 (by decide +kernel), rfl⟩⟩
theorem flX11_117 : zFl RX11 117 3 2 := ⟨_, _, _, rfl, by decide, Or.inr ⟨"ContractionCounter", zn1 92 (by decide +kernel)⟩⟩
theorem fpX11_117 (nm : String) : zFp RX11 nm 117 3 2 := ⟨_, _, _, rfl, by decide, Or.inr ⟨"ContractionCounter", zn1 92 (by decide +kernel), rfl⟩⟩
theorem flX11_128 : zFl RX11 128 3 1 := ⟨_, _, _, rfl, by decide, Or.inr ⟨"ContractionCounter", zn1 90 (by decide +kernel)⟩⟩
theorem fpX11_128 (nm : String) : zFp RX11 nm 128 3 1 := ⟨_, _, _, rfl, by decide, Or.inr ⟨"ContractionCounter", zn1 90 (by decide +kernel), rfl⟩⟩
theorem flX11_139 : zFl RX11 139 3 3 := ⟨_, _, _, rfl, by decide, Or.inr ⟨"ContractionCounter", zn1 94 (by decide +kernel)⟩⟩
theorem fpX11_139 (nm : String) : zFp RX11 nm 139 3 3 := ⟨_, _, _, rfl, by decide, Or.inr ⟨"ContractionCounter", zn1 94 (by decide +kernel), rfl⟩⟩
theorem flX11_151 : zFl RX11 151 9 8 := ⟨_, _, _, rfl, by decide, Or.inr ⟨"ContractionCounter", zn1 50 (by decide +kernel)⟩⟩
theorem fpX11_151 (nm : String) : zFp RX11 nm 151 9 8 := ⟨_, _, _, rfl, by decide, Or.inr ⟨"ContractionCounter", zn1 50 (by decide +kernel), rfl⟩⟩
theorem flX11_154 : zFl RX11 154 9 9 := ⟨_, _, _, rfl, by decide, Or.inr ⟨"ContractionCounter", zn1 52 (by decide +kernel)⟩⟩
theorem fpX11_154 (nm : String) : zFp RX11 nm 154 9 9 := ⟨_, _, _, rfl, by decide, Or.inr ⟨"ContractionCounter", zn1 52 (by decide +kernel), rfl⟩⟩
theorem flX11_157 : zFl RX11 157 7 11 := ⟨_, _, _, rfl, by decide, Or.inr ⟨"ContractionCounter", zn2 97 (by decide +kernel)⟩⟩
theorem fpX11_157 (nm : String) : zFp RX11 nm 157 7 11 := ⟨_, _, _, rfl, by decide, Or.inr ⟨"ContractionCounter", zn2 97 (by decide +kernel), rfl⟩⟩
theorem flX11_160 : zFl RX11 160 7 12 := ⟨_, _, _, rfl, by decide, Or.inr ⟨"ContractionCounter", zn2 100 (by decide +kernel)⟩⟩
theorem fpX11_160 (nm : String) : zFp RX11 nm 160 7 12 := ⟨_, _, _, rfl, by decide, Or.inr ⟨"ContractionCounter", zn2 100 (by decide +kernel), rfl⟩⟩
theorem flX11_163 : zFl RX11 163 7 13 := ⟨_, _, _, rfl, by decide, Or.inr ⟨"ContractionCounter", zn2 105 (by decide +kernel)⟩⟩
theorem fpX11_163 (nm : String) : zFp RX11 nm 163 7 13 := ⟨_, _, _, rfl, by decide, Or.inr ⟨"ContractionCounter", zn2 105 (by decide +kernel), rfl⟩⟩
theorem flX11_172 : zFl RX11 172 0 18 := ⟨_, _, _, rfl, by decide, Or.inr ⟨"ContractionCounter", zn1 218 (by decide +kernel)⟩⟩
theorem fpX11_172 (nm : String) : zFp RX11 nm 172 0 18 := ⟨_, _, _, rfl, by decide, Or.inr ⟨"ContractionCounter", zn1 218 (by decide +kernel), rfl⟩⟩
theorem flX11_227 : zFl RX11 227 7 7 := ⟨_, _, _, rfl, by decide, Or.inr ⟨"ContractionCounter", zn2 88 (by decide +kernel)⟩⟩
theorem flX11_231 : zFl RX11 231 7 6 := ⟨_, _, _, rfl, by decide, Or.inr ⟨"ContractionCounter", zn2 86 (by decide +kernel)⟩⟩
theorem flX11_237 : zFl RX11 237 7 5 := ⟨_, _, _, rfl, by decide, Or.inr ⟨"ContractionCounter", zn2 83 (by decide +kernel)⟩⟩
theorem flX11_241 : zFl RX11 241 5 3 := ⟨_, _, _, rfl, by decide, Or.inr ⟨"ContractionCounter", zn2 60 (by decide +kernel)⟩⟩
theorem fpX11_241 (nm : String) : zFp RX11 nm 241 5 3 := ⟨_, _, _, rfl, by decide, Or.inr ⟨"ContractionCounter", zn2 60 (by decide +kernel), rfl⟩⟩
theorem flX11_259 : zFl RX11 259 7 10 := ⟨_, _, _, rfl, by decide, Or.inr ⟨"ContractionCounter", zn2 94 (by decide +kernel)⟩⟩
theorem flX11_320 : zFl RX11 320 4 2 := ⟨_, _, _, rfl, by decide, Or.inr ⟨"ContractionCounter", zn1 131 (by decide +kernel)⟩⟩
theorem fpX11_320 (nm : String) : zFp RX11 nm 320 4 2 := ⟨_, _, _, rfl, by decide, Or.inr ⟨"ContractionCounter", zn1 131 (by decide +kernel), rfl⟩⟩
theorem flX11_354 : zFl RX11 354 6 1 := ⟨_, _, _, rfl, by decide, Or.inr ⟨"ContractionCounter", zn2 33 (by decide +kernel)⟩⟩
theorem fpX11_354 (nm : String) : zFp RX11 nm 354 6 1 := ⟨_, _, _, rfl, by decide, Or.inr ⟨"ContractionCounter", zn2 33 (by decide +kernel), rfl⟩⟩
theorem flX11_360 : zFl RX11 360 6 0 := ⟨_, _, _, rfl, by decide, Or.inr ⟨"ContractionCounter", zn2 31 (by decide +kernel)⟩⟩
theorem flX11_374 : zFl RX11 374 10 2 := ⟨_, _, _, rfl, by decide, Or.inr ⟨"ContractionCounter", zn1 113 (by decide +kernel)⟩⟩
theorem fpX11_374 (nm : String) : zFp RX11 nm 374 10 2 := ⟨_, _, _, rfl, by decide, Or.inr ⟨"ContractionCounter", zn1 113 (by decide +kernel), rfl⟩⟩
theorem flX11_377 : zFl RX11 377 4 5 := ⟨_, _, _, rfl, by decide, Or.inr ⟨"ContractionCounter", zn1 136 (by decide +kernel)⟩⟩
theorem fpX11_377 (nm : String) : zFp RX11 nm 377 4 5 := ⟨_, _, _, rfl, by decide, Or.inr ⟨"ContractionCounter", zn1 136 (by decide +kernel), rfl⟩⟩
theorem flX11_378 : zFl RX11 378 4 6 := ⟨_, _, _, rfl, by decide, Or.inr ⟨"ContractionCounter", zn1 138 (by decide +kernel)⟩⟩
theorem fpX11_378 (nm : String) : zFp RX11 nm 378 4 6 := ⟨_, _, _, rfl, by decide, Or.inr ⟨"ContractionCounter", zn1 138 (by decide +kernel), rfl⟩⟩
theorem flX11_381 : zFl RX11 381 0 19 := ⟨_, _, _, rfl, by decide, Or.inr ⟨"ContractionCounter", zn1 220 (by decide +kernel)⟩⟩
theorem fpX11_381 (nm : String) : zFp RX11 nm 381 0 19 := ⟨_, _, _, rfl, by decide, Or.inr ⟨"ContractionCounter", zn1 220 (by decide +kernel), rfl⟩⟩
theorem flX11_413 : zFl RX11 413 4 3 := ⟨_, _, _, rfl, by decide, Or.inr ⟨"ContractionCounter", zn1 133 (by decide +kernel)⟩⟩
theorem fpX11_413 (nm : String) : zFp RX11 nm 413 4 3 := ⟨_, _, _, rfl, by decide, Or.inr ⟨"ContractionCounter", zn1 133 (by decide +kernel), rfl⟩⟩
theorem flX0_12 : zFl RX0 12 0 0 := ⟨_, _, _, rfl, by decide, Or.inl (zg1 199 (by decide +kernel) rfl)⟩
theorem fpX0_12 : zFp RX0 "<init>" 12 0 0 := ⟨_, _, _, rfl, by decide, Or.inl ⟨(zg1 199 (by decide +kernel) rfl), Or.inr ⟨rfl, rfl, rfl⟩⟩⟩
theorem flX0_21 : zFl RX0 21 0 1 := ⟨_, _, _, rfl, by decide, Or.inl (zg1 200 (by decide +kernel) rfl)⟩
theorem fpX0_21 : zFp RX0 "<init>" 21 0 1 := ⟨_, _, _, rfl, by decide, Or.inl ⟨(zg1 200 (by decide +kernel) rfl), Or.inr ⟨rfl, rfl, rfl⟩⟩⟩
theorem flX0_25 : zFl RX0 25 0 2 := ⟨_, _, _, rfl, by decide, Or.inl (zg1 201 (by decide +kernel) rfl)⟩
theorem fpX0_25 : zFp RX0 "<init>" 25 0 2 := ⟨_, _, _, rfl, by decide, Or.inl ⟨(zg1 201 (by decide +kernel) rfl), Or.inr ⟨rfl, rfl, rfl⟩⟩⟩
theorem flX0_29 : zFl RX0 29 0 3 := ⟨_, _, _, rfl, by decide, Or.inl (zg1 202 (by decide +kernel) rfl)⟩
theorem fpX0_29 : zFp RX0 "<init>" 29 0 3 := ⟨_, _, _, rfl, by decide, Or.inl ⟨(zg1 202 (by decide +kernel) rfl), Or.inr ⟨rfl, rfl, rfl⟩⟩⟩
theorem flX0_32 : zFl RX0 32 0 4 := ⟨_, _, _, rfl, by decide, Or.inl (zg1 203 (by decide +kernel) rfl)⟩
theorem fpX0_32 : zFp RX0 "<init>" 32 0 4 := ⟨_, _, _, rfl, by decide, Or.inl ⟨(zg1 203 (by decide +kernel) rfl), Or.inr ⟨rfl, rfl, rfl⟩⟩⟩
theorem flX0_35 : zFl RX0 35 0 5 := ⟨_, _, _, rfl, by decide, Or.inl (zg1 204 (by decide +kernel) rfl)⟩
theorem fpX0_35 (nm : String) : zFp RX0 nm 35 0 5 := ⟨_, _, _, rfl, by decide, Or.inl ⟨(zg1 204 (by decide +kernel) rfl), Or.inl rfl⟩⟩
theorem flX0_39 : zFl RX0 39 0 6 := ⟨_, _, _, rfl, by decide, Or.inl (zg1 205 (by decide +kernel) rfl)⟩
theorem fpX0_39 (nm : String) : zFp RX0 nm 39 0 6 := ⟨_, _, _, rfl, by decide, Or.inl ⟨(zg1 205 (by decide +kernel) rfl), Or.inl rfl⟩⟩
theorem flX0_42 : zFl RX0 42 0 7 := ⟨_, _, _, rfl, by decide, Or.inl (zg1 206 (by decide +kernel) rfl)⟩
theorem fpX0_42 (nm : String) : zFp RX0 nm 42 0 7 := ⟨_, _, _, rfl, by decide, Or.inl ⟨(zg1 206 (by decide +kernel) rfl), Or.inl rfl⟩⟩
theorem flX0_45 : zFl RX0 45 0 8 := ⟨_, _, _, rfl, by decide, Or.inl (zg1 207 (by decide +kernel) rfl)⟩
theorem fpX0_45 (nm : String) : zFp RX0 nm 45 0 8 := ⟨_, _, _, rfl, by decide, Or.inl ⟨(zg1 207 (by decide +kernel) rfl), Or.inl rfl⟩⟩
theorem flX0_48 : zFl RX0 48 0 9 := ⟨_, _, _, rfl, by decide, Or.inl (zg1 208 (by decide +kernel) rfl)⟩
theorem fpX0_48 (nm : String) : zFp RX0 nm 48 0 9 := ⟨_, _, _, rfl, by decide, Or.inl ⟨(zg1 208 (by decide +kernel) rfl), Or.inl rfl⟩⟩
theorem flX0_51 : zFl RX0 51 0 10 := ⟨_, _, _, rfl, by decide, Or.inl (zg1 209 (by decide +kernel) rfl)⟩
theorem fpX0_51 (nm : String) : zFp RX0 nm 51 0 10 := ⟨_, _, _, rfl, by decide, Or.inl ⟨(zg1 209 (by decide +kernel) rfl), Or.inl rfl⟩⟩
theorem flX0_54 : zFl RX0 54 0 11 := ⟨_, _, _, rfl, by decide, Or.inl (zg1 210 (by decide +kernel) rfl)⟩
theorem fpX0_54 (nm : String) : zFp RX0 nm 54 0 11 := ⟨_, _, _, rfl, by decide, Or.inl ⟨(zg1 210 (by decide +kernel) rfl), Or.inl rfl⟩⟩
theorem flX0_57 : zFl RX0 57 0 12 := ⟨_, _, _, rfl, by decide, Or.inl (zg1 211 (by decide +kernel) rfl)⟩
theorem fpX0_57 (nm : String) : zFp RX0 nm 57 0 12 := ⟨_, _, _, rfl, by decide, Or.inl ⟨(zg1 211 (by decide +kernel) rfl), Or.inl rfl⟩⟩
theorem flX0_60 : zFl RX0 60 4 2 := ⟨_, _, _, rfl, by decide, Or.inr ⟨"ContractionCounter", zn1 129 (by decide +kernel)⟩⟩
theorem fpX0_60 (nm : String) : zFp RX0 nm 60 4 2 := ⟨_, _, _, rfl, by decide, Or.inr ⟨"ContractionCounter", zn1 129 (by decide +kernel), rfl⟩⟩
theorem flX0_74 : zFl RX0 74 7 14 := ⟨_, _, _, rfl, by decide, Or.inr ⟨"ContractionCounter", zn2 106 (by decide +kernel)⟩⟩
theorem fpX0_74 (nm : String) : zFp RX0 nm 74 7 14 := ⟨_, _, _, rfl, by decide, Or.inr ⟨"ContractionCounter", zn2 106 (by decide +kernel), rfl⟩⟩
theorem flX0_79 : zFl RX0 79 0 14 := ⟨_, _, _, rfl, by decide, Or.inl (zg1 213 (by decide +kernel) rfl)⟩
theorem fpX0_79 (nm : String) : zFp RX0 nm 79 0 14 := ⟨_, _, _, rfl, by decide, Or.inl ⟨(zg1 213 (by decide +kernel) rfl), Or.inl rfl⟩⟩
theorem flX0_86 : zFl RX0 86 0 15 := ⟨_, _, _, rfl, by decide, Or.inl (zg1 214 (by decide +kernel) rfl)⟩
theorem fpX0_86 (nm : String) : zFp RX0 nm 86 0 15 := ⟨_, _, _, rfl, by decide, Or.inl ⟨(zg1 214 (by decide +kernel) rfl), Or.inl rfl⟩⟩
theorem flX0_91 : zFl RX0 91 0 16 := ⟨_, _, _, rfl, by decide, Or.inl (zg1 215 (by decide +kernel) rfl)⟩
theorem fpX0_91 (nm : String) : zFp RX0 nm 91 0 16 := ⟨_, _, _, rfl, by decide, Or.inl ⟨(zg1 215 (by decide +kernel) rfl), Or.inl rfl⟩⟩
theorem flX0_96 : zFl RX0 96 0 17 := ⟨_, _, _, rfl, by decide, Or.inl (zg1 216 (by decide +kernel) rfl)⟩
theorem fpX0_96 (nm : String) : zFp RX0 nm 96 0 17 := ⟨_, _, _, rfl, by decide, Or.inl ⟨(zg1 216 (by decide +kernel) rfl), Or.inl rfl⟩⟩
theorem flX0_98 : zFl RX0 98 0 13 := ⟨_, _, _, rfl, by decide, Or.inl (zg1 212 (by decide +kernel) rfl)⟩
theorem fpX0_98 (nm : String) : zFp RX0 nm 98 0 13 := ⟨_, _, _, rfl, by decide, Or.inl ⟨(zg1 212 (by decide +kernel) rfl), Or.inl rfl⟩⟩
theorem flX0_108 : zFl RX0 108 0 18 := ⟨_, _, _, rfl, by decide, Or.inl (zg1 217 (by decide +kernel) rfl)⟩
theorem fpX0_108 (nm : String) : zFp RX0 nm 108 0 18 := ⟨_, _, _, rfl, by decide, Or.inl ⟨(zg1 217 (by decide +kernel) rfl), Or.inl rfl⟩⟩
theorem flX0_127 : zFl RX0 127 0 19 := ⟨_, _, _, rfl, by decide, Or.inl (zg1 219 (by decide +kernel) rfl)⟩
theorem fpX0_127 (nm : String) : zFp RX0 nm 127 0 19 := ⟨_, _, _, rfl, by decide, Or.inl ⟨(zg1 219 (by decide +kernel) rfl), Or.inl rfl⟩⟩
theorem flX0_131 : zFl RX0 131 7 13 := ⟨_, _, _, rfl, by decide, Or.inr ⟨"ContractionCounter", zn2 102 (by decide +kernel)⟩⟩
theorem fpX0_131 (nm : String) : zFp RX0 nm 131 7 13 := ⟨_, _, _, rfl, by decide, Or.inr ⟨"ContractionCounter", zn2 102 (by decide +kernel), rfl⟩⟩
theorem flX0_134 : zFl RX0 134 7 5 := ⟨_, _, _, rfl, by decide, Or.inr ⟨"ContractionCounter", zn2 82 (by decide +kernel)⟩⟩
theorem flX1_9 : zFl RX1 9 1 0 := ⟨_, _, _, rfl, by decide, Or.inl (zg1 183 (by decide +kernel) rfl)⟩
theorem fpX1_9 : zFp RX1 "<init>" 9 1 0 := ⟨_, _, _, rfl, by decide, Or.inl ⟨(zg1 183 (by decide +kernel) rfl), Or.inr ⟨rfl, rfl, rfl⟩⟩⟩
theorem flX1_15 : zFl RX1 15 1 1 := ⟨_, _, _, rfl, by decide, Or.inl (zg1 184 (by decide +kernel) rfl)⟩
theorem fpX1_15 : zFp RX1 "<init>" 15 1 1 := ⟨_, _, _, rfl, by decide, Or.inl ⟨(zg1 184 (by decide +kernel) rfl), Or.inr ⟨rfl, rfl, rfl⟩⟩⟩
theorem flX1_18 : zFl RX1 18 1 2 := ⟨_, _, _, rfl, by decide, Or.inl (zg1 185 (by decide +kernel) rfl)⟩
theorem fpX1_18 : zFp RX1 "<init>" 18 1 2 := ⟨_, _, _, rfl, by decide, Or.inl ⟨(zg1 185 (by decide +kernel) rfl), Or.inr ⟨rfl, rfl, rfl⟩⟩⟩
theorem flX1_21 : zFl RX1 21 1 4 := ⟨_, _, _, rfl, by decide, Or.inl (zg1 187 (by decide +kernel) rfl)⟩
theorem fpX1_21 (nm : String) : zFp RX1 nm 21 1 4 := ⟨_, _, _, rfl, by decide, Or.inl ⟨(zg1 187 (by decide +kernel) rfl), Or.inl rfl⟩⟩
theorem flX1_25 : zFl RX1 25 1 3 := ⟨_, _, _, rfl, by decide, Or.inl (zg1 186 (by decide +kernel) rfl)⟩
theorem fpX1_25 (nm : String) : zFp RX1 nm 25 1 3 := ⟨_, _, _, rfl, by decide, Or.inl ⟨(zg1 186 (by decide +kernel) rfl), Or.inl rfl⟩⟩
theorem flX2_9 : zFl RX2 9 2 0 := ⟨_, _, _, rfl, by decide, Or.inl (zg1 167 (by decide +kernel) rfl)⟩
theorem fpX2_9 (nm : String) : zFp RX2 nm 9 2 0 := ⟨_, _, _, rfl, by decide, Or.inl ⟨(zg1 167 (by decide +kernel) rfl), Or.inl rfl⟩⟩
theorem flX2_15 : zFl RX2 15 2 1 := ⟨_, _, _, rfl, by decide, Or.inl (zg1 168 (by decide +kernel) rfl)⟩
theorem fpX2_15 (nm : String) : zFp RX2 nm 15 2 1 := ⟨_, _, _, rfl, by decide, Or.inl ⟨(zg1 168 (by decide +kernel) rfl), Or.inl rfl⟩⟩
theorem flX2_19 : zFl RX2 19 2 2 := ⟨_, _, _, rfl, by decide, Or.inl (zg1 169 (by decide +kernel) rfl)⟩
theorem fpX2_19 (nm : String) : zFp RX2 nm 19 2 2 := ⟨_, _, _, rfl, by decide, Or.inl ⟨(zg1 169 (by decide +kernel) rfl), Or.inl rfl⟩⟩
theorem flX3_9 : zFl RX3 9 3 0 := ⟨_, _, _, rfl, by decide, Or.inl (zg1 88 (by decide +kernel) rfl)⟩
theorem fpX3_9 : zFp RX3 "<init>" 9 3 0 := ⟨_, _, _, rfl, by decide, Or.inl ⟨(zg1 88 (by decide +kernel) rfl), Or.inr ⟨rfl, rfl, rfl⟩⟩⟩
theorem flX3_15 : zFl RX3 15 3 1 := ⟨_, _, _, rfl, by decide, Or.inl (zg1 89 (by decide +kernel) rfl)⟩
theorem fpX3_15 (nm : String) : zFp RX3 nm 15 3 1 := ⟨_, _, _, rfl, by decide, Or.inl ⟨(zg1 89 (by decide +kernel) rfl), Or.inl rfl⟩⟩
theorem flX3_19 : zFl RX3 19 3 2 := ⟨_, _, _, rfl, by decide, Or.inl (zg1 91 (by decide +kernel) rfl)⟩
theorem fpX3_19 (nm : String) : zFp RX3 nm 19 3 2 := ⟨_, _, _, rfl, by decide, Or.inl ⟨(zg1 91 (by decide +kernel) rfl), Or.inl rfl⟩⟩
theorem flX3_23 : zFl RX3 23 3 3 := ⟨_, _, _, rfl, by decide, Or.inl (zg1 93 (by decide +kernel) rfl)⟩
theorem fpX3_23 (nm : String) : zFp RX3 nm 23 3 3 := ⟨_, _, _, rfl, by decide, Or.inl ⟨(zg1 93 (by decide +kernel) rfl), Or.inl rfl⟩⟩
theorem flX3_26 : zFl RX3 26 9 6 := ⟨_, _, _, rfl, by decide, Or.inr ⟨"ContractionCounter", zn1 44 (by decide +kernel)⟩⟩
theorem fpX3_26 (nm : String) : zFp RX3 nm 26 9 6 := ⟨_, _, _, rfl, by decide, Or.inr ⟨"ContractionCounter", zn1 44 (by decide +kernel), rfl⟩⟩
theorem flX3_35 : zFl RX3 35 7 14 := ⟨_, _, _, rfl, by decide, Or.inr ⟨"ContractionCounter", zn2 108 (by decide +kernel)⟩⟩
theorem fpX3_35 (nm : String) : zFp RX3 nm 35 7 14 := ⟨_, _, _, rfl, by decide, Or.inr ⟨"ContractionCounter", zn2 108 (by decide +kernel), rfl⟩⟩
theorem flX3_44 : zFl RX3 44 9 7 := ⟨_, _, _, rfl, by decide, Or.inr ⟨"ContractionCounter", zn1 46 (by decide +kernel)⟩⟩
theorem fpX3_44 (nm : String) : zFp RX3 nm 44 9 7 := ⟨_, _, _, rfl, by decide, Or.inr ⟨"ContractionCounter", zn1 46 (by decide +kernel), rfl⟩⟩
theorem flX3_75 : zFl RX3 75 7 13 := ⟨_, _, _, rfl, by decide, Or.inr ⟨"ContractionCounter", zn2 103 (by decide +kernel)⟩⟩
theorem fpX3_75 (nm : String) : zFp RX3 nm 75 7 13 := ⟨_, _, _, rfl, by decide, Or.inr ⟨"ContractionCounter", zn2 103 (by decide +kernel), rfl⟩⟩
theorem flX4_9 : zFl RX4 9 4 0 := ⟨_, _, _, rfl, by decide, Or.inl (zg1 127 (by decide +kernel) rfl)⟩
theorem fpX4_9 (nm : String) : zFp RX4 nm 9 4 0 := ⟨_, _, _, rfl, by decide, Or.inl ⟨(zg1 127 (by decide +kernel) rfl), Or.inl rfl⟩⟩
theorem flX4_15 : zFl RX4 15 4 1 := ⟨_, _, _, rfl, by decide, Or.inl (zg1 128 (by decide +kernel) rfl)⟩
theorem fpX4_15 (nm : String) : zFp RX4 nm 15 4 1 := ⟨_, _, _, rfl, by decide, Or.inl ⟨(zg1 128 (by decide +kernel) rfl), Or.inl rfl⟩⟩
theorem flX4_28 : zFl RX4 28 4 2 := ⟨_, _, _, rfl, by decide, Or.inl (zg1 130 (by decide +kernel) rfl)⟩
theorem fpX4_28 (nm : String) : zFp RX4 nm 28 4 2 := ⟨_, _, _, rfl, by decide, Or.inl ⟨(zg1 130 (by decide +kernel) rfl), Or.inl rfl⟩⟩
theorem flX4_32 : zFl RX4 32 4 3 := ⟨_, _, _, rfl, by decide, Or.inl (zg1 132 (by decide +kernel) rfl)⟩
theorem fpX4_32 (nm : String) : zFp RX4 nm 32 4 3 := ⟨_, _, _, rfl, by decide, Or.inl ⟨(zg1 132 (by decide +kernel) rfl), Or.inl rfl⟩⟩
theorem flX4_35 : zFl RX4 35 7 14 := ⟨_, _, _, rfl, by decide, Or.inr ⟨"ContractionCounter", zn2 107 (by decide +kernel)⟩⟩
theorem fpX4_35 (nm : String) : zFp RX4 nm 35 7 14 := ⟨_, _, _, rfl, by decide, Or.inr ⟨"ContractionCounter", zn2 107 (by decide +kernel), rfl⟩⟩
theorem flX4_40 : zFl RX4 40 4 4 := ⟨_, _, _, rfl, by decide, Or.inl (zg1 134 (by decide +kernel) rfl)⟩
theorem fpX4_40 (nm : String) : zFp RX4 nm 40 4 4 := ⟨_, _, _, rfl, by decide, Or.inl ⟨(zg1 134 (by decide +kernel) rfl), Or.inl rfl⟩⟩
theorem flX4_45 : zFl RX4 45 4 5 := ⟨_, _, _, rfl, by decide, Or.inl (zg1 135 (by decide +kernel) rfl)⟩
theorem fpX4_45 (nm : String) : zFp RX4 nm 45 4 5 := ⟨_, _, _, rfl, by decide, Or.inl ⟨(zg1 135 (by decide +kernel) rfl), Or.inl rfl⟩⟩
theorem flX4_49 : zFl RX4 49 4 6 := ⟨_, _, _, rfl, by decide, Or.inl (zg1 137 (by decide +kernel) rfl)⟩
theorem fpX4_49 (nm : String) : zFp RX4 nm 49 4 6 := ⟨_, _, _, rfl, by decide, Or.inl ⟨(zg1 137 (by decide +kernel) rfl), Or.inl rfl⟩⟩
theorem flX4_59 : zFl RX4 59 7 8 := ⟨_, _, _, rfl, by decide, Or.inr ⟨"ContractionCounter", zn2 91 (by decide +kernel)⟩⟩
theorem flX4_75 : zFl RX4 75 7 15 := ⟨_, _, _, rfl, by decide, Or.inr ⟨"ContractionCounter", zn2 113 (by decide +kernel)⟩⟩
theorem fpX4_75 (nm : String) : zFp RX4 nm 75 7 15 := ⟨_, _, _, rfl, by decide, Or.inr ⟨"ContractionCounter", zn2 113 (by decide +kernel), rfl⟩⟩
theorem flX4_78 : zFl RX4 78 7 6 := ⟨_, _, _, rfl, by decide, Or.inr ⟨"ContractionCounter", zn2 85 (by decide +kernel)⟩⟩
theorem flX5_9 : zFl RX5 9 5 0 := ⟨_, _, _, rfl, by decide, Or.inl (zg2 52 (by decide +kernel) rfl)⟩
theorem fpX5_9 : zFp RX5 "<init>" 9 5 0 := ⟨_, _, _, rfl, by decide, Or.inl ⟨(zg2 52 (by decide +kernel) rfl), Or.inr ⟨rfl, rfl, rfl⟩⟩⟩
theorem flX5_15 : zFl RX5 15 5 1 := ⟨_, _, _, rfl, by decide, Or.inl (zg2 54 (by decide +kernel) rfl)⟩
theorem fpX5_15 (nm : String) : zFp RX5 nm 15 5 1 := ⟨_, _, _, rfl, by decide, Or.inl ⟨(zg2 54 (by decide +kernel) rfl), Or.inl rfl⟩⟩
theorem flX5_19 : zFl RX5 19 5 2 := ⟨_, _, _, rfl, by decide, Or.inl (zg2 56 (by decide +kernel) rfl)⟩
theorem fpX5_19 (nm : String) : zFp RX5 nm 19 5 2 := ⟨_, _, _, rfl, by decide, Or.inl ⟨(zg2 56 (by decide +kernel) rfl), Or.inl rfl⟩⟩
theorem flX5_23 : zFl RX5 23 5 3 := ⟨_, _, _, rfl, by decide, Or.inl (zg2 58 (by decide +kernel) rfl)⟩
theorem fpX5_23 (nm : String) : zFp RX5 nm 23 5 3 := ⟨_, _, _, rfl, by decide, Or.inl ⟨(zg2 58 (by decide +kernel) rfl), Or.inl rfl⟩⟩
theorem flX6_9 : zFl RX6 9 6 0 := ⟨_, _, _, rfl, by decide, Or.inl (zg2 30 (by decide +kernel) rfl)⟩
theorem fpX6_9 : zFp RX6 "<init>" 9 6 0 := ⟨_, _, _, rfl, by decide, Or.inl ⟨(zg2 30 (by decide +kernel) rfl), Or.inr ⟨rfl, rfl, rfl⟩⟩⟩
theorem flX6_15 : zFl RX6 15 6 1 := ⟨_, _, _, rfl, by decide, Or.inl (zg2 32 (by decide +kernel) rfl)⟩
theorem fpX6_15 (nm : String) : zFp RX6 nm 15 6 1 := ⟨_, _, _, rfl, by decide, Or.inl ⟨(zg2 32 (by decide +kernel) rfl), Or.inl rfl⟩⟩
theorem flX6_36 : zFl RX6 36 7 3 := ⟨_, _, _, rfl, by decide, Or.inr ⟨"ContractionCounter", zn2 78 (by decide +kernel)⟩⟩
theorem flX6_39 : zFl RX6 39 7 4 := ⟨_, _, _, rfl, by decide, Or.inr ⟨"ContractionCounter", zn2 80 (by decide +kernel)⟩⟩
theorem flX6_42 : zFl RX6 42 7 0 := ⟨_, _, _, rfl, by decide, Or.inr ⟨"ContractionCounter", zn2 72 (by decide +kernel)⟩⟩
theorem flX7_9 : zFl RX7 9 7 0 := ⟨_, _, _, rfl, by decide, Or.inl (zg2 71 (by decide +kernel) rfl)⟩
theorem fpX7_9 : zFp RX7 "<init>" 9 7 0 := ⟨_, _, _, rfl, by decide, Or.inl ⟨(zg2 71 (by decide +kernel) rfl), Or.inr ⟨rfl, rfl, rfl⟩⟩⟩
theorem flX7_15 : zFl RX7 15 7 1 := ⟨_, _, _, rfl, by decide, Or.inl (zg2 73 (by decide +kernel) rfl)⟩
theorem fpX7_15 : zFp RX7 "<init>" 15 7 1 := ⟨_, _, _, rfl, by decide, Or.inl ⟨(zg2 73 (by decide +kernel) rfl), Or.inr ⟨rfl, rfl, rfl⟩⟩⟩
theorem flX7_19 : zFl RX7 19 7 2 := ⟨_, _, _, rfl, by decide, Or.inl (zg2 75 (by decide +kernel) rfl)⟩
theorem fpX7_19 : zFp RX7 "<init>" 19 7 2 := ⟨_, _, _, rfl, by decide, Or.inl ⟨(zg2 75 (by decide +kernel) rfl), Or.inr ⟨rfl, rfl, rfl⟩⟩⟩
theorem flX7_22 : zFl RX7 22 7 3 := ⟨_, _, _, rfl, by decide, Or.inl (zg2 77 (by decide +kernel) rfl)⟩
theorem fpX7_22 : zFp RX7 "<init>" 22 7 3 := ⟨_, _, _, rfl, by decide, Or.inl ⟨(zg2 77 (by decide +kernel) rfl), Or.inr ⟨rfl, rfl, rfl⟩⟩⟩
theorem flX7_25 : zFl RX7 25 7 4 := ⟨_, _, _, rfl, by decide, Or.inl (zg2 79 (by decide +kernel) rfl)⟩
theorem fpX7_25 : zFp RX7 "<init>" 25 7 4 := ⟨_, _, _, rfl, by decide, Or.inl ⟨(zg2 79 (by decide +kernel) rfl), Or.inr ⟨rfl, rfl, rfl⟩⟩⟩
theorem flX7_30 : zFl RX7 30 7 5 := ⟨_, _, _, rfl, by decide, Or.inl (zg2 81 (by decide +kernel) rfl)⟩
theorem fpX7_30 : zFp RX7 "<init>" 30 7 5 := ⟨_, _, _, rfl, by decide, Or.inl ⟨(zg2 81 (by decide +kernel) rfl), Or.inr ⟨rfl, rfl, rfl⟩⟩⟩
theorem flX7_34 : zFl RX7 34 7 6 := ⟨_, _, _, rfl, by decide, Or.inl (zg2 84 (by decide +kernel) rfl)⟩
theorem fpX7_34 : zFp RX7 "<init>" 34 7 6 := ⟨_, _, _, rfl, by decide, Or.inl ⟨(zg2 84 (by decide +kernel) rfl), Or.inr ⟨rfl, rfl, rfl⟩⟩⟩
theorem flX7_37 : zFl RX7 37 7 7 := ⟨_, _, _, rfl, by decide, Or.inl (zg2 87 (by decide +kernel) rfl)⟩
theorem fpX7_37 : zFp RX7 "<init>" 37 7 7 := ⟨_, _, _, rfl, by decide, Or.inl ⟨(zg2 87 (by decide +kernel) rfl), Or.inr ⟨rfl, rfl, rfl⟩⟩⟩
theorem flX7_40 : zFl RX7 40 7 8 := ⟨_, _, _, rfl, by decide, Or.inl (zg2 89 (by decide +kernel) rfl)⟩
theorem fpX7_40 : zFp RX7 "<init>" 40 7 8 := ⟨_, _, _, rfl, by decide, Or.inl ⟨(zg2 89 (by decide +kernel) rfl), Or.inr ⟨rfl, rfl, rfl⟩⟩⟩
theorem flX7_43 : zFl RX7 43 7 9 := ⟨_, _, _, rfl, by decide, Or.inl (zg2 92 (by decide +kernel) rfl)⟩
theorem fpX7_43 : zFp RX7 "<init>" 43 7 9 := ⟨_, _, _, rfl, by decide, Or.inl ⟨(zg2 92 (by decide +kernel) rfl), Or.inr ⟨rfl, rfl, rfl⟩⟩⟩
theorem flX7_46 : zFl RX7 46 7 10 := ⟨_, _, _, rfl, by decide, Or.inl (zg2 93 (by decide +kernel) rfl)⟩
theorem fpX7_46 : zFp RX7 "<init>" 46 7 10 := ⟨_, _, _, rfl, by decide, Or.inl ⟨(zg2 93 (by decide +kernel) rfl), Or.inr ⟨rfl, rfl, rfl⟩⟩⟩
theorem flX7_50 : zFl RX7 50 7 11 := ⟨_, _, _, rfl, by decide, Or.inl (zg2 95 (by decide +kernel) rfl)⟩
theorem fpX7_50 (nm : String) : zFp RX7 nm 50 7 11 := ⟨_, _, _, rfl, by decide, Or.inl ⟨(zg2 95 (by decide +kernel) rfl), Or.inl rfl⟩⟩
theorem flX7_54 : zFl RX7 54 7 12 := ⟨_, _, _, rfl, by decide, Or.inl (zg2 98 (by decide +kernel) rfl)⟩
theorem fpX7_54 (nm : String) : zFp RX7 nm 54 7 12 := ⟨_, _, _, rfl, by decide, Or.inl ⟨(zg2 98 (by decide +kernel) rfl), Or.inl rfl⟩⟩
theorem flX7_57 : zFl RX7 57 7 13 := ⟨_, _, _, rfl, by decide, Or.inl (zg2 101 (by decide +kernel) rfl)⟩
theorem fpX7_57 (nm : String) : zFp RX7 nm 57 7 13 := ⟨_, _, _, rfl, by decide, Or.inl ⟨(zg2 101 (by decide +kernel) rfl), Or.inl rfl⟩⟩
theorem flX7_69 : zFl RX7 69 7 14 := ⟨_, _, _, rfl, by decide, Or.inl (zg2 109 (by decide +kernel) rfl)⟩
theorem fpX7_69 (nm : String) : zFp RX7 nm 69 7 14 := ⟨_, _, _, rfl, by decide, Or.inl ⟨(zg2 109 (by decide +kernel) rfl), Or.inl rfl⟩⟩
theorem flX7_72 : zFl RX7 72 7 15 := ⟨_, _, _, rfl, by decide, Or.inl (zg2 112 (by decide +kernel) rfl)⟩
theorem fpX7_72 (nm : String) : zFp RX7 nm 72 7 15 := ⟨_, _, _, rfl, by decide, Or.inl ⟨(zg2 112 (by decide +kernel) rfl), Or.inl rfl⟩⟩
theorem flX7_75 : zFl RX7 75 5 1 := ⟨_, _, _, rfl, by decide, Or.inr ⟨"ContractionCounter", zn2 55 (by decide +kernel)⟩⟩
theorem fpX7_75 (nm : String) : zFp RX7 nm 75 5 1 := ⟨_, _, _, rfl, by decide, Or.inr ⟨"ContractionCounter", zn2 55 (by decide +kernel), rfl⟩⟩
theorem flX7_78 : zFl RX7 78 5 0 := ⟨_, _, _, rfl, by decide, Or.inr ⟨"ContractionCounter", zn2 53 (by decide +kernel)⟩⟩
theorem flX7_85 : zFl RX7 85 5 3 := ⟨_, _, _, rfl, by decide, Or.inr ⟨"ContractionCounter", zn2 59 (by decide +kernel)⟩⟩
theorem fpX7_85 (nm : String) : zFp RX7 nm 85 5 3 := ⟨_, _, _, rfl, by decide, Or.inr ⟨"ContractionCounter", zn2 59 (by decide +kernel), rfl⟩⟩
theorem flX7_101 : zFl RX7 101 5 2 := ⟨_, _, _, rfl, by decide, Or.inr ⟨"ContractionCounter", zn2 57 (by decide +kernel)⟩⟩
theorem fpX7_101 (nm : String) : zFp RX7 nm 101 5 2 := ⟨_, _, _, rfl, by decide, Or.inr ⟨"ContractionCounter", zn2 57 (by decide +kernel), rfl⟩⟩
theorem flX8_14 : zFl RX8 14 9 6 := ⟨_, _, _, rfl, by decide, Or.inr ⟨"ContractionCounter", zn1 43 (by decide +kernel)⟩⟩
theorem fpX8_14 (nm : String) : zFp RX8 nm 14 9 6 := ⟨_, _, _, rfl, by decide, Or.inr ⟨"ContractionCounter", zn1 43 (by decide +kernel), rfl⟩⟩
theorem flX8_47 : zFl RX8 47 7 11 := ⟨_, _, _, rfl, by decide, Or.inr ⟨"ContractionCounter", zn2 96 (by decide +kernel)⟩⟩
theorem fpX8_47 (nm : String) : zFp RX8 nm 47 7 11 := ⟨_, _, _, rfl, by decide, Or.inr ⟨"ContractionCounter", zn2 96 (by decide +kernel), rfl⟩⟩
theorem flX8_64 : zFl RX8 64 9 7 := ⟨_, _, _, rfl, by decide, Or.inr ⟨"ContractionCounter", zn1 47 (by decide +kernel)⟩⟩
theorem fpX8_64 (nm : String) : zFp RX8 nm 64 9 7 := ⟨_, _, _, rfl, by decide, Or.inr ⟨"ContractionCounter", zn1 47 (by decide +kernel), rfl⟩⟩
theorem flX8_81 : zFl RX8 81 7 12 := ⟨_, _, _, rfl, by decide, Or.inr ⟨"ContractionCounter", zn2 99 (by decide +kernel)⟩⟩
theorem fpX8_81 (nm : String) : zFp RX8 nm 81 7 12 := ⟨_, _, _, rfl, by decide, Or.inr ⟨"ContractionCounter", zn2 99 (by decide +kernel), rfl⟩⟩
theorem flX8_88 : zFl RX8 88 7 1 := ⟨_, _, _, rfl, by decide, Or.inr ⟨"ContractionCounter", zn2 74 (by decide +kernel)⟩⟩
theorem flX8_92 : zFl RX8 92 7 2 := ⟨_, _, _, rfl, by decide, Or.inr ⟨"ContractionCounter", zn2 76 (by decide +kernel)⟩⟩
theorem flX8_103 : zFl RX8 103 9 4 := ⟨_, _, _, rfl, by decide, Or.inr ⟨"ContractionCounter", zn1 41 (by decide +kernel)⟩⟩
theorem fpX8_103 (nm : String) : zFp RX8 nm 103 9 4 := ⟨_, _, _, rfl, by decide, Or.inr ⟨"ContractionCounter", zn1 41 (by decide +kernel), rfl⟩⟩
theorem flX8_108 : zFl RX8 108 7 13 := ⟨_, _, _, rfl, by decide, Or.inr ⟨"ContractionCounter", zn2 104 (by decide +kernel)⟩⟩
theorem fpX8_108 (nm : String) : zFp RX8 nm 108 7 13 := ⟨_, _, _, rfl, by decide, Or.inr ⟨"ContractionCounter", zn2 104 (by decide +kernel), rfl⟩⟩
theorem flX8_134 : zFl RX8 134 7 14 := ⟨_, _, _, rfl, by decide, Or.inr ⟨"ContractionCounter", zn2 111 (by decide +kernel)⟩⟩
theorem fpX8_134 (nm : String) : zFp RX8 nm 134 7 14 := ⟨_, _, _, rfl, by decide, Or.inr ⟨"ContractionCounter", zn2 111 (by decide +kernel), rfl⟩⟩
theorem flX9_9 : zFl RX9 9 9 0 := ⟨_, _, _, rfl, by decide, Or.inl (zg1 35 (by decide +kernel) rfl)⟩
theorem fpX9_9 : zFp RX9 "<init>" 9 9 0 := ⟨_, _, _, rfl, by decide, Or.inl ⟨(zg1 35 (by decide +kernel) rfl), Or.inr ⟨rfl, rfl, rfl⟩⟩⟩
theorem flX9_15 : zFl RX9 15 9 8 := ⟨_, _, _, rfl, by decide, Or.inl (zg1 49 (by decide +kernel) rfl)⟩
theorem fpX9_15 (nm : String) : zFp RX9 nm 15 9 8 := ⟨_, _, _, rfl, by decide, Or.inl ⟨(zg1 49 (by decide +kernel) rfl), Or.inl rfl⟩⟩
theorem flX9_19 : zFl RX9 19 9 9 := ⟨_, _, _, rfl, by decide, Or.inl (zg1 51 (by decide +kernel) rfl)⟩
theorem fpX9_19 (nm : String) : zFp RX9 nm 19 9 9 := ⟨_, _, _, rfl, by decide, Or.inl ⟨(zg1 51 (by decide +kernel) rfl), Or.inl rfl⟩⟩
theorem flX9_22 : zFl RX9 22 9 1 := ⟨_, _, _, rfl, by decide, Or.inl (zg1 36 (by decide +kernel) rfl)⟩
theorem fpX9_22 (nm : String) : zFp RX9 nm 22 9 1 := ⟨_, _, _, rfl, by decide, Or.inl ⟨(zg1 36 (by decide +kernel) rfl), Or.inl rfl⟩⟩
theorem flX9_31 : zFl RX9 31 9 2 := ⟨_, _, _, rfl, by decide, Or.inl (zg1 38 (by decide +kernel) rfl)⟩
theorem fpX9_31 (nm : String) : zFp RX9 nm 31 9 2 := ⟨_, _, _, rfl, by decide, Or.inl ⟨(zg1 38 (by decide +kernel) rfl), Or.inl rfl⟩⟩
theorem flX9_34 : zFl RX9 34 9 3 := ⟨_, _, _, rfl, by decide, Or.inl (zg1 39 (by decide +kernel) rfl)⟩
theorem fpX9_34 (nm : String) : zFp RX9 nm 34 9 3 := ⟨_, _, _, rfl, by decide, Or.inl ⟨(zg1 39 (by decide +kernel) rfl), Or.inl rfl⟩⟩
theorem flX9_38 : zFl RX9 38 9 5 := ⟨_, _, _, rfl, by decide, Or.inl (zg1 42 (by decide +kernel) rfl)⟩
theorem fpX9_38 (nm : String) : zFp RX9 nm 38 9 5 := ⟨_, _, _, rfl, by decide, Or.inl ⟨(zg1 42 (by decide +kernel) rfl), Or.inl rfl⟩⟩
theorem flX9_44 : zFl RX9 44 9 4 := ⟨_, _, _, rfl, by decide, Or.inl (zg1 40 (by decide +kernel) rfl)⟩
theorem fpX9_44 (nm : String) : zFp RX9 nm 44 9 4 := ⟨_, _, _, rfl, by decide, Or.inl ⟨(zg1 40 (by decide +kernel) rfl), Or.inl rfl⟩⟩
theorem flX9_47 : zFl RX9 47 9 6 := ⟨_, _, _, rfl, by decide, Or.inl (zg1 45 (by decide +kernel) rfl)⟩
theorem fpX9_47 (nm : String) : zFp RX9 nm 47 9 6 := ⟨_, _, _, rfl, by decide, Or.inl ⟨(zg1 45 (by decide +kernel) rfl), Or.inl rfl⟩⟩
theorem flX9_66 : zFl RX9 66 9 7 := ⟨_, _, _, rfl, by decide, Or.inl (zg1 48 (by decide +kernel) rfl)⟩
theorem fpX9_66 (nm : String) : zFp RX9 nm 66 9 7 := ⟨_, _, _, rfl, by decide, Or.inl ⟨(zg1 48 (by decide +kernel) rfl), Or.inl rfl⟩⟩
theorem flX10_9 : zFl RX10 9 10 0 := ⟨_, _, _, rfl, by decide, Or.inl (zg1 110 (by decide +kernel) rfl)⟩
theorem fpX10_9 : zFp RX10 "<init>" 9 10 0 := ⟨_, _, _, rfl, by decide, Or.inl ⟨(zg1 110 (by decide +kernel) rfl), Or.inr ⟨rfl, rfl, rfl⟩⟩⟩
theorem flX10_21 : zFl RX10 21 10 1 := ⟨_, _, _, rfl, by decide, Or.inl (zg1 111 (by decide +kernel) rfl)⟩
theorem fpX10_21 (nm : String) : zFp RX10 nm 21 10 1 := ⟨_, _, _, rfl, by decide, Or.inl ⟨(zg1 111 (by decide +kernel) rfl), Or.inl rfl⟩⟩
theorem flX10_29 : zFl RX10 29 7 8 := ⟨_, _, _, rfl, by decide, Or.inr ⟨"ContractionCounter", zn2 90 (by decide +kernel)⟩⟩
theorem flX10_32 : zFl RX10 32 10 2 := ⟨_, _, _, rfl, by decide, Or.inl (zg1 112 (by decide +kernel) rfl)⟩
theorem fpX10_32 (nm : String) : zFp RX10 nm 32 10 2 := ⟨_, _, _, rfl, by decide, Or.inl ⟨(zg1 112 (by decide +kernel) rfl), Or.inl rfl⟩⟩
theorem flX12_7 : zFl RX12 7 12 0 := ⟨_, _, _, rfl, by decide, Or.inl (zg6 152 (by decide +kernel) rfl)⟩
theorem fpX12_7 : zFp RX12 "<init>" 7 12 0 := ⟨_, _, _, rfl, by decide, Or.inl ⟨(zg6 152 (by decide +kernel) rfl), Or.inr ⟨rfl, rfl, rfl⟩⟩⟩
theorem flX12_13 : zFl RX12 13 12 1 := ⟨_, _, _, rfl, by decide, Or.inl (zg6 153 (by decide +kernel) rfl)⟩
theorem fpX12_13 : zFp RX12 "<init>" 13 12 1 := ⟨_, _, _, rfl, by decide, Or.inl ⟨(zg6 153 (by decide +kernel) rfl), Or.inr ⟨rfl, rfl, rfl⟩⟩⟩
theorem flX12_16 : zFl RX12 16 12 2 := ⟨_, _, _, rfl, by decide, Or.inl (zg6 154 (by decide +kernel) rfl)⟩
theorem fpX12_16 : zFp RX12 "<init>" 16 12 2 := ⟨_, _, _, rfl, by decide, Or.inl ⟨(zg6 154 (by decide +kernel) rfl), Or.inr ⟨rfl, rfl, rfl⟩⟩⟩
theorem flX12_19 : zFl RX12 19 12 5 := ⟨_, _, _, rfl, by decide, Or.inl (zg6 157 (by decide +kernel) rfl)⟩
theorem fpX12_19 : zFp RX12 "<init>" 19 12 5 := ⟨_, _, _, rfl, by decide, Or.inl ⟨(zg6 157 (by decide +kernel) rfl), Or.inr ⟨rfl, rfl, rfl⟩⟩⟩
theorem flX12_22 : zFl RX12 22 12 6 := ⟨_, _, _, rfl, by decide, Or.inl (zg6 158 (by decide +kernel) rfl)⟩
theorem fpX12_22 : zFp RX12 "<init>" 22 12 6 := ⟨_, _, _, rfl, by decide, Or.inl ⟨(zg6 158 (by decide +kernel) rfl), Or.inr ⟨rfl, rfl, rfl⟩⟩⟩
theorem flX12_26 : zFl RX12 26 12 7 := ⟨_, _, _, rfl, by decide, Or.inl (zg6 159 (by decide +kernel) rfl)⟩
theorem fpX12_26 : zFp RX12 "<init>" 26 12 7 := ⟨_, _, _, rfl, by decide, Or.inl ⟨(zg6 159 (by decide +kernel) rfl), Or.inr ⟨rfl, rfl, rfl⟩⟩⟩
theorem flX12_29 : zFl RX12 29 12 8 := ⟨_, _, _, rfl, by decide, Or.inl (zg6 160 (by decide +kernel) rfl)⟩
theorem fpX12_29 : zFp RX12 "<init>" 29 12 8 := ⟨_, _, _, rfl, by decide, Or.inl ⟨(zg6 160 (by decide +kernel) rfl), Or.inr ⟨rfl, rfl, rfl⟩⟩⟩
theorem flX12_32 : zFl RX12 32 12 9 := ⟨_, _, _, rfl, by decide, Or.inl (zg6 161 (by decide +kernel) rfl)⟩
theorem fpX12_32 : zFp RX12 "<init>" 32 12 9 := ⟨_, _, _, rfl, by decide, Or.inl ⟨(zg6 161 (by decide +kernel) rfl), Or.inr ⟨rfl, rfl, rfl⟩⟩⟩
theorem flX12_35 : zFl RX12 35 12 10 := ⟨_, _, _, rfl, by decide, Or.inl (zg6 162 (by decide +kernel) rfl)⟩
theorem fpX12_35 : zFp RX12 "<init>" 35 12 10 := ⟨_, _, _, rfl, by decide, Or.inl ⟨(zg6 162 (by decide +kernel) rfl), Or.inr ⟨rfl, rfl, rfl⟩⟩⟩
theorem flX12_38 : zFl RX12 38 12 11 := ⟨_, _, _, rfl, by decide, Or.inl (zg6 163 (by decide +kernel) rfl)⟩
theorem fpX12_38 : zFp RX12 "<init>" 38 12 11 := ⟨_, _, _, rfl, by decide, Or.inl ⟨(zg6 163 (by decide +kernel) rfl), Or.inr ⟨rfl, rfl, rfl⟩⟩⟩
theorem flX12_41 : zFl RX12 41 12 16 := ⟨_, _, _, rfl, by decide, Or.inl (zg6 168 (by decide +kernel) rfl)⟩
theorem fpX12_41 : zFp RX12 "<init>" 41 12 16 := ⟨_, _, _, rfl, by decide, Or.inl ⟨(zg6 168 (by decide +kernel) rfl), Or.inr ⟨rfl, rfl, rfl⟩⟩⟩
theorem flX12_44 : zFl RX12 44 12 18 := ⟨_, _, _, rfl, by decide, Or.inl (zg6 170 (by decide +kernel) rfl)⟩
theorem fpX12_44 : zFp RX12 "<init>" 44 12 18 := ⟨_, _, _, rfl, by decide, Or.inl ⟨(zg6 170 (by decide +kernel) rfl), Or.inr ⟨rfl, rfl, rfl⟩⟩⟩
theorem flX12_47 : zFl RX12 47 12 19 := ⟨_, _, _, rfl, by decide, Or.inl (zg6 171 (by decide +kernel) rfl)⟩
theorem fpX12_47 : zFp RX12 "<init>" 47 12 19 := ⟨_, _, _, rfl, by decide, Or.inl ⟨(zg6 171 (by decide +kernel) rfl), Or.inr ⟨rfl, rfl, rfl⟩⟩⟩
theorem flX12_50 : zFl RX12 50 12 20 := ⟨_, _, _, rfl, by decide, Or.inl (zg6 172 (by decide +kernel) rfl)⟩
theorem fpX12_50 : zFp RX12 "<init>" 50 12 20 := ⟨_, _, _, rfl, by decide, Or.inl ⟨(zg6 172 (by decide +kernel) rfl), Or.inr ⟨rfl, rfl, rfl⟩⟩⟩
theorem flX12_53 : zFl RX12 53 12 25 := ⟨_, _, _, rfl, by decide, Or.inl (zg6 177 (by decide +kernel) rfl)⟩
theorem fpX12_53 : zFp RX12 "<init>" 53 12 25 := ⟨_, _, _, rfl, by decide, Or.inl ⟨(zg6 177 (by decide +kernel) rfl), Or.inr ⟨rfl, rfl, rfl⟩⟩⟩
theorem flX12_57 : zFl RX12 57 12 26 := ⟨_, _, _, rfl, by decide, Or.inl (zg6 178 (by decide +kernel) rfl)⟩
theorem fpX12_57 : zFp RX12 "<init>" 57 12 26 := ⟨_, _, _, rfl, by decide, Or.inl ⟨(zg6 178 (by decide +kernel) rfl), Or.inr ⟨rfl, rfl, rfl⟩⟩⟩
theorem flX12_60 : zFl RX12 60 12 27 := ⟨_, _, _, rfl, by decide, Or.inl (zg6 179 (by decide +kernel) rfl)⟩
theorem fpX12_60 : zFp RX12 "<init>" 60 12 27 := ⟨_, _, _, rfl, by decide, Or.inl ⟨(zg6 179 (by decide +kernel) rfl), Or.inr ⟨rfl, rfl, rfl⟩⟩⟩
theorem flX12_63 : zFl RX12 63 12 28 := ⟨_, _, _, rfl, by decide, Or.inl (zg6 180 (by decide +kernel) rfl)⟩
theorem fpX12_63 : zFp RX12 "<init>" 63 12 28 := ⟨_, _, _, rfl, by decide, Or.inl ⟨(zg6 180 (by decide +kernel) rfl), Or.inr ⟨rfl, rfl, rfl⟩⟩⟩
theorem flX12_66 : zFl RX12 66 12 31 := ⟨_, _, _, rfl, by decide, Or.inl (zg6 183 (by decide +kernel) rfl)⟩
theorem fpX12_66 : zFp RX12 "<init>" 66 12 31 := ⟨_, _, _, rfl, by decide, Or.inl ⟨(zg6 183 (by decide +kernel) rfl), Or.inr ⟨rfl, rfl, rfl⟩⟩⟩
theorem flX12_69 : zFl RX12 69 12 32 := ⟨_, _, _, rfl, by decide, Or.inl (zg6 184 (by decide +kernel) rfl)⟩
theorem fpX12_69 : zFp RX12 "<init>" 69 12 32 := ⟨_, _, _, rfl, by decide, Or.inl ⟨(zg6 184 (by decide +kernel) rfl), Or.inr ⟨rfl, rfl, rfl⟩⟩⟩
theorem flX12_72 : zFl RX12 72 12 34 := ⟨_, _, _, rfl, by decide, Or.inl (zg6 186 (by decide +kernel) rfl)⟩
theorem fpX12_72 : zFp RX12 "<init>" 72 12 34 := ⟨_, _, _, rfl, by decide, Or.inl ⟨(zg6 186 (by decide +kernel) rfl), Or.inr ⟨rfl, rfl, rfl⟩⟩⟩
theorem flX12_75 : zFl RX12 75 12 36 := ⟨_, _, _, rfl, by decide, Or.inl (zg6 188 (by decide +kernel) rfl)⟩
theorem fpX12_75 : zFp RX12 "<init>" 75 12 36 := ⟨_, _, _, rfl, by decide, Or.inl ⟨(zg6 188 (by decide +kernel) rfl), Or.inr ⟨rfl, rfl, rfl⟩⟩⟩
theorem flX12_79 : zFl RX12 79 12 38 := ⟨_, _, _, rfl, by decide, Or.inl (zg6 190 (by decide +kernel) rfl)⟩
theorem fpX12_79 (nm : String) : zFp RX12 nm 79 12 38 := ⟨_, _, _, rfl, by decide, Or.inl ⟨(zg6 190 (by decide +kernel) rfl), Or.inl rfl⟩⟩
theorem flX12_83 : zFl RX12 83 12 39 := ⟨_, _, _, rfl, by decide, Or.inl (zg6 191 (by decide +kernel) rfl)⟩
theorem fpX12_83 (nm : String) : zFp RX12 nm 83 12 39 := ⟨_, _, _, rfl, by decide, Or.inl ⟨(zg6 191 (by decide +kernel) rfl), Or.inl rfl⟩⟩
theorem flX12_102 : zFl RX12 102 12 51 := ⟨_, _, _, rfl, by decide, Or.inl (zg6 203 (by decide +kernel) rfl)⟩
theorem fpX12_102 : zFp RX12 "<init>" 102 12 51 := ⟨_, _, _, rfl, by decide, Or.inl ⟨(zg6 203 (by decide +kernel) rfl), Or.inr ⟨rfl, rfl, rfl⟩⟩⟩
theorem flX12_105 : zFl RX12 105 12 52 := ⟨_, _, _, rfl, by decide, Or.inl (zg6 204 (by decide +kernel) rfl)⟩
theorem fpX12_105 : zFp RX12 "<init>" 105 12 52 := ⟨_, _, _, rfl, by decide, Or.inl ⟨(zg6 204 (by decide +kernel) rfl), Or.inr ⟨rfl, rfl, rfl⟩⟩⟩
theorem flX12_108 : zFl RX12 108 12 53 := ⟨_, _, _, rfl, by decide, Or.inl (zg6 205 (by decide +kernel) rfl)⟩
theorem fpX12_108 : zFp RX12 "<init>" 108 12 53 := ⟨_, _, _, rfl, by decide, Or.inl ⟨(zg6 205 (by decide +kernel) rfl), Or.inr ⟨rfl, rfl, rfl⟩⟩⟩
theorem flX12_114 : zFl RX12 114 12 4 := ⟨_, _, _, rfl, by decide, Or.inl (zg6 156 (by decide +kernel) rfl)⟩
theorem fpX12_114 (nm : String) : zFp RX12 nm 114 12 4 := ⟨_, _, _, rfl, by decide, Or.inl ⟨(zg6 156 (by decide +kernel) rfl), Or.inl rfl⟩⟩
theorem flX12_117 : zFl RX12 117 12 3 := ⟨_, _, _, rfl, by decide, Or.inl (zg6 155 (by decide +kernel) rfl)⟩
theorem fpX12_117 (nm : String) : zFp RX12 nm 117 12 3 := ⟨_, _, _, rfl, by decide, Or.inl ⟨(zg6 155 (by decide +kernel) rfl), Or.inl rfl⟩⟩
theorem flX12_124 : zFl RX12 124 12 12 := ⟨_, _, _, rfl, by decide, Or.inl (zg6 164 (by decide +kernel) rfl)⟩
theorem fpX12_124 (nm : String) : zFp RX12 nm 124 12 12 := ⟨_, _, _, rfl, by decide, Or.inl ⟨(zg6 164 (by decide +kernel) rfl), Or.inl rfl⟩⟩
theorem flX12_130 : zFl RX12 130 12 14 := ⟨_, _, _, rfl, by decide, Or.inl (zg6 166 (by decide +kernel) rfl)⟩
theorem fpX12_130 (nm : String) : zFp RX12 nm 130 12 14 := ⟨_, _, _, rfl, by decide, Or.inl ⟨(zg6 166 (by decide +kernel) rfl), Or.inl rfl⟩⟩
theorem flX12_134 : zFl RX12 134 12 15 := ⟨_, _, _, rfl, by decide, Or.inl (zg6 167 (by decide +kernel) rfl)⟩
theorem fpX12_134 (nm : String) : zFp RX12 nm 134 12 15 := ⟨_, _, _, rfl, by decide, Or.inl ⟨(zg6 167 (by decide +kernel) rfl), Or.inl rfl⟩⟩
theorem flX12_155 : zFl RX12 155 12 17 := ⟨_, _, _, rfl, by decide, Or.inl (zg6 169 (by decide +kernel) rfl)⟩
theorem fpX12_155 (nm : String) : zFp RX12 nm 155 12 17 := ⟨_, _, _, rfl, by decide, Or.inl ⟨(zg6 169 (by decide +kernel) rfl), Or.inl rfl⟩⟩
theorem flX12_172 : zFl RX12 172 12 13 := ⟨_, _, _, rfl, by decide, Or.inl (zg6 165 (by decide +kernel) rfl)⟩
theorem fpX12_172 (nm : String) : zFp RX12 nm 172 12 13 := ⟨_, _, _, rfl, by decide, Or.inl ⟨(zg6 165 (by decide +kernel) rfl), Or.inl rfl⟩⟩
theorem flX12_197 : zFl RX12 197 12 21 := ⟨_, _, _, rfl, by decide, Or.inl (zg6 173 (by decide +kernel) rfl)⟩
theorem fpX12_197 (nm : String) : zFp RX12 nm 197 12 21 := ⟨_, _, _, rfl, by decide, Or.inl ⟨(zg6 173 (by decide +kernel) rfl), Or.inl rfl⟩⟩
theorem flX12_224 : zFl RX12 224 12 22 := ⟨_, _, _, rfl, by decide, Or.inl (zg6 174 (by decide +kernel) rfl)⟩
theorem fpX12_224 (nm : String) : zFp RX12 nm 224 12 22 := ⟨_, _, _, rfl, by decide, Or.inl ⟨(zg6 174 (by decide +kernel) rfl), Or.inl rfl⟩⟩
theorem flX12_228 : zFl RX12 228 12 24 := ⟨_, _, _, rfl, by decide, Or.inl (zg6 176 (by decide +kernel) rfl)⟩
theorem fpX12_228 (nm : String) : zFp RX12 nm 228 12 24 := ⟨_, _, _, rfl, by decide, Or.inl ⟨(zg6 176 (by decide +kernel) rfl), Or.inl rfl⟩⟩
theorem flX12_231 : zFl RX12 231 12 23 := ⟨_, _, _, rfl, by decide, Or.inl (zg6 175 (by decide +kernel) rfl)⟩
theorem fpX12_231 (nm : String) : zFp RX12 nm 231 12 23 := ⟨_, _, _, rfl, by decide, Or.inl ⟨(zg6 175 (by decide +kernel) rfl), Or.inl rfl⟩⟩
theorem flX12_255 : zFl RX12 255 12 29 := ⟨_, _, _, rfl, by decide, Or.inl (zg6 181 (by decide +kernel) rfl)⟩
theorem fpX12_255 (nm : String) : zFp RX12 nm 255 12 29 := ⟨_, _, _, rfl, by decide, Or.inl ⟨(zg6 181 (by decide +kernel) rfl), Or.inl rfl⟩⟩
theorem flX12_266 : zFl RX12 266 12 30 := ⟨_, _, _, rfl, by decide, Or.inl (zg6 182 (by decide +kernel) rfl)⟩
theorem fpX12_266 (nm : String) : zFp RX12 nm 266 12 30 := ⟨_, _, _, rfl, by decide, Or.inl ⟨(zg6 182 (by decide +kernel) rfl), Or.inl rfl⟩⟩
theorem flX12_380 : zFl RX12 380 12 33 := ⟨_, _, _, rfl, by decide, Or.inl (zg6 185 (by decide +kernel) rfl)⟩
theorem fpX12_380 (nm : String) : zFp RX12 nm 380 12 33 := ⟨_, _, _, rfl, by decide, Or.inl ⟨(zg6 185 (by decide +kernel) rfl), Or.inl rfl⟩⟩
theorem flX12_435 : zFl RX12 435 12 35 := ⟨_, _, _, rfl, by decide, Or.inl (zg6 187 (by decide +kernel) rfl)⟩
theorem fpX12_435 (nm : String) : zFp RX12 nm 435 12 35 := ⟨_, _, _, rfl, by decide, Or.inl ⟨(zg6 187 (by decide +kernel) rfl), Or.inl rfl⟩⟩
theorem flX12_447 : zFl RX12 447 12 37 := ⟨_, _, _, rfl, by decide, Or.inl (zg6 189 (by decide +kernel) rfl)⟩
theorem fpX12_447 (nm : String) : zFp RX12 nm 447 12 37 := ⟨_, _, _, rfl, by decide, Or.inl ⟨(zg6 189 (by decide +kernel) rfl), Or.inl rfl⟩⟩
theorem flX12_453 : zFl RX12 453 12 48 := ⟨_, _, _, rfl, by decide, Or.inl (zg6 200 (by decide +kernel) rfl)⟩
theorem fpX12_453 (nm : String) : zFp RX12 nm 453 12 48 := ⟨_, _, _, rfl, by decide, Or.inl ⟨(zg6 200 (by decide +kernel) rfl), Or.inl rfl⟩⟩
theorem flX12_456 : zFl RX12 456 12 49 := ⟨_, _, _, rfl, by decide, Or.inl (zg6 201 (by decide +kernel) rfl)⟩
theorem fpX12_456 (nm : String) : zFp RX12 nm 456 12 49 := ⟨_, _, _, rfl, by decide, Or.inl ⟨(zg6 201 (by decide +kernel) rfl), Or.inl rfl⟩⟩
theorem flX12_459 : zFl RX12 459 12 43 := ⟨_, _, _, rfl, by decide, Or.inl (zg6 195 (by decide +kernel) rfl)⟩
theorem fpX12_459 (nm : String) : zFp RX12 nm 459 12 43 := ⟨_, _, _, rfl, by decide, Or.inl ⟨(zg6 195 (by decide +kernel) rfl), Or.inl rfl⟩⟩
theorem flX12_462 : zFl RX12 462 12 42 := ⟨_, _, _, rfl, by decide, Or.inl (zg6 194 (by decide +kernel) rfl)⟩
theorem fpX12_462 (nm : String) : zFp RX12 nm 462 12 42 := ⟨_, _, _, rfl, by decide, Or.inl ⟨(zg6 194 (by decide +kernel) rfl), Or.inl rfl⟩⟩
theorem flX12_471 : zFl RX12 471 12 44 := ⟨_, _, _, rfl, by decide, Or.inl (zg6 196 (by decide +kernel) rfl)⟩
theorem fpX12_471 (nm : String) : zFp RX12 nm 471 12 44 := ⟨_, _, _, rfl, by decide, Or.inl ⟨(zg6 196 (by decide +kernel) rfl), Or.inl rfl⟩⟩
theorem flX12_474 : zFl RX12 474 12 50 := ⟨_, _, _, rfl, by decide, Or.inl (zg6 202 (by decide +kernel) rfl)⟩
theorem fpX12_474 (nm : String) : zFp RX12 nm 474 12 50 := ⟨_, _, _, rfl, by decide, Or.inl ⟨(zg6 202 (by decide +kernel) rfl), Or.inl rfl⟩⟩
theorem flX12_481 : zFl RX12 481 12 45 := ⟨_, _, _, rfl, by decide, Or.inl (zg6 197 (by decide +kernel) rfl)⟩
theorem fpX12_481 (nm : String) : zFp RX12 nm 481 12 45 := ⟨_, _, _, rfl, by decide, Or.inl ⟨(zg6 197 (by decide +kernel) rfl), Or.inl rfl⟩⟩
theorem flX12_484 : zFl RX12 484 12 46 := ⟨_, _, _, rfl, by decide, Or.inl (zg6 198 (by decide +kernel) rfl)⟩
theorem fpX12_484 (nm : String) : zFp RX12 nm 484 12 46 := ⟨_, _, _, rfl, by decide, Or.inl ⟨(zg6 198 (by decide +kernel) rfl), Or.inl rfl⟩⟩
theorem flX12_487 : zFl RX12 487 12 40 := ⟨_, _, _, rfl, by decide, Or.inl (zg6 192 (by decide +kernel) rfl)⟩
theorem fpX12_487 (nm : String) : zFp RX12 nm 487 12 40 := ⟨_, _, _, rfl, by decide, Or.inl ⟨(zg6 192 (by decide +kernel) rfl), Or.inl rfl⟩⟩
theorem flX12_490 : zFl RX12 490 12 41 := ⟨_, _, _, rfl, by decide, Or.inl (zg6 193 (by decide +kernel) rfl)⟩
theorem fpX12_490 (nm : String) : zFp RX12 nm 490 12 41 := ⟨_, _, _, rfl, by decide, Or.inl ⟨(zg6 193 (by decide +kernel) rfl), Or.inl rfl⟩⟩
theorem flX12_545 : zFl RX12 545 12 47 := ⟨_, _, _, rfl, by decide, Or.inl (zg6 199 (by decide +kernel) rfl)⟩
theorem fpX12_545 (nm : String) : zFp RX12 nm 545 12 47 := ⟨_, _, _, rfl, by decide, Or.inl ⟨(zg6 199 (by decide +kernel) rfl), Or.inl rfl⟩⟩
-- no words: J0_charAt_5068e ('java/lang/String', 'charAt', '(I)C')
theorem mbJ0_checkIndex_df160 : zMw0 zJ0_checkIndex_df160 2 ∧ Cond.static zJ0_checkIndex_df160.1 ∈ zgood := ⟨⟨(zg3 60 (by decide +kernel) rfl), (zg1 16 (by decide +kernel) rfl), ⟨by decide +kernel, by decide +kernel, by decide +kernel⟩, by decide⟩, (zg3 59 (by decide +kernel) rfl)⟩
-- no words: J0_coder_7d493 ('java/lang/String', 'coder', '()B')
-- no words: J0_isLatin1_aae02 ('java/lang/String', 'isLatin1', '()Z')
-- no words: J0_length_8abf5 ('java/lang/String', 'length', '()I')
theorem mbJ1_charAt_3b067 : zMw0 zJ1_charAt_3b067 2 ∧ Cond.static zJ1_charAt_3b067.1 ∈ zgood := ⟨⟨(zg3 57 (by decide +kernel) rfl), (zg1 17 (by decide +kernel) rfl), ⟨by decide +kernel, by decide +kernel, by decide +kernel⟩, by decide⟩, (zg3 56 (by decide +kernel) rfl)⟩
theorem mbJ2_charAt_3b067 : zMw0 zJ2_charAt_3b067 2 ∧ Cond.static zJ2_charAt_3b067.1 ∈ zgood := ⟨⟨(zg3 68 (by decide +kernel) rfl), (zg1 19 (by decide +kernel) rfl), ⟨by decide +kernel, by decide +kernel, by decide +kernel⟩, by decide⟩, (zg3 67 (by decide +kernel) rfl)⟩
theorem mbJ2_checkIndex_2214a : zMw0 zJ2_checkIndex_2214a 2 ∧ Cond.static zJ2_checkIndex_2214a.1 ∈ zgood := ⟨⟨(zg3 71 (by decide +kernel) rfl), (zg1 19 (by decide +kernel) rfl), ⟨by decide +kernel, by decide +kernel, by decide +kernel⟩, by decide⟩, (zg3 70 (by decide +kernel) rfl)⟩
theorem mbJ2_getChar_3b067 : zMw0 zJ2_getChar_3b067 2 ∧ Cond.static zJ2_getChar_3b067.1 ∈ zgood := ⟨⟨(zg3 78 (by decide +kernel) rfl), (zg1 19 (by decide +kernel) rfl), ⟨by decide +kernel, by decide +kernel, by decide +kernel⟩, by decide⟩, (zg3 77 (by decide +kernel) rfl)⟩
theorem mbJ2_length_9d52b : zMw0 zJ2_length_9d52b 1 ∧ Cond.static zJ2_length_9d52b.1 ∈ zgood := ⟨⟨(zg3 74 (by decide +kernel) rfl), (zg1 19 (by decide +kernel) rfl), ⟨by decide +kernel, by decide +kernel, by decide +kernel⟩, by decide⟩, (zg3 73 (by decide +kernel) rfl)⟩
theorem mbJ3_checkIndex_8e157 : zMw0 zJ3_checkIndex_8e157 3 ∧ Cond.static zJ3_checkIndex_8e157.1 ∈ zgood := ⟨⟨(zg3 65 (by decide +kernel) rfl), (zg1 18 (by decide +kernel) rfl), ⟨by decide +kernel, by decide +kernel, by decide +kernel⟩, by decide⟩, (zg3 64 (by decide +kernel) rfl)⟩
theorem mbJ6_bitCount_0f7a4 : zMw0 zJ6_bitCount_0f7a4 1 ∧ Cond.static zJ6_bitCount_0f7a4.1 ∈ zgood := ⟨⟨(zg3 148 (by decide +kernel) rfl), (zg1 20 (by decide +kernel) rfl), ⟨by decide +kernel, by decide +kernel, by decide +kernel⟩, by decide⟩, (zg3 147 (by decide +kernel) rfl)⟩
theorem mbJ7_fill_53178 : zMw0 zJ7_fill_53178 2 ∧ Cond.static zJ7_fill_53178.1 ∈ zgood := ⟨⟨(zg3 11 (by decide +kernel) rfl), (zg1 15 (by decide +kernel) rfl), ⟨by decide +kernel, by decide +kernel, by decide +kernel⟩, by decide⟩, (zg3 10 (by decide +kernel) rfl)⟩
theorem mbJ9_max_7cf53 : zMw0 zJ9_max_7cf53 2 ∧ Cond.static zJ9_max_7cf53.1 ∈ zgood := ⟨⟨(zg4 106 (by decide +kernel) rfl), (zg1 14 (by decide +kernel) rfl), ⟨by decide +kernel, by decide +kernel, by decide +kernel⟩, by decide⟩, (zg4 105 (by decide +kernel) rfl)⟩
theorem mbJ9_min_7cf53 : zMw0 zJ9_min_7cf53 2 ∧ Cond.static zJ9_min_7cf53.1 ∈ zgood := ⟨⟨(zg2 214 (by decide +kernel) rfl), (zg1 14 (by decide +kernel) rfl), ⟨by decide +kernel, by decide +kernel, by decide +kernel⟩, by decide⟩, (zg2 213 (by decide +kernel) rfl)⟩
theorem mbJ9_min_f86c9 : zMw0 zJ9_min_f86c9 2 ∧ Cond.static zJ9_min_f86c9.1 ∈ zgood := ⟨⟨(zg4 143 (by decide +kernel) rfl), (zg1 14 (by decide +kernel) rfl), ⟨by decide +kernel, by decide +kernel, by decide +kernel⟩, by decide⟩, (zg4 142 (by decide +kernel) rfl)⟩
theorem mbX0_build : zMw0 zX0_build 2 ∧ Cond.instanceMethod zX0_build.1 ∈ zgood ∧ Cond.selects zX0_build.1.cls zX0_build.1 zX0_build.1 ∈ zgood ∧ ∃ (T : u_T) (N : Nat), zcl[0]? = some (zX0_build.1.cls, T, N) := ⟨⟨(zg4 67 (by decide +kernel) rfl), (zg1 7 (by decide +kernel) rfl), ⟨by decide +kernel, by decide +kernel, by decide +kernel⟩, by decide⟩, (zg4 65 (by decide +kernel) rfl), (zg4 66 (by decide +kernel) rfl), _, _, rfl⟩
theorem mbX0_codeAt : zMw0 zX0_codeAt 2 ∧ Cond.instanceMethod zX0_codeAt.1 ∈ zgood ∧ Cond.selects zX0_codeAt.1.cls zX0_codeAt.1 zX0_codeAt.1 ∈ zgood ∧ ∃ (T : u_T) (N : Nat), zcl[0]? = some (zX0_codeAt.1.cls, T, N) := ⟨⟨(zg5 49 (by decide +kernel) rfl), (zg1 7 (by decide +kernel) rfl), ⟨by decide +kernel, by decide +kernel, by decide +kernel⟩, by decide⟩, (zg5 47 (by decide +kernel) rfl), (zg5 48 (by decide +kernel) rfl), _, _, rfl⟩
theorem mbX0_connectedPairings : zMw0 zX0_connectedPairings 0 ∧ Cond.instanceMethod zX0_connectedPairings.1 ∈ zgood ∧ Cond.selects zX0_connectedPairings.1.cls zX0_connectedPairings.1 zX0_connectedPairings.1 ∈ zgood ∧ ∃ (T : u_T) (N : Nat), zcl[0]? = some (zX0_connectedPairings.1.cls, T, N) := ⟨⟨(zg5 2 (by decide +kernel) rfl), (zg1 7 (by decide +kernel) rfl), ⟨by decide +kernel, by decide +kernel, by decide +kernel⟩, by decide⟩, (zg5 0 (by decide +kernel) rfl), (zg5 1 (by decide +kernel) rfl), _, _, rfl⟩
theorem mbX0_countWith : zMw0 zX0_countWith 2 ∧ Cond.instanceMethod zX0_countWith.1 ∈ zgood ∧ Cond.selects zX0_countWith.1.cls zX0_countWith.1 zX0_countWith.1 ∈ zgood ∧ ∃ (T : u_T) (N : Nat), zcl[0]? = some (zX0_countWith.1.cls, T, N) := ⟨⟨(zg5 30 (by decide +kernel) rfl), (zg1 7 (by decide +kernel) rfl), ⟨by decide +kernel, by decide +kernel, by decide +kernel⟩, by decide⟩, (zg5 28 (by decide +kernel) rfl), (zg5 29 (by decide +kernel) rfl), _, _, rfl⟩
theorem mbX0_diagramOf : zMw0 zX0_diagramOf 1 ∧ Cond.instanceMethod zX0_diagramOf.1 ∈ zgood ∧ Cond.selects zX0_diagramOf.1.cls zX0_diagramOf.1 zX0_diagramOf.1 ∈ zgood ∧ ∃ (T : u_T) (N : Nat), zcl[0]? = some (zX0_diagramOf.1.cls, T, N) := ⟨⟨(zg5 199 (by decide +kernel) rfl), (zg1 7 (by decide +kernel) rfl), ⟨by decide +kernel, by decide +kernel, by decide +kernel⟩, by decide⟩, (zg5 197 (by decide +kernel) rfl), (zg5 198 (by decide +kernel) rfl), _, _, rfl⟩
theorem mbX0_fact : zMw0 zX0_fact 2 ∧ Cond.instanceMethod zX0_fact.1 ∈ zgood ∧ Cond.selects zX0_fact.1.cls zX0_fact.1 zX0_fact.1 ∈ zgood ∧ ∃ (T : u_T) (N : Nat), zcl[0]? = some (zX0_fact.1.cls, T, N) := ⟨⟨(zg5 37 (by decide +kernel) rfl), (zg1 7 (by decide +kernel) rfl), ⟨by decide +kernel, by decide +kernel, by decide +kernel⟩, by decide⟩, (zg5 35 (by decide +kernel) rfl), (zg5 36 (by decide +kernel) rfl), _, _, rfl⟩
theorem mbX0_factFor : zMw0 zX0_factFor 1 ∧ Cond.static zX0_factFor.1 ∈ zgood := ⟨⟨(zg5 33 (by decide +kernel) rfl), (zg1 7 (by decide +kernel) rfl), ⟨by decide +kernel, by decide +kernel, by decide +kernel⟩, by decide⟩, (zg5 32 (by decide +kernel) rfl)⟩
theorem mbX0_find : zMw0 zX0_find 1 ∧ Cond.instanceMethod zX0_find.1 ∈ zgood ∧ Cond.selects zX0_find.1.cls zX0_find.1 zX0_find.1 ∈ zgood ∧ ∃ (T : u_T) (N : Nat), zcl[0]? = some (zX0_find.1.cls, T, N) := ⟨⟨(zg4 168 (by decide +kernel) rfl), (zg1 7 (by decide +kernel) rfl), ⟨by decide +kernel, by decide +kernel, by decide +kernel⟩, by decide⟩, (zg4 166 (by decide +kernel) rfl), (zg4 167 (by decide +kernel) rfl), _, _, rfl⟩
theorem mbX0_imageOf : zMw0 zX0_imageOf 2 ∧ Cond.instanceMethod zX0_imageOf.1 ∈ zgood ∧ Cond.selects zX0_imageOf.1.cls zX0_imageOf.1 zX0_imageOf.1 ∈ zgood ∧ ∃ (T : u_T) (N : Nat), zcl[0]? = some (zX0_imageOf.1.cls, T, N) := ⟨⟨(zg4 139 (by decide +kernel) rfl), (zg1 7 (by decide +kernel) rfl), ⟨by decide +kernel, by decide +kernel, by decide +kernel⟩, by decide⟩, (zg4 138 (by decide +kernel) rfl), (zg0 28 (by decide +kernel) rfl), _, _, rfl⟩
theorem mbX0_init : zMw0 zX0_init 0 ∧ zX0_init.1.name = "<init>" ∧ Cond.instanceMethod zX0_init.1 ∈ zgood ∧ zX0_init.2.2.2 = none := ⟨⟨(zg1 159 (by decide +kernel) rfl), (zg1 7 (by decide +kernel) rfl), ⟨by decide +kernel, by decide +kernel, by decide +kernel⟩, by decide⟩, rfl, (zg1 158 (by decide +kernel) rfl), rfl⟩
theorem mbX0_isLinked : zMw0 zX0_isLinked 1 ∧ Cond.instanceMethod zX0_isLinked.1 ∈ zgood ∧ Cond.selects zX0_isLinked.1.cls zX0_isLinked.1 zX0_isLinked.1 ∈ zgood ∧ ∃ (T : u_T) (N : Nat), zcl[0]? = some (zX0_isLinked.1.cls, T, N) := ⟨⟨(zg4 195 (by decide +kernel) rfl), (zg1 7 (by decide +kernel) rfl), ⟨by decide +kernel, by decide +kernel, by decide +kernel⟩, by decide⟩, (zg4 194 (by decide +kernel) rfl), (zg0 32 (by decide +kernel) rfl), _, _, rfl⟩
theorem mbX0_keyOf : zMw0 zX0_keyOf 2 ∧ Cond.static zX0_keyOf.1 ∈ zgood := ⟨⟨(zg4 122 (by decide +kernel) rfl), (zg1 7 (by decide +kernel) rfl), ⟨by decide +kernel, by decide +kernel, by decide +kernel⟩, by decide⟩, (zg4 121 (by decide +kernel) rfl)⟩
theorem mbX0_linkedDiagrams : zMw0 zX0_linkedDiagrams 0 ∧ Cond.instanceMethod zX0_linkedDiagrams.1 ∈ zgood ∧ Cond.selects zX0_linkedDiagrams.1.cls zX0_linkedDiagrams.1 zX0_linkedDiagrams.1 ∈ zgood ∧ ∃ (T : u_T) (N : Nat), zcl[0]? = some (zX0_linkedDiagrams.1.cls, T, N) := ⟨⟨(zg5 26 (by decide +kernel) rfl), (zg1 7 (by decide +kernel) rfl), ⟨by decide +kernel, by decide +kernel, by decide +kernel⟩, by decide⟩, (zg5 24 (by decide +kernel) rfl), (zg5 25 (by decide +kernel) rfl), _, _, rfl⟩
theorem mbX0_linkedPairings : zMw0 zX0_linkedPairings 0 ∧ Cond.instanceMethod zX0_linkedPairings.1 ∈ zgood ∧ Cond.selects zX0_linkedPairings.1.cls zX0_linkedPairings.1 zX0_linkedPairings.1 ∈ zgood ∧ ∃ (T : u_T) (N : Nat), zcl[0]? = some (zX0_linkedPairings.1.cls, T, N) := ⟨⟨(zg4 191 (by decide +kernel) rfl), (zg1 7 (by decide +kernel) rfl), ⟨by decide +kernel, by decide +kernel, by decide +kernel⟩, by decide⟩, (zg4 189 (by decide +kernel) rfl), (zg4 190 (by decide +kernel) rfl), _, _, rfl⟩
theorem mbX0_listChanges : zMw0 zX0_listChanges 4 ∧ Cond.instanceMethod zX0_listChanges.1 ∈ zgood ∧ Cond.selects zX0_listChanges.1.cls zX0_listChanges.1 zX0_listChanges.1 ∈ zgood ∧ ∃ (T : u_T) (N : Nat), zcl[0]? = some (zX0_listChanges.1.cls, T, N) := ⟨⟨(zg4 97 (by decide +kernel) rfl), (zg1 7 (by decide +kernel) rfl), ⟨by decide +kernel, by decide +kernel, by decide +kernel⟩, by decide⟩, (zg4 96 (by decide +kernel) rfl), (zg0 24 (by decide +kernel) rfl), _, _, rfl⟩
theorem mbX0_makeRoom : zMw0 zX0_makeRoom 1 ∧ Cond.instanceMethod zX0_makeRoom.1 ∈ zgood ∧ Cond.selects zX0_makeRoom.1.cls zX0_makeRoom.1 zX0_makeRoom.1 ∈ zgood ∧ ∃ (T : u_T) (N : Nat), zcl[0]? = some (zX0_makeRoom.1.cls, T, N) := ⟨⟨(zg4 72 (by decide +kernel) rfl), (zg1 7 (by decide +kernel) rfl), ⟨by decide +kernel, by decide +kernel, by decide +kernel⟩, by decide⟩, (zg4 71 (by decide +kernel) rfl), (zg0 23 (by decide +kernel) rfl), _, _, rfl⟩
theorem mbX0_nameOf : zMw0 zX0_nameOf 1 ∧ Cond.instanceMethod zX0_nameOf.1 ∈ zgood ∧ Cond.selects zX0_nameOf.1.cls zX0_nameOf.1 zX0_nameOf.1 ∈ zgood ∧ ∃ (T : u_T) (N : Nat), zcl[0]? = some (zX0_nameOf.1.cls, T, N) := ⟨⟨(zg5 53 (by decide +kernel) rfl), (zg1 7 (by decide +kernel) rfl), ⟨by decide +kernel, by decide +kernel, by decide +kernel⟩, by decide⟩, (zg5 51 (by decide +kernel) rfl), (zg5 52 (by decide +kernel) rfl), _, _, rfl⟩
theorem mbX0_open : zMw0 zX0_open 3 ∧ Cond.instanceMethod zX0_open.1 ∈ zgood ∧ Cond.selects zX0_open.1.cls zX0_open.1 zX0_open.1 ∈ zgood ∧ ∃ (T : u_T) (N : Nat), zcl[0]? = some (zX0_open.1.cls, T, N) := ⟨⟨(zg4 135 (by decide +kernel) rfl), (zg1 7 (by decide +kernel) rfl), ⟨by decide +kernel, by decide +kernel, by decide +kernel⟩, by decide⟩, (zg4 134 (by decide +kernel) rfl), (zg0 27 (by decide +kernel) rfl), _, _, rfl⟩
theorem mbX0_partsOf : zMw0 zX0_partsOf 1 ∧ Cond.instanceMethod zX0_partsOf.1 ∈ zgood ∧ Cond.selects zX0_partsOf.1.cls zX0_partsOf.1 zX0_partsOf.1 ∈ zgood ∧ ∃ (T : u_T) (N : Nat), zcl[0]? = some (zX0_partsOf.1.cls, T, N) := ⟨⟨(zg5 6 (by decide +kernel) rfl), (zg1 7 (by decide +kernel) rfl), ⟨by decide +kernel, by decide +kernel, by decide +kernel⟩, by decide⟩, (zg5 5 (by decide +kernel) rfl), (zg0 36 (by decide +kernel) rfl), _, _, rfl⟩
theorem mbX0_rowOf : zMw0 zX0_rowOf 3 ∧ Cond.instanceMethod zX0_rowOf.1 ∈ zgood ∧ Cond.selects zX0_rowOf.1.cls zX0_rowOf.1 zX0_rowOf.1 ∈ zgood ∧ ∃ (T : u_T) (N : Nat), zcl[0]? = some (zX0_rowOf.1.cls, T, N) := ⟨⟨(zg4 111 (by decide +kernel) rfl), (zg1 7 (by decide +kernel) rfl), ⟨by decide +kernel, by decide +kernel, by decide +kernel⟩, by decide⟩, (zg4 110 (by decide +kernel) rfl), (zg0 25 (by decide +kernel) rfl), _, _, rfl⟩
theorem mbX0_shapeOf : zMw0 zX0_shapeOf 1 ∧ Cond.instanceMethod zX0_shapeOf.1 ∈ zgood ∧ Cond.selects zX0_shapeOf.1.cls zX0_shapeOf.1 zX0_shapeOf.1 ∈ zgood ∧ ∃ (T : u_T) (N : Nat), zcl[0]? = some (zX0_shapeOf.1.cls, T, N) := ⟨⟨(zg4 199 (by decide +kernel) rfl), (zg1 7 (by decide +kernel) rfl), ⟨by decide +kernel, by decide +kernel, by decide +kernel⟩, by decide⟩, (zg4 198 (by decide +kernel) rfl), (zg0 33 (by decide +kernel) rfl), _, _, rfl⟩
theorem mbX0_sink : zMw0 zX0_sink 2 ∧ Cond.instanceMethod zX0_sink.1 ∈ zgood ∧ Cond.selects zX0_sink.1.cls zX0_sink.1 zX0_sink.1 ∈ zgood ∧ ∃ (T : u_T) (N : Nat), zcl[0]? = some (zX0_sink.1.cls, T, N) := ⟨⟨(zg4 159 (by decide +kernel) rfl), (zg1 7 (by decide +kernel) rfl), ⟨by decide +kernel, by decide +kernel, by decide +kernel⟩, by decide⟩, (zg4 158 (by decide +kernel) rfl), (zg0 30 (by decide +kernel) rfl), _, _, rfl⟩
theorem mbX0_sortByName : zMw0 zX0_sortByName 0 ∧ Cond.instanceMethod zX0_sortByName.1 ∈ zgood ∧ Cond.selects zX0_sortByName.1.cls zX0_sortByName.1 zX0_sortByName.1 ∈ zgood ∧ ∃ (T : u_T) (N : Nat), zcl[0]? = some (zX0_sortByName.1.cls, T, N) := ⟨⟨(zg4 155 (by decide +kernel) rfl), (zg1 7 (by decide +kernel) rfl), ⟨by decide +kernel, by decide +kernel, by decide +kernel⟩, by decide⟩, (zg4 154 (by decide +kernel) rfl), (zg0 29 (by decide +kernel) rfl), _, _, rfl⟩
theorem mbX0_symmetry : zMw0 zX0_symmetry 1 ∧ Cond.instanceMethod zX0_symmetry.1 ∈ zgood ∧ Cond.selects zX0_symmetry.1.cls zX0_symmetry.1 zX0_symmetry.1 ∈ zgood ∧ ∃ (T : u_T) (N : Nat), zcl[0]? = some (zX0_symmetry.1.cls, T, N) := ⟨⟨(zg5 41 (by decide +kernel) rfl), (zg1 7 (by decide +kernel) rfl), ⟨by decide +kernel, by decide +kernel, by decide +kernel⟩, by decide⟩, (zg5 40 (by decide +kernel) rfl), (zg0 37 (by decide +kernel) rfl), _, _, rfl⟩
theorem mbX0_thickest : zMw0 zX0_thickest 1 ∧ Cond.instanceMethod zX0_thickest.1 ∈ zgood ∧ Cond.selects zX0_thickest.1.cls zX0_thickest.1 zX0_thickest.1 ∈ zgood ∧ ∃ (T : u_T) (N : Nat), zcl[0]? = some (zX0_thickest.1.cls, T, N) := ⟨⟨(zg5 45 (by decide +kernel) rfl), (zg1 7 (by decide +kernel) rfl), ⟨by decide +kernel, by decide +kernel, by decide +kernel⟩, by decide⟩, (zg5 44 (by decide +kernel) rfl), (zg0 38 (by decide +kernel) rfl), _, _, rfl⟩
theorem mbX10_fill : zMw0 zX10_fill 1 ∧ Cond.instanceMethod zX10_fill.1 ∈ zgood ∧ Cond.selects zX10_fill.1.cls zX10_fill.1 zX10_fill.1 ∈ zgood ∧ ∃ (T : u_T) (N : Nat), zcl[10]? = some (zX10_fill.1.cls, T, N) := ⟨⟨(zg3 232 (by decide +kernel) rfl), (zg1 5 (by decide +kernel) rfl), ⟨by decide +kernel, by decide +kernel, by decide +kernel⟩, by decide⟩, (zg3 230 (by decide +kernel) rfl), (zg3 231 (by decide +kernel) rfl), _, _, rfl⟩
theorem mbX10_init : zMw0 zX10_init 0 ∧ zX10_init.1.name = "<init>" ∧ Cond.instanceMethod zX10_init.1 ∈ zgood ∧ zX10_init.2.2.2 = none := ⟨⟨(zg1 108 (by decide +kernel) rfl), (zg1 5 (by decide +kernel) rfl), ⟨by decide +kernel, by decide +kernel, by decide +kernel⟩, by decide⟩, rfl, (zg1 107 (by decide +kernel) rfl), rfl⟩
theorem mbX10_of : zMw0 zX10_of 1 ∧ Cond.instanceMethod zX10_of.1 ∈ zgood ∧ Cond.selects zX10_of.1.cls zX10_of.1 zX10_of.1 ∈ zgood ∧ ∃ (T : u_T) (N : Nat), zcl[10]? = some (zX10_of.1.cls, T, N) := ⟨⟨(zg4 5 (by decide +kernel) rfl), (zg1 5 (by decide +kernel) rfl), ⟨by decide +kernel, by decide +kernel, by decide +kernel⟩, by decide⟩, (zg4 3 (by decide +kernel) rfl), (zg4 4 (by decide +kernel) rfl), _, _, rfl⟩
theorem mbX10_withLines : zMw0 zX10_withLines 1 ∧ Cond.instanceMethod zX10_withLines.1 ∈ zgood ∧ Cond.selects zX10_withLines.1.cls zX10_withLines.1 zX10_withLines.1 ∈ zgood ∧ ∃ (T : u_T) (N : Nat), zcl[10]? = some (zX10_withLines.1.cls, T, N) := ⟨⟨(zg5 236 (by decide +kernel) rfl), (zg1 5 (by decide +kernel) rfl), ⟨by decide +kernel, by decide +kernel, by decide +kernel⟩, by decide⟩, (zg5 234 (by decide +kernel) rfl), (zg5 235 (by decide +kernel) rfl), _, _, rfl⟩
theorem mbX11_answer : zMw0 zX11_answer 1 ∧ Cond.instanceMethod zX11_answer.1 ∈ zgood ∧ Cond.selects zX11_answer.1.cls zX11_answer.1 zX11_answer.1 ∈ zgood ∧ ∃ (T : u_T) (N : Nat), zcl[11]? = some (zX11_answer.1.cls, T, N) := ⟨⟨(zg3 188 (by decide +kernel) rfl), (zg1 1 (by decide +kernel) rfl), ⟨by decide +kernel, by decide +kernel, by decide +kernel⟩, by decide⟩, (zg3 187 (by decide +kernel) rfl), (zg0 13 (by decide +kernel) rfl), _, _, rfl⟩
theorem mbX11_by : zMw0 zX11_by 2 ∧ Cond.instanceMethod zX11_by.1 ∈ zgood ∧ Cond.selects zX11_by.1.cls zX11_by.1 zX11_by.1 ∈ zgood ∧ ∃ (T : u_T) (N : Nat), zcl[11]? = some (zX11_by.1.cls, T, N) := ⟨⟨(zg5 224 (by decide +kernel) rfl), (zg1 1 (by decide +kernel) rfl), ⟨by decide +kernel, by decide +kernel, by decide +kernel⟩, by decide⟩, (zg5 222 (by decide +kernel) rfl), (zg5 223 (by decide +kernel) rfl), _, _, rfl⟩
theorem mbX11_code : zMw0 zX11_code 2 ∧ Cond.instanceMethod zX11_code.1 ∈ zgood ∧ Cond.selects zX11_code.1.cls zX11_code.1 zX11_code.1 ∈ zgood ∧ ∃ (T : u_T) (N : Nat), zcl[11]? = some (zX11_code.1.cls, T, N) := ⟨⟨(zg5 94 (by decide +kernel) rfl), (zg1 1 (by decide +kernel) rfl), ⟨by decide +kernel, by decide +kernel, by decide +kernel⟩, by decide⟩, (zg5 92 (by decide +kernel) rfl), (zg5 93 (by decide +kernel) rfl), _, _, rfl⟩
theorem mbX11_copy : zMw0 zX11_copy 1 ∧ Cond.instanceMethod zX11_copy.1 ∈ zgood ∧ Cond.selects zX11_copy.1.cls zX11_copy.1 zX11_copy.1 ∈ zgood ∧ ∃ (T : u_T) (N : Nat), zcl[11]? = some (zX11_copy.1.cls, T, N) := ⟨⟨(zg5 134 (by decide +kernel) rfl), (zg1 1 (by decide +kernel) rfl), ⟨by decide +kernel, by decide +kernel, by decide +kernel⟩, by decide⟩, (zg5 132 (by decide +kernel) rfl), (zg5 133 (by decide +kernel) rfl), _, _, rfl⟩
theorem mbX11_core : zMw0 zX11_core 2 ∧ Cond.instanceMethod zX11_core.1 ∈ zgood ∧ Cond.selects zX11_core.1.cls zX11_core.1 zX11_core.1 ∈ zgood ∧ ∃ (T : u_T) (N : Nat), zcl[11]? = some (zX11_core.1.cls, T, N) := ⟨⟨(zg6 128 (by decide +kernel) rfl), (zg1 1 (by decide +kernel) rfl), ⟨by decide +kernel, by decide +kernel, by decide +kernel⟩, by decide⟩, (zg6 126 (by decide +kernel) rfl), (zg6 127 (by decide +kernel) rfl), _, _, rfl⟩
theorem mbX11_countHanging : zMw0 zX11_countHanging 3 ∧ Cond.instanceMethod zX11_countHanging.1 ∈ zgood ∧ Cond.selects zX11_countHanging.1.cls zX11_countHanging.1 zX11_countHanging.1 ∈ zgood ∧ ∃ (T : u_T) (N : Nat), zcl[11]? = some (zX11_countHanging.1.cls, T, N) := ⟨⟨(zg6 14 (by decide +kernel) rfl), (zg1 1 (by decide +kernel) rfl), ⟨by decide +kernel, by decide +kernel, by decide +kernel⟩, by decide⟩, (zg6 13 (by decide +kernel) rfl), (zg0 43 (by decide +kernel) rfl), _, _, rfl⟩
theorem mbX11_diagram : zMw0 zX11_diagram 2 ∧ Cond.instanceMethod zX11_diagram.1 ∈ zgood ∧ Cond.selects zX11_diagram.1.cls zX11_diagram.1 zX11_diagram.1 ∈ zgood ∧ ∃ (T : u_T) (N : Nat), zcl[11]? = some (zX11_diagram.1.cls, T, N) := ⟨⟨(zg6 35 (by decide +kernel) rfl), (zg1 1 (by decide +kernel) rfl), ⟨by decide +kernel, by decide +kernel, by decide +kernel⟩, by decide⟩, (zg6 33 (by decide +kernel) rfl), (zg6 34 (by decide +kernel) rfl), _, _, rfl⟩
theorem mbX11_diagrams : zMw0 zX11_diagrams 2 ∧ Cond.instanceMethod zX11_diagrams.1 ∈ zgood ∧ Cond.selects zX11_diagrams.1.cls zX11_diagrams.1 zX11_diagrams.1 ∈ zgood ∧ ∃ (T : u_T) (N : Nat), zcl[11]? = some (zX11_diagrams.1.cls, T, N) := ⟨⟨(zg6 87 (by decide +kernel) rfl), (zg1 1 (by decide +kernel) rfl), ⟨by decide +kernel, by decide +kernel, by decide +kernel⟩, by decide⟩, (zg6 85 (by decide +kernel) rfl), (zg6 86 (by decide +kernel) rfl), _, _, rfl⟩
theorem mbX11_drawPairing : zMw0 zX11_drawPairing 3 ∧ Cond.instanceMethod zX11_drawPairing.1 ∈ zgood ∧ Cond.selects zX11_drawPairing.1.cls zX11_drawPairing.1 zX11_drawPairing.1 ∈ zgood ∧ ∃ (T : u_T) (N : Nat), zcl[11]? = some (zX11_drawPairing.1.cls, T, N) := ⟨⟨(zg6 19 (by decide +kernel) rfl), (zg1 1 (by decide +kernel) rfl), ⟨by decide +kernel, by decide +kernel, by decide +kernel⟩, by decide⟩, (zg6 18 (by decide +kernel) rfl), (zg0 44 (by decide +kernel) rfl), _, _, rfl⟩
theorem mbX11_drop : zMw0 zX11_drop 1 ∧ Cond.instanceMethod zX11_drop.1 ∈ zgood ∧ Cond.selects zX11_drop.1.cls zX11_drop.1 zX11_drop.1 ∈ zgood ∧ ∃ (T : u_T) (N : Nat), zcl[11]? = some (zX11_drop.1.cls, T, N) := ⟨⟨(zg5 100 (by decide +kernel) rfl), (zg1 1 (by decide +kernel) rfl), ⟨by decide +kernel, by decide +kernel, by decide +kernel⟩, by decide⟩, (zg5 98 (by decide +kernel) rfl), (zg5 99 (by decide +kernel) rfl), _, _, rfl⟩
theorem mbX11_far : zMw0 zX11_far 3 ∧ Cond.instanceMethod zX11_far.1 ∈ zgood ∧ Cond.selects zX11_far.1.cls zX11_far.1 zX11_far.1 ∈ zgood ∧ ∃ (T : u_T) (N : Nat), zcl[11]? = some (zX11_far.1.cls, T, N) := ⟨⟨(zg6 59 (by decide +kernel) rfl), (zg1 1 (by decide +kernel) rfl), ⟨by decide +kernel, by decide +kernel, by decide +kernel⟩, by decide⟩, (zg6 57 (by decide +kernel) rfl), (zg6 58 (by decide +kernel) rfl), _, _, rfl⟩
theorem mbX11_fault : zMw0 zX11_fault 1 ∧ Cond.instanceMethod zX11_fault.1 ∈ zgood ∧ Cond.selects zX11_fault.1.cls zX11_fault.1 zX11_fault.1 ∈ zgood ∧ ∃ (T : u_T) (N : Nat), zcl[11]? = some (zX11_fault.1.cls, T, N) := ⟨⟨(zg4 172 (by decide +kernel) rfl), (zg1 1 (by decide +kernel) rfl), ⟨by decide +kernel, by decide +kernel, by decide +kernel⟩, by decide⟩, (zg4 170 (by decide +kernel) rfl), (zg4 171 (by decide +kernel) rfl), _, _, rfl⟩
theorem mbX11_feed : zMw0 zX11_feed 5 ∧ Cond.instanceMethod zX11_feed.1 ∈ zgood ∧ Cond.selects zX11_feed.1.cls zX11_feed.1 zX11_feed.1 ∈ zgood ∧ ∃ (T : u_T) (N : Nat), zcl[11]? = some (zX11_feed.1.cls, T, N) := ⟨⟨(zg2 191 (by decide +kernel) rfl), (zg1 1 (by decide +kernel) rfl), ⟨by decide +kernel, by decide +kernel, by decide +kernel⟩, by decide⟩, (zg2 189 (by decide +kernel) rfl), (zg2 190 (by decide +kernel) rfl), _, _, rfl⟩
theorem mbX11_field : zMw0 zX11_field 2 ∧ Cond.instanceMethod zX11_field.1 ∈ zgood ∧ Cond.selects zX11_field.1.cls zX11_field.1 zX11_field.1 ∈ zgood ∧ ∃ (T : u_T) (N : Nat), zcl[11]? = some (zX11_field.1.cls, T, N) := ⟨⟨(zg5 70 (by decide +kernel) rfl), (zg1 1 (by decide +kernel) rfl), ⟨by decide +kernel, by decide +kernel, by decide +kernel⟩, by decide⟩, (zg5 68 (by decide +kernel) rfl), (zg5 69 (by decide +kernel) rfl), _, _, rfl⟩
theorem mbX11_forgetAll : zMw0 zX11_forgetAll 0 ∧ Cond.instanceMethod zX11_forgetAll.1 ∈ zgood ∧ Cond.selects zX11_forgetAll.1.cls zX11_forgetAll.1 zX11_forgetAll.1 ∈ zgood ∧ ∃ (T : u_T) (N : Nat), zcl[11]? = some (zX11_forgetAll.1.cls, T, N) := ⟨⟨(zg3 184 (by decide +kernel) rfl), (zg1 1 (by decide +kernel) rfl), ⟨by decide +kernel, by decide +kernel, by decide +kernel⟩, by decide⟩, (zg3 183 (by decide +kernel) rfl), (zg0 12 (by decide +kernel) rfl), _, _, rfl⟩
theorem mbX11_graphOf : zMw0 zX11_graphOf 1 ∧ Cond.instanceMethod zX11_graphOf.1 ∈ zgood ∧ Cond.selects zX11_graphOf.1.cls zX11_graphOf.1 zX11_graphOf.1 ∈ zgood ∧ ∃ (T : u_T) (N : Nat), zcl[11]? = some (zX11_graphOf.1.cls, T, N) := ⟨⟨(zg6 53 (by decide +kernel) rfl), (zg1 1 (by decide +kernel) rfl), ⟨by decide +kernel, by decide +kernel, by decide +kernel⟩, by decide⟩, (zg6 52 (by decide +kernel) rfl), (zg0 47 (by decide +kernel) rfl), _, _, rfl⟩
theorem mbX11_hasDiagram : zMw0 zX11_hasDiagram 1 ∧ Cond.instanceMethod zX11_hasDiagram.1 ∈ zgood ∧ Cond.selects zX11_hasDiagram.1.cls zX11_hasDiagram.1 zX11_hasDiagram.1 ∈ zgood ∧ ∃ (T : u_T) (N : Nat), zcl[11]? = some (zX11_hasDiagram.1.cls, T, N) := ⟨⟨(zg6 39 (by decide +kernel) rfl), (zg1 1 (by decide +kernel) rfl), ⟨by decide +kernel, by decide +kernel, by decide +kernel⟩, by decide⟩, (zg6 38 (by decide +kernel) rfl), (zg0 46 (by decide +kernel) rfl), _, _, rfl⟩
theorem mbX11_hasPairing : zMw0 zX11_hasPairing 1 ∧ Cond.instanceMethod zX11_hasPairing.1 ∈ zgood ∧ Cond.selects zX11_hasPairing.1.cls zX11_hasPairing.1 zX11_hasPairing.1 ∈ zgood ∧ ∃ (T : u_T) (N : Nat), zcl[11]? = some (zX11_hasPairing.1.cls, T, N) := ⟨⟨(zg5 174 (by decide +kernel) rfl), (zg1 1 (by decide +kernel) rfl), ⟨by decide +kernel, by decide +kernel, by decide +kernel⟩, by decide⟩, (zg5 173 (by decide +kernel) rfl), (zg0 39 (by decide +kernel) rfl), _, _, rfl⟩
theorem mbX11_holds : zMw0 zX11_holds 1 ∧ Cond.instanceMethod zX11_holds.1 ∈ zgood ∧ Cond.selects zX11_holds.1.cls zX11_holds.1 zX11_holds.1 ∈ zgood ∧ ∃ (T : u_T) (N : Nat), zcl[11]? = some (zX11_holds.1.cls, T, N) := ⟨⟨(zg6 67 (by decide +kernel) rfl), (zg1 1 (by decide +kernel) rfl), ⟨by decide +kernel, by decide +kernel, by decide +kernel⟩, by decide⟩, (zg6 65 (by decide +kernel) rfl), (zg6 66 (by decide +kernel) rfl), _, _, rfl⟩
theorem mbX11_init : zMw0 zX11_init 0 ∧ zX11_init.1.name = "<init>" ∧ Cond.instanceMethod zX11_init.1 ∈ zgood ∧ zX11_init.2.2.2 = none := ⟨⟨(zg1 25 (by decide +kernel) rfl), (zg1 1 (by decide +kernel) rfl), ⟨by decide +kernel, by decide +kernel, by decide +kernel⟩, by decide⟩, rfl, (zg1 24 (by decide +kernel) rfl), rfl⟩
theorem mbX11_isOnTape : zMw0 zX11_isOnTape 1 ∧ Cond.instanceMethod zX11_isOnTape.1 ∈ zgood ∧ Cond.selects zX11_isOnTape.1.cls zX11_isOnTape.1 zX11_isOnTape.1 ∈ zgood ∧ ∃ (T : u_T) (N : Nat), zcl[11]? = some (zX11_isOnTape.1.cls, T, N) := ⟨⟨(zg2 203 (by decide +kernel) rfl), (zg1 1 (by decide +kernel) rfl), ⟨by decide +kernel, by decide +kernel, by decide +kernel⟩, by decide⟩, (zg2 202 (by decide +kernel) rfl), (zg0 0 (by decide +kernel) rfl), _, _, rfl⟩
theorem mbX11_knownDiagrams : zMw0 zX11_knownDiagrams 0 ∧ Cond.instanceMethod zX11_knownDiagrams.1 ∈ zgood ∧ Cond.selects zX11_knownDiagrams.1.cls zX11_knownDiagrams.1 zX11_knownDiagrams.1 ∈ zgood ∧ ∃ (T : u_T) (N : Nat), zcl[11]? = some (zX11_knownDiagrams.1.cls, T, N) := ⟨⟨(zg4 63 (by decide +kernel) rfl), (zg1 1 (by decide +kernel) rfl), ⟨by decide +kernel, by decide +kernel, by decide +kernel⟩, by decide⟩, (zg4 62 (by decide +kernel) rfl), (zg0 22 (by decide +kernel) rfl), _, _, rfl⟩
theorem mbX11_knownPairings : zMw0 zX11_knownPairings 0 ∧ Cond.instanceMethod zX11_knownPairings.1 ∈ zgood ∧ Cond.selects zX11_knownPairings.1.cls zX11_knownPairings.1 zX11_knownPairings.1 ∈ zgood ∧ ∃ (T : u_T) (N : Nat), zcl[11]? = some (zX11_knownPairings.1.cls, T, N) := ⟨⟨(zg3 224 (by decide +kernel) rfl), (zg1 1 (by decide +kernel) rfl), ⟨by decide +kernel, by decide +kernel, by decide +kernel⟩, by decide⟩, (zg3 223 (by decide +kernel) rfl), (zg0 16 (by decide +kernel) rfl), _, _, rfl⟩
theorem mbX11_knownRounds : zMw0 zX11_knownRounds 0 ∧ Cond.instanceMethod zX11_knownRounds.1 ∈ zgood ∧ Cond.selects zX11_knownRounds.1.cls zX11_knownRounds.1 zX11_knownRounds.1 ∈ zgood ∧ ∃ (T : u_T) (N : Nat), zcl[11]? = some (zX11_knownRounds.1.cls, T, N) := ⟨⟨(zg5 185 (by decide +kernel) rfl), (zg1 1 (by decide +kernel) rfl), ⟨by decide +kernel, by decide +kernel, by decide +kernel⟩, by decide⟩, (zg5 184 (by decide +kernel) rfl), (zg0 40 (by decide +kernel) rfl), _, _, rfl⟩
theorem mbX11_knownWays : zMw0 zX11_knownWays 0 ∧ Cond.instanceMethod zX11_knownWays.1 ∈ zgood ∧ Cond.selects zX11_knownWays.1.cls zX11_knownWays.1 zX11_knownWays.1 ∈ zgood ∧ ∃ (T : u_T) (N : Nat), zcl[11]? = some (zX11_knownWays.1.cls, T, N) := ⟨⟨(zg3 228 (by decide +kernel) rfl), (zg1 1 (by decide +kernel) rfl), ⟨by decide +kernel, by decide +kernel, by decide +kernel⟩, by decide⟩, (zg3 227 (by decide +kernel) rfl), (zg0 17 (by decide +kernel) rfl), _, _, rfl⟩
theorem mbX11_leastOf : zMw0 zX11_leastOf 1 ∧ Cond.static zX11_leastOf.1 ∈ zgood := ⟨⟨(zg3 236 (by decide +kernel) rfl), (zg1 1 (by decide +kernel) rfl), ⟨by decide +kernel, by decide +kernel, by decide +kernel⟩, by decide⟩, (zg3 235 (by decide +kernel) rfl)⟩
theorem mbX11_letter : zMw0 zX11_letter 2 ∧ Cond.instanceMethod zX11_letter.1 ∈ zgood ∧ Cond.selects zX11_letter.1.cls zX11_letter.1 zX11_letter.1 ∈ zgood ∧ ∃ (T : u_T) (N : Nat), zcl[11]? = some (zX11_letter.1.cls, T, N) := ⟨⟨(zg5 58 (by decide +kernel) rfl), (zg1 1 (by decide +kernel) rfl), ⟨by decide +kernel, by decide +kernel, by decide +kernel⟩, by decide⟩, (zg5 56 (by decide +kernel) rfl), (zg5 57 (by decide +kernel) rfl), _, _, rfl⟩
theorem mbX11_lines : zMw0 zX11_lines 1 ∧ Cond.instanceMethod zX11_lines.1 ∈ zgood ∧ Cond.selects zX11_lines.1.cls zX11_lines.1 zX11_lines.1 ∈ zgood ∧ ∃ (T : u_T) (N : Nat), zcl[11]? = some (zX11_lines.1.cls, T, N) := ⟨⟨(zg4 31 (by decide +kernel) rfl), (zg1 1 (by decide +kernel) rfl), ⟨by decide +kernel, by decide +kernel, by decide +kernel⟩, by decide⟩, (zg4 29 (by decide +kernel) rfl), (zg4 30 (by decide +kernel) rfl), _, _, rfl⟩
theorem mbX11_load : zMw0 zX11_load 1 ∧ Cond.instanceMethod zX11_load.1 ∈ zgood ∧ Cond.selects zX11_load.1.cls zX11_load.1 zX11_load.1 ∈ zgood ∧ ∃ (T : u_T) (N : Nat), zcl[11]? = some (zX11_load.1.cls, T, N) := ⟨⟨(zg2 199 (by decide +kernel) rfl), (zg1 1 (by decide +kernel) rfl), ⟨by decide +kernel, by decide +kernel, by decide +kernel⟩, by decide⟩, (zg2 197 (by decide +kernel) rfl), (zg2 198 (by decide +kernel) rfl), _, _, rfl⟩
theorem mbX11_many : zMw0 zX11_many 1 ∧ Cond.instanceMethod zX11_many.1 ∈ zgood ∧ Cond.selects zX11_many.1.cls zX11_many.1 zX11_many.1 ∈ zgood ∧ ∃ (T : u_T) (N : Nat), zcl[11]? = some (zX11_many.1.cls, T, N) := ⟨⟨(zg4 176 (by decide +kernel) rfl), (zg1 1 (by decide +kernel) rfl), ⟨by decide +kernel, by decide +kernel, by decide +kernel⟩, by decide⟩, (zg4 174 (by decide +kernel) rfl), (zg4 175 (by decide +kernel) rfl), _, _, rfl⟩
theorem mbX11_mate : zMw0 zX11_mate 2 ∧ Cond.instanceMethod zX11_mate.1 ∈ zgood ∧ Cond.selects zX11_mate.1.cls zX11_mate.1 zX11_mate.1 ∈ zgood ∧ ∃ (T : u_T) (N : Nat), zcl[11]? = some (zX11_mate.1.cls, T, N) := ⟨⟨(zg5 170 (by decide +kernel) rfl), (zg1 1 (by decide +kernel) rfl), ⟨by decide +kernel, by decide +kernel, by decide +kernel⟩, by decide⟩, (zg5 168 (by decide +kernel) rfl), (zg5 169 (by decide +kernel) rfl), _, _, rfl⟩
theorem mbX11_move : zMw0 zX11_move 2 ∧ Cond.instanceMethod zX11_move.1 ∈ zgood ∧ Cond.selects zX11_move.1.cls zX11_move.1 zX11_move.1 ∈ zgood ∧ ∃ (T : u_T) (N : Nat), zcl[11]? = some (zX11_move.1.cls, T, N) := ⟨⟨(zg5 112 (by decide +kernel) rfl), (zg1 1 (by decide +kernel) rfl), ⟨by decide +kernel, by decide +kernel, by decide +kernel⟩, by decide⟩, (zg5 110 (by decide +kernel) rfl), (zg5 111 (by decide +kernel) rfl), _, _, rfl⟩
theorem mbX11_name : zMw0 zX11_name 2 ∧ Cond.instanceMethod zX11_name.1 ∈ zgood ∧ Cond.selects zX11_name.1.cls zX11_name.1 zX11_name.1 ∈ zgood ∧ ∃ (T : u_T) (N : Nat), zcl[11]? = some (zX11_name.1.cls, T, N) := ⟨⟨(zg6 44 (by decide +kernel) rfl), (zg1 1 (by decide +kernel) rfl), ⟨by decide +kernel, by decide +kernel, by decide +kernel⟩, by decide⟩, (zg6 42 (by decide +kernel) rfl), (zg6 43 (by decide +kernel) rfl), _, _, rfl⟩
theorem mbX11_normal : zMw0 zX11_normal 2 ∧ Cond.instanceMethod zX11_normal.1 ∈ zgood ∧ Cond.selects zX11_normal.1.cls zX11_normal.1 zX11_normal.1 ∈ zgood ∧ ∃ (T : u_T) (N : Nat), zcl[11]? = some (zX11_normal.1.cls, T, N) := ⟨⟨(zg5 126 (by decide +kernel) rfl), (zg1 1 (by decide +kernel) rfl), ⟨by decide +kernel, by decide +kernel, by decide +kernel⟩, by decide⟩, (zg5 124 (by decide +kernel) rfl), (zg5 125 (by decide +kernel) rfl), _, _, rfl⟩
theorem mbX11_ofDiagram : zMw0 zX11_ofDiagram 3 ∧ Cond.instanceMethod zX11_ofDiagram.1 ∈ zgood ∧ Cond.selects zX11_ofDiagram.1.cls zX11_ofDiagram.1 zX11_ofDiagram.1 ∈ zgood ∧ ∃ (T : u_T) (N : Nat), zcl[11]? = some (zX11_ofDiagram.1.cls, T, N) := ⟨⟨(zg6 79 (by decide +kernel) rfl), (zg1 1 (by decide +kernel) rfl), ⟨by decide +kernel, by decide +kernel, by decide +kernel⟩, by decide⟩, (zg6 77 (by decide +kernel) rfl), (zg6 78 (by decide +kernel) rfl), _, _, rfl⟩
theorem mbX11_out : zMw0 zX11_out 1 ∧ Cond.instanceMethod zX11_out.1 ∈ zgood ∧ Cond.selects zX11_out.1.cls zX11_out.1 zX11_out.1 ∈ zgood ∧ ∃ (T : u_T) (N : Nat), zcl[11]? = some (zX11_out.1.cls, T, N) := ⟨⟨(zg6 124 (by decide +kernel) rfl), (zg1 1 (by decide +kernel) rfl), ⟨by decide +kernel, by decide +kernel, by decide +kernel⟩, by decide⟩, (zg6 122 (by decide +kernel) rfl), (zg6 123 (by decide +kernel) rfl), _, _, rfl⟩
theorem mbX11_overlay : zMw0 zX11_overlay 3 ∧ Cond.instanceMethod zX11_overlay.1 ∈ zgood ∧ Cond.selects zX11_overlay.1.cls zX11_overlay.1 zX11_overlay.1 ∈ zgood ∧ ∃ (T : u_T) (N : Nat), zcl[11]? = some (zX11_overlay.1.cls, T, N) := ⟨⟨(zg5 212 (by decide +kernel) rfl), (zg1 1 (by decide +kernel) rfl), ⟨by decide +kernel, by decide +kernel, by decide +kernel⟩, by decide⟩, (zg5 210 (by decide +kernel) rfl), (zg5 211 (by decide +kernel) rfl), _, _, rfl⟩
theorem mbX11_pairing : zMw0 zX11_pairing 2 ∧ Cond.instanceMethod zX11_pairing.1 ∈ zgood ∧ Cond.selects zX11_pairing.1.cls zX11_pairing.1 zX11_pairing.1 ∈ zgood ∧ ∃ (T : u_T) (N : Nat), zcl[11]? = some (zX11_pairing.1.cls, T, N) := ⟨⟨(zg5 179 (by decide +kernel) rfl), (zg1 1 (by decide +kernel) rfl), ⟨by decide +kernel, by decide +kernel, by decide +kernel⟩, by decide⟩, (zg5 177 (by decide +kernel) rfl), (zg5 178 (by decide +kernel) rfl), _, _, rfl⟩
theorem mbX11_pairingCount : zMw0 zX11_pairingCount 0 ∧ Cond.instanceMethod zX11_pairingCount.1 ∈ zgood ∧ Cond.selects zX11_pairingCount.1.cls zX11_pairingCount.1 zX11_pairingCount.1 ∈ zgood ∧ ∃ (T : u_T) (N : Nat), zcl[11]? = some (zX11_pairingCount.1.cls, T, N) := ⟨⟨(zg4 181 (by decide +kernel) rfl), (zg1 1 (by decide +kernel) rfl), ⟨by decide +kernel, by decide +kernel, by decide +kernel⟩, by decide⟩, (zg4 180 (by decide +kernel) rfl), (zg0 31 (by decide +kernel) rfl), _, _, rfl⟩
theorem mbX11_pairingsOf : zMw0 zX11_pairingsOf 1 ∧ Cond.instanceMethod zX11_pairingsOf.1 ∈ zgood ∧ Cond.selects zX11_pairingsOf.1.cls zX11_pairingsOf.1 zX11_pairingsOf.1 ∈ zgood ∧ ∃ (T : u_T) (N : Nat), zcl[11]? = some (zX11_pairingsOf.1.cls, T, N) := ⟨⟨(zg6 10 (by decide +kernel) rfl), (zg1 1 (by decide +kernel) rfl), ⟨by decide +kernel, by decide +kernel, by decide +kernel⟩, by decide⟩, (zg6 9 (by decide +kernel) rfl), (zg0 42 (by decide +kernel) rfl), _, _, rfl⟩
theorem mbX11_pairs : zMw0 zX11_pairs 1 ∧ Cond.instanceMethod zX11_pairs.1 ∈ zgood ∧ Cond.selects zX11_pairs.1.cls zX11_pairs.1 zX11_pairs.1 ∈ zgood ∧ ∃ (T : u_T) (N : Nat), zcl[11]? = some (zX11_pairs.1.cls, T, N) := ⟨⟨(zg3 193 (by decide +kernel) rfl), (zg1 1 (by decide +kernel) rfl), ⟨by decide +kernel, by decide +kernel, by decide +kernel⟩, by decide⟩, (zg3 191 (by decide +kernel) rfl), (zg3 192 (by decide +kernel) rfl), _, _, rfl⟩
theorem mbX11_part : zMw0 zX11_part 2 ∧ Cond.instanceMethod zX11_part.1 ∈ zgood ∧ Cond.selects zX11_part.1.cls zX11_part.1 zX11_part.1 ∈ zgood ∧ ∃ (T : u_T) (N : Nat), zcl[11]? = some (zX11_part.1.cls, T, N) := ⟨⟨(zg6 49 (by decide +kernel) rfl), (zg1 1 (by decide +kernel) rfl), ⟨by decide +kernel, by decide +kernel, by decide +kernel⟩, by decide⟩, (zg6 47 (by decide +kernel) rfl), (zg6 48 (by decide +kernel) rfl), _, _, rfl⟩
theorem mbX11_partial : zMw0 zX11_partial 1 ∧ Cond.instanceMethod zX11_partial.1 ∈ zgood ∧ Cond.selects zX11_partial.1.cls zX11_partial.1 zX11_partial.1 ∈ zgood ∧ ∃ (T : u_T) (N : Nat), zcl[11]? = some (zX11_partial.1.cls, T, N) := ⟨⟨(zg5 232 (by decide +kernel) rfl), (zg1 1 (by decide +kernel) rfl), ⟨by decide +kernel, by decide +kernel, by decide +kernel⟩, by decide⟩, (zg5 230 (by decide +kernel) rfl), (zg5 231 (by decide +kernel) rfl), _, _, rfl⟩
theorem mbX11_point : zMw0 zX11_point 2 ∧ Cond.instanceMethod zX11_point.1 ∈ zgood ∧ Cond.selects zX11_point.1.cls zX11_point.1 zX11_point.1 ∈ zgood ∧ ∃ (T : u_T) (N : Nat), zcl[11]? = some (zX11_point.1.cls, T, N) := ⟨⟨(zg5 78 (by decide +kernel) rfl), (zg1 1 (by decide +kernel) rfl), ⟨by decide +kernel, by decide +kernel, by decide +kernel⟩, by decide⟩, (zg5 76 (by decide +kernel) rfl), (zg5 77 (by decide +kernel) rfl), _, _, rfl⟩
theorem mbX11_print : zMw0 zX11_print 1 ∧ Cond.instanceMethod zX11_print.1 ∈ zgood ∧ Cond.selects zX11_print.1.cls zX11_print.1 zX11_print.1 ∈ zgood ∧ ∃ (T : u_T) (N : Nat), zcl[11]? = some (zX11_print.1.cls, T, N) := ⟨⟨(zg6 91 (by decide +kernel) rfl), (zg1 1 (by decide +kernel) rfl), ⟨by decide +kernel, by decide +kernel, by decide +kernel⟩, by decide⟩, (zg6 89 (by decide +kernel) rfl), (zg6 90 (by decide +kernel) rfl), _, _, rfl⟩
theorem mbX11_printPairs : zMw0 zX11_printPairs 1 ∧ Cond.instanceMethod zX11_printPairs.1 ∈ zgood ∧ Cond.selects zX11_printPairs.1.cls zX11_printPairs.1 zX11_printPairs.1 ∈ zgood ∧ ∃ (T : u_T) (N : Nat), zcl[11]? = some (zX11_printPairs.1.cls, T, N) := ⟨⟨(zg6 116 (by decide +kernel) rfl), (zg1 1 (by decide +kernel) rfl), ⟨by decide +kernel, by decide +kernel, by decide +kernel⟩, by decide⟩, (zg6 114 (by decide +kernel) rfl), (zg6 115 (by decide +kernel) rfl), _, _, rfl⟩
theorem mbX11_refuse : zMw0 zX11_refuse 1 ∧ Cond.instanceMethod zX11_refuse.1 ∈ zgood ∧ Cond.selects zX11_refuse.1.cls zX11_refuse.1 zX11_refuse.1 ∈ zgood ∧ ∃ (T : u_T) (N : Nat), zcl[11]? = some (zX11_refuse.1.cls, T, N) := ⟨⟨(zg2 207 (by decide +kernel) rfl), (zg1 1 (by decide +kernel) rfl), ⟨by decide +kernel, by decide +kernel, by decide +kernel⟩, by decide⟩, (zg2 206 (by decide +kernel) rfl), (zg0 1 (by decide +kernel) rfl), _, _, rfl⟩
theorem mbX11_roomFor : zMw0 zX11_roomFor 1 ∧ Cond.static zX11_roomFor.1 ∈ zgood := ⟨⟨(zg4 8 (by decide +kernel) rfl), (zg1 1 (by decide +kernel) rfl), ⟨by decide +kernel, by decide +kernel, by decide +kernel⟩, by decide⟩, (zg4 7 (by decide +kernel) rfl)⟩
theorem mbX11_signedBy : zMw0 zX11_signedBy 2 ∧ Cond.instanceMethod zX11_signedBy.1 ∈ zgood ∧ Cond.selects zX11_signedBy.1.cls zX11_signedBy.1 zX11_signedBy.1 ∈ zgood ∧ ∃ (T : u_T) (N : Nat), zcl[11]? = some (zX11_signedBy.1.cls, T, N) := ⟨⟨(zg5 228 (by decide +kernel) rfl), (zg1 1 (by decide +kernel) rfl), ⟨by decide +kernel, by decide +kernel, by decide +kernel⟩, by decide⟩, (zg5 226 (by decide +kernel) rfl), (zg5 227 (by decide +kernel) rfl), _, _, rfl⟩
theorem mbX11_status : zMw0 zX11_status 0 ∧ Cond.instanceMethod zX11_status.1 ∈ zgood ∧ Cond.selects zX11_status.1.cls zX11_status.1 zX11_status.1 ∈ zgood ∧ ∃ (T : u_T) (N : Nat), zcl[11]? = some (zX11_status.1.cls, T, N) := ⟨⟨(zg2 187 (by decide +kernel) rfl), (zg1 1 (by decide +kernel) rfl), ⟨by decide +kernel, by decide +kernel, by decide +kernel⟩, by decide⟩, (zg2 185 (by decide +kernel) rfl), (zg2 186 (by decide +kernel) rfl), _, _, rfl⟩
theorem mbX11_sub : zMw0 zX11_sub 2 ∧ Cond.instanceMethod zX11_sub.1 ∈ zgood ∧ Cond.selects zX11_sub.1.cls zX11_sub.1 zX11_sub.1 ∈ zgood ∧ ∃ (T : u_T) (N : Nat), zcl[11]? = some (zX11_sub.1.cls, T, N) := ⟨⟨(zg6 1 (by decide +kernel) rfl), (zg1 1 (by decide +kernel) rfl), ⟨by decide +kernel, by decide +kernel, by decide +kernel⟩, by decide⟩, (zg5 239 (by decide +kernel) rfl), (zg6 0 (by decide +kernel) rfl), _, _, rfl⟩
theorem mbX11_sum : zMw0 zX11_sum 0 ∧ Cond.instanceMethod zX11_sum.1 ∈ zgood ∧ Cond.selects zX11_sum.1.cls zX11_sum.1 zX11_sum.1 ∈ zgood ∧ ∃ (T : u_T) (N : Nat), zcl[11]? = some (zX11_sum.1.cls, T, N) := ⟨⟨(zg6 27 (by decide +kernel) rfl), (zg1 1 (by decide +kernel) rfl), ⟨by decide +kernel, by decide +kernel, by decide +kernel⟩, by decide⟩, (zg6 25 (by decide +kernel) rfl), (zg6 26 (by decide +kernel) rfl), _, _, rfl⟩
theorem mbX11_sumOf : zMw0 zX11_sumOf 1 ∧ Cond.instanceMethod zX11_sumOf.1 ∈ zgood ∧ Cond.selects zX11_sumOf.1.cls zX11_sumOf.1 zX11_sumOf.1 ∈ zgood ∧ ∃ (T : u_T) (N : Nat), zcl[11]? = some (zX11_sumOf.1.cls, T, N) := ⟨⟨(zg6 83 (by decide +kernel) rfl), (zg1 1 (by decide +kernel) rfl), ⟨by decide +kernel, by decide +kernel, by decide +kernel⟩, by decide⟩, (zg6 81 (by decide +kernel) rfl), (zg6 82 (by decide +kernel) rfl), _, _, rfl⟩
theorem mbX11_swap : zMw0 zX11_swap 1 ∧ Cond.instanceMethod zX11_swap.1 ∈ zgood ∧ Cond.selects zX11_swap.1.cls zX11_swap.1 zX11_swap.1 ∈ zgood ∧ ∃ (T : u_T) (N : Nat), zcl[11]? = some (zX11_swap.1.cls, T, N) := ⟨⟨(zg5 118 (by decide +kernel) rfl), (zg1 1 (by decide +kernel) rfl), ⟨by decide +kernel, by decide +kernel, by decide +kernel⟩, by decide⟩, (zg5 116 (by decide +kernel) rfl), (zg5 117 (by decide +kernel) rfl), _, _, rfl⟩
theorem mbX11_ways : zMw0 zX11_ways 3 ∧ Cond.instanceMethod zX11_ways.1 ∈ zgood ∧ Cond.selects zX11_ways.1.cls zX11_ways.1 zX11_ways.1 ∈ zgood ∧ ∃ (T : u_T) (N : Nat), zcl[11]? = some (zX11_ways.1.cls, T, N) := ⟨⟨(zg5 204 (by decide +kernel) rfl), (zg1 1 (by decide +kernel) rfl), ⟨by decide +kernel, by decide +kernel, by decide +kernel⟩, by decide⟩, (zg5 202 (by decide +kernel) rfl), (zg5 203 (by decide +kernel) rfl), _, _, rfl⟩
theorem mbX11_worth : zMw0 zX11_worth 2 ∧ Cond.instanceMethod zX11_worth.1 ∈ zgood ∧ Cond.selects zX11_worth.1.cls zX11_worth.1 zX11_worth.1 ∈ zgood ∧ ∃ (T : u_T) (N : Nat), zcl[11]? = some (zX11_worth.1.cls, T, N) := ⟨⟨(zg5 153 (by decide +kernel) rfl), (zg1 1 (by decide +kernel) rfl), ⟨by decide +kernel, by decide +kernel, by decide +kernel⟩, by decide⟩, (zg5 151 (by decide +kernel) rfl), (zg5 152 (by decide +kernel) rfl), _, _, rfl⟩
theorem mbX11_worthOf : zMw0 zX11_worthOf 2 ∧ Cond.instanceMethod zX11_worthOf.1 ∈ zgood ∧ Cond.selects zX11_worthOf.1.cls zX11_worthOf.1 zX11_worthOf.1 ∈ zgood ∧ ∃ (T : u_T) (N : Nat), zcl[11]? = some (zX11_worthOf.1.cls, T, N) := ⟨⟨(zg6 31 (by decide +kernel) rfl), (zg1 1 (by decide +kernel) rfl), ⟨by decide +kernel, by decide +kernel, by decide +kernel⟩, by decide⟩, (zg6 30 (by decide +kernel) rfl), (zg0 45 (by decide +kernel) rfl), _, _, rfl⟩
theorem mbX12_alikeTo : zMw0 zX12_alikeTo 1 ∧ Cond.instanceMethod zX12_alikeTo.1 ∈ zgood ∧ Cond.selects zX12_alikeTo.1.cls zX12_alikeTo.1 zX12_alikeTo.1 ∈ zgood ∧ ∃ (T : u_T) (N : Nat), zcl[12]? = some (zX12_alikeTo.1.cls, T, N) := ⟨⟨(zg8 65 (by decide +kernel) rfl), (zg1 13 (by decide +kernel) rfl), ⟨by decide +kernel, by decide +kernel, by decide +kernel⟩, by decide⟩, (zg8 64 (by decide +kernel) rfl), (zg0 99 (by decide +kernel) rfl), _, _, rfl⟩
theorem mbX12_allPoints : zMw0 zX12_allPoints 0 ∧ Cond.instanceMethod zX12_allPoints.1 ∈ zgood ∧ Cond.selects zX12_allPoints.1.cls zX12_allPoints.1 zX12_allPoints.1 ∈ zgood ∧ ∃ (T : u_T) (N : Nat), zcl[12]? = some (zX12_allPoints.1.cls, T, N) := ⟨⟨(zg8 5 (by decide +kernel) rfl), (zg1 13 (by decide +kernel) rfl), ⟨by decide +kernel, by decide +kernel, by decide +kernel⟩, by decide⟩, (zg8 4 (by decide +kernel) rfl), (zg0 87 (by decide +kernel) rfl), _, _, rfl⟩
theorem mbX12_areAlike : zMw0 zX12_areAlike 2 ∧ Cond.instanceMethod zX12_areAlike.1 ∈ zgood ∧ Cond.selects zX12_areAlike.1.cls zX12_areAlike.1 zX12_areAlike.1 ∈ zgood ∧ ∃ (T : u_T) (N : Nat), zcl[12]? = some (zX12_areAlike.1.cls, T, N) := ⟨⟨(zg7 210 (by decide +kernel) rfl), (zg1 13 (by decide +kernel) rfl), ⟨by decide +kernel, by decide +kernel, by decide +kernel⟩, by decide⟩, (zg7 209 (by decide +kernel) rfl), (zg0 79 (by decide +kernel) rfl), _, _, rfl⟩
theorem mbX12_asDiagram : zMw0 zX12_asDiagram 1 ∧ Cond.static zX12_asDiagram.1 ∈ zgood := ⟨⟨(zg9 39 (by decide +kernel) rfl), (zg1 13 (by decide +kernel) rfl), ⟨by decide +kernel, by decide +kernel, by decide +kernel⟩, by decide⟩, (zg9 38 (by decide +kernel) rfl)⟩
theorem mbX12_at : zMw0 zX12_at 1 ∧ Cond.instanceMethod zX12_at.1 ∈ zgood ∧ Cond.selects zX12_at.1.cls zX12_at.1 zX12_at.1 ∈ zgood ∧ ∃ (T : u_T) (N : Nat), zcl[12]? = some (zX12_at.1.cls, T, N) := ⟨⟨(zg7 144 (by decide +kernel) rfl), (zg1 13 (by decide +kernel) rfl), ⟨by decide +kernel, by decide +kernel, by decide +kernel⟩, by decide⟩, (zg7 143 (by decide +kernel) rfl), (zg0 66 (by decide +kernel) rfl), _, _, rfl⟩
theorem mbX12_begins : zMw0 zX12_begins 1 ∧ Cond.instanceMethod zX12_begins.1 ∈ zgood ∧ Cond.selects zX12_begins.1.cls zX12_begins.1 zX12_begins.1 ∈ zgood ∧ ∃ (T : u_T) (N : Nat), zcl[12]? = some (zX12_begins.1.cls, T, N) := ⟨⟨(zg7 97 (by decide +kernel) rfl), (zg1 13 (by decide +kernel) rfl), ⟨by decide +kernel, by decide +kernel, by decide +kernel⟩, by decide⟩, (zg7 96 (by decide +kernel) rfl), (zg0 55 (by decide +kernel) rfl), _, _, rfl⟩
theorem mbX12_beginsText : zMw0 zX12_beginsText 2 ∧ Cond.instanceMethod zX12_beginsText.1 ∈ zgood ∧ Cond.selects zX12_beginsText.1.cls zX12_beginsText.1 zX12_beginsText.1 ∈ zgood ∧ ∃ (T : u_T) (N : Nat), zcl[12]? = some (zX12_beginsText.1.cls, T, N) := ⟨⟨(zg9 86 (by decide +kernel) rfl), (zg1 13 (by decide +kernel) rfl), ⟨by decide +kernel, by decide +kernel, by decide +kernel⟩, by decide⟩, (zg9 85 (by decide +kernel) rfl), (zg0 132 (by decide +kernel) rfl), _, _, rfl⟩
theorem mbX12_bits : zMw0 zX12_bits 1 ∧ Cond.static zX12_bits.1 ∈ zgood := ⟨⟨(zg9 46 (by decide +kernel) rfl), (zg1 13 (by decide +kernel) rfl), ⟨by decide +kernel, by decide +kernel, by decide +kernel⟩, by decide⟩, (zg9 45 (by decide +kernel) rfl)⟩
theorem mbX12_bridges : zMw0 zX12_bridges 0 ∧ Cond.instanceMethod zX12_bridges.1 ∈ zgood ∧ Cond.selects zX12_bridges.1.cls zX12_bridges.1 zX12_bridges.1 ∈ zgood ∧ ∃ (T : u_T) (N : Nat), zcl[12]? = some (zX12_bridges.1.cls, T, N) := ⟨⟨(zg8 228 (by decide +kernel) rfl), (zg1 13 (by decide +kernel) rfl), ⟨by decide +kernel, by decide +kernel, by decide +kernel⟩, by decide⟩, (zg8 227 (by decide +kernel) rfl), (zg0 122 (by decide +kernel) rfl), _, _, rfl⟩
theorem mbX12_by : zMw0 zX12_by 2 ∧ Cond.instanceMethod zX12_by.1 ∈ zgood ∧ Cond.selects zX12_by.1.cls zX12_by.1 zX12_by.1 ∈ zgood ∧ ∃ (T : u_T) (N : Nat), zcl[12]? = some (zX12_by.1.cls, T, N) := ⟨⟨(zg8 157 (by decide +kernel) rfl), (zg1 13 (by decide +kernel) rfl), ⟨by decide +kernel, by decide +kernel, by decide +kernel⟩, by decide⟩, (zg8 155 (by decide +kernel) rfl), (zg8 156 (by decide +kernel) rfl), _, _, rfl⟩
theorem mbX12_changes : zMw0 zX12_changes 0 ∧ Cond.instanceMethod zX12_changes.1 ∈ zgood ∧ Cond.selects zX12_changes.1.cls zX12_changes.1 zX12_changes.1 ∈ zgood ∧ ∃ (T : u_T) (N : Nat), zcl[12]? = some (zX12_changes.1.cls, T, N) := ⟨⟨(zg8 85 (by decide +kernel) rfl), (zg1 13 (by decide +kernel) rfl), ⟨by decide +kernel, by decide +kernel, by decide +kernel⟩, by decide⟩, (zg8 84 (by decide +kernel) rfl), (zg0 102 (by decide +kernel) rfl), _, _, rfl⟩
theorem mbX12_code : zMw0 zX12_code 2 ∧ Cond.instanceMethod zX12_code.1 ∈ zgood ∧ Cond.selects zX12_code.1.cls zX12_code.1 zX12_code.1 ∈ zgood ∧ ∃ (T : u_T) (N : Nat), zcl[12]? = some (zX12_code.1.cls, T, N) := ⟨⟨(zg8 69 (by decide +kernel) rfl), (zg1 13 (by decide +kernel) rfl), ⟨by decide +kernel, by decide +kernel, by decide +kernel⟩, by decide⟩, (zg8 67 (by decide +kernel) rfl), (zg8 68 (by decide +kernel) rfl), _, _, rfl⟩
theorem mbX12_codeOf : zMw0 zX12_codeOf 2 ∧ Cond.instanceMethod zX12_codeOf.1 ∈ zgood ∧ Cond.selects zX12_codeOf.1.cls zX12_codeOf.1 zX12_codeOf.1 ∈ zgood ∧ ∃ (T : u_T) (N : Nat), zcl[12]? = some (zX12_codeOf.1.cls, T, N) := ⟨⟨(zg7 172 (by decide +kernel) rfl), (zg1 13 (by decide +kernel) rfl), ⟨by decide +kernel, by decide +kernel, by decide +kernel⟩, by decide⟩, (zg7 171 (by decide +kernel) rfl), (zg0 73 (by decide +kernel) rfl), _, _, rfl⟩
theorem mbX12_codesOf : zMw0 zX12_codesOf 1 ∧ Cond.instanceMethod zX12_codesOf.1 ∈ zgood ∧ Cond.selects zX12_codesOf.1.cls zX12_codesOf.1 zX12_codesOf.1 ∈ zgood ∧ ∃ (T : u_T) (N : Nat), zcl[12]? = some (zX12_codesOf.1.cls, T, N) := ⟨⟨(zg7 164 (by decide +kernel) rfl), (zg1 13 (by decide +kernel) rfl), ⟨by decide +kernel, by decide +kernel, by decide +kernel⟩, by decide⟩, (zg7 163 (by decide +kernel) rfl), (zg0 71 (by decide +kernel) rfl), _, _, rfl⟩
theorem mbX12_copy : zMw0 zX12_copy 1 ∧ Cond.instanceMethod zX12_copy.1 ∈ zgood ∧ Cond.selects zX12_copy.1.cls zX12_copy.1 zX12_copy.1 ∈ zgood ∧ ∃ (T : u_T) (N : Nat), zcl[12]? = some (zX12_copy.1.cls, T, N) := ⟨⟨(zg8 113 (by decide +kernel) rfl), (zg1 13 (by decide +kernel) rfl), ⟨by decide +kernel, by decide +kernel, by decide +kernel⟩, by decide⟩, (zg8 111 (by decide +kernel) rfl), (zg8 112 (by decide +kernel) rfl), _, _, rfl⟩
theorem mbX12_core : zMw0 zX12_core 2 ∧ Cond.instanceMethod zX12_core.1 ∈ zgood ∧ Cond.selects zX12_core.1.cls zX12_core.1 zX12_core.1 ∈ zgood ∧ ∃ (T : u_T) (N : Nat), zcl[12]? = some (zX12_core.1.cls, T, N) := ⟨⟨(zg9 43 (by decide +kernel) rfl), (zg1 13 (by decide +kernel) rfl), ⟨by decide +kernel, by decide +kernel, by decide +kernel⟩, by decide⟩, (zg9 41 (by decide +kernel) rfl), (zg9 42 (by decide +kernel) rfl), _, _, rfl⟩
theorem mbX12_countOf : zMw0 zX12_countOf 1 ∧ Cond.instanceMethod zX12_countOf.1 ∈ zgood ∧ Cond.selects zX12_countOf.1.cls zX12_countOf.1 zX12_countOf.1 ∈ zgood ∧ ∃ (T : u_T) (N : Nat), zcl[12]? = some (zX12_countOf.1.cls, T, N) := ⟨⟨(zg8 37 (by decide +kernel) rfl), (zg1 13 (by decide +kernel) rfl), ⟨by decide +kernel, by decide +kernel, by decide +kernel⟩, by decide⟩, (zg8 36 (by decide +kernel) rfl), (zg0 95 (by decide +kernel) rfl), _, _, rfl⟩
theorem mbX12_countsSub : zMw0 zX12_countsSub 0 ∧ Cond.instanceMethod zX12_countsSub.1 ∈ zgood ∧ Cond.selects zX12_countsSub.1.cls zX12_countsSub.1 zX12_countsSub.1 ∈ zgood ∧ ∃ (T : u_T) (N : Nat), zcl[12]? = some (zX12_countsSub.1.cls, T, N) := ⟨⟨(zg8 189 (by decide +kernel) rfl), (zg1 13 (by decide +kernel) rfl), ⟨by decide +kernel, by decide +kernel, by decide +kernel⟩, by decide⟩, (zg8 188 (by decide +kernel) rfl), (zg0 115 (by decide +kernel) rfl), _, _, rfl⟩
theorem mbX12_crossingsNow : zMw0 zX12_crossingsNow 0 ∧ Cond.instanceMethod zX12_crossingsNow.1 ∈ zgood ∧ Cond.selects zX12_crossingsNow.1.cls zX12_crossingsNow.1 zX12_crossingsNow.1 ∈ zgood ∧ ∃ (T : u_T) (N : Nat), zcl[12]? = some (zX12_crossingsNow.1.cls, T, N) := ⟨⟨(zg7 128 (by decide +kernel) rfl), (zg1 13 (by decide +kernel) rfl), ⟨by decide +kernel, by decide +kernel, by decide +kernel⟩, by decide⟩, (zg7 127 (by decide +kernel) rfl), (zg0 62 (by decide +kernel) rfl), _, _, rfl⟩
theorem mbX12_diagram : zMw0 zX12_diagram 2 ∧ Cond.instanceMethod zX12_diagram.1 ∈ zgood ∧ Cond.selects zX12_diagram.1.cls zX12_diagram.1 zX12_diagram.1 ∈ zgood ∧ ∃ (T : u_T) (N : Nat), zcl[12]? = some (zX12_diagram.1.cls, T, N) := ⟨⟨(zg8 201 (by decide +kernel) rfl), (zg1 13 (by decide +kernel) rfl), ⟨by decide +kernel, by decide +kernel, by decide +kernel⟩, by decide⟩, (zg8 199 (by decide +kernel) rfl), (zg8 200 (by decide +kernel) rfl), _, _, rfl⟩
theorem mbX12_diagramMany : zMw0 zX12_diagramMany 0 ∧ Cond.instanceMethod zX12_diagramMany.1 ∈ zgood ∧ Cond.selects zX12_diagramMany.1.cls zX12_diagramMany.1 zX12_diagramMany.1 ∈ zgood ∧ ∃ (T : u_T) (N : Nat), zcl[12]? = some (zX12_diagramMany.1.cls, T, N) := ⟨⟨(zg7 156 (by decide +kernel) rfl), (zg1 13 (by decide +kernel) rfl), ⟨by decide +kernel, by decide +kernel, by decide +kernel⟩, by decide⟩, (zg7 155 (by decide +kernel) rfl), (zg0 69 (by decide +kernel) rfl), _, _, rfl⟩
theorem mbX12_diagramOf : zMw0 zX12_diagramOf 1 ∧ Cond.instanceMethod zX12_diagramOf.1 ∈ zgood ∧ Cond.selects zX12_diagramOf.1.cls zX12_diagramOf.1 zX12_diagramOf.1 ∈ zgood ∧ ∃ (T : u_T) (N : Nat), zcl[12]? = some (zX12_diagramOf.1.cls, T, N) := ⟨⟨(zg8 141 (by decide +kernel) rfl), (zg1 13 (by decide +kernel) rfl), ⟨by decide +kernel, by decide +kernel, by decide +kernel⟩, by decide⟩, (zg8 140 (by decide +kernel) rfl), (zg0 109 (by decide +kernel) rfl), _, _, rfl⟩
theorem mbX12_diagrams : zMw0 zX12_diagrams 2 ∧ Cond.instanceMethod zX12_diagrams.1 ∈ zgood ∧ Cond.selects zX12_diagrams.1.cls zX12_diagrams.1 zX12_diagrams.1 ∈ zgood ∧ ∃ (T : u_T) (N : Nat), zcl[12]? = some (zX12_diagrams.1.cls, T, N) := ⟨⟨(zg9 36 (by decide +kernel) rfl), (zg1 13 (by decide +kernel) rfl), ⟨by decide +kernel, by decide +kernel, by decide +kernel⟩, by decide⟩, (zg9 34 (by decide +kernel) rfl), (zg9 35 (by decide +kernel) rfl), _, _, rfl⟩
theorem mbX12_doCross : zMw0 zX12_doCross 2 ∧ Cond.instanceMethod zX12_doCross.1 ∈ zgood ∧ Cond.selects zX12_doCross.1.cls zX12_doCross.1 zX12_doCross.1 ∈ zgood ∧ ∃ (T : u_T) (N : Nat), zcl[12]? = some (zX12_doCross.1.cls, T, N) := ⟨⟨(zg7 124 (by decide +kernel) rfl), (zg1 13 (by decide +kernel) rfl), ⟨by decide +kernel, by decide +kernel, by decide +kernel⟩, by decide⟩, (zg7 123 (by decide +kernel) rfl), (zg0 61 (by decide +kernel) rfl), _, _, rfl⟩
theorem mbX12_drop : zMw0 zX12_drop 1 ∧ Cond.instanceMethod zX12_drop.1 ∈ zgood ∧ Cond.selects zX12_drop.1.cls zX12_drop.1 zX12_drop.1 ∈ zgood ∧ ∃ (T : u_T) (N : Nat), zcl[12]? = some (zX12_drop.1.cls, T, N) := ⟨⟨(zg8 73 (by decide +kernel) rfl), (zg1 13 (by decide +kernel) rfl), ⟨by decide +kernel, by decide +kernel, by decide +kernel⟩, by decide⟩, (zg8 71 (by decide +kernel) rfl), (zg8 72 (by decide +kernel) rfl), _, _, rfl⟩
theorem mbX12_endsText : zMw0 zX12_endsText 0 ∧ Cond.instanceMethod zX12_endsText.1 ∈ zgood ∧ Cond.selects zX12_endsText.1.cls zX12_endsText.1 zX12_endsText.1 ∈ zgood ∧ ∃ (T : u_T) (N : Nat), zcl[12]? = some (zX12_endsText.1.cls, T, N) := ⟨⟨(zg9 152 (by decide +kernel) rfl), (zg1 13 (by decide +kernel) rfl), ⟨by decide +kernel, by decide +kernel, by decide +kernel⟩, by decide⟩, (zg9 151 (by decide +kernel) rfl), (zg0 148 (by decide +kernel) rfl), _, _, rfl⟩
theorem mbX12_far : zMw0 zX12_far 3 ∧ Cond.instanceMethod zX12_far.1 ∈ zgood ∧ Cond.selects zX12_far.1.cls zX12_far.1 zX12_far.1 ∈ zgood ∧ ∃ (T : u_T) (N : Nat), zcl[12]? = some (zX12_far.1.cls, T, N) := ⟨⟨(zg9 16 (by decide +kernel) rfl), (zg1 13 (by decide +kernel) rfl), ⟨by decide +kernel, by decide +kernel, by decide +kernel⟩, by decide⟩, (zg9 14 (by decide +kernel) rfl), (zg9 15 (by decide +kernel) rfl), _, _, rfl⟩
theorem mbX12_fault : zMw0 zX12_fault 1 ∧ Cond.instanceMethod zX12_fault.1 ∈ zgood ∧ Cond.selects zX12_fault.1.cls zX12_fault.1 zX12_fault.1 ∈ zgood ∧ ∃ (T : u_T) (N : Nat), zcl[12]? = some (zX12_fault.1.cls, T, N) := ⟨⟨(zg9 156 (by decide +kernel) rfl), (zg1 13 (by decide +kernel) rfl), ⟨by decide +kernel, by decide +kernel, by decide +kernel⟩, by decide⟩, (zg9 154 (by decide +kernel) rfl), (zg9 155 (by decide +kernel) rfl), _, _, rfl⟩
theorem mbX12_feed : zMw0 zX12_feed 5 ∧ Cond.instanceMethod zX12_feed.1 ∈ zgood ∧ Cond.selects zX12_feed.1.cls zX12_feed.1 zX12_feed.1 ∈ zgood ∧ ∃ (T : u_T) (N : Nat), zcl[12]? = some (zX12_feed.1.cls, T, N) := ⟨⟨(zg9 74 (by decide +kernel) rfl), (zg1 13 (by decide +kernel) rfl), ⟨by decide +kernel, by decide +kernel, by decide +kernel⟩, by decide⟩, (zg9 72 (by decide +kernel) rfl), (zg9 73 (by decide +kernel) rfl), _, _, rfl⟩
theorem mbX12_field : zMw0 zX12_field 2 ∧ Cond.instanceMethod zX12_field.1 ∈ zgood ∧ Cond.selects zX12_field.1.cls zX12_field.1 zX12_field.1 ∈ zgood ∧ ∃ (T : u_T) (N : Nat), zcl[12]? = some (zX12_field.1.cls, T, N) := ⟨⟨(zg8 49 (by decide +kernel) rfl), (zg1 13 (by decide +kernel) rfl), ⟨by decide +kernel, by decide +kernel, by decide +kernel⟩, by decide⟩, (zg8 47 (by decide +kernel) rfl), (zg8 48 (by decide +kernel) rfl), _, _, rfl⟩
theorem mbX12_fieldHere : zMw0 zX12_fieldHere 0 ∧ Cond.instanceMethod zX12_fieldHere.1 ∈ zgood ∧ Cond.selects zX12_fieldHere.1.cls zX12_fieldHere.1 zX12_fieldHere.1 ∈ zgood ∧ ∃ (T : u_T) (N : Nat), zcl[12]? = some (zX12_fieldHere.1.cls, T, N) := ⟨⟨(zg9 120 (by decide +kernel) rfl), (zg1 13 (by decide +kernel) rfl), ⟨by decide +kernel, by decide +kernel, by decide +kernel⟩, by decide⟩, (zg9 119 (by decide +kernel) rfl), (zg0 140 (by decide +kernel) rfl), _, _, rfl⟩
theorem mbX12_fieldTold : zMw0 zX12_fieldTold 0 ∧ Cond.instanceMethod zX12_fieldTold.1 ∈ zgood ∧ Cond.selects zX12_fieldTold.1.cls zX12_fieldTold.1 zX12_fieldTold.1 ∈ zgood ∧ ∃ (T : u_T) (N : Nat), zcl[12]? = some (zX12_fieldTold.1.cls, T, N) := ⟨⟨(zg9 132 (by decide +kernel) rfl), (zg1 13 (by decide +kernel) rfl), ⟨by decide +kernel, by decide +kernel, by decide +kernel⟩, by decide⟩, (zg9 131 (by decide +kernel) rfl), (zg0 143 (by decide +kernel) rfl), _, _, rfl⟩
theorem mbX12_firstFree : zMw0 zX12_firstFree 0 ∧ Cond.instanceMethod zX12_firstFree.1 ∈ zgood ∧ Cond.selects zX12_firstFree.1.cls zX12_firstFree.1 zX12_firstFree.1 ∈ zgood ∧ ∃ (T : u_T) (N : Nat), zcl[12]? = some (zX12_firstFree.1.cls, T, N) := ⟨⟨(zg7 105 (by decide +kernel) rfl), (zg1 13 (by decide +kernel) rfl), ⟨by decide +kernel, by decide +kernel, by decide +kernel⟩, by decide⟩, (zg7 104 (by decide +kernel) rfl), (zg0 57 (by decide +kernel) rfl), _, _, rfl⟩
theorem mbX12_firstOf : zMw0 zX12_firstOf 1 ∧ Cond.instanceMethod zX12_firstOf.1 ∈ zgood ∧ Cond.selects zX12_firstOf.1.cls zX12_firstOf.1 zX12_firstOf.1 ∈ zgood ∧ ∃ (T : u_T) (N : Nat), zcl[12]? = some (zX12_firstOf.1.cls, T, N) := ⟨⟨(zg8 61 (by decide +kernel) rfl), (zg1 13 (by decide +kernel) rfl), ⟨by decide +kernel, by decide +kernel, by decide +kernel⟩, by decide⟩, (zg8 60 (by decide +kernel) rfl), (zg0 98 (by decide +kernel) rfl), _, _, rfl⟩
theorem mbX12_firstPairing : zMw0 zX12_firstPairing 1 ∧ Cond.instanceMethod zX12_firstPairing.1 ∈ zgood ∧ Cond.selects zX12_firstPairing.1.cls zX12_firstPairing.1 zX12_firstPairing.1 ∈ zgood ∧ ∃ (T : u_T) (N : Nat), zcl[12]? = some (zX12_firstPairing.1.cls, T, N) := ⟨⟨(zg8 236 (by decide +kernel) rfl), (zg1 13 (by decide +kernel) rfl), ⟨by decide +kernel, by decide +kernel, by decide +kernel⟩, by decide⟩, (zg8 235 (by decide +kernel) rfl), (zg0 124 (by decide +kernel) rfl), _, _, rfl⟩
theorem mbX12_fromOf : zMw0 zX12_fromOf 1 ∧ Cond.instanceMethod zX12_fromOf.1 ∈ zgood ∧ Cond.selects zX12_fromOf.1.cls zX12_fromOf.1 zX12_fromOf.1 ∈ zgood ∧ ∃ (T : u_T) (N : Nat), zcl[12]? = some (zX12_fromOf.1.cls, T, N) := ⟨⟨(zg8 17 (by decide +kernel) rfl), (zg1 13 (by decide +kernel) rfl), ⟨by decide +kernel, by decide +kernel, by decide +kernel⟩, by decide⟩, (zg8 16 (by decide +kernel) rfl), (zg0 90 (by decide +kernel) rfl), _, _, rfl⟩
theorem mbX12_has : zMw0 zX12_has 2 ∧ Cond.static zX12_has.1 ∈ zgood := ⟨⟨(zg7 108 (by decide +kernel) rfl), (zg1 13 (by decide +kernel) rfl), ⟨by decide +kernel, by decide +kernel, by decide +kernel⟩, by decide⟩, (zg7 107 (by decide +kernel) rfl)⟩
theorem mbX12_holds : zMw0 zX12_holds 1 ∧ Cond.instanceMethod zX12_holds.1 ∈ zgood ∧ Cond.selects zX12_holds.1.cls zX12_holds.1 zX12_holds.1 ∈ zgood ∧ ∃ (T : u_T) (N : Nat), zcl[12]? = some (zX12_holds.1.cls, T, N) := ⟨⟨(zg9 24 (by decide +kernel) rfl), (zg1 13 (by decide +kernel) rfl), ⟨by decide +kernel, by decide +kernel, by decide +kernel⟩, by decide⟩, (zg9 22 (by decide +kernel) rfl), (zg9 23 (by decide +kernel) rfl), _, _, rfl⟩
theorem mbX12_holds0 : zMw0 zX12_holds0 1 ∧ Cond.instanceMethod zX12_holds0.1 ∈ zgood ∧ Cond.selects zX12_holds0.1.cls zX12_holds0.1 zX12_holds0.1 ∈ zgood ∧ ∃ (T : u_T) (N : Nat), zcl[12]? = some (zX12_holds0.1.cls, T, N) := ⟨⟨(zg8 97 (by decide +kernel) rfl), (zg1 13 (by decide +kernel) rfl), ⟨by decide +kernel, by decide +kernel, by decide +kernel⟩, by decide⟩, (zg8 96 (by decide +kernel) rfl), (zg0 104 (by decide +kernel) rfl), _, _, rfl⟩
theorem mbX12_holesOf : zMw0 zX12_holesOf 1 ∧ Cond.instanceMethod zX12_holesOf.1 ∈ zgood ∧ Cond.selects zX12_holesOf.1.cls zX12_holesOf.1 zX12_holesOf.1 ∈ zgood ∧ ∃ (T : u_T) (N : Nat), zcl[12]? = some (zX12_holesOf.1.cls, T, N) := ⟨⟨(zg8 137 (by decide +kernel) rfl), (zg1 13 (by decide +kernel) rfl), ⟨by decide +kernel, by decide +kernel, by decide +kernel⟩, by decide⟩, (zg8 136 (by decide +kernel) rfl), (zg0 108 (by decide +kernel) rfl), _, _, rfl⟩
theorem mbX12_init : zMw0 zX12_init 0 ∧ zX12_init.1.name = "<init>" ∧ Cond.instanceMethod zX12_init.1 ∈ zgood ∧ zX12_init.2.2.2 = none := ⟨⟨(zg6 137 (by decide +kernel) rfl), (zg1 13 (by decide +kernel) rfl), ⟨by decide +kernel, by decide +kernel, by decide +kernel⟩, by decide⟩, rfl, (zg6 136 (by decide +kernel) rfl), rfl⟩
theorem mbX12_is : zMw0 zX12_is 1 ∧ Cond.instanceMethod zX12_is.1 ∈ zgood ∧ Cond.selects zX12_is.1.cls zX12_is.1 zX12_is.1 ∈ zgood ∧ ∃ (T : u_T) (N : Nat), zcl[12]? = some (zX12_is.1.cls, T, N) := ⟨⟨(zg7 89 (by decide +kernel) rfl), (zg1 13 (by decide +kernel) rfl), ⟨by decide +kernel, by decide +kernel, by decide +kernel⟩, by decide⟩, (zg7 88 (by decide +kernel) rfl), (zg0 53 (by decide +kernel) rfl), _, _, rfl⟩
theorem mbX12_isCode : zMw0 zX12_isCode 1 ∧ Cond.instanceMethod zX12_isCode.1 ∈ zgood ∧ Cond.selects zX12_isCode.1.cls zX12_isCode.1 zX12_isCode.1 ∈ zgood ∧ ∃ (T : u_T) (N : Nat), zcl[12]? = some (zX12_isCode.1.cls, T, N) := ⟨⟨(zg8 121 (by decide +kernel) rfl), (zg1 13 (by decide +kernel) rfl), ⟨by decide +kernel, by decide +kernel, by decide +kernel⟩, by decide⟩, (zg8 120 (by decide +kernel) rfl), (zg0 106 (by decide +kernel) rfl), _, _, rfl⟩
theorem mbX12_isConnected : zMw0 zX12_isConnected 1 ∧ Cond.instanceMethod zX12_isConnected.1 ∈ zgood ∧ Cond.selects zX12_isConnected.1.cls zX12_isConnected.1 zX12_isConnected.1 ∈ zgood ∧ ∃ (T : u_T) (N : Nat), zcl[12]? = some (zX12_isConnected.1.cls, T, N) := ⟨⟨(zg7 237 (by decide +kernel) rfl), (zg1 13 (by decide +kernel) rfl), ⟨by decide +kernel, by decide +kernel, by decide +kernel⟩, by decide⟩, (zg7 236 (by decide +kernel) rfl), (zg0 85 (by decide +kernel) rfl), _, _, rfl⟩
theorem mbX12_isDiagram : zMw0 zX12_isDiagram 1 ∧ Cond.instanceMethod zX12_isDiagram.1 ∈ zgood ∧ Cond.selects zX12_isDiagram.1.cls zX12_isDiagram.1 zX12_isDiagram.1 ∈ zgood ∧ ∃ (T : u_T) (N : Nat), zcl[12]? = some (zX12_isDiagram.1.cls, T, N) := ⟨⟨(zg8 205 (by decide +kernel) rfl), (zg1 13 (by decide +kernel) rfl), ⟨by decide +kernel, by decide +kernel, by decide +kernel⟩, by decide⟩, (zg8 204 (by decide +kernel) rfl), (zg0 117 (by decide +kernel) rfl), _, _, rfl⟩
theorem mbX12_isIn : zMw0 zX12_isIn 3 ∧ Cond.static zX12_isIn.1 ∈ zgood := ⟨⟨(zg7 85 (by decide +kernel) rfl), (zg1 13 (by decide +kernel) rfl), ⟨by decide +kernel, by decide +kernel, by decide +kernel⟩, by decide⟩, (zg7 84 (by decide +kernel) rfl)⟩
theorem mbX12_isLetter : zMw0 zX12_isLetter 1 ∧ Cond.instanceMethod zX12_isLetter.1 ∈ zgood ∧ Cond.selects zX12_isLetter.1.cls zX12_isLetter.1 zX12_isLetter.1 ∈ zgood ∧ ∃ (T : u_T) (N : Nat), zcl[12]? = some (zX12_isLetter.1.cls, T, N) := ⟨⟨(zg8 45 (by decide +kernel) rfl), (zg1 13 (by decide +kernel) rfl), ⟨by decide +kernel, by decide +kernel, by decide +kernel⟩, by decide⟩, (zg8 44 (by decide +kernel) rfl), (zg0 96 (by decide +kernel) rfl), _, _, rfl⟩
theorem mbX12_isLinked : zMw0 zX12_isLinked 1 ∧ Cond.instanceMethod zX12_isLinked.1 ∈ zgood ∧ Cond.selects zX12_isLinked.1.cls zX12_isLinked.1 zX12_isLinked.1 ∈ zgood ∧ ∃ (T : u_T) (N : Nat), zcl[12]? = some (zX12_isLinked.1.cls, T, N) := ⟨⟨(zg8 25 (by decide +kernel) rfl), (zg1 13 (by decide +kernel) rfl), ⟨by decide +kernel, by decide +kernel, by decide +kernel⟩, by decide⟩, (zg8 24 (by decide +kernel) rfl), (zg0 92 (by decide +kernel) rfl), _, _, rfl⟩
theorem mbX12_isNormal : zMw0 zX12_isNormal 1 ∧ Cond.instanceMethod zX12_isNormal.1 ∈ zgood ∧ Cond.selects zX12_isNormal.1.cls zX12_isNormal.1 zX12_isNormal.1 ∈ zgood ∧ ∃ (T : u_T) (N : Nat), zcl[12]? = some (zX12_isNormal.1.cls, T, N) := ⟨⟨(zg7 140 (by decide +kernel) rfl), (zg1 13 (by decide +kernel) rfl), ⟨by decide +kernel, by decide +kernel, by decide +kernel⟩, by decide⟩, (zg7 139 (by decide +kernel) rfl), (zg0 65 (by decide +kernel) rfl), _, _, rfl⟩
theorem mbX12_isOdd : zMw0 zX12_isOdd 1 ∧ Cond.instanceMethod zX12_isOdd.1 ∈ zgood ∧ Cond.selects zX12_isOdd.1.cls zX12_isOdd.1 zX12_isOdd.1 ∈ zgood ∧ ∃ (T : u_T) (N : Nat), zcl[12]? = some (zX12_isOdd.1.cls, T, N) := ⟨⟨(zg7 116 (by decide +kernel) rfl), (zg1 13 (by decide +kernel) rfl), ⟨by decide +kernel, by decide +kernel, by decide +kernel⟩, by decide⟩, (zg7 115 (by decide +kernel) rfl), (zg0 59 (by decide +kernel) rfl), _, _, rfl⟩
theorem mbX12_isOf : zMw0 zX12_isOf 3 ∧ Cond.instanceMethod zX12_isOf.1 ∈ zgood ∧ Cond.selects zX12_isOf.1.cls zX12_isOf.1 zX12_isOf.1 ∈ zgood ∧ ∃ (T : u_T) (N : Nat), zcl[12]? = some (zX12_isOf.1.cls, T, N) := ⟨⟨(zg9 94 (by decide +kernel) rfl), (zg1 13 (by decide +kernel) rfl), ⟨by decide +kernel, by decide +kernel, by decide +kernel⟩, by decide⟩, (zg9 93 (by decide +kernel) rfl), (zg0 134 (by decide +kernel) rfl), _, _, rfl⟩
theorem mbX12_isPair : zMw0 zX12_isPair 1 ∧ Cond.instanceMethod zX12_isPair.1 ∈ zgood ∧ Cond.selects zX12_isPair.1.cls zX12_isPair.1 zX12_isPair.1 ∈ zgood ∧ ∃ (T : u_T) (N : Nat), zcl[12]? = some (zX12_isPair.1.cls, T, N) := ⟨⟨(zg7 120 (by decide +kernel) rfl), (zg1 13 (by decide +kernel) rfl), ⟨by decide +kernel, by decide +kernel, by decide +kernel⟩, by decide⟩, (zg7 119 (by decide +kernel) rfl), (zg0 60 (by decide +kernel) rfl), _, _, rfl⟩
theorem mbX12_isPairing : zMw0 zX12_isPairing 1 ∧ Cond.instanceMethod zX12_isPairing.1 ∈ zgood ∧ Cond.selects zX12_isPairing.1.cls zX12_isPairing.1 zX12_isPairing.1 ∈ zgood ∧ ∃ (T : u_T) (N : Nat), zcl[12]? = some (zX12_isPairing.1.cls, T, N) := ⟨⟨(zg8 129 (by decide +kernel) rfl), (zg1 13 (by decide +kernel) rfl), ⟨by decide +kernel, by decide +kernel, by decide +kernel⟩, by decide⟩, (zg8 128 (by decide +kernel) rfl), (zg0 107 (by decide +kernel) rfl), _, _, rfl⟩
theorem mbX12_isPoint : zMw0 zX12_isPoint 1 ∧ Cond.instanceMethod zX12_isPoint.1 ∈ zgood ∧ Cond.selects zX12_isPoint.1.cls zX12_isPoint.1 zX12_isPoint.1 ∈ zgood ∧ ∃ (T : u_T) (N : Nat), zcl[12]? = some (zX12_isPoint.1.cls, T, N) := ⟨⟨(zg8 57 (by decide +kernel) rfl), (zg1 13 (by decide +kernel) rfl), ⟨by decide +kernel, by decide +kernel, by decide +kernel⟩, by decide⟩, (zg8 56 (by decide +kernel) rfl), (zg0 97 (by decide +kernel) rfl), _, _, rfl⟩
theorem mbX12_isRealSort : zMw0 zX12_isRealSort 1 ∧ Cond.instanceMethod zX12_isRealSort.1 ∈ zgood ∧ Cond.selects zX12_isRealSort.1.cls zX12_isRealSort.1 zX12_isRealSort.1 ∈ zgood ∧ ∃ (T : u_T) (N : Nat), zcl[12]? = some (zX12_isRealSort.1.cls, T, N) := ⟨⟨(zg7 206 (by decide +kernel) rfl), (zg1 13 (by decide +kernel) rfl), ⟨by decide +kernel, by decide +kernel, by decide +kernel⟩, by decide⟩, (zg7 205 (by decide +kernel) rfl), (zg0 78 (by decide +kernel) rfl), _, _, rfl⟩
theorem mbX12_isSign : zMw0 zX12_isSign 1 ∧ Cond.instanceMethod zX12_isSign.1 ∈ zgood ∧ Cond.selects zX12_isSign.1.cls zX12_isSign.1 zX12_isSign.1 ∈ zgood ∧ ∃ (T : u_T) (N : Nat), zcl[12]? = some (zX12_isSign.1.cls, T, N) := ⟨⟨(zg9 148 (by decide +kernel) rfl), (zg1 13 (by decide +kernel) rfl), ⟨by decide +kernel, by decide +kernel, by decide +kernel⟩, by decide⟩, (zg9 147 (by decide +kernel) rfl), (zg0 147 (by decide +kernel) rfl), _, _, rfl⟩
theorem mbX12_isSignByte : zMw0 zX12_isSignByte 1 ∧ Cond.instanceMethod zX12_isSignByte.1 ∈ zgood ∧ Cond.selects zX12_isSignByte.1.cls zX12_isSignByte.1 zX12_isSignByte.1 ∈ zgood ∧ ∃ (T : u_T) (N : Nat), zcl[12]? = some (zX12_isSignByte.1.cls, T, N) := ⟨⟨(zg9 98 (by decide +kernel) rfl), (zg1 13 (by decide +kernel) rfl), ⟨by decide +kernel, by decide +kernel, by decide +kernel⟩, by decide⟩, (zg9 97 (by decide +kernel) rfl), (zg0 135 (by decide +kernel) rfl), _, _, rfl⟩
theorem mbX12_isSuch : zMw0 zX12_isSuch 3 ∧ Cond.instanceMethod zX12_isSuch.1 ∈ zgood ∧ Cond.selects zX12_isSuch.1.cls zX12_isSuch.1 zX12_isSuch.1 ∈ zgood ∧ ∃ (T : u_T) (N : Nat), zcl[12]? = some (zX12_isSuch.1.cls, T, N) := ⟨⟨(zg8 165 (by decide +kernel) rfl), (zg1 13 (by decide +kernel) rfl), ⟨by decide +kernel, by decide +kernel, by decide +kernel⟩, by decide⟩, (zg8 164 (by decide +kernel) rfl), (zg0 112 (by decide +kernel) rfl), _, _, rfl⟩
theorem mbX12_isVertex : zMw0 zX12_isVertex 1 ∧ Cond.instanceMethod zX12_isVertex.1 ∈ zgood ∧ Cond.selects zX12_isVertex.1.cls zX12_isVertex.1 zX12_isVertex.1 ∈ zgood ∧ ∃ (T : u_T) (N : Nat), zcl[12]? = some (zX12_isVertex.1.cls, T, N) := ⟨⟨(zg7 214 (by decide +kernel) rfl), (zg1 13 (by decide +kernel) rfl), ⟨by decide +kernel, by decide +kernel, by decide +kernel⟩, by decide⟩, (zg7 213 (by decide +kernel) rfl), (zg0 80 (by decide +kernel) rfl), _, _, rfl⟩
theorem mbX12_isVertexBehind : zMw0 zX12_isVertexBehind 0 ∧ Cond.instanceMethod zX12_isVertexBehind.1 ∈ zgood ∧ Cond.selects zX12_isVertexBehind.1.cls zX12_isVertexBehind.1 zX12_isVertexBehind.1 ∈ zgood ∧ ∃ (T : u_T) (N : Nat), zcl[12]? = some (zX12_isVertexBehind.1.cls, T, N) := ⟨⟨(zg9 140 (by decide +kernel) rfl), (zg1 13 (by decide +kernel) rfl), ⟨by decide +kernel, by decide +kernel, by decide +kernel⟩, by decide⟩, (zg9 139 (by decide +kernel) rfl), (zg0 145 (by decide +kernel) rfl), _, _, rfl⟩
theorem mbX12_isWord : zMw0 zX12_isWord 1 ∧ Cond.instanceMethod zX12_isWord.1 ∈ zgood ∧ Cond.selects zX12_isWord.1.cls zX12_isWord.1 zX12_isWord.1 ∈ zgood ∧ ∃ (T : u_T) (N : Nat), zcl[12]? = some (zX12_isWord.1.cls, T, N) := ⟨⟨(zg9 108 (by decide +kernel) rfl), (zg1 13 (by decide +kernel) rfl), ⟨by decide +kernel, by decide +kernel, by decide +kernel⟩, by decide⟩, (zg9 107 (by decide +kernel) rfl), (zg0 137 (by decide +kernel) rfl), _, _, rfl⟩
theorem mbX12_lays : zMw0 zX12_lays 0 ∧ Cond.instanceMethod zX12_lays.1 ∈ zgood ∧ Cond.selects zX12_lays.1.cls zX12_lays.1 zX12_lays.1 ∈ zgood ∧ ∃ (T : u_T) (N : Nat), zcl[12]? = some (zX12_lays.1.cls, T, N) := ⟨⟨(zg7 93 (by decide +kernel) rfl), (zg1 13 (by decide +kernel) rfl), ⟨by decide +kernel, by decide +kernel, by decide +kernel⟩, by decide⟩, (zg7 92 (by decide +kernel) rfl), (zg0 54 (by decide +kernel) rfl), _, _, rfl⟩
theorem mbX12_laysAll : zMw0 zX12_laysAll 0 ∧ Cond.instanceMethod zX12_laysAll.1 ∈ zgood ∧ Cond.selects zX12_laysAll.1.cls zX12_laysAll.1 zX12_laysAll.1 ∈ zgood ∧ ∃ (T : u_T) (N : Nat), zcl[12]? = some (zX12_laysAll.1.cls, T, N) := ⟨⟨(zg7 101 (by decide +kernel) rfl), (zg1 13 (by decide +kernel) rfl), ⟨by decide +kernel, by decide +kernel, by decide +kernel⟩, by decide⟩, (zg7 100 (by decide +kernel) rfl), (zg0 56 (by decide +kernel) rfl), _, _, rfl⟩
theorem mbX12_laysHeld : zMw0 zX12_laysHeld 1 ∧ Cond.instanceMethod zX12_laysHeld.1 ∈ zgood ∧ Cond.selects zX12_laysHeld.1.cls zX12_laysHeld.1 zX12_laysHeld.1 ∈ zgood ∧ ∃ (T : u_T) (N : Nat), zcl[12]? = some (zX12_laysHeld.1.cls, T, N) := ⟨⟨(zg8 101 (by decide +kernel) rfl), (zg1 13 (by decide +kernel) rfl), ⟨by decide +kernel, by decide +kernel, by decide +kernel⟩, by decide⟩, (zg8 100 (by decide +kernel) rfl), (zg0 105 (by decide +kernel) rfl), _, _, rfl⟩
theorem mbX12_laysNames : zMw0 zX12_laysNames 0 ∧ Cond.instanceMethod zX12_laysNames.1 ∈ zgood ∧ Cond.selects zX12_laysNames.1.cls zX12_laysNames.1 zX12_laysNames.1 ∈ zgood ∧ ∃ (T : u_T) (N : Nat), zcl[12]? = some (zX12_laysNames.1.cls, T, N) := ⟨⟨(zg7 160 (by decide +kernel) rfl), (zg1 13 (by decide +kernel) rfl), ⟨by decide +kernel, by decide +kernel, by decide +kernel⟩, by decide⟩, (zg7 159 (by decide +kernel) rfl), (zg0 70 (by decide +kernel) rfl), _, _, rfl⟩
theorem mbX12_laysSub : zMw0 zX12_laysSub 0 ∧ Cond.instanceMethod zX12_laysSub.1 ∈ zgood ∧ Cond.selects zX12_laysSub.1.cls zX12_laysSub.1 zX12_laysSub.1 ∈ zgood ∧ ∃ (T : u_T) (N : Nat), zcl[12]? = some (zX12_laysSub.1.cls, T, N) := ⟨⟨(zg8 185 (by decide +kernel) rfl), (zg1 13 (by decide +kernel) rfl), ⟨by decide +kernel, by decide +kernel, by decide +kernel⟩, by decide⟩, (zg8 184 (by decide +kernel) rfl), (zg0 114 (by decide +kernel) rfl), _, _, rfl⟩
theorem mbX12_leastOf : zMw0 zX12_leastOf 1 ∧ Cond.instanceMethod zX12_leastOf.1 ∈ zgood ∧ Cond.selects zX12_leastOf.1.cls zX12_leastOf.1 zX12_leastOf.1 ∈ zgood ∧ ∃ (T : u_T) (N : Nat), zcl[12]? = some (zX12_leastOf.1.cls, T, N) := ⟨⟨(zg7 194 (by decide +kernel) rfl), (zg1 13 (by decide +kernel) rfl), ⟨by decide +kernel, by decide +kernel, by decide +kernel⟩, by decide⟩, (zg7 193 (by decide +kernel) rfl), (zg0 75 (by decide +kernel) rfl), _, _, rfl⟩
theorem mbX12_leaving : zMw0 zX12_leaving 1 ∧ Cond.instanceMethod zX12_leaving.1 ∈ zgood ∧ Cond.selects zX12_leaving.1.cls zX12_leaving.1 zX12_leaving.1 ∈ zgood ∧ ∃ (T : u_T) (N : Nat), zcl[12]? = some (zX12_leaving.1.cls, T, N) := ⟨⟨(zg9 4 (by decide +kernel) rfl), (zg1 13 (by decide +kernel) rfl), ⟨by decide +kernel, by decide +kernel, by decide +kernel⟩, by decide⟩, (zg9 3 (by decide +kernel) rfl), (zg0 126 (by decide +kernel) rfl), _, _, rfl⟩
theorem mbX12_letter : zMw0 zX12_letter 2 ∧ Cond.instanceMethod zX12_letter.1 ∈ zgood ∧ Cond.selects zX12_letter.1.cls zX12_letter.1 zX12_letter.1 ∈ zgood ∧ ∃ (T : u_T) (N : Nat), zcl[12]? = some (zX12_letter.1.cls, T, N) := ⟨⟨(zg8 41 (by decide +kernel) rfl), (zg1 13 (by decide +kernel) rfl), ⟨by decide +kernel, by decide +kernel, by decide +kernel⟩, by decide⟩, (zg8 39 (by decide +kernel) rfl), (zg8 40 (by decide +kernel) rfl), _, _, rfl⟩
theorem mbX12_lettersTold : zMw0 zX12_lettersTold 0 ∧ Cond.instanceMethod zX12_lettersTold.1 ∈ zgood ∧ Cond.selects zX12_lettersTold.1.cls zX12_lettersTold.1 zX12_lettersTold.1 ∈ zgood ∧ ∃ (T : u_T) (N : Nat), zcl[12]? = some (zX12_lettersTold.1.cls, T, N) := ⟨⟨(zg9 144 (by decide +kernel) rfl), (zg1 13 (by decide +kernel) rfl), ⟨by decide +kernel, by decide +kernel, by decide +kernel⟩, by decide⟩, (zg9 143 (by decide +kernel) rfl), (zg0 146 (by decide +kernel) rfl), _, _, rfl⟩
theorem mbX12_line : zMw0 zX12_line 0 ∧ Cond.instanceMethod zX12_line.1 ∈ zgood ∧ Cond.selects zX12_line.1.cls zX12_line.1 zX12_line.1 ∈ zgood ∧ ∃ (T : u_T) (N : Nat), zcl[12]? = some (zX12_line.1.cls, T, N) := ⟨⟨(zg9 104 (by decide +kernel) rfl), (zg1 13 (by decide +kernel) rfl), ⟨by decide +kernel, by decide +kernel, by decide +kernel⟩, by decide⟩, (zg9 103 (by decide +kernel) rfl), (zg0 136 (by decide +kernel) rfl), _, _, rfl⟩
theorem mbX12_lines : zMw0 zX12_lines 1 ∧ Cond.instanceMethod zX12_lines.1 ∈ zgood ∧ Cond.selects zX12_lines.1.cls zX12_lines.1 zX12_lines.1 ∈ zgood ∧ ∃ (T : u_T) (N : Nat), zcl[12]? = some (zX12_lines.1.cls, T, N) := ⟨⟨(zg9 176 (by decide +kernel) rfl), (zg1 13 (by decide +kernel) rfl), ⟨by decide +kernel, by decide +kernel, by decide +kernel⟩, by decide⟩, (zg9 174 (by decide +kernel) rfl), (zg9 175 (by decide +kernel) rfl), _, _, rfl⟩
theorem mbX12_load : zMw0 zX12_load 1 ∧ Cond.instanceMethod zX12_load.1 ∈ zgood ∧ Cond.selects zX12_load.1.cls zX12_load.1 zX12_load.1 ∈ zgood ∧ ∃ (T : u_T) (N : Nat), zcl[12]? = some (zX12_load.1.cls, T, N) := ⟨⟨(zg9 82 (by decide +kernel) rfl), (zg1 13 (by decide +kernel) rfl), ⟨by decide +kernel, by decide +kernel, by decide +kernel⟩, by decide⟩, (zg9 80 (by decide +kernel) rfl), (zg9 81 (by decide +kernel) rfl), _, _, rfl⟩
theorem mbX12_loops : zMw0 zX12_loops 0 ∧ Cond.instanceMethod zX12_loops.1 ∈ zgood ∧ Cond.selects zX12_loops.1.cls zX12_loops.1 zX12_loops.1 ∈ zgood ∧ ∃ (T : u_T) (N : Nat), zcl[12]? = some (zX12_loops.1.cls, T, N) := ⟨⟨(zg8 224 (by decide +kernel) rfl), (zg1 13 (by decide +kernel) rfl), ⟨by decide +kernel, by decide +kernel, by decide +kernel⟩, by decide⟩, (zg8 223 (by decide +kernel) rfl), (zg0 121 (by decide +kernel) rfl), _, _, rfl⟩
theorem mbX12_lost : zMw0 zX12_lost 1 ∧ Cond.instanceMethod zX12_lost.1 ∈ zgood ∧ Cond.selects zX12_lost.1.cls zX12_lost.1 zX12_lost.1 ∈ zgood ∧ ∃ (T : u_T) (N : Nat), zcl[12]? = some (zX12_lost.1.cls, T, N) := ⟨⟨(zg8 29 (by decide +kernel) rfl), (zg1 13 (by decide +kernel) rfl), ⟨by decide +kernel, by decide +kernel, by decide +kernel⟩, by decide⟩, (zg8 28 (by decide +kernel) rfl), (zg0 93 (by decide +kernel) rfl), _, _, rfl⟩
theorem mbX12_many : zMw0 zX12_many 1 ∧ Cond.instanceMethod zX12_many.1 ∈ zgood ∧ Cond.selects zX12_many.1.cls zX12_many.1 zX12_many.1 ∈ zgood ∧ ∃ (T : u_T) (N : Nat), zcl[12]? = some (zX12_many.1.cls, T, N) := ⟨⟨(zg7 82 (by decide +kernel) rfl), (zg1 13 (by decide +kernel) rfl), ⟨by decide +kernel, by decide +kernel, by decide +kernel⟩, by decide⟩, (zg7 80 (by decide +kernel) rfl), (zg7 81 (by decide +kernel) rfl), _, _, rfl⟩
theorem mbX12_manySuch : zMw0 zX12_manySuch 2 ∧ Cond.instanceMethod zX12_manySuch.1 ∈ zgood ∧ Cond.selects zX12_manySuch.1.cls zX12_manySuch.1 zX12_manySuch.1 ∈ zgood ∧ ∃ (T : u_T) (N : Nat), zcl[12]? = some (zX12_manySuch.1.cls, T, N) := ⟨⟨(zg7 233 (by decide +kernel) rfl), (zg1 13 (by decide +kernel) rfl), ⟨by decide +kernel, by decide +kernel, by decide +kernel⟩, by decide⟩, (zg7 232 (by decide +kernel) rfl), (zg0 84 (by decide +kernel) rfl), _, _, rfl⟩
theorem mbX12_mate : zMw0 zX12_mate 2 ∧ Cond.instanceMethod zX12_mate.1 ∈ zgood ∧ Cond.selects zX12_mate.1.cls zX12_mate.1 zX12_mate.1 ∈ zgood ∧ ∃ (T : u_T) (N : Nat), zcl[12]? = some (zX12_mate.1.cls, T, N) := ⟨⟨(zg8 125 (by decide +kernel) rfl), (zg1 13 (by decide +kernel) rfl), ⟨by decide +kernel, by decide +kernel, by decide +kernel⟩, by decide⟩, (zg8 123 (by decide +kernel) rfl), (zg8 124 (by decide +kernel) rfl), _, _, rfl⟩
theorem mbX12_mateOf : zMw0 zX12_mateOf 2 ∧ Cond.instanceMethod zX12_mateOf.1 ∈ zgood ∧ Cond.selects zX12_mateOf.1.cls zX12_mateOf.1 zX12_mateOf.1 ∈ zgood ∧ ∃ (T : u_T) (N : Nat), zcl[12]? = some (zX12_mateOf.1.cls, T, N) := ⟨⟨(zg7 168 (by decide +kernel) rfl), (zg1 13 (by decide +kernel) rfl), ⟨by decide +kernel, by decide +kernel, by decide +kernel⟩, by decide⟩, (zg7 167 (by decide +kernel) rfl), (zg0 72 (by decide +kernel) rfl), _, _, rfl⟩
theorem mbX12_mayBe : zMw0 zX12_mayBe 2 ∧ Cond.instanceMethod zX12_mayBe.1 ∈ zgood ∧ Cond.selects zX12_mayBe.1.cls zX12_mayBe.1 zX12_mayBe.1 ∈ zgood ∧ ∃ (T : u_T) (N : Nat), zcl[12]? = some (zX12_mayBe.1.cls, T, N) := ⟨⟨(zg7 136 (by decide +kernel) rfl), (zg1 13 (by decide +kernel) rfl), ⟨by decide +kernel, by decide +kernel, by decide +kernel⟩, by decide⟩, (zg7 135 (by decide +kernel) rfl), (zg0 64 (by decide +kernel) rfl), _, _, rfl⟩
theorem mbX12_mixOf : zMw0 zX12_mixOf 2 ∧ Cond.instanceMethod zX12_mixOf.1 ∈ zgood ∧ Cond.selects zX12_mixOf.1.cls zX12_mixOf.1 zX12_mixOf.1 ∈ zgood ∧ ∃ (T : u_T) (N : Nat), zcl[12]? = some (zX12_mixOf.1.cls, T, N) := ⟨⟨(zg7 148 (by decide +kernel) rfl), (zg1 13 (by decide +kernel) rfl), ⟨by decide +kernel, by decide +kernel, by decide +kernel⟩, by decide⟩, (zg7 147 (by decide +kernel) rfl), (zg0 67 (by decide +kernel) rfl), _, _, rfl⟩
theorem mbX12_mostOfOne : zMw0 zX12_mostOfOne 0 ∧ Cond.instanceMethod zX12_mostOfOne.1 ∈ zgood ∧ Cond.selects zX12_mostOfOne.1.cls zX12_mostOfOne.1 zX12_mostOfOne.1 ∈ zgood ∧ ∃ (T : u_T) (N : Nat), zcl[12]? = some (zX12_mostOfOne.1.cls, T, N) := ⟨⟨(zg9 0 (by decide +kernel) rfl), (zg1 13 (by decide +kernel) rfl), ⟨by decide +kernel, by decide +kernel, by decide +kernel⟩, by decide⟩, (zg8 239 (by decide +kernel) rfl), (zg0 125 (by decide +kernel) rfl), _, _, rfl⟩
theorem mbX12_move : zMw0 zX12_move 2 ∧ Cond.instanceMethod zX12_move.1 ∈ zgood ∧ Cond.selects zX12_move.1.cls zX12_move.1 zX12_move.1 ∈ zgood ∧ ∃ (T : u_T) (N : Nat), zcl[12]? = some (zX12_move.1.cls, T, N) := ⟨⟨(zg8 93 (by decide +kernel) rfl), (zg1 13 (by decide +kernel) rfl), ⟨by decide +kernel, by decide +kernel, by decide +kernel⟩, by decide⟩, (zg8 91 (by decide +kernel) rfl), (zg8 92 (by decide +kernel) rfl), _, _, rfl⟩
theorem mbX12_must : zMw0 zX12_must 2 ∧ Cond.instanceMethod zX12_must.1 ∈ zgood ∧ Cond.selects zX12_must.1.cls zX12_must.1 zX12_must.1 ∈ zgood ∧ ∃ (T : u_T) (N : Nat), zcl[12]? = some (zX12_must.1.cls, T, N) := ⟨⟨(zg9 116 (by decide +kernel) rfl), (zg1 13 (by decide +kernel) rfl), ⟨by decide +kernel, by decide +kernel, by decide +kernel⟩, by decide⟩, (zg9 115 (by decide +kernel) rfl), (zg0 139 (by decide +kernel) rfl), _, _, rfl⟩
theorem mbX12_name : zMw0 zX12_name 2 ∧ Cond.instanceMethod zX12_name.1 ∈ zgood ∧ Cond.selects zX12_name.1.cls zX12_name.1 zX12_name.1 ∈ zgood ∧ ∃ (T : u_T) (N : Nat), zcl[12]? = some (zX12_name.1.cls, T, N) := ⟨⟨(zg9 8 (by decide +kernel) rfl), (zg1 13 (by decide +kernel) rfl), ⟨by decide +kernel, by decide +kernel, by decide +kernel⟩, by decide⟩, (zg9 6 (by decide +kernel) rfl), (zg9 7 (by decide +kernel) rfl), _, _, rfl⟩
theorem mbX12_named : zMw0 zX12_named 0 ∧ Cond.instanceMethod zX12_named.1 ∈ zgood ∧ Cond.selects zX12_named.1.cls zX12_named.1 zX12_named.1 ∈ zgood ∧ ∃ (T : u_T) (N : Nat), zcl[12]? = some (zX12_named.1.cls, T, N) := ⟨⟨(zg7 202 (by decide +kernel) rfl), (zg1 13 (by decide +kernel) rfl), ⟨by decide +kernel, by decide +kernel, by decide +kernel⟩, by decide⟩, (zg7 201 (by decide +kernel) rfl), (zg0 77 (by decide +kernel) rfl), _, _, rfl⟩
theorem mbX12_needsNumber : zMw0 zX12_needsNumber 1 ∧ Cond.instanceMethod zX12_needsNumber.1 ∈ zgood ∧ Cond.selects zX12_needsNumber.1.cls zX12_needsNumber.1 zX12_needsNumber.1 ∈ zgood ∧ ∃ (T : u_T) (N : Nat), zcl[12]? = some (zX12_needsNumber.1.cls, T, N) := ⟨⟨(zg9 168 (by decide +kernel) rfl), (zg1 13 (by decide +kernel) rfl), ⟨by decide +kernel, by decide +kernel, by decide +kernel⟩, by decide⟩, (zg9 167 (by decide +kernel) rfl), (zg0 150 (by decide +kernel) rfl), _, _, rfl⟩
theorem mbX12_normal : zMw0 zX12_normal 2 ∧ Cond.instanceMethod zX12_normal.1 ∈ zgood ∧ Cond.selects zX12_normal.1.cls zX12_normal.1 zX12_normal.1 ∈ zgood ∧ ∃ (T : u_T) (N : Nat), zcl[12]? = some (zX12_normal.1.cls, T, N) := ⟨⟨(zg8 109 (by decide +kernel) rfl), (zg1 13 (by decide +kernel) rfl), ⟨by decide +kernel, by decide +kernel, by decide +kernel⟩, by decide⟩, (zg8 107 (by decide +kernel) rfl), (zg8 108 (by decide +kernel) rfl), _, _, rfl⟩
theorem mbX12_ofDiagram : zMw0 zX12_ofDiagram 3 ∧ Cond.instanceMethod zX12_ofDiagram.1 ∈ zgood ∧ Cond.selects zX12_ofDiagram.1.cls zX12_ofDiagram.1 zX12_ofDiagram.1 ∈ zgood ∧ ∃ (T : u_T) (N : Nat), zcl[12]? = some (zX12_ofDiagram.1.cls, T, N) := ⟨⟨(zg9 28 (by decide +kernel) rfl), (zg1 13 (by decide +kernel) rfl), ⟨by decide +kernel, by decide +kernel, by decide +kernel⟩, by decide⟩, (zg9 26 (by decide +kernel) rfl), (zg9 27 (by decide +kernel) rfl), _, _, rfl⟩
theorem mbX12_ofDiagram0 : zMw0 zX12_ofDiagram0 2 ∧ Cond.instanceMethod zX12_ofDiagram0.1 ∈ zgood ∧ Cond.selects zX12_ofDiagram0.1.cls zX12_ofDiagram0.1 zX12_ofDiagram0.1 ∈ zgood ∧ ∃ (T : u_T) (N : Nat), zcl[12]? = some (zX12_ofDiagram0.1.cls, T, N) := ⟨⟨(zg8 209 (by decide +kernel) rfl), (zg1 13 (by decide +kernel) rfl), ⟨by decide +kernel, by decide +kernel, by decide +kernel⟩, by decide⟩, (zg8 208 (by decide +kernel) rfl), (zg0 118 (by decide +kernel) rfl), _, _, rfl⟩
theorem mbX12_opens : zMw0 zX12_opens 1 ∧ Cond.instanceMethod zX12_opens.1 ∈ zgood ∧ Cond.selects zX12_opens.1.cls zX12_opens.1 zX12_opens.1 ∈ zgood ∧ ∃ (T : u_T) (N : Nat), zcl[12]? = some (zX12_opens.1.cls, T, N) := ⟨⟨(zg8 1 (by decide +kernel) rfl), (zg1 13 (by decide +kernel) rfl), ⟨by decide +kernel, by decide +kernel, by decide +kernel⟩, by decide⟩, (zg8 0 (by decide +kernel) rfl), (zg0 86 (by decide +kernel) rfl), _, _, rfl⟩
theorem mbX12_orders : zMw0 zX12_orders 1 ∧ Cond.static zX12_orders.1 ∈ zgood := ⟨⟨(zg8 220 (by decide +kernel) rfl), (zg1 13 (by decide +kernel) rfl), ⟨by decide +kernel, by decide +kernel, by decide +kernel⟩, by decide⟩, (zg8 219 (by decide +kernel) rfl)⟩
theorem mbX12_out : zMw0 zX12_out 1 ∧ Cond.instanceMethod zX12_out.1 ∈ zgood ∧ Cond.selects zX12_out.1.cls zX12_out.1 zX12_out.1 ∈ zgood ∧ ∃ (T : u_T) (N : Nat), zcl[12]? = some (zX12_out.1.cls, T, N) := ⟨⟨(zg9 70 (by decide +kernel) rfl), (zg1 13 (by decide +kernel) rfl), ⟨by decide +kernel, by decide +kernel, by decide +kernel⟩, by decide⟩, (zg9 68 (by decide +kernel) rfl), (zg9 69 (by decide +kernel) rfl), _, _, rfl⟩
theorem mbX12_outerPoints : zMw0 zX12_outerPoints 0 ∧ Cond.instanceMethod zX12_outerPoints.1 ∈ zgood ∧ Cond.selects zX12_outerPoints.1.cls zX12_outerPoints.1 zX12_outerPoints.1 ∈ zgood ∧ ∃ (T : u_T) (N : Nat), zcl[12]? = some (zX12_outerPoints.1.cls, T, N) := ⟨⟨(zg8 33 (by decide +kernel) rfl), (zg1 13 (by decide +kernel) rfl), ⟨by decide +kernel, by decide +kernel, by decide +kernel⟩, by decide⟩, (zg8 32 (by decide +kernel) rfl), (zg0 94 (by decide +kernel) rfl), _, _, rfl⟩
theorem mbX12_overlay : zMw0 zX12_overlay 3 ∧ Cond.instanceMethod zX12_overlay.1 ∈ zgood ∧ Cond.selects zX12_overlay.1.cls zX12_overlay.1 zX12_overlay.1 ∈ zgood ∧ ∃ (T : u_T) (N : Nat), zcl[12]? = some (zX12_overlay.1.cls, T, N) := ⟨⟨(zg8 149 (by decide +kernel) rfl), (zg1 13 (by decide +kernel) rfl), ⟨by decide +kernel, by decide +kernel, by decide +kernel⟩, by decide⟩, (zg8 147 (by decide +kernel) rfl), (zg8 148 (by decide +kernel) rfl), _, _, rfl⟩
theorem mbX12_packed : zMw0 zX12_packed 2 ∧ Cond.static zX12_packed.1 ∈ zgood := ⟨⟨(zg7 178 (by decide +kernel) rfl), (zg1 13 (by decide +kernel) rfl), ⟨by decide +kernel, by decide +kernel, by decide +kernel⟩, by decide⟩, (zg7 177 (by decide +kernel) rfl)⟩
theorem mbX12_pairing : zMw0 zX12_pairing 2 ∧ Cond.instanceMethod zX12_pairing.1 ∈ zgood ∧ Cond.selects zX12_pairing.1.cls zX12_pairing.1 zX12_pairing.1 ∈ zgood ∧ ∃ (T : u_T) (N : Nat), zcl[12]? = some (zX12_pairing.1.cls, T, N) := ⟨⟨(zg8 133 (by decide +kernel) rfl), (zg1 13 (by decide +kernel) rfl), ⟨by decide +kernel, by decide +kernel, by decide +kernel⟩, by decide⟩, (zg8 131 (by decide +kernel) rfl), (zg8 132 (by decide +kernel) rfl), _, _, rfl⟩
theorem mbX12_pairs : zMw0 zX12_pairs 1 ∧ Cond.instanceMethod zX12_pairs.1 ∈ zgood ∧ Cond.selects zX12_pairs.1.cls zX12_pairs.1 zX12_pairs.1 ∈ zgood ∧ ∃ (T : u_T) (N : Nat), zcl[12]? = some (zX12_pairs.1.cls, T, N) := ⟨⟨(zg9 160 (by decide +kernel) rfl), (zg1 13 (by decide +kernel) rfl), ⟨by decide +kernel, by decide +kernel, by decide +kernel⟩, by decide⟩, (zg9 158 (by decide +kernel) rfl), (zg9 159 (by decide +kernel) rfl), _, _, rfl⟩
theorem mbX12_part : zMw0 zX12_part 2 ∧ Cond.instanceMethod zX12_part.1 ∈ zgood ∧ Cond.selects zX12_part.1.cls zX12_part.1 zX12_part.1 ∈ zgood ∧ ∃ (T : u_T) (N : Nat), zcl[12]? = some (zX12_part.1.cls, T, N) := ⟨⟨(zg9 12 (by decide +kernel) rfl), (zg1 13 (by decide +kernel) rfl), ⟨by decide +kernel, by decide +kernel, by decide +kernel⟩, by decide⟩, (zg9 10 (by decide +kernel) rfl), (zg9 11 (by decide +kernel) rfl), _, _, rfl⟩
theorem mbX12_partial : zMw0 zX12_partial 1 ∧ Cond.instanceMethod zX12_partial.1 ∈ zgood ∧ Cond.selects zX12_partial.1.cls zX12_partial.1 zX12_partial.1 ∈ zgood ∧ ∃ (T : u_T) (N : Nat), zcl[12]? = some (zX12_partial.1.cls, T, N) := ⟨⟨(zg8 173 (by decide +kernel) rfl), (zg1 13 (by decide +kernel) rfl), ⟨by decide +kernel, by decide +kernel, by decide +kernel⟩, by decide⟩, (zg8 171 (by decide +kernel) rfl), (zg8 172 (by decide +kernel) rfl), _, _, rfl⟩
theorem mbX12_partials : zMw0 zX12_partials 3 ∧ Cond.instanceMethod zX12_partials.1 ∈ zgood ∧ Cond.selects zX12_partials.1.cls zX12_partials.1 zX12_partials.1 ∈ zgood ∧ ∃ (T : u_T) (N : Nat), zcl[12]? = some (zX12_partials.1.cls, T, N) := ⟨⟨(zg8 177 (by decide +kernel) rfl), (zg1 13 (by decide +kernel) rfl), ⟨by decide +kernel, by decide +kernel, by decide +kernel⟩, by decide⟩, (zg8 176 (by decide +kernel) rfl), (zg0 113 (by decide +kernel) rfl), _, _, rfl⟩
theorem mbX12_partsOf : zMw0 zX12_partsOf 2 ∧ Cond.instanceMethod zX12_partsOf.1 ∈ zgood ∧ Cond.selects zX12_partsOf.1.cls zX12_partsOf.1 zX12_partsOf.1 ∈ zgood ∧ ∃ (T : u_T) (N : Nat), zcl[12]? = some (zX12_partsOf.1.cls, T, N) := ⟨⟨(zg8 9 (by decide +kernel) rfl), (zg1 13 (by decide +kernel) rfl), ⟨by decide +kernel, by decide +kernel, by decide +kernel⟩, by decide⟩, (zg8 8 (by decide +kernel) rfl), (zg0 88 (by decide +kernel) rfl), _, _, rfl⟩
theorem mbX12_placeIn : zMw0 zX12_placeIn 3 ∧ Cond.static zX12_placeIn.1 ∈ zgood := ⟨⟨(zg7 221 (by decide +kernel) rfl), (zg1 13 (by decide +kernel) rfl), ⟨by decide +kernel, by decide +kernel, by decide +kernel⟩, by decide⟩, (zg7 220 (by decide +kernel) rfl)⟩
theorem mbX12_point : zMw0 zX12_point 2 ∧ Cond.instanceMethod zX12_point.1 ∈ zgood ∧ Cond.selects zX12_point.1.cls zX12_point.1 zX12_point.1 ∈ zgood ∧ ∃ (T : u_T) (N : Nat), zcl[12]? = some (zX12_point.1.cls, T, N) := ⟨⟨(zg8 53 (by decide +kernel) rfl), (zg1 13 (by decide +kernel) rfl), ⟨by decide +kernel, by decide +kernel, by decide +kernel⟩, by decide⟩, (zg8 51 (by decide +kernel) rfl), (zg8 52 (by decide +kernel) rfl), _, _, rfl⟩
theorem mbX12_pointsChange : zMw0 zX12_pointsChange 0 ∧ Cond.instanceMethod zX12_pointsChange.1 ∈ zgood ∧ Cond.selects zX12_pointsChange.1.cls zX12_pointsChange.1 zX12_pointsChange.1 ∈ zgood ∧ ∃ (T : u_T) (N : Nat), zcl[12]? = some (zX12_pointsChange.1.cls, T, N) := ⟨⟨(zg8 81 (by decide +kernel) rfl), (zg1 13 (by decide +kernel) rfl), ⟨by decide +kernel, by decide +kernel, by decide +kernel⟩, by decide⟩, (zg8 80 (by decide +kernel) rfl), (zg0 101 (by decide +kernel) rfl), _, _, rfl⟩
theorem mbX12_print : zMw0 zX12_print 1 ∧ Cond.instanceMethod zX12_print.1 ∈ zgood ∧ Cond.selects zX12_print.1.cls zX12_print.1 zX12_print.1 ∈ zgood ∧ ∃ (T : u_T) (N : Nat), zcl[12]? = some (zX12_print.1.cls, T, N) := ⟨⟨(zg9 50 (by decide +kernel) rfl), (zg1 13 (by decide +kernel) rfl), ⟨by decide +kernel, by decide +kernel, by decide +kernel⟩, by decide⟩, (zg9 48 (by decide +kernel) rfl), (zg9 49 (by decide +kernel) rfl), _, _, rfl⟩
theorem mbX12_printPairs : zMw0 zX12_printPairs 1 ∧ Cond.instanceMethod zX12_printPairs.1 ∈ zgood ∧ Cond.selects zX12_printPairs.1.cls zX12_printPairs.1 zX12_printPairs.1 ∈ zgood ∧ ∃ (T : u_T) (N : Nat), zcl[12]? = some (zX12_printPairs.1.cls, T, N) := ⟨⟨(zg9 66 (by decide +kernel) rfl), (zg1 13 (by decide +kernel) rfl), ⟨by decide +kernel, by decide +kernel, by decide +kernel⟩, by decide⟩, (zg9 64 (by decide +kernel) rfl), (zg9 65 (by decide +kernel) rfl), _, _, rfl⟩
theorem mbX12_puts : zMw0 zX12_puts 1 ∧ Cond.instanceMethod zX12_puts.1 ∈ zgood ∧ Cond.selects zX12_puts.1.cls zX12_puts.1 zX12_puts.1 ∈ zgood ∧ ∃ (T : u_T) (N : Nat), zcl[12]? = some (zX12_puts.1.cls, T, N) := ⟨⟨(zg9 78 (by decide +kernel) rfl), (zg1 13 (by decide +kernel) rfl), ⟨by decide +kernel, by decide +kernel, by decide +kernel⟩, by decide⟩, (zg9 77 (by decide +kernel) rfl), (zg0 131 (by decide +kernel) rfl), _, _, rfl⟩
theorem mbX12_reached : zMw0 zX12_reached 3 ∧ Cond.instanceMethod zX12_reached.1 ∈ zgood ∧ Cond.selects zX12_reached.1.cls zX12_reached.1 zX12_reached.1 ∈ zgood ∧ ∃ (T : u_T) (N : Nat), zcl[12]? = some (zX12_reached.1.cls, T, N) := ⟨⟨(zg8 13 (by decide +kernel) rfl), (zg1 13 (by decide +kernel) rfl), ⟨by decide +kernel, by decide +kernel, by decide +kernel⟩, by decide⟩, (zg8 12 (by decide +kernel) rfl), (zg0 89 (by decide +kernel) rfl), _, _, rfl⟩
theorem mbX12_reads : zMw0 zX12_reads 0 ∧ Cond.instanceMethod zX12_reads.1 ∈ zgood ∧ Cond.selects zX12_reads.1.cls zX12_reads.1 zX12_reads.1 ∈ zgood ∧ ∃ (T : u_T) (N : Nat), zcl[12]? = some (zX12_reads.1.cls, T, N) := ⟨⟨(zg9 90 (by decide +kernel) rfl), (zg1 13 (by decide +kernel) rfl), ⟨by decide +kernel, by decide +kernel, by decide +kernel⟩, by decide⟩, (zg9 89 (by decide +kernel) rfl), (zg0 133 (by decide +kernel) rfl), _, _, rfl⟩
theorem mbX12_readsField : zMw0 zX12_readsField 0 ∧ Cond.instanceMethod zX12_readsField.1 ∈ zgood ∧ Cond.selects zX12_readsField.1.cls zX12_readsField.1 zX12_readsField.1 ∈ zgood ∧ ∃ (T : u_T) (N : Nat), zcl[12]? = some (zX12_readsField.1.cls, T, N) := ⟨⟨(zg9 112 (by decide +kernel) rfl), (zg1 13 (by decide +kernel) rfl), ⟨by decide +kernel, by decide +kernel, by decide +kernel⟩, by decide⟩, (zg9 111 (by decide +kernel) rfl), (zg0 138 (by decide +kernel) rfl), _, _, rfl⟩
theorem mbX12_readsLine : zMw0 zX12_readsLine 0 ∧ Cond.instanceMethod zX12_readsLine.1 ∈ zgood ∧ Cond.selects zX12_readsLine.1.cls zX12_readsLine.1 zX12_readsLine.1 ∈ zgood ∧ ∃ (T : u_T) (N : Nat), zcl[12]? = some (zX12_readsLine.1.cls, T, N) := ⟨⟨(zg9 180 (by decide +kernel) rfl), (zg1 13 (by decide +kernel) rfl), ⟨by decide +kernel, by decide +kernel, by decide +kernel⟩, by decide⟩, (zg9 179 (by decide +kernel) rfl), (zg0 152 (by decide +kernel) rfl), _, _, rfl⟩
theorem mbX12_readsMix : zMw0 zX12_readsMix 0 ∧ Cond.instanceMethod zX12_readsMix.1 ∈ zgood ∧ Cond.selects zX12_readsMix.1.cls zX12_readsMix.1 zX12_readsMix.1 ∈ zgood ∧ ∃ (T : u_T) (N : Nat), zcl[12]? = some (zX12_readsMix.1.cls, T, N) := ⟨⟨(zg9 128 (by decide +kernel) rfl), (zg1 13 (by decide +kernel) rfl), ⟨by decide +kernel, by decide +kernel, by decide +kernel⟩, by decide⟩, (zg9 127 (by decide +kernel) rfl), (zg0 142 (by decide +kernel) rfl), _, _, rfl⟩
theorem mbX12_readsPoint : zMw0 zX12_readsPoint 0 ∧ Cond.instanceMethod zX12_readsPoint.1 ∈ zgood ∧ Cond.selects zX12_readsPoint.1.cls zX12_readsPoint.1 zX12_readsPoint.1 ∈ zgood ∧ ∃ (T : u_T) (N : Nat), zcl[12]? = some (zX12_readsPoint.1.cls, T, N) := ⟨⟨(zg9 136 (by decide +kernel) rfl), (zg1 13 (by decide +kernel) rfl), ⟨by decide +kernel, by decide +kernel, by decide +kernel⟩, by decide⟩, (zg9 135 (by decide +kernel) rfl), (zg0 144 (by decide +kernel) rfl), _, _, rfl⟩
theorem mbX12_readsTwo : zMw0 zX12_readsTwo 0 ∧ Cond.instanceMethod zX12_readsTwo.1 ∈ zgood ∧ Cond.selects zX12_readsTwo.1.cls zX12_readsTwo.1 zX12_readsTwo.1 ∈ zgood ∧ ∃ (T : u_T) (N : Nat), zcl[12]? = some (zX12_readsTwo.1.cls, T, N) := ⟨⟨(zg9 164 (by decide +kernel) rfl), (zg1 13 (by decide +kernel) rfl), ⟨by decide +kernel, by decide +kernel, by decide +kernel⟩, by decide⟩, (zg9 163 (by decide +kernel) rfl), (zg0 149 (by decide +kernel) rfl), _, _, rfl⟩
theorem mbX12_refuse : zMw0 zX12_refuse 1 ∧ Cond.instanceMethod zX12_refuse.1 ∈ zgood ∧ Cond.selects zX12_refuse.1.cls zX12_refuse.1 zX12_refuse.1 ∈ zgood ∧ ∃ (T : u_T) (N : Nat), zcl[12]? = some (zX12_refuse.1.cls, T, N) := ⟨⟨(zg9 20 (by decide +kernel) rfl), (zg1 13 (by decide +kernel) rfl), ⟨by decide +kernel, by decide +kernel, by decide +kernel⟩, by decide⟩, (zg9 19 (by decide +kernel) rfl), (zg0 127 (by decide +kernel) rfl), _, _, rfl⟩
theorem mbX12_rings : zMw0 zX12_rings 0 ∧ Cond.instanceMethod zX12_rings.1 ∈ zgood ∧ Cond.selects zX12_rings.1.cls zX12_rings.1 zX12_rings.1 ∈ zgood ∧ ∃ (T : u_T) (N : Nat), zcl[12]? = some (zX12_rings.1.cls, T, N) := ⟨⟨(zg8 232 (by decide +kernel) rfl), (zg1 13 (by decide +kernel) rfl), ⟨by decide +kernel, by decide +kernel, by decide +kernel⟩, by decide⟩, (zg8 231 (by decide +kernel) rfl), (zg0 123 (by decide +kernel) rfl), _, _, rfl⟩
theorem mbX12_ringsOf : zMw0 zX12_ringsOf 2 ∧ Cond.instanceMethod zX12_ringsOf.1 ∈ zgood ∧ Cond.selects zX12_ringsOf.1.cls zX12_ringsOf.1 zX12_ringsOf.1 ∈ zgood ∧ ∃ (T : u_T) (N : Nat), zcl[12]? = some (zX12_ringsOf.1.cls, T, N) := ⟨⟨(zg8 153 (by decide +kernel) rfl), (zg1 13 (by decide +kernel) rfl), ⟨by decide +kernel, by decide +kernel, by decide +kernel⟩, by decide⟩, (zg8 152 (by decide +kernel) rfl), (zg0 110 (by decide +kernel) rfl), _, _, rfl⟩
theorem mbX12_roundsNow : zMw0 zX12_roundsNow 0 ∧ Cond.instanceMethod zX12_roundsNow.1 ∈ zgood ∧ Cond.selects zX12_roundsNow.1.cls zX12_roundsNow.1 zX12_roundsNow.1 ∈ zgood ∧ ∃ (T : u_T) (N : Nat), zcl[12]? = some (zX12_roundsNow.1.cls, T, N) := ⟨⟨(zg7 132 (by decide +kernel) rfl), (zg1 13 (by decide +kernel) rfl), ⟨by decide +kernel, by decide +kernel, by decide +kernel⟩, by decide⟩, (zg7 131 (by decide +kernel) rfl), (zg0 63 (by decide +kernel) rfl), _, _, rfl⟩
theorem mbX12_says : zMw0 zX12_says 1 ∧ Cond.instanceMethod zX12_says.1 ∈ zgood ∧ Cond.selects zX12_says.1.cls zX12_says.1 zX12_says.1 ∈ zgood ∧ ∃ (T : u_T) (N : Nat), zcl[12]? = some (zX12_says.1.cls, T, N) := ⟨⟨(zg9 58 (by decide +kernel) rfl), (zg1 13 (by decide +kernel) rfl), ⟨by decide +kernel, by decide +kernel, by decide +kernel⟩, by decide⟩, (zg9 57 (by decide +kernel) rfl), (zg0 129 (by decide +kernel) rfl), _, _, rfl⟩
theorem mbX12_saysField : zMw0 zX12_saysField 1 ∧ Cond.instanceMethod zX12_saysField.1 ∈ zgood ∧ Cond.selects zX12_saysField.1.cls zX12_saysField.1 zX12_saysField.1 ∈ zgood ∧ ∃ (T : u_T) (N : Nat), zcl[12]? = some (zX12_saysField.1.cls, T, N) := ⟨⟨(zg9 62 (by decide +kernel) rfl), (zg1 13 (by decide +kernel) rfl), ⟨by decide +kernel, by decide +kernel, by decide +kernel⟩, by decide⟩, (zg9 61 (by decide +kernel) rfl), (zg0 130 (by decide +kernel) rfl), _, _, rfl⟩
theorem mbX12_saysNumber : zMw0 zX12_saysNumber 1 ∧ Cond.instanceMethod zX12_saysNumber.1 ∈ zgood ∧ Cond.selects zX12_saysNumber.1.cls zX12_saysNumber.1 zX12_saysNumber.1 ∈ zgood ∧ ∃ (T : u_T) (N : Nat), zcl[12]? = some (zX12_saysNumber.1.cls, T, N) := ⟨⟨(zg9 54 (by decide +kernel) rfl), (zg1 13 (by decide +kernel) rfl), ⟨by decide +kernel, by decide +kernel, by decide +kernel⟩, by decide⟩, (zg9 53 (by decide +kernel) rfl), (zg0 128 (by decide +kernel) rfl), _, _, rfl⟩
theorem mbX12_shifts : zMw0 zX12_shifts 2 ∧ Cond.instanceMethod zX12_shifts.1 ∈ zgood ∧ Cond.selects zX12_shifts.1.cls zX12_shifts.1 zX12_shifts.1 ∈ zgood ∧ ∃ (T : u_T) (N : Nat), zcl[12]? = some (zX12_shifts.1.cls, T, N) := ⟨⟨(zg8 77 (by decide +kernel) rfl), (zg1 13 (by decide +kernel) rfl), ⟨by decide +kernel, by decide +kernel, by decide +kernel⟩, by decide⟩, (zg8 76 (by decide +kernel) rfl), (zg0 100 (by decide +kernel) rfl), _, _, rfl⟩
theorem mbX12_signNow : zMw0 zX12_signNow 0 ∧ Cond.instanceMethod zX12_signNow.1 ∈ zgood ∧ Cond.selects zX12_signNow.1.cls zX12_signNow.1 zX12_signNow.1 ∈ zgood ∧ ∃ (T : u_T) (N : Nat), zcl[12]? = some (zX12_signNow.1.cls, T, N) := ⟨⟨(zg7 112 (by decide +kernel) rfl), (zg1 13 (by decide +kernel) rfl), ⟨by decide +kernel, by decide +kernel, by decide +kernel⟩, by decide⟩, (zg7 111 (by decide +kernel) rfl), (zg0 58 (by decide +kernel) rfl), _, _, rfl⟩
theorem mbX12_signedBy : zMw0 zX12_signedBy 2 ∧ Cond.instanceMethod zX12_signedBy.1 ∈ zgood ∧ Cond.selects zX12_signedBy.1.cls zX12_signedBy.1 zX12_signedBy.1 ∈ zgood ∧ ∃ (T : u_T) (N : Nat), zcl[12]? = some (zX12_signedBy.1.cls, T, N) := ⟨⟨(zg8 169 (by decide +kernel) rfl), (zg1 13 (by decide +kernel) rfl), ⟨by decide +kernel, by decide +kernel, by decide +kernel⟩, by decide⟩, (zg8 167 (by decide +kernel) rfl), (zg8 168 (by decide +kernel) rfl), _, _, rfl⟩
theorem mbX12_signedOf : zMw0 zX12_signedOf 1 ∧ Cond.instanceMethod zX12_signedOf.1 ∈ zgood ∧ Cond.selects zX12_signedOf.1.cls zX12_signedOf.1 zX12_signedOf.1 ∈ zgood ∧ ∃ (T : u_T) (N : Nat), zcl[12]? = some (zX12_signedOf.1.cls, T, N) := ⟨⟨(zg8 213 (by decide +kernel) rfl), (zg1 13 (by decide +kernel) rfl), ⟨by decide +kernel, by decide +kernel, by decide +kernel⟩, by decide⟩, (zg8 212 (by decide +kernel) rfl), (zg0 119 (by decide +kernel) rfl), _, _, rfl⟩
theorem mbX12_signs : zMw0 zX12_signs 0 ∧ Cond.instanceMethod zX12_signs.1 ∈ zgood ∧ Cond.selects zX12_signs.1.cls zX12_signs.1 zX12_signs.1 ∈ zgood ∧ ∃ (T : u_T) (N : Nat), zcl[12]? = some (zX12_signs.1.cls, T, N) := ⟨⟨(zg7 225 (by decide +kernel) rfl), (zg1 13 (by decide +kernel) rfl), ⟨by decide +kernel, by decide +kernel, by decide +kernel⟩, by decide⟩, (zg7 224 (by decide +kernel) rfl), (zg0 82 (by decide +kernel) rfl), _, _, rfl⟩
theorem mbX12_sinks : zMw0 zX12_sinks 3 ∧ Cond.static zX12_sinks.1 ∈ zgood := ⟨⟨(zg7 184 (by decide +kernel) rfl), (zg1 13 (by decide +kernel) rfl), ⟨by decide +kernel, by decide +kernel, by decide +kernel⟩, by decide⟩, (zg7 183 (by decide +kernel) rfl)⟩
theorem mbX12_sizeOf : zMw0 zX12_sizeOf 1 ∧ Cond.instanceMethod zX12_sizeOf.1 ∈ zgood ∧ Cond.selects zX12_sizeOf.1.cls zX12_sizeOf.1 zX12_sizeOf.1 ∈ zgood ∧ ∃ (T : u_T) (N : Nat), zcl[12]? = some (zX12_sizeOf.1.cls, T, N) := ⟨⟨(zg7 218 (by decide +kernel) rfl), (zg1 13 (by decide +kernel) rfl), ⟨by decide +kernel, by decide +kernel, by decide +kernel⟩, by decide⟩, (zg7 217 (by decide +kernel) rfl), (zg0 81 (by decide +kernel) rfl), _, _, rfl⟩
theorem mbX12_sortHere : zMw0 zX12_sortHere 0 ∧ Cond.instanceMethod zX12_sortHere.1 ∈ zgood ∧ Cond.selects zX12_sortHere.1.cls zX12_sortHere.1 zX12_sortHere.1 ∈ zgood ∧ ∃ (T : u_T) (N : Nat), zcl[12]? = some (zX12_sortHere.1.cls, T, N) := ⟨⟨(zg9 184 (by decide +kernel) rfl), (zg1 13 (by decide +kernel) rfl), ⟨by decide +kernel, by decide +kernel, by decide +kernel⟩, by decide⟩, (zg9 183 (by decide +kernel) rfl), (zg0 153 (by decide +kernel) rfl), _, _, rfl⟩
theorem mbX12_sorts : zMw0 zX12_sorts 2 ∧ Cond.static zX12_sorts.1 ∈ zgood := ⟨⟨(zg7 175 (by decide +kernel) rfl), (zg1 13 (by decide +kernel) rfl), ⟨by decide +kernel, by decide +kernel, by decide +kernel⟩, by decide⟩, (zg7 174 (by decide +kernel) rfl)⟩
theorem mbX12_sorts_ : zMw0 zX12_sorts_ 2 ∧ Cond.static zX12_sorts_.1 ∈ zgood := ⟨⟨(zg7 181 (by decide +kernel) rfl), (zg1 13 (by decide +kernel) rfl), ⟨by decide +kernel, by decide +kernel, by decide +kernel⟩, by decide⟩, (zg7 180 (by decide +kernel) rfl)⟩
theorem mbX12_stands : zMw0 zX12_stands 0 ∧ Cond.instanceMethod zX12_stands.1 ∈ zgood ∧ Cond.selects zX12_stands.1.cls zX12_stands.1 zX12_stands.1 ∈ zgood ∧ ∃ (T : u_T) (N : Nat), zcl[12]? = some (zX12_stands.1.cls, T, N) := ⟨⟨(zg8 89 (by decide +kernel) rfl), (zg1 13 (by decide +kernel) rfl), ⟨by decide +kernel, by decide +kernel, by decide +kernel⟩, by decide⟩, (zg8 88 (by decide +kernel) rfl), (zg0 103 (by decide +kernel) rfl), _, _, rfl⟩
theorem mbX12_status : zMw0 zX12_status 0 ∧ Cond.instanceMethod zX12_status.1 ∈ zgood ∧ Cond.selects zX12_status.1.cls zX12_status.1 zX12_status.1 ∈ zgood ∧ ∃ (T : u_T) (N : Nat), zcl[12]? = some (zX12_status.1.cls, T, N) := ⟨⟨(zg7 78 (by decide +kernel) rfl), (zg1 13 (by decide +kernel) rfl), ⟨by decide +kernel, by decide +kernel, by decide +kernel⟩, by decide⟩, (zg7 76 (by decide +kernel) rfl), (zg7 77 (by decide +kernel) rfl), _, _, rfl⟩
theorem mbX12_sub : zMw0 zX12_sub 2 ∧ Cond.instanceMethod zX12_sub.1 ∈ zgood ∧ Cond.selects zX12_sub.1.cls zX12_sub.1 zX12_sub.1 ∈ zgood ∧ ∃ (T : u_T) (N : Nat), zcl[12]? = some (zX12_sub.1.cls, T, N) := ⟨⟨(zg8 181 (by decide +kernel) rfl), (zg1 13 (by decide +kernel) rfl), ⟨by decide +kernel, by decide +kernel, by decide +kernel⟩, by decide⟩, (zg8 179 (by decide +kernel) rfl), (zg8 180 (by decide +kernel) rfl), _, _, rfl⟩
theorem mbX12_sum : zMw0 zX12_sum 0 ∧ Cond.instanceMethod zX12_sum.1 ∈ zgood ∧ Cond.selects zX12_sum.1.cls zX12_sum.1 zX12_sum.1 ∈ zgood ∧ ∃ (T : u_T) (N : Nat), zcl[12]? = some (zX12_sum.1.cls, T, N) := ⟨⟨(zg8 193 (by decide +kernel) rfl), (zg1 13 (by decide +kernel) rfl), ⟨by decide +kernel, by decide +kernel, by decide +kernel⟩, by decide⟩, (zg8 191 (by decide +kernel) rfl), (zg8 192 (by decide +kernel) rfl), _, _, rfl⟩
theorem mbX12_sumOf : zMw0 zX12_sumOf 1 ∧ Cond.instanceMethod zX12_sumOf.1 ∈ zgood ∧ Cond.selects zX12_sumOf.1.cls zX12_sumOf.1 zX12_sumOf.1 ∈ zgood ∧ ∃ (T : u_T) (N : Nat), zcl[12]? = some (zX12_sumOf.1.cls, T, N) := ⟨⟨(zg9 32 (by decide +kernel) rfl), (zg1 13 (by decide +kernel) rfl), ⟨by decide +kernel, by decide +kernel, by decide +kernel⟩, by decide⟩, (zg9 30 (by decide +kernel) rfl), (zg9 31 (by decide +kernel) rfl), _, _, rfl⟩
theorem mbX12_summed : zMw0 zX12_summed 3 ∧ Cond.instanceMethod zX12_summed.1 ∈ zgood ∧ Cond.selects zX12_summed.1.cls zX12_summed.1 zX12_summed.1 ∈ zgood ∧ ∃ (T : u_T) (N : Nat), zcl[12]? = some (zX12_summed.1.cls, T, N) := ⟨⟨(zg8 161 (by decide +kernel) rfl), (zg1 13 (by decide +kernel) rfl), ⟨by decide +kernel, by decide +kernel, by decide +kernel⟩, by decide⟩, (zg8 160 (by decide +kernel) rfl), (zg0 111 (by decide +kernel) rfl), _, _, rfl⟩
theorem mbX12_swap : zMw0 zX12_swap 1 ∧ Cond.instanceMethod zX12_swap.1 ∈ zgood ∧ Cond.selects zX12_swap.1.cls zX12_swap.1 zX12_swap.1 ∈ zgood ∧ ∃ (T : u_T) (N : Nat), zcl[12]? = some (zX12_swap.1.cls, T, N) := ⟨⟨(zg8 105 (by decide +kernel) rfl), (zg1 13 (by decide +kernel) rfl), ⟨by decide +kernel, by decide +kernel, by decide +kernel⟩, by decide⟩, (zg8 103 (by decide +kernel) rfl), (zg8 104 (by decide +kernel) rfl), _, _, rfl⟩
theorem mbX12_symmetryOf : zMw0 zX12_symmetryOf 1 ∧ Cond.instanceMethod zX12_symmetryOf.1 ∈ zgood ∧ Cond.selects zX12_symmetryOf.1.cls zX12_symmetryOf.1 zX12_symmetryOf.1 ∈ zgood ∧ ∃ (T : u_T) (N : Nat), zcl[12]? = some (zX12_symmetryOf.1.cls, T, N) := ⟨⟨(zg8 217 (by decide +kernel) rfl), (zg1 13 (by decide +kernel) rfl), ⟨by decide +kernel, by decide +kernel, by decide +kernel⟩, by decide⟩, (zg8 216 (by decide +kernel) rfl), (zg0 120 (by decide +kernel) rfl), _, _, rfl⟩
theorem mbX12_takes : zMw0 zX12_takes 1 ∧ Cond.instanceMethod zX12_takes.1 ∈ zgood ∧ Cond.selects zX12_takes.1.cls zX12_takes.1 zX12_takes.1 ∈ zgood ∧ ∃ (T : u_T) (N : Nat), zcl[12]? = some (zX12_takes.1.cls, T, N) := ⟨⟨(zg9 124 (by decide +kernel) rfl), (zg1 13 (by decide +kernel) rfl), ⟨by decide +kernel, by decide +kernel, by decide +kernel⟩, by decide⟩, (zg9 123 (by decide +kernel) rfl), (zg0 141 (by decide +kernel) rfl), _, _, rfl⟩
theorem mbX12_toOf : zMw0 zX12_toOf 1 ∧ Cond.instanceMethod zX12_toOf.1 ∈ zgood ∧ Cond.selects zX12_toOf.1.cls zX12_toOf.1 zX12_toOf.1 ∈ zgood ∧ ∃ (T : u_T) (N : Nat), zcl[12]? = some (zX12_toOf.1.cls, T, N) := ⟨⟨(zg8 21 (by decide +kernel) rfl), (zg1 13 (by decide +kernel) rfl), ⟨by decide +kernel, by decide +kernel, by decide +kernel⟩, by decide⟩, (zg8 20 (by decide +kernel) rfl), (zg0 91 (by decide +kernel) rfl), _, _, rfl⟩
theorem mbX12_tries : zMw0 zX12_tries 2 ∧ Cond.instanceMethod zX12_tries.1 ∈ zgood ∧ Cond.selects zX12_tries.1.cls zX12_tries.1 zX12_tries.1 ∈ zgood ∧ ∃ (T : u_T) (N : Nat), zcl[12]? = some (zX12_tries.1.cls, T, N) := ⟨⟨(zg7 198 (by decide +kernel) rfl), (zg1 13 (by decide +kernel) rfl), ⟨by decide +kernel, by decide +kernel, by decide +kernel⟩, by decide⟩, (zg7 197 (by decide +kernel) rfl), (zg0 76 (by decide +kernel) rfl), _, _, rfl⟩
theorem mbX12_uncrossed : zMw0 zX12_uncrossed 0 ∧ Cond.instanceMethod zX12_uncrossed.1 ∈ zgood ∧ Cond.selects zX12_uncrossed.1.cls zX12_uncrossed.1 zX12_uncrossed.1 ∈ zgood ∧ ∃ (T : u_T) (N : Nat), zcl[12]? = some (zX12_uncrossed.1.cls, T, N) := ⟨⟨(zg7 229 (by decide +kernel) rfl), (zg1 13 (by decide +kernel) rfl), ⟨by decide +kernel, by decide +kernel, by decide +kernel⟩, by decide⟩, (zg7 228 (by decide +kernel) rfl), (zg0 83 (by decide +kernel) rfl), _, _, rfl⟩
theorem mbX12_unpacks : zMw0 zX12_unpacks 2 ∧ Cond.instanceMethod zX12_unpacks.1 ∈ zgood ∧ Cond.selects zX12_unpacks.1.cls zX12_unpacks.1 zX12_unpacks.1 ∈ zgood ∧ ∃ (T : u_T) (N : Nat), zcl[12]? = some (zX12_unpacks.1.cls, T, N) := ⟨⟨(zg7 188 (by decide +kernel) rfl), (zg1 13 (by decide +kernel) rfl), ⟨by decide +kernel, by decide +kernel, by decide +kernel⟩, by decide⟩, (zg7 187 (by decide +kernel) rfl), (zg0 74 (by decide +kernel) rfl), _, _, rfl⟩
theorem mbX12_unworths : zMw0 zX12_unworths 0 ∧ Cond.instanceMethod zX12_unworths.1 ∈ zgood ∧ Cond.selects zX12_unworths.1.cls zX12_unworths.1 zX12_unworths.1 ∈ zgood ∧ ∃ (T : u_T) (N : Nat), zcl[12]? = some (zX12_unworths.1.cls, T, N) := ⟨⟨(zg6 151 (by decide +kernel) rfl), (zg1 13 (by decide +kernel) rfl), ⟨by decide +kernel, by decide +kernel, by decide +kernel⟩, by decide⟩, (zg6 150 (by decide +kernel) rfl), (zg0 52 (by decide +kernel) rfl), _, _, rfl⟩
theorem mbX12_vertices : zMw0 zX12_vertices 0 ∧ Cond.instanceMethod zX12_vertices.1 ∈ zgood ∧ Cond.selects zX12_vertices.1.cls zX12_vertices.1 zX12_vertices.1 ∈ zgood ∧ ∃ (T : u_T) (N : Nat), zcl[12]? = some (zX12_vertices.1.cls, T, N) := ⟨⟨(zg7 152 (by decide +kernel) rfl), (zg1 13 (by decide +kernel) rfl), ⟨by decide +kernel, by decide +kernel, by decide +kernel⟩, by decide⟩, (zg7 151 (by decide +kernel) rfl), (zg0 68 (by decide +kernel) rfl), _, _, rfl⟩
theorem mbX12_ways : zMw0 zX12_ways 3 ∧ Cond.instanceMethod zX12_ways.1 ∈ zgood ∧ Cond.selects zX12_ways.1.cls zX12_ways.1 zX12_ways.1 ∈ zgood ∧ ∃ (T : u_T) (N : Nat), zcl[12]? = some (zX12_ways.1.cls, T, N) := ⟨⟨(zg8 145 (by decide +kernel) rfl), (zg1 13 (by decide +kernel) rfl), ⟨by decide +kernel, by decide +kernel, by decide +kernel⟩, by decide⟩, (zg8 143 (by decide +kernel) rfl), (zg8 144 (by decide +kernel) rfl), _, _, rfl⟩
theorem mbX12_whichPairing : zMw0 zX12_whichPairing 0 ∧ Cond.instanceMethod zX12_whichPairing.1 ∈ zgood ∧ Cond.selects zX12_whichPairing.1.cls zX12_whichPairing.1 zX12_whichPairing.1 ∈ zgood ∧ ∃ (T : u_T) (N : Nat), zcl[12]? = some (zX12_whichPairing.1.cls, T, N) := ⟨⟨(zg9 172 (by decide +kernel) rfl), (zg1 13 (by decide +kernel) rfl), ⟨by decide +kernel, by decide +kernel, by decide +kernel⟩, by decide⟩, (zg9 171 (by decide +kernel) rfl), (zg0 151 (by decide +kernel) rfl), _, _, rfl⟩
theorem mbX12_worth : zMw0 zX12_worth 2 ∧ Cond.instanceMethod zX12_worth.1 ∈ zgood ∧ Cond.selects zX12_worth.1.cls zX12_worth.1 zX12_worth.1 ∈ zgood ∧ ∃ (T : u_T) (N : Nat), zcl[12]? = some (zX12_worth.1.cls, T, N) := ⟨⟨(zg8 117 (by decide +kernel) rfl), (zg1 13 (by decide +kernel) rfl), ⟨by decide +kernel, by decide +kernel, by decide +kernel⟩, by decide⟩, (zg8 115 (by decide +kernel) rfl), (zg8 116 (by decide +kernel) rfl), _, _, rfl⟩
theorem mbX12_worthOf : zMw0 zX12_worthOf 1 ∧ Cond.instanceMethod zX12_worthOf.1 ∈ zgood ∧ Cond.selects zX12_worthOf.1.cls zX12_worthOf.1 zX12_worthOf.1 ∈ zgood ∧ ∃ (T : u_T) (N : Nat), zcl[12]? = some (zX12_worthOf.1.cls, T, N) := ⟨⟨(zg8 197 (by decide +kernel) rfl), (zg1 13 (by decide +kernel) rfl), ⟨by decide +kernel, by decide +kernel, by decide +kernel⟩, by decide⟩, (zg8 196 (by decide +kernel) rfl), (zg0 116 (by decide +kernel) rfl), _, _, rfl⟩
theorem mbX1_addLine : zMw0 zX1_addLine 1 ∧ Cond.instanceMethod zX1_addLine.1 ∈ zgood ∧ Cond.selects zX1_addLine.1.cls zX1_addLine.1 zX1_addLine.1 ∈ zgood ∧ ∃ (T : u_T) (N : Nat), zcl[1]? = some (zX1_addLine.1.cls, T, N) := ⟨⟨(zg4 212 (by decide +kernel) rfl), (zg1 9 (by decide +kernel) rfl), ⟨by decide +kernel, by decide +kernel, by decide +kernel⟩, by decide⟩, (zg4 210 (by decide +kernel) rfl), (zg4 211 (by decide +kernel) rfl), _, _, rfl⟩
theorem mbX1_bridges : zMw0 zX1_bridges 0 ∧ Cond.instanceMethod zX1_bridges.1 ∈ zgood ∧ Cond.selects zX1_bridges.1.cls zX1_bridges.1 zX1_bridges.1 ∈ zgood ∧ ∃ (T : u_T) (N : Nat), zcl[1]? = some (zX1_bridges.1.cls, T, N) := ⟨⟨(zg4 229 (by decide +kernel) rfl), (zg1 9 (by decide +kernel) rfl), ⟨by decide +kernel, by decide +kernel, by decide +kernel⟩, by decide⟩, (zg4 227 (by decide +kernel) rfl), (zg4 228 (by decide +kernel) rfl), _, _, rfl⟩
theorem mbX1_clear : zMw0 zX1_clear 1 ∧ Cond.instanceMethod zX1_clear.1 ∈ zgood ∧ Cond.selects zX1_clear.1.cls zX1_clear.1 zX1_clear.1 ∈ zgood ∧ ∃ (T : u_T) (N : Nat), zcl[1]? = some (zX1_clear.1.cls, T, N) := ⟨⟨(zg4 207 (by decide +kernel) rfl), (zg1 9 (by decide +kernel) rfl), ⟨by decide +kernel, by decide +kernel, by decide +kernel⟩, by decide⟩, (zg4 205 (by decide +kernel) rfl), (zg4 206 (by decide +kernel) rfl), _, _, rfl⟩
theorem mbX1_cutPoints : zMw0 zX1_cutPoints 0 ∧ Cond.instanceMethod zX1_cutPoints.1 ∈ zgood ∧ Cond.selects zX1_cutPoints.1.cls zX1_cutPoints.1 zX1_cutPoints.1 ∈ zgood ∧ ∃ (T : u_T) (N : Nat), zcl[1]? = some (zX1_cutPoints.1.cls, T, N) := ⟨⟨(zg6 71 (by decide +kernel) rfl), (zg1 9 (by decide +kernel) rfl), ⟨by decide +kernel, by decide +kernel, by decide +kernel⟩, by decide⟩, (zg6 69 (by decide +kernel) rfl), (zg6 70 (by decide +kernel) rfl), _, _, rfl⟩
theorem mbX1_distance : zMw0 zX1_distance 2 ∧ Cond.instanceMethod zX1_distance.1 ∈ zgood ∧ Cond.selects zX1_distance.1.cls zX1_distance.1 zX1_distance.1 ∈ zgood ∧ ∃ (T : u_T) (N : Nat), zcl[1]? = some (zX1_distance.1.cls, T, N) := ⟨⟨(zg6 63 (by decide +kernel) rfl), (zg1 9 (by decide +kernel) rfl), ⟨by decide +kernel, by decide +kernel, by decide +kernel⟩, by decide⟩, (zg6 61 (by decide +kernel) rfl), (zg6 62 (by decide +kernel) rfl), _, _, rfl⟩
theorem mbX1_hasTwin : zMw0 zX1_hasTwin 1 ∧ Cond.instanceMethod zX1_hasTwin.1 ∈ zgood ∧ Cond.selects zX1_hasTwin.1.cls zX1_hasTwin.1 zX1_hasTwin.1 ∈ zgood ∧ ∃ (T : u_T) (N : Nat), zcl[1]? = some (zX1_hasTwin.1.cls, T, N) := ⟨⟨(zg4 233 (by decide +kernel) rfl), (zg1 9 (by decide +kernel) rfl), ⟨by decide +kernel, by decide +kernel, by decide +kernel⟩, by decide⟩, (zg4 232 (by decide +kernel) rfl), (zg0 35 (by decide +kernel) rfl), _, _, rfl⟩
theorem mbX1_init : zMw0 zX1_init 0 ∧ zX1_init.1.name = "<init>" ∧ Cond.instanceMethod zX1_init.1 ∈ zgood ∧ zX1_init.2.2.2 = none := ⟨⟨(zg1 181 (by decide +kernel) rfl), (zg1 9 (by decide +kernel) rfl), ⟨by decide +kernel, by decide +kernel, by decide +kernel⟩, by decide⟩, rfl, (zg1 180 (by decide +kernel) rfl), rfl⟩
theorem mbX1_isCut : zMw0 zX1_isCut 1 ∧ Cond.instanceMethod zX1_isCut.1 ∈ zgood ∧ Cond.selects zX1_isCut.1.cls zX1_isCut.1 zX1_isCut.1 ∈ zgood ∧ ∃ (T : u_T) (N : Nat), zcl[1]? = some (zX1_isCut.1.cls, T, N) := ⟨⟨(zg6 75 (by decide +kernel) rfl), (zg1 9 (by decide +kernel) rfl), ⟨by decide +kernel, by decide +kernel, by decide +kernel⟩, by decide⟩, (zg6 74 (by decide +kernel) rfl), (zg0 48 (by decide +kernel) rfl), _, _, rfl⟩
theorem mbX1_linesWithin : zMw0 zX1_linesWithin 1 ∧ Cond.instanceMethod zX1_linesWithin.1 ∈ zgood ∧ Cond.selects zX1_linesWithin.1.cls zX1_linesWithin.1 zX1_linesWithin.1 ∈ zgood ∧ ∃ (T : u_T) (N : Nat), zcl[1]? = some (zX1_linesWithin.1.cls, T, N) := ⟨⟨(zg6 132 (by decide +kernel) rfl), (zg1 9 (by decide +kernel) rfl), ⟨by decide +kernel, by decide +kernel, by decide +kernel⟩, by decide⟩, (zg6 130 (by decide +kernel) rfl), (zg6 131 (by decide +kernel) rfl), _, _, rfl⟩
theorem mbX1_nextTo : zMw0 zX1_nextTo 1 ∧ Cond.instanceMethod zX1_nextTo.1 ∈ zgood ∧ Cond.selects zX1_nextTo.1.cls zX1_nextTo.1 zX1_nextTo.1 ∈ zgood ∧ ∃ (T : u_T) (N : Nat), zcl[1]? = some (zX1_nextTo.1.cls, T, N) := ⟨⟨(zg4 224 (by decide +kernel) rfl), (zg1 9 (by decide +kernel) rfl), ⟨by decide +kernel, by decide +kernel, by decide +kernel⟩, by decide⟩, (zg4 223 (by decide +kernel) rfl), (zg0 34 (by decide +kernel) rfl), _, _, rfl⟩
theorem mbX1_partCount : zMw0 zX1_partCount 0 ∧ Cond.instanceMethod zX1_partCount.1 ∈ zgood ∧ Cond.selects zX1_partCount.1.cls zX1_partCount.1 zX1_partCount.1 ∈ zgood ∧ ∃ (T : u_T) (N : Nat), zcl[1]? = some (zX1_partCount.1.cls, T, N) := ⟨⟨(zg4 216 (by decide +kernel) rfl), (zg1 9 (by decide +kernel) rfl), ⟨by decide +kernel, by decide +kernel, by decide +kernel⟩, by decide⟩, (zg4 214 (by decide +kernel) rfl), (zg4 215 (by decide +kernel) rfl), _, _, rfl⟩
theorem mbX1_reach : zMw0 zX1_reach 2 ∧ Cond.instanceMethod zX1_reach.1 ∈ zgood ∧ Cond.selects zX1_reach.1.cls zX1_reach.1 zX1_reach.1 ∈ zgood ∧ ∃ (T : u_T) (N : Nat), zcl[1]? = some (zX1_reach.1.cls, T, N) := ⟨⟨(zg4 220 (by decide +kernel) rfl), (zg1 9 (by decide +kernel) rfl), ⟨by decide +kernel, by decide +kernel, by decide +kernel⟩, by decide⟩, (zg4 218 (by decide +kernel) rfl), (zg4 219 (by decide +kernel) rfl), _, _, rfl⟩
theorem mbX1_readName : zMw0 zX1_readName 3 ∧ Cond.instanceMethod zX1_readName.1 ∈ zgood ∧ Cond.selects zX1_readName.1.cls zX1_readName.1 zX1_readName.1 ∈ zgood ∧ ∃ (T : u_T) (N : Nat), zcl[1]? = some (zX1_readName.1.cls, T, N) := ⟨⟨(zg4 203 (by decide +kernel) rfl), (zg1 9 (by decide +kernel) rfl), ⟨by decide +kernel, by decide +kernel, by decide +kernel⟩, by decide⟩, (zg4 201 (by decide +kernel) rfl), (zg4 202 (by decide +kernel) rfl), _, _, rfl⟩
theorem mbX1_rings : zMw0 zX1_rings 0 ∧ Cond.instanceMethod zX1_rings.1 ∈ zgood ∧ Cond.selects zX1_rings.1.cls zX1_rings.1 zX1_rings.1 ∈ zgood ∧ ∃ (T : u_T) (N : Nat), zcl[1]? = some (zX1_rings.1.cls, T, N) := ⟨⟨(zg4 237 (by decide +kernel) rfl), (zg1 9 (by decide +kernel) rfl), ⟨by decide +kernel, by decide +kernel, by decide +kernel⟩, by decide⟩, (zg4 235 (by decide +kernel) rfl), (zg4 236 (by decide +kernel) rfl), _, _, rfl⟩
theorem mbX2_clear : zMw0 zX2_clear 1 ∧ Cond.instanceMethod zX2_clear.1 ∈ zgood ∧ Cond.selects zX2_clear.1.cls zX2_clear.1 zX2_clear.1 ∈ zgood ∧ ∃ (T : u_T) (N : Nat), zcl[2]? = some (zX2_clear.1.cls, T, N) := ⟨⟨(zg4 102 (by decide +kernel) rfl), (zg1 8 (by decide +kernel) rfl), ⟨by decide +kernel, by decide +kernel, by decide +kernel⟩, by decide⟩, (zg4 100 (by decide +kernel) rfl), (zg4 101 (by decide +kernel) rfl), _, _, rfl⟩
theorem mbX2_find : zMw0 zX2_find 1 ∧ Cond.instanceMethod zX2_find.1 ∈ zgood ∧ Cond.selects zX2_find.1.cls zX2_find.1 zX2_find.1 ∈ zgood ∧ ∃ (T : u_T) (N : Nat), zcl[2]? = some (zX2_find.1.cls, T, N) := ⟨⟨(zg4 126 (by decide +kernel) rfl), (zg1 8 (by decide +kernel) rfl), ⟨by decide +kernel, by decide +kernel, by decide +kernel⟩, by decide⟩, (zg4 124 (by decide +kernel) rfl), (zg4 125 (by decide +kernel) rfl), _, _, rfl⟩
theorem mbX2_init : zMw0 zX2_init 0 ∧ zX2_init.1.name = "<init>" ∧ Cond.instanceMethod zX2_init.1 ∈ zgood ∧ zX2_init.2.2.2 = none := ⟨⟨(zg1 165 (by decide +kernel) rfl), (zg1 8 (by decide +kernel) rfl), ⟨by decide +kernel, by decide +kernel, by decide +kernel⟩, by decide⟩, rfl, (zg1 164 (by decide +kernel) rfl), rfl⟩
theorem mbX2_put : zMw0 zX2_put 2 ∧ Cond.instanceMethod zX2_put.1 ∈ zgood ∧ Cond.selects zX2_put.1.cls zX2_put.1 zX2_put.1 ∈ zgood ∧ ∃ (T : u_T) (N : Nat), zcl[2]? = some (zX2_put.1.cls, T, N) := ⟨⟨(zg4 147 (by decide +kernel) rfl), (zg1 8 (by decide +kernel) rfl), ⟨by decide +kernel, by decide +kernel, by decide +kernel⟩, by decide⟩, (zg4 145 (by decide +kernel) rfl), (zg4 146 (by decide +kernel) rfl), _, _, rfl⟩
theorem mbX2_slotOf : zMw0 zX2_slotOf 1 ∧ Cond.instanceMethod zX2_slotOf.1 ∈ zgood ∧ Cond.selects zX2_slotOf.1.cls zX2_slotOf.1 zX2_slotOf.1 ∈ zgood ∧ ∃ (T : u_T) (N : Nat), zcl[2]? = some (zX2_slotOf.1.cls, T, N) := ⟨⟨(zg4 130 (by decide +kernel) rfl), (zg1 8 (by decide +kernel) rfl), ⟨by decide +kernel, by decide +kernel, by decide +kernel⟩, by decide⟩, (zg4 129 (by decide +kernel) rfl), (zg0 26 (by decide +kernel) rfl), _, _, rfl⟩
theorem mbX3_init : zMw0 zX3_init 0 ∧ zX3_init.1.name = "<init>" ∧ Cond.instanceMethod zX3_init.1 ∈ zgood ∧ zX3_init.2.2.2 = none := ⟨⟨(zg1 86 (by decide +kernel) rfl), (zg1 4 (by decide +kernel) rfl), ⟨by decide +kernel, by decide +kernel, by decide +kernel⟩, by decide⟩, rfl, (zg1 85 (by decide +kernel) rfl), rfl⟩
theorem mbX3_readLines : zMw0 zX3_readLines 2 ∧ Cond.instanceMethod zX3_readLines.1 ∈ zgood ∧ Cond.selects zX3_readLines.1.cls zX3_readLines.1 zX3_readLines.1 ∈ zgood ∧ ∃ (T : u_T) (N : Nat), zcl[3]? = some (zX3_readLines.1.cls, T, N) := ⟨⟨(zg4 35 (by decide +kernel) rfl), (zg1 4 (by decide +kernel) rfl), ⟨by decide +kernel, by decide +kernel, by decide +kernel⟩, by decide⟩, (zg4 33 (by decide +kernel) rfl), (zg4 34 (by decide +kernel) rfl), _, _, rfl⟩
theorem mbX3_readNumber : zMw0 zX3_readNumber 2 ∧ Cond.instanceMethod zX3_readNumber.1 ∈ zgood ∧ Cond.selects zX3_readNumber.1.cls zX3_readNumber.1 zX3_readNumber.1 ∈ zgood ∧ ∃ (T : u_T) (N : Nat), zcl[3]? = some (zX3_readNumber.1.cls, T, N) := ⟨⟨(zg3 205 (by decide +kernel) rfl), (zg1 4 (by decide +kernel) rfl), ⟨by decide +kernel, by decide +kernel, by decide +kernel⟩, by decide⟩, (zg3 204 (by decide +kernel) rfl), (zg0 15 (by decide +kernel) rfl), _, _, rfl⟩
theorem mbX3_readOneLine : zMw0 zX3_readOneLine 2 ∧ Cond.instanceMethod zX3_readOneLine.1 ∈ zgood ∧ Cond.selects zX3_readOneLine.1.cls zX3_readOneLine.1 zX3_readOneLine.1 ∈ zgood ∧ ∃ (T : u_T) (N : Nat), zcl[3]? = some (zX3_readOneLine.1.cls, T, N) := ⟨⟨(zg4 39 (by decide +kernel) rfl), (zg1 4 (by decide +kernel) rfl), ⟨by decide +kernel, by decide +kernel, by decide +kernel⟩, by decide⟩, (zg4 38 (by decide +kernel) rfl), (zg0 20 (by decide +kernel) rfl), _, _, rfl⟩
theorem mbX3_readOnePair : zMw0 zX3_readOnePair 2 ∧ Cond.instanceMethod zX3_readOnePair.1 ∈ zgood ∧ Cond.selects zX3_readOnePair.1.cls zX3_readOnePair.1 zX3_readOnePair.1 ∈ zgood ∧ ∃ (T : u_T) (N : Nat), zcl[3]? = some (zX3_readOnePair.1.cls, T, N) := ⟨⟨(zg3 201 (by decide +kernel) rfl), (zg1 4 (by decide +kernel) rfl), ⟨by decide +kernel, by decide +kernel, by decide +kernel⟩, by decide⟩, (zg3 200 (by decide +kernel) rfl), (zg0 14 (by decide +kernel) rfl), _, _, rfl⟩
theorem mbX3_readPairs : zMw0 zX3_readPairs 2 ∧ Cond.instanceMethod zX3_readPairs.1 ∈ zgood ∧ Cond.selects zX3_readPairs.1.cls zX3_readPairs.1 zX3_readPairs.1 ∈ zgood ∧ ∃ (T : u_T) (N : Nat), zcl[3]? = some (zX3_readPairs.1.cls, T, N) := ⟨⟨(zg3 197 (by decide +kernel) rfl), (zg1 4 (by decide +kernel) rfl), ⟨by decide +kernel, by decide +kernel, by decide +kernel⟩, by decide⟩, (zg3 195 (by decide +kernel) rfl), (zg3 196 (by decide +kernel) rfl), _, _, rfl⟩
theorem mbX3_readSort : zMw0 zX3_readSort 2 ∧ Cond.instanceMethod zX3_readSort.1 ∈ zgood ∧ Cond.selects zX3_readSort.1.cls zX3_readSort.1 zX3_readSort.1 ∈ zgood ∧ ∃ (T : u_T) (N : Nat), zcl[3]? = some (zX3_readSort.1.cls, T, N) := ⟨⟨(zg4 44 (by decide +kernel) rfl), (zg1 4 (by decide +kernel) rfl), ⟨by decide +kernel, by decide +kernel, by decide +kernel⟩, by decide⟩, (zg4 43 (by decide +kernel) rfl), (zg0 21 (by decide +kernel) rfl), _, _, rfl⟩
theorem mbX3_sortedKey : zMw0 zX3_sortedKey 0 ∧ Cond.instanceMethod zX3_sortedKey.1 ∈ zgood ∧ Cond.selects zX3_sortedKey.1.cls zX3_sortedKey.1 zX3_sortedKey.1 ∈ zgood ∧ ∃ (T : u_T) (N : Nat), zcl[3]? = some (zX3_sortedKey.1.cls, T, N) := ⟨⟨(zg4 163 (by decide +kernel) rfl), (zg1 4 (by decide +kernel) rfl), ⟨by decide +kernel, by decide +kernel, by decide +kernel⟩, by decide⟩, (zg4 161 (by decide +kernel) rfl), (zg4 162 (by decide +kernel) rfl), _, _, rfl⟩
theorem mbX4_commonLines : zMw0 zX4_commonLines 2 ∧ Cond.instanceMethod zX4_commonLines.1 ∈ zgood ∧ Cond.selects zX4_commonLines.1.cls zX4_commonLines.1 zX4_commonLines.1 ∈ zgood ∧ ∃ (T : u_T) (N : Nat), zcl[4]? = some (zX4_commonLines.1.cls, T, N) := ⟨⟨(zg5 216 (by decide +kernel) rfl), (zg1 6 (by decide +kernel) rfl), ⟨by decide +kernel, by decide +kernel, by decide +kernel⟩, by decide⟩, (zg5 214 (by decide +kernel) rfl), (zg5 215 (by decide +kernel) rfl), _, _, rfl⟩
theorem mbX4_commonRings : zMw0 zX4_commonRings 2 ∧ Cond.instanceMethod zX4_commonRings.1 ∈ zgood ∧ Cond.selects zX4_commonRings.1.cls zX4_commonRings.1 zX4_commonRings.1 ∈ zgood ∧ ∃ (T : u_T) (N : Nat), zcl[4]? = some (zX4_commonRings.1.cls, T, N) := ⟨⟨(zg5 220 (by decide +kernel) rfl), (zg1 6 (by decide +kernel) rfl), ⟨by decide +kernel, by decide +kernel, by decide +kernel⟩, by decide⟩, (zg5 218 (by decide +kernel) rfl), (zg5 219 (by decide +kernel) rfl), _, _, rfl⟩
theorem mbX4_countRounds : zMw0 zX4_countRounds 1 ∧ Cond.instanceMethod zX4_countRounds.1 ∈ zgood ∧ Cond.selects zX4_countRounds.1.cls zX4_countRounds.1 zX4_countRounds.1 ∈ zgood ∧ ∃ (T : u_T) (N : Nat), zcl[4]? = some (zX4_countRounds.1.cls, T, N) := ⟨⟨(zg5 193 (by decide +kernel) rfl), (zg1 6 (by decide +kernel) rfl), ⟨by decide +kernel, by decide +kernel, by decide +kernel⟩, by decide⟩, (zg5 192 (by decide +kernel) rfl), (zg0 41 (by decide +kernel) rfl), _, _, rfl⟩
theorem mbX4_crossings : zMw0 zX4_crossings 1 ∧ Cond.instanceMethod zX4_crossings.1 ∈ zgood ∧ Cond.selects zX4_crossings.1.cls zX4_crossings.1 zX4_crossings.1 ∈ zgood ∧ ∃ (T : u_T) (N : Nat), zcl[4]? = some (zX4_crossings.1.cls, T, N) := ⟨⟨(zg5 22 (by decide +kernel) rfl), (zg1 6 (by decide +kernel) rfl), ⟨by decide +kernel, by decide +kernel, by decide +kernel⟩, by decide⟩, (zg5 20 (by decide +kernel) rfl), (zg5 21 (by decide +kernel) rfl), _, _, rfl⟩
theorem mbX4_extend : zMw0 zX4_extend 6 ∧ Cond.instanceMethod zX4_extend.1 ∈ zgood ∧ Cond.selects zX4_extend.1.cls zX4_extend.1 zX4_extend.1 ∈ zgood ∧ ∃ (T : u_T) (N : Nat), zcl[4]? = some (zX4_extend.1.cls, T, N) := ⟨⟨(zg4 13 (by decide +kernel) rfl), (zg1 6 (by decide +kernel) rfl), ⟨by decide +kernel, by decide +kernel, by decide +kernel⟩, by decide⟩, (zg4 12 (by decide +kernel) rfl), (zg0 18 (by decide +kernel) rfl), _, _, rfl⟩
theorem mbX4_fill : zMw0 zX4_fill 3 ∧ Cond.instanceMethod zX4_fill.1 ∈ zgood ∧ Cond.selects zX4_fill.1.cls zX4_fill.1 zX4_fill.1 ∈ zgood ∧ ∃ (T : u_T) (N : Nat), zcl[4]? = some (zX4_fill.1.cls, T, N) := ⟨⟨(zg4 1 (by decide +kernel) rfl), (zg1 6 (by decide +kernel) rfl), ⟨by decide +kernel, by decide +kernel, by decide +kernel⟩, by decide⟩, (zg3 239 (by decide +kernel) rfl), (zg4 0 (by decide +kernel) rfl), _, _, rfl⟩
theorem mbX4_find : zMw0 zX4_find 1 ∧ Cond.instanceMethod zX4_find.1 ∈ zgood ∧ Cond.selects zX4_find.1.cls zX4_find.1 zX4_find.1 ∈ zgood ∧ ∃ (T : u_T) (N : Nat), zcl[4]? = some (zX4_find.1.cls, T, N) := ⟨⟨(zg4 27 (by decide +kernel) rfl), (zg1 6 (by decide +kernel) rfl), ⟨by decide +kernel, by decide +kernel, by decide +kernel⟩, by decide⟩, (zg4 25 (by decide +kernel) rfl), (zg4 26 (by decide +kernel) rfl), _, _, rfl⟩
theorem mbX4_holesOf : zMw0 zX4_holesOf 1 ∧ Cond.instanceMethod zX4_holesOf.1 ∈ zgood ∧ Cond.selects zX4_holesOf.1.cls zX4_holesOf.1 zX4_holesOf.1 ∈ zgood ∧ ∃ (T : u_T) (N : Nat), zcl[4]? = some (zX4_holesOf.1.cls, T, N) := ⟨⟨(zg5 14 (by decide +kernel) rfl), (zg1 6 (by decide +kernel) rfl), ⟨by decide +kernel, by decide +kernel, by decide +kernel⟩, by decide⟩, (zg5 12 (by decide +kernel) rfl), (zg5 13 (by decide +kernel) rfl), _, _, rfl⟩
theorem mbX4_init : zMw0 zX4_init 0 ∧ zX4_init.1.name = "<init>" ∧ Cond.instanceMethod zX4_init.1 ∈ zgood ∧ zX4_init.2.2.2 = none := ⟨⟨(zg1 125 (by decide +kernel) rfl), (zg1 6 (by decide +kernel) rfl), ⟨by decide +kernel, by decide +kernel, by decide +kernel⟩, by decide⟩, rfl, (zg1 124 (by decide +kernel) rfl), rfl⟩
theorem mbX4_mateOf : zMw0 zX4_mateOf 2 ∧ Cond.instanceMethod zX4_mateOf.1 ∈ zgood ∧ Cond.selects zX4_mateOf.1.cls zX4_mateOf.1 zX4_mateOf.1 ∈ zgood ∧ ∃ (T : u_T) (N : Nat), zcl[4]? = some (zX4_mateOf.1.cls, T, N) := ⟨⟨(zg4 115 (by decide +kernel) rfl), (zg1 6 (by decide +kernel) rfl), ⟨by decide +kernel, by decide +kernel, by decide +kernel⟩, by decide⟩, (zg4 113 (by decide +kernel) rfl), (zg4 114 (by decide +kernel) rfl), _, _, rfl⟩
theorem mbX4_packed : zMw0 zX4_packed 2 ∧ Cond.static zX4_packed.1 ∈ zgood := ⟨⟨(zg3 216 (by decide +kernel) rfl), (zg1 6 (by decide +kernel) rfl), ⟨by decide +kernel, by decide +kernel, by decide +kernel⟩, by decide⟩, (zg3 215 (by decide +kernel) rfl)⟩
theorem mbX4_rounds : zMw0 zX4_rounds 1 ∧ Cond.instanceMethod zX4_rounds.1 ∈ zgood ∧ Cond.selects zX4_rounds.1.cls zX4_rounds.1 zX4_rounds.1 ∈ zgood ∧ ∃ (T : u_T) (N : Nat), zcl[4]? = some (zX4_rounds.1.cls, T, N) := ⟨⟨(zg5 18 (by decide +kernel) rfl), (zg1 6 (by decide +kernel) rfl), ⟨by decide +kernel, by decide +kernel, by decide +kernel⟩, by decide⟩, (zg5 16 (by decide +kernel) rfl), (zg5 17 (by decide +kernel) rfl), _, _, rfl⟩
theorem mbX4_sign : zMw0 zX4_sign 1 ∧ Cond.instanceMethod zX4_sign.1 ∈ zgood ∧ Cond.selects zX4_sign.1.cls zX4_sign.1 zX4_sign.1 ∈ zgood ∧ ∃ (T : u_T) (N : Nat), zcl[4]? = some (zX4_sign.1.cls, T, N) := ⟨⟨(zg4 151 (by decide +kernel) rfl), (zg1 6 (by decide +kernel) rfl), ⟨by decide +kernel, by decide +kernel, by decide +kernel⟩, by decide⟩, (zg4 149 (by decide +kernel) rfl), (zg4 150 (by decide +kernel) rfl), _, _, rfl⟩
theorem mbX4_signs : zMw0 zX4_signs 0 ∧ Cond.instanceMethod zX4_signs.1 ∈ zgood ∧ Cond.selects zX4_signs.1.cls zX4_signs.1 zX4_signs.1 ∈ zgood ∧ ∃ (T : u_T) (N : Nat), zcl[4]? = some (zX4_signs.1.cls, T, N) := ⟨⟨(zg4 186 (by decide +kernel) rfl), (zg1 6 (by decide +kernel) rfl), ⟨by decide +kernel, by decide +kernel, by decide +kernel⟩, by decide⟩, (zg4 184 (by decide +kernel) rfl), (zg4 185 (by decide +kernel) rfl), _, _, rfl⟩
theorem mbX4_store : zMw0 zX4_store 2 ∧ Cond.instanceMethod zX4_store.1 ∈ zgood ∧ Cond.selects zX4_store.1.cls zX4_store.1 zX4_store.1 ∈ zgood ∧ ∃ (T : u_T) (N : Nat), zcl[4]? = some (zX4_store.1.cls, T, N) := ⟨⟨(zg4 17 (by decide +kernel) rfl), (zg1 6 (by decide +kernel) rfl), ⟨by decide +kernel, by decide +kernel, by decide +kernel⟩, by decide⟩, (zg4 16 (by decide +kernel) rfl), (zg0 19 (by decide +kernel) rfl), _, _, rfl⟩
theorem mbX4_tally : zMw0 zX4_tally 3 ∧ Cond.instanceMethod zX4_tally.1 ∈ zgood ∧ Cond.selects zX4_tally.1.cls zX4_tally.1 zX4_tally.1 ∈ zgood ∧ ∃ (T : u_T) (N : Nat), zcl[4]? = some (zX4_tally.1.cls, T, N) := ⟨⟨(zg5 10 (by decide +kernel) rfl), (zg1 6 (by decide +kernel) rfl), ⟨by decide +kernel, by decide +kernel, by decide +kernel⟩, by decide⟩, (zg5 8 (by decide +kernel) rfl), (zg5 9 (by decide +kernel) rfl), _, _, rfl⟩
theorem mbX4_together : zMw0 zX4_together 3 ∧ Cond.instanceMethod zX4_together.1 ∈ zgood ∧ Cond.selects zX4_together.1.cls zX4_together.1 zX4_together.1 ∈ zgood ∧ ∃ (T : u_T) (N : Nat), zcl[4]? = some (zX4_together.1.cls, T, N) := ⟨⟨(zg5 208 (by decide +kernel) rfl), (zg1 6 (by decide +kernel) rfl), ⟨by decide +kernel, by decide +kernel, by decide +kernel⟩, by decide⟩, (zg5 206 (by decide +kernel) rfl), (zg5 207 (by decide +kernel) rfl), _, _, rfl⟩
theorem mbX4_traceRounds : zMw0 zX4_traceRounds 0 ∧ Cond.instanceMethod zX4_traceRounds.1 ∈ zgood ∧ Cond.selects zX4_traceRounds.1.cls zX4_traceRounds.1 zX4_traceRounds.1 ∈ zgood ∧ ∃ (T : u_T) (N : Nat), zcl[4]? = some (zX4_traceRounds.1.cls, T, N) := ⟨⟨(zg5 189 (by decide +kernel) rfl), (zg1 6 (by decide +kernel) rfl), ⟨by decide +kernel, by decide +kernel, by decide +kernel⟩, by decide⟩, (zg5 187 (by decide +kernel) rfl), (zg5 188 (by decide +kernel) rfl), _, _, rfl⟩
theorem mbX4_withLine : zMw0 zX4_withLine 5 ∧ Cond.static zX4_withLine.1 ∈ zgood := ⟨⟨(zg4 21 (by decide +kernel) rfl), (zg1 6 (by decide +kernel) rfl), ⟨by decide +kernel, by decide +kernel, by decide +kernel⟩, by decide⟩, (zg4 20 (by decide +kernel) rfl)⟩
theorem mbX5_addKind : zMw0 zX5_addKind 1 ∧ Cond.instanceMethod zX5_addKind.1 ∈ zgood ∧ Cond.selects zX5_addKind.1.cls zX5_addKind.1 zX5_addKind.1 ∈ zgood ∧ ∃ (T : u_T) (N : Nat), zcl[5]? = some (zX5_addKind.1.cls, T, N) := ⟨⟨(zg3 173 (by decide +kernel) rfl), (zg1 12 (by decide +kernel) rfl), ⟨by decide +kernel, by decide +kernel, by decide +kernel⟩, by decide⟩, (zg3 171 (by decide +kernel) rfl), (zg3 172 (by decide +kernel) rfl), _, _, rfl⟩
theorem mbX5_become : zMw0 zX5_become 1 ∧ Cond.instanceMethod zX5_become.1 ∈ zgood ∧ Cond.selects zX5_become.1.cls zX5_become.1 zX5_become.1 ∈ zgood ∧ ∃ (T : u_T) (N : Nat), zcl[5]? = some (zX5_become.1.cls, T, N) := ⟨⟨(zg5 147 (by decide +kernel) rfl), (zg1 12 (by decide +kernel) rfl), ⟨by decide +kernel, by decide +kernel, by decide +kernel⟩, by decide⟩, (zg5 145 (by decide +kernel) rfl), (zg5 146 (by decide +kernel) rfl), _, _, rfl⟩
theorem mbX5_begin : zMw0 zX5_begin 2 ∧ Cond.instanceMethod zX5_begin.1 ∈ zgood ∧ Cond.selects zX5_begin.1.cls zX5_begin.1 zX5_begin.1 ∈ zgood ∧ ∃ (T : u_T) (N : Nat), zcl[5]? = some (zX5_begin.1.cls, T, N) := ⟨⟨(zg3 161 (by decide +kernel) rfl), (zg1 12 (by decide +kernel) rfl), ⟨by decide +kernel, by decide +kernel, by decide +kernel⟩, by decide⟩, (zg3 159 (by decide +kernel) rfl), (zg3 160 (by decide +kernel) rfl), _, _, rfl⟩
theorem mbX5_init : zMw0 zX5_init 0 ∧ zX5_init.1.name = "<init>" ∧ Cond.instanceMethod zX5_init.1 ∈ zgood ∧ zX5_init.2.2.2 = none := ⟨⟨(zg2 50 (by decide +kernel) rfl), (zg1 12 (by decide +kernel) rfl), ⟨by decide +kernel, by decide +kernel, by decide +kernel⟩, by decide⟩, rfl, (zg2 49 (by decide +kernel) rfl), rfl⟩
theorem mbX5_isAlike : zMw0 zX5_isAlike 1 ∧ Cond.instanceMethod zX5_isAlike.1 ∈ zgood ∧ Cond.selects zX5_isAlike.1.cls zX5_isAlike.1 zX5_isAlike.1 ∈ zgood ∧ ∃ (T : u_T) (N : Nat), zcl[5]? = some (zX5_isAlike.1.cls, T, N) := ⟨⟨(zg4 93 (by decide +kernel) rfl), (zg1 12 (by decide +kernel) rfl), ⟨by decide +kernel, by decide +kernel, by decide +kernel⟩, by decide⟩, (zg4 91 (by decide +kernel) rfl), (zg4 92 (by decide +kernel) rfl), _, _, rfl⟩
theorem mbX5_orders : zMw0 zX5_orders 0 ∧ Cond.instanceMethod zX5_orders.1 ∈ zgood ∧ Cond.selects zX5_orders.1.cls zX5_orders.1 zX5_orders.1 ∈ zgood ∧ ∃ (T : u_T) (N : Nat), zcl[5]? = some (zX5_orders.1.cls, T, N) := ⟨⟨(zg4 85 (by decide +kernel) rfl), (zg1 12 (by decide +kernel) rfl), ⟨by decide +kernel, by decide +kernel, by decide +kernel⟩, by decide⟩, (zg4 83 (by decide +kernel) rfl), (zg4 84 (by decide +kernel) rfl), _, _, rfl⟩
theorem mbX6_clear : zMw0 zX6_clear 0 ∧ Cond.instanceMethod zX6_clear.1 ∈ zgood ∧ Cond.selects zX6_clear.1.cls zX6_clear.1 zX6_clear.1 ∈ zgood ∧ ∃ (T : u_T) (N : Nat), zcl[6]? = some (zX6_clear.1.cls, T, N) := ⟨⟨(zg6 95 (by decide +kernel) rfl), (zg1 10 (by decide +kernel) rfl), ⟨by decide +kernel, by decide +kernel, by decide +kernel⟩, by decide⟩, (zg6 93 (by decide +kernel) rfl), (zg6 94 (by decide +kernel) rfl), _, _, rfl⟩
theorem mbX6_init : zMw0 zX6_init 0 ∧ zX6_init.1.name = "<init>" ∧ Cond.instanceMethod zX6_init.1 ∈ zgood ∧ zX6_init.2.2.2 = none := ⟨⟨(zg2 28 (by decide +kernel) rfl), (zg1 10 (by decide +kernel) rfl), ⟨by decide +kernel, by decide +kernel, by decide +kernel⟩, by decide⟩, rfl, (zg2 27 (by decide +kernel) rfl), rfl⟩
theorem mbX6_put : zMw0 zX6_put 1 ∧ Cond.instanceMethod zX6_put.1 ∈ zgood ∧ Cond.selects zX6_put.1.cls zX6_put.1 zX6_put.1 ∈ zgood ∧ ∃ (T : u_T) (N : Nat), zcl[6]? = some (zX6_put.1.cls, T, N) := ⟨⟨(zg6 107 (by decide +kernel) rfl), (zg1 10 (by decide +kernel) rfl), ⟨by decide +kernel, by decide +kernel, by decide +kernel⟩, by decide⟩, (zg6 106 (by decide +kernel) rfl), (zg0 50 (by decide +kernel) rfl), _, _, rfl⟩
theorem mbX6_putLine : zMw0 zX6_putLine 2 ∧ Cond.instanceMethod zX6_putLine.1 ∈ zgood ∧ Cond.selects zX6_putLine.1.cls zX6_putLine.1 zX6_putLine.1 ∈ zgood ∧ ∃ (T : u_T) (N : Nat), zcl[6]? = some (zX6_putLine.1.cls, T, N) := ⟨⟨(zg6 99 (by decide +kernel) rfl), (zg1 10 (by decide +kernel) rfl), ⟨by decide +kernel, by decide +kernel, by decide +kernel⟩, by decide⟩, (zg6 97 (by decide +kernel) rfl), (zg6 98 (by decide +kernel) rfl), _, _, rfl⟩
theorem mbX6_putNumber : zMw0 zX6_putNumber 1 ∧ Cond.instanceMethod zX6_putNumber.1 ∈ zgood ∧ Cond.selects zX6_putNumber.1.cls zX6_putNumber.1 zX6_putNumber.1 ∈ zgood ∧ ∃ (T : u_T) (N : Nat), zcl[6]? = some (zX6_putNumber.1.cls, T, N) := ⟨⟨(zg6 103 (by decide +kernel) rfl), (zg1 10 (by decide +kernel) rfl), ⟨by decide +kernel, by decide +kernel, by decide +kernel⟩, by decide⟩, (zg6 102 (by decide +kernel) rfl), (zg0 49 (by decide +kernel) rfl), _, _, rfl⟩
theorem mbX6_putPair : zMw0 zX6_putPair 2 ∧ Cond.instanceMethod zX6_putPair.1 ∈ zgood ∧ Cond.selects zX6_putPair.1.cls zX6_putPair.1 zX6_putPair.1 ∈ zgood ∧ ∃ (T : u_T) (N : Nat), zcl[6]? = some (zX6_putPair.1.cls, T, N) := ⟨⟨(zg6 120 (by decide +kernel) rfl), (zg1 10 (by decide +kernel) rfl), ⟨by decide +kernel, by decide +kernel, by decide +kernel⟩, by decide⟩, (zg6 118 (by decide +kernel) rfl), (zg6 119 (by decide +kernel) rfl), _, _, rfl⟩
theorem mbX6_putSymbol : zMw0 zX6_putSymbol 2 ∧ Cond.instanceMethod zX6_putSymbol.1 ∈ zgood ∧ Cond.selects zX6_putSymbol.1.cls zX6_putSymbol.1 zX6_putSymbol.1 ∈ zgood ∧ ∃ (T : u_T) (N : Nat), zcl[6]? = some (zX6_putSymbol.1.cls, T, N) := ⟨⟨(zg6 112 (by decide +kernel) rfl), (zg1 10 (by decide +kernel) rfl), ⟨by decide +kernel, by decide +kernel, by decide +kernel⟩, by decide⟩, (zg6 111 (by decide +kernel) rfl), (zg0 51 (by decide +kernel) rfl), _, _, rfl⟩
theorem mbX7_addField : zMw0 zX7_addField 3 ∧ Cond.instanceMethod zX7_addField.1 ∈ zgood ∧ Cond.selects zX7_addField.1.cls zX7_addField.1 zX7_addField.1 ∈ zgood ∧ ∃ (T : u_T) (N : Nat), zcl[7]? = some (zX7_addField.1.cls, T, N) := ⟨⟨(zg3 116 (by decide +kernel) rfl), (zg1 11 (by decide +kernel) rfl), ⟨by decide +kernel, by decide +kernel, by decide +kernel⟩, by decide⟩, (zg3 114 (by decide +kernel) rfl), (zg3 115 (by decide +kernel) rfl), _, _, rfl⟩
theorem mbX7_addMix : zMw0 zX7_addMix 2 ∧ Cond.instanceMethod zX7_addMix.1 ∈ zgood ∧ Cond.selects zX7_addMix.1.cls zX7_addMix.1 zX7_addMix.1 ∈ zgood ∧ ∃ (T : u_T) (N : Nat), zcl[7]? = some (zX7_addMix.1.cls, T, N) := ⟨⟨(zg3 130 (by decide +kernel) rfl), (zg1 11 (by decide +kernel) rfl), ⟨by decide +kernel, by decide +kernel, by decide +kernel⟩, by decide⟩, (zg3 128 (by decide +kernel) rfl), (zg3 129 (by decide +kernel) rfl), _, _, rfl⟩
theorem mbX7_alikeUpTo : zMw0 zX7_alikeUpTo 2 ∧ Cond.instanceMethod zX7_alikeUpTo.1 ∈ zgood ∧ Cond.selects zX7_alikeUpTo.1.cls zX7_alikeUpTo.1 zX7_alikeUpTo.1 ∈ zgood ∧ ∃ (T : u_T) (N : Nat), zcl[7]? = some (zX7_alikeUpTo.1.cls, T, N) := ⟨⟨(zg4 89 (by decide +kernel) rfl), (zg1 11 (by decide +kernel) rfl), ⟨by decide +kernel, by decide +kernel, by decide +kernel⟩, by decide⟩, (zg4 87 (by decide +kernel) rfl), (zg4 88 (by decide +kernel) rfl), _, _, rfl⟩
theorem mbX7_allLetters : zMw0 zX7_allLetters 0 ∧ Cond.instanceMethod zX7_allLetters.1 ∈ zgood ∧ Cond.selects zX7_allLetters.1.cls zX7_allLetters.1 zX7_allLetters.1 ∈ zgood ∧ ∃ (T : u_T) (N : Nat), zcl[7]? = some (zX7_allLetters.1.cls, T, N) := ⟨⟨(zg3 220 (by decide +kernel) rfl), (zg1 11 (by decide +kernel) rfl), ⟨by decide +kernel, by decide +kernel, by decide +kernel⟩, by decide⟩, (zg3 218 (by decide +kernel) rfl), (zg3 219 (by decide +kernel) rfl), _, _, rfl⟩
theorem mbX7_allPoints : zMw0 zX7_allPoints 0 ∧ Cond.instanceMethod zX7_allPoints.1 ∈ zgood ∧ Cond.selects zX7_allPoints.1.cls zX7_allPoints.1 zX7_allPoints.1 ∈ zgood ∧ ∃ (T : u_T) (N : Nat), zcl[7]? = some (zX7_allPoints.1.cls, T, N) := ⟨⟨(zg4 76 (by decide +kernel) rfl), (zg1 11 (by decide +kernel) rfl), ⟨by decide +kernel, by decide +kernel, by decide +kernel⟩, by decide⟩, (zg4 74 (by decide +kernel) rfl), (zg4 75 (by decide +kernel) rfl), _, _, rfl⟩
theorem mbX7_clear : zMw0 zX7_clear 0 ∧ Cond.instanceMethod zX7_clear.1 ∈ zgood ∧ Cond.selects zX7_clear.1.cls zX7_clear.1 zX7_clear.1 ∈ zgood ∧ ∃ (T : u_T) (N : Nat), zcl[7]? = some (zX7_clear.1.cls, T, N) := ⟨⟨(zg3 4 (by decide +kernel) rfl), (zg1 11 (by decide +kernel) rfl), ⟨by decide +kernel, by decide +kernel, by decide +kernel⟩, by decide⟩, (zg3 2 (by decide +kernel) rfl), (zg3 3 (by decide +kernel) rfl), _, _, rfl⟩
theorem mbX7_codeFor : zMw0 zX7_codeFor 3 ∧ Cond.instanceMethod zX7_codeFor.1 ∈ zgood ∧ Cond.selects zX7_codeFor.1.cls zX7_codeFor.1 zX7_codeFor.1 ∈ zgood ∧ ∃ (T : u_T) (N : Nat), zcl[7]? = some (zX7_codeFor.1.cls, T, N) := ⟨⟨(zg3 27 (by decide +kernel) rfl), (zg1 11 (by decide +kernel) rfl), ⟨by decide +kernel, by decide +kernel, by decide +kernel⟩, by decide⟩, (zg3 25 (by decide +kernel) rfl), (zg3 26 (by decide +kernel) rfl), _, _, rfl⟩
theorem mbX7_codeOf : zMw0 zX7_codeOf 2 ∧ Cond.instanceMethod zX7_codeOf.1 ∈ zgood ∧ Cond.selects zX7_codeOf.1.cls zX7_codeOf.1 zX7_codeOf.1 ∈ zgood ∧ ∃ (T : u_T) (N : Nat), zcl[7]? = some (zX7_codeOf.1.cls, T, N) := ⟨⟨(zg4 119 (by decide +kernel) rfl), (zg1 11 (by decide +kernel) rfl), ⟨by decide +kernel, by decide +kernel, by decide +kernel⟩, by decide⟩, (zg4 117 (by decide +kernel) rfl), (zg4 118 (by decide +kernel) rfl), _, _, rfl⟩
theorem mbX7_copyPoint : zMw0 zX7_copyPoint 1 ∧ Cond.instanceMethod zX7_copyPoint.1 ∈ zgood ∧ Cond.selects zX7_copyPoint.1.cls zX7_copyPoint.1 zX7_copyPoint.1 ∈ zgood ∧ ∃ (T : u_T) (N : Nat), zcl[7]? = some (zX7_copyPoint.1.cls, T, N) := ⟨⟨(zg5 143 (by decide +kernel) rfl), (zg1 11 (by decide +kernel) rfl), ⟨by decide +kernel, by decide +kernel, by decide +kernel⟩, by decide⟩, (zg5 141 (by decide +kernel) rfl), (zg5 142 (by decide +kernel) rfl), _, _, rfl⟩
theorem mbX7_exchangeLetters : zMw0 zX7_exchangeLetters 1 ∧ Cond.instanceMethod zX7_exchangeLetters.1 ∈ zgood ∧ Cond.selects zX7_exchangeLetters.1.cls zX7_exchangeLetters.1 zX7_exchangeLetters.1 ∈ zgood ∧ ∃ (T : u_T) (N : Nat), zcl[7]? = some (zX7_exchangeLetters.1.cls, T, N) := ⟨⟨(zg5 122 (by decide +kernel) rfl), (zg1 11 (by decide +kernel) rfl), ⟨by decide +kernel, by decide +kernel, by decide +kernel⟩, by decide⟩, (zg5 120 (by decide +kernel) rfl), (zg5 121 (by decide +kernel) rfl), _, _, rfl⟩
theorem mbX7_fieldFact : zMw0 zX7_fieldFact 2 ∧ Cond.instanceMethod zX7_fieldFact.1 ∈ zgood ∧ Cond.selects zX7_fieldFact.1.cls zX7_fieldFact.1 zX7_fieldFact.1 ∈ zgood ∧ ∃ (T : u_T) (N : Nat), zcl[7]? = some (zX7_fieldFact.1.cls, T, N) := ⟨⟨(zg5 74 (by decide +kernel) rfl), (zg1 11 (by decide +kernel) rfl), ⟨by decide +kernel, by decide +kernel, by decide +kernel⟩, by decide⟩, (zg5 72 (by decide +kernel) rfl), (zg5 73 (by decide +kernel) rfl), _, _, rfl⟩
theorem mbX7_fieldOf : zMw0 zX7_fieldOf 1 ∧ Cond.instanceMethod zX7_fieldOf.1 ∈ zgood ∧ Cond.selects zX7_fieldOf.1.cls zX7_fieldOf.1 zX7_fieldOf.1 ∈ zgood ∧ ∃ (T : u_T) (N : Nat), zcl[7]? = some (zX7_fieldOf.1.cls, T, N) := ⟨⟨(zg3 109 (by decide +kernel) rfl), (zg1 11 (by decide +kernel) rfl), ⟨by decide +kernel, by decide +kernel, by decide +kernel⟩, by decide⟩, (zg3 107 (by decide +kernel) rfl), (zg3 108 (by decide +kernel) rfl), _, _, rfl⟩
theorem mbX7_firstLetter : zMw0 zX7_firstLetter 1 ∧ Cond.instanceMethod zX7_firstLetter.1 ∈ zgood ∧ Cond.selects zX7_firstLetter.1.cls zX7_firstLetter.1 zX7_firstLetter.1 ∈ zgood ∧ ∃ (T : u_T) (N : Nat), zcl[7]? = some (zX7_firstLetter.1.cls, T, N) := ⟨⟨(zg5 90 (by decide +kernel) rfl), (zg1 11 (by decide +kernel) rfl), ⟨by decide +kernel, by decide +kernel, by decide +kernel⟩, by decide⟩, (zg5 88 (by decide +kernel) rfl), (zg5 89 (by decide +kernel) rfl), _, _, rfl⟩
theorem mbX7_hasCode : zMw0 zX7_hasCode 1 ∧ Cond.instanceMethod zX7_hasCode.1 ∈ zgood ∧ Cond.selects zX7_hasCode.1.cls zX7_hasCode.1 zX7_hasCode.1 ∈ zgood ∧ ∃ (T : u_T) (N : Nat), zcl[7]? = some (zX7_hasCode.1.cls, T, N) := ⟨⟨(zg5 157 (by decide +kernel) rfl), (zg1 11 (by decide +kernel) rfl), ⟨by decide +kernel, by decide +kernel, by decide +kernel⟩, by decide⟩, (zg5 155 (by decide +kernel) rfl), (zg5 156 (by decide +kernel) rfl), _, _, rfl⟩
theorem mbX7_hasLetter : zMw0 zX7_hasLetter 1 ∧ Cond.instanceMethod zX7_hasLetter.1 ∈ zgood ∧ Cond.selects zX7_hasLetter.1.cls zX7_hasLetter.1 zX7_hasLetter.1 ∈ zgood ∧ ∃ (T : u_T) (N : Nat), zcl[7]? = some (zX7_hasLetter.1.cls, T, N) := ⟨⟨(zg5 62 (by decide +kernel) rfl), (zg1 11 (by decide +kernel) rfl), ⟨by decide +kernel, by decide +kernel, by decide +kernel⟩, by decide⟩, (zg5 60 (by decide +kernel) rfl), (zg5 61 (by decide +kernel) rfl), _, _, rfl⟩
theorem mbX7_hasPoint : zMw0 zX7_hasPoint 1 ∧ Cond.instanceMethod zX7_hasPoint.1 ∈ zgood ∧ Cond.selects zX7_hasPoint.1.cls zX7_hasPoint.1 zX7_hasPoint.1 ∈ zgood ∧ ∃ (T : u_T) (N : Nat), zcl[7]? = some (zX7_hasPoint.1.cls, T, N) := ⟨⟨(zg5 82 (by decide +kernel) rfl), (zg1 11 (by decide +kernel) rfl), ⟨by decide +kernel, by decide +kernel, by decide +kernel⟩, by decide⟩, (zg5 80 (by decide +kernel) rfl), (zg5 81 (by decide +kernel) rfl), _, _, rfl⟩
theorem mbX7_hasRoomForCopy : zMw0 zX7_hasRoomForCopy 1 ∧ Cond.instanceMethod zX7_hasRoomForCopy.1 ∈ zgood ∧ Cond.selects zX7_hasRoomForCopy.1.cls zX7_hasRoomForCopy.1 zX7_hasRoomForCopy.1 ∈ zgood ∧ ∃ (T : u_T) (N : Nat), zcl[7]? = some (zX7_hasRoomForCopy.1.cls, T, N) := ⟨⟨(zg5 138 (by decide +kernel) rfl), (zg1 11 (by decide +kernel) rfl), ⟨by decide +kernel, by decide +kernel, by decide +kernel⟩, by decide⟩, (zg5 136 (by decide +kernel) rfl), (zg5 137 (by decide +kernel) rfl), _, _, rfl⟩
theorem mbX7_hasSort : zMw0 zX7_hasSort 1 ∧ Cond.instanceMethod zX7_hasSort.1 ∈ zgood ∧ Cond.selects zX7_hasSort.1.cls zX7_hasSort.1 zX7_hasSort.1 ∈ zgood ∧ ∃ (T : u_T) (N : Nat), zcl[7]? = some (zX7_hasSort.1.cls, T, N) := ⟨⟨(zg5 162 (by decide +kernel) rfl), (zg1 11 (by decide +kernel) rfl), ⟨by decide +kernel, by decide +kernel, by decide +kernel⟩, by decide⟩, (zg5 160 (by decide +kernel) rfl), (zg5 161 (by decide +kernel) rfl), _, _, rfl⟩
theorem mbX7_init : zMw0 zX7_init 0 ∧ zX7_init.1.name = "<init>" ∧ Cond.instanceMethod zX7_init.1 ∈ zgood ∧ zX7_init.2.2.2 = none := ⟨⟨(zg2 43 (by decide +kernel) rfl), (zg1 11 (by decide +kernel) rfl), ⟨by decide +kernel, by decide +kernel, by decide +kernel⟩, by decide⟩, rfl, (zg2 42 (by decide +kernel) rfl), rfl⟩
theorem mbX7_isPairSort : zMw0 zX7_isPairSort 1 ∧ Cond.instanceMethod zX7_isPairSort.1 ∈ zgood ∧ Cond.selects zX7_isPairSort.1.cls zX7_isPairSort.1 zX7_isPairSort.1 ∈ zgood ∧ ∃ (T : u_T) (N : Nat), zcl[7]? = some (zX7_isPairSort.1.cls, T, N) := ⟨⟨(zg4 58 (by decide +kernel) rfl), (zg1 11 (by decide +kernel) rfl), ⟨by decide +kernel, by decide +kernel, by decide +kernel⟩, by decide⟩, (zg4 56 (by decide +kernel) rfl), (zg4 57 (by decide +kernel) rfl), _, _, rfl⟩
theorem mbX7_isRealSort : zMw0 zX7_isRealSort 1 ∧ Cond.instanceMethod zX7_isRealSort.1 ∈ zgood ∧ Cond.selects zX7_isRealSort.1.cls zX7_isRealSort.1 zX7_isRealSort.1 ∈ zgood ∧ ∃ (T : u_T) (N : Nat), zcl[7]? = some (zX7_isRealSort.1.cls, T, N) := ⟨⟨(zg5 166 (by decide +kernel) rfl), (zg1 11 (by decide +kernel) rfl), ⟨by decide +kernel, by decide +kernel, by decide +kernel⟩, by decide⟩, (zg5 164 (by decide +kernel) rfl), (zg5 165 (by decide +kernel) rfl), _, _, rfl⟩
theorem mbX7_letterFact : zMw0 zX7_letterFact 2 ∧ Cond.instanceMethod zX7_letterFact.1 ∈ zgood ∧ Cond.selects zX7_letterFact.1.cls zX7_letterFact.1 zX7_letterFact.1 ∈ zgood ∧ ∃ (T : u_T) (N : Nat), zcl[7]? = some (zX7_letterFact.1.cls, T, N) := ⟨⟨(zg5 66 (by decide +kernel) rfl), (zg1 11 (by decide +kernel) rfl), ⟨by decide +kernel, by decide +kernel, by decide +kernel⟩, by decide⟩, (zg5 64 (by decide +kernel) rfl), (zg5 65 (by decide +kernel) rfl), _, _, rfl⟩
theorem mbX7_lettersOf : zMw0 zX7_lettersOf 1 ∧ Cond.instanceMethod zX7_lettersOf.1 ∈ zgood ∧ Cond.selects zX7_lettersOf.1.cls zX7_lettersOf.1 zX7_lettersOf.1 ∈ zgood ∧ ∃ (T : u_T) (N : Nat), zcl[7]? = some (zX7_lettersOf.1.cls, T, N) := ⟨⟨(zg6 6 (by decide +kernel) rfl), (zg1 11 (by decide +kernel) rfl), ⟨by decide +kernel, by decide +kernel, by decide +kernel⟩, by decide⟩, (zg6 4 (by decide +kernel) rfl), (zg6 5 (by decide +kernel) rfl), _, _, rfl⟩
theorem mbX7_linkLetters : zMw0 zX7_linkLetters 2 ∧ Cond.instanceMethod zX7_linkLetters.1 ∈ zgood ∧ Cond.selects zX7_linkLetters.1.cls zX7_linkLetters.1 zX7_linkLetters.1 ∈ zgood ∧ ∃ (T : u_T) (N : Nat), zcl[7]? = some (zX7_linkLetters.1.cls, T, N) := ⟨⟨(zg3 15 (by decide +kernel) rfl), (zg1 11 (by decide +kernel) rfl), ⟨by decide +kernel, by decide +kernel, by decide +kernel⟩, by decide⟩, (zg3 14 (by decide +kernel) rfl), (zg0 5 (by decide +kernel) rfl), _, _, rfl⟩
theorem mbX7_mayPair : zMw0 zX7_mayPair 2 ∧ Cond.instanceMethod zX7_mayPair.1 ∈ zgood ∧ Cond.selects zX7_mayPair.1.cls zX7_mayPair.1 zX7_mayPair.1 ∈ zgood ∧ ∃ (T : u_T) (N : Nat), zcl[7]? = some (zX7_mayPair.1.cls, T, N) := ⟨⟨(zg3 213 (by decide +kernel) rfl), (zg1 11 (by decide +kernel) rfl), ⟨by decide +kernel, by decide +kernel, by decide +kernel⟩, by decide⟩, (zg3 211 (by decide +kernel) rfl), (zg3 212 (by decide +kernel) rfl), _, _, rfl⟩
theorem mbX7_mixOf : zMw0 zX7_mixOf 2 ∧ Cond.instanceMethod zX7_mixOf.1 ∈ zgood ∧ Cond.selects zX7_mixOf.1.cls zX7_mixOf.1 zX7_mixOf.1 ∈ zgood ∧ ∃ (T : u_T) (N : Nat), zcl[7]? = some (zX7_mixOf.1.cls, T, N) := ⟨⟨(zg3 19 (by decide +kernel) rfl), (zg1 11 (by decide +kernel) rfl), ⟨by decide +kernel, by decide +kernel, by decide +kernel⟩, by decide⟩, (zg3 17 (by decide +kernel) rfl), (zg3 18 (by decide +kernel) rfl), _, _, rfl⟩
theorem mbX7_mixOfLetters : zMw0 zX7_mixOfLetters 2 ∧ Cond.instanceMethod zX7_mixOfLetters.1 ∈ zgood ∧ Cond.selects zX7_mixOfLetters.1.cls zX7_mixOfLetters.1 zX7_mixOfLetters.1 ∈ zgood ∧ ∃ (T : u_T) (N : Nat), zcl[7]? = some (zX7_mixOfLetters.1.cls, T, N) := ⟨⟨(zg4 54 (by decide +kernel) rfl), (zg1 11 (by decide +kernel) rfl), ⟨by decide +kernel, by decide +kernel, by decide +kernel⟩, by decide⟩, (zg4 52 (by decide +kernel) rfl), (zg4 53 (by decide +kernel) rfl), _, _, rfl⟩
theorem mbX7_openPoint : zMw0 zX7_openPoint 2 ∧ Cond.instanceMethod zX7_openPoint.1 ∈ zgood ∧ Cond.selects zX7_openPoint.1.cls zX7_openPoint.1 zX7_openPoint.1 ∈ zgood ∧ ∃ (T : u_T) (N : Nat), zcl[7]? = some (zX7_openPoint.1.cls, T, N) := ⟨⟨(zg3 156 (by decide +kernel) rfl), (zg1 11 (by decide +kernel) rfl), ⟨by decide +kernel, by decide +kernel, by decide +kernel⟩, by decide⟩, (zg3 154 (by decide +kernel) rfl), (zg3 155 (by decide +kernel) rfl), _, _, rfl⟩
theorem mbX7_orders : zMw0 zX7_orders 0 ∧ Cond.instanceMethod zX7_orders.1 ∈ zgood ∧ Cond.selects zX7_orders.1.cls zX7_orders.1 zX7_orders.1 ∈ zgood ∧ ∃ (T : u_T) (N : Nat), zcl[7]? = some (zX7_orders.1.cls, T, N) := ⟨⟨(zg4 81 (by decide +kernel) rfl), (zg1 11 (by decide +kernel) rfl), ⟨by decide +kernel, by decide +kernel, by decide +kernel⟩, by decide⟩, (zg4 79 (by decide +kernel) rfl), (zg4 80 (by decide +kernel) rfl), _, _, rfl⟩
theorem mbX7_outerPoints : zMw0 zX7_outerPoints 0 ∧ Cond.instanceMethod zX7_outerPoints.1 ∈ zgood ∧ Cond.selects zX7_outerPoints.1.cls zX7_outerPoints.1 zX7_outerPoints.1 ∈ zgood ∧ ∃ (T : u_T) (N : Nat), zcl[7]? = some (zX7_outerPoints.1.cls, T, N) := ⟨⟨(zg3 145 (by decide +kernel) rfl), (zg1 11 (by decide +kernel) rfl), ⟨by decide +kernel, by decide +kernel, by decide +kernel⟩, by decide⟩, (zg3 143 (by decide +kernel) rfl), (zg3 144 (by decide +kernel) rfl), _, _, rfl⟩
theorem mbX7_pointFact : zMw0 zX7_pointFact 2 ∧ Cond.instanceMethod zX7_pointFact.1 ∈ zgood ∧ Cond.selects zX7_pointFact.1.cls zX7_pointFact.1 zX7_pointFact.1 ∈ zgood ∧ ∃ (T : u_T) (N : Nat), zcl[7]? = some (zX7_pointFact.1.cls, T, N) := ⟨⟨(zg5 86 (by decide +kernel) rfl), (zg1 11 (by decide +kernel) rfl), ⟨by decide +kernel, by decide +kernel, by decide +kernel⟩, by decide⟩, (zg5 84 (by decide +kernel) rfl), (zg5 85 (by decide +kernel) rfl), _, _, rfl⟩
theorem mbX7_removePoint : zMw0 zX7_removePoint 1 ∧ Cond.instanceMethod zX7_removePoint.1 ∈ zgood ∧ Cond.selects zX7_removePoint.1.cls zX7_removePoint.1 zX7_removePoint.1 ∈ zgood ∧ ∃ (T : u_T) (N : Nat), zcl[7]? = some (zX7_removePoint.1.cls, T, N) := ⟨⟨(zg5 104 (by decide +kernel) rfl), (zg1 11 (by decide +kernel) rfl), ⟨by decide +kernel, by decide +kernel, by decide +kernel⟩, by decide⟩, (zg5 102 (by decide +kernel) rfl), (zg5 103 (by decide +kernel) rfl), _, _, rfl⟩
theorem mbX7_renumber : zMw0 zX7_renumber 0 ∧ Cond.instanceMethod zX7_renumber.1 ∈ zgood ∧ Cond.selects zX7_renumber.1.cls zX7_renumber.1 zX7_renumber.1 ∈ zgood ∧ ∃ (T : u_T) (N : Nat), zcl[7]? = some (zX7_renumber.1.cls, T, N) := ⟨⟨(zg3 8 (by decide +kernel) rfl), (zg1 11 (by decide +kernel) rfl), ⟨by decide +kernel, by decide +kernel, by decide +kernel⟩, by decide⟩, (zg3 6 (by decide +kernel) rfl), (zg3 7 (by decide +kernel) rfl), _, _, rfl⟩
theorem mbX7_setCode : zMw0 zX7_setCode 4 ∧ Cond.instanceMethod zX7_setCode.1 ∈ zgood ∧ Cond.selects zX7_setCode.1.cls zX7_setCode.1 zX7_setCode.1 ∈ zgood ∧ ∃ (T : u_T) (N : Nat), zcl[7]? = some (zX7_setCode.1.cls, T, N) := ⟨⟨(zg3 23 (by decide +kernel) rfl), (zg1 11 (by decide +kernel) rfl), ⟨by decide +kernel, by decide +kernel, by decide +kernel⟩, by decide⟩, (zg3 22 (by decide +kernel) rfl), (zg0 6 (by decide +kernel) rfl), _, _, rfl⟩
theorem mbX7_setNormal : zMw0 zX7_setNormal 2 ∧ Cond.instanceMethod zX7_setNormal.1 ∈ zgood ∧ Cond.selects zX7_setNormal.1.cls zX7_setNormal.1 zX7_setNormal.1 ∈ zgood ∧ ∃ (T : u_T) (N : Nat), zcl[7]? = some (zX7_setNormal.1.cls, T, N) := ⟨⟨(zg5 130 (by decide +kernel) rfl), (zg1 11 (by decide +kernel) rfl), ⟨by decide +kernel, by decide +kernel, by decide +kernel⟩, by decide⟩, (zg5 128 (by decide +kernel) rfl), (zg5 129 (by decide +kernel) rfl), _, _, rfl⟩
theorem mbX7_shiftPoint : zMw0 zX7_shiftPoint 2 ∧ Cond.instanceMethod zX7_shiftPoint.1 ∈ zgood ∧ Cond.selects zX7_shiftPoint.1.cls zX7_shiftPoint.1 zX7_shiftPoint.1 ∈ zgood ∧ ∃ (T : u_T) (N : Nat), zcl[7]? = some (zX7_shiftPoint.1.cls, T, N) := ⟨⟨(zg5 108 (by decide +kernel) rfl), (zg1 11 (by decide +kernel) rfl), ⟨by decide +kernel, by decide +kernel, by decide +kernel⟩, by decide⟩, (zg5 106 (by decide +kernel) rfl), (zg5 107 (by decide +kernel) rfl), _, _, rfl⟩
theorem mbX7_vertexCount : zMw0 zX7_vertexCount 0 ∧ Cond.instanceMethod zX7_vertexCount.1 ∈ zgood ∧ Cond.selects zX7_vertexCount.1.cls zX7_vertexCount.1 zX7_vertexCount.1 ∈ zgood ∧ ∃ (T : u_T) (N : Nat), zcl[7]? = some (zX7_vertexCount.1.cls, T, N) := ⟨⟨(zg3 141 (by decide +kernel) rfl), (zg1 11 (by decide +kernel) rfl), ⟨by decide +kernel, by decide +kernel, by decide +kernel⟩, by decide⟩, (zg3 139 (by decide +kernel) rfl), (zg3 140 (by decide +kernel) rfl), _, _, rfl⟩
theorem mbX8_init : zMw0 zX8_init 0 ∧ zX8_init.1.name = "<init>" ∧ Cond.instanceMethod zX8_init.1 ∈ zgood ∧ zX8_init.2.2.2 = none := ⟨⟨(zg1 79 (by decide +kernel) rfl), (zg1 3 (by decide +kernel) rfl), ⟨by decide +kernel, by decide +kernel, by decide +kernel⟩, by decide⟩, rfl, (zg1 78 (by decide +kernel) rfl), rfl⟩
theorem mbX8_readField : zMw0 zX8_readField 2 ∧ Cond.instanceMethod zX8_readField.1 ∈ zgood ∧ Cond.selects zX8_readField.1.cls zX8_readField.1 zX8_readField.1 ∈ zgood ∧ ∃ (T : u_T) (N : Nat), zcl[8]? = some (zX8_readField.1.cls, T, N) := ⟨⟨(zg3 88 (by decide +kernel) rfl), (zg1 3 (by decide +kernel) rfl), ⟨by decide +kernel, by decide +kernel, by decide +kernel⟩, by decide⟩, (zg3 87 (by decide +kernel) rfl), (zg0 7 (by decide +kernel) rfl), _, _, rfl⟩
theorem mbX8_readKnownField : zMw0 zX8_readKnownField 2 ∧ Cond.instanceMethod zX8_readKnownField.1 ∈ zgood ∧ Cond.selects zX8_readKnownField.1.cls zX8_readKnownField.1 zX8_readKnownField.1 ∈ zgood ∧ ∃ (T : u_T) (N : Nat), zcl[8]? = some (zX8_readKnownField.1.cls, T, N) := ⟨⟨(zg3 125 (by decide +kernel) rfl), (zg1 3 (by decide +kernel) rfl), ⟨by decide +kernel, by decide +kernel, by decide +kernel⟩, by decide⟩, (zg3 124 (by decide +kernel) rfl), (zg0 9 (by decide +kernel) rfl), _, _, rfl⟩
theorem mbX8_readMix : zMw0 zX8_readMix 2 ∧ Cond.instanceMethod zX8_readMix.1 ∈ zgood ∧ Cond.selects zX8_readMix.1.cls zX8_readMix.1 zX8_readMix.1 ∈ zgood ∧ ∃ (T : u_T) (N : Nat), zcl[8]? = some (zX8_readMix.1.cls, T, N) := ⟨⟨(zg3 121 (by decide +kernel) rfl), (zg1 3 (by decide +kernel) rfl), ⟨by decide +kernel, by decide +kernel, by decide +kernel⟩, by decide⟩, (zg3 120 (by decide +kernel) rfl), (zg0 8 (by decide +kernel) rfl), _, _, rfl⟩
theorem mbX8_readPoint : zMw0 zX8_readPoint 2 ∧ Cond.instanceMethod zX8_readPoint.1 ∈ zgood ∧ Cond.selects zX8_readPoint.1.cls zX8_readPoint.1 zX8_readPoint.1 ∈ zgood ∧ ∃ (T : u_T) (N : Nat), zcl[8]? = some (zX8_readPoint.1.cls, T, N) := ⟨⟨(zg3 134 (by decide +kernel) rfl), (zg1 3 (by decide +kernel) rfl), ⟨by decide +kernel, by decide +kernel, by decide +kernel⟩, by decide⟩, (zg3 133 (by decide +kernel) rfl), (zg0 10 (by decide +kernel) rfl), _, _, rfl⟩
theorem mbX8_readRow : zMw0 zX8_readRow 3 ∧ Cond.instanceMethod zX8_readRow.1 ∈ zgood ∧ Cond.selects zX8_readRow.1.cls zX8_readRow.1 zX8_readRow.1 ∈ zgood ∧ ∃ (T : u_T) (N : Nat), zcl[8]? = some (zX8_readRow.1.cls, T, N) := ⟨⟨(zg3 165 (by decide +kernel) rfl), (zg1 3 (by decide +kernel) rfl), ⟨by decide +kernel, by decide +kernel, by decide +kernel⟩, by decide⟩, (zg3 164 (by decide +kernel) rfl), (zg0 11 (by decide +kernel) rfl), _, _, rfl⟩
theorem mbX8_readTheory : zMw0 zX8_readTheory 2 ∧ Cond.instanceMethod zX8_readTheory.1 ∈ zgood ∧ Cond.selects zX8_readTheory.1.cls zX8_readTheory.1 zX8_readTheory.1 ∈ zgood ∧ ∃ (T : u_T) (N : Nat), zcl[8]? = some (zX8_readTheory.1.cls, T, N) := ⟨⟨(zg3 0 (by decide +kernel) rfl), (zg1 3 (by decide +kernel) rfl), ⟨by decide +kernel, by decide +kernel, by decide +kernel⟩, by decide⟩, (zg2 238 (by decide +kernel) rfl), (zg2 239 (by decide +kernel) rfl), _, _, rfl⟩
theorem mbX9_advance : zMw0 zX9_advance 0 ∧ Cond.instanceMethod zX9_advance.1 ∈ zgood ∧ Cond.selects zX9_advance.1.cls zX9_advance.1 zX9_advance.1 ∈ zgood ∧ ∃ (T : u_T) (N : Nat), zcl[9]? = some (zX9_advance.1.cls, T, N) := ⟨⟨(zg2 218 (by decide +kernel) rfl), (zg1 2 (by decide +kernel) rfl), ⟨by decide +kernel, by decide +kernel, by decide +kernel⟩, by decide⟩, (zg2 216 (by decide +kernel) rfl), (zg2 217 (by decide +kernel) rfl), _, _, rfl⟩
theorem mbX9_append : zMw0 zX9_append 1 ∧ Cond.instanceMethod zX9_append.1 ∈ zgood ∧ Cond.selects zX9_append.1.cls zX9_append.1 zX9_append.1 ∈ zgood ∧ ∃ (T : u_T) (N : Nat), zcl[9]? = some (zX9_append.1.cls, T, N) := ⟨⟨(zg2 195 (by decide +kernel) rfl), (zg1 2 (by decide +kernel) rfl), ⟨by decide +kernel, by decide +kernel, by decide +kernel⟩, by decide⟩, (zg2 193 (by decide +kernel) rfl), (zg2 194 (by decide +kernel) rfl), _, _, rfl⟩
theorem mbX9_begin : zMw0 zX9_begin 2 ∧ Cond.instanceMethod zX9_begin.1 ∈ zgood ∧ Cond.selects zX9_begin.1.cls zX9_begin.1 zX9_begin.1 ∈ zgood ∧ ∃ (T : u_T) (N : Nat), zcl[9]? = some (zX9_begin.1.cls, T, N) := ⟨⟨(zg2 211 (by decide +kernel) rfl), (zg1 2 (by decide +kernel) rfl), ⟨by decide +kernel, by decide +kernel, by decide +kernel⟩, by decide⟩, (zg2 209 (by decide +kernel) rfl), (zg2 210 (by decide +kernel) rfl), _, _, rfl⟩
theorem mbX9_failAt : zMw0 zX9_failAt 2 ∧ Cond.instanceMethod zX9_failAt.1 ∈ zgood ∧ Cond.selects zX9_failAt.1.cls zX9_failAt.1 zX9_failAt.1 ∈ zgood ∧ ∃ (T : u_T) (N : Nat), zcl[9]? = some (zX9_failAt.1.cls, T, N) := ⟨⟨(zg3 96 (by decide +kernel) rfl), (zg1 2 (by decide +kernel) rfl), ⟨by decide +kernel, by decide +kernel, by decide +kernel⟩, by decide⟩, (zg3 94 (by decide +kernel) rfl), (zg3 95 (by decide +kernel) rfl), _, _, rfl⟩
theorem mbX9_failHere : zMw0 zX9_failHere 1 ∧ Cond.instanceMethod zX9_failHere.1 ∈ zgood ∧ Cond.selects zX9_failHere.1.cls zX9_failHere.1 zX9_failHere.1 ∈ zgood ∧ ∃ (T : u_T) (N : Nat), zcl[9]? = some (zX9_failHere.1.cls, T, N) := ⟨⟨(zg3 92 (by decide +kernel) rfl), (zg1 2 (by decide +kernel) rfl), ⟨by decide +kernel, by decide +kernel, by decide +kernel⟩, by decide⟩, (zg3 90 (by decide +kernel) rfl), (zg3 91 (by decide +kernel) rfl), _, _, rfl⟩
theorem mbX9_init : zMw0 zX9_init 0 ∧ zX9_init.1.name = "<init>" ∧ Cond.instanceMethod zX9_init.1 ∈ zgood ∧ zX9_init.2.2.2 = none := ⟨⟨(zg1 33 (by decide +kernel) rfl), (zg1 2 (by decide +kernel) rfl), ⟨by decide +kernel, by decide +kernel, by decide +kernel⟩, by decide⟩, rfl, (zg1 32 (by decide +kernel) rfl), rfl⟩
theorem mbX9_isDigit : zMw0 zX9_isDigit 1 ∧ Cond.static zX9_isDigit.1 ∈ zgood := ⟨⟨(zg2 228 (by decide +kernel) rfl), (zg1 2 (by decide +kernel) rfl), ⟨by decide +kernel, by decide +kernel, by decide +kernel⟩, by decide⟩, (zg2 227 (by decide +kernel) rfl)⟩
theorem mbX9_isSign : zMw0 zX9_isSign 1 ∧ Cond.instanceMethod zX9_isSign.1 ∈ zgood ∧ Cond.selects zX9_isSign.1.cls zX9_isSign.1 zX9_isSign.1 ∈ zgood ∧ ∃ (T : u_T) (N : Nat), zcl[9]? = some (zX9_isSign.1.cls, T, N) := ⟨⟨(zg3 169 (by decide +kernel) rfl), (zg1 2 (by decide +kernel) rfl), ⟨by decide +kernel, by decide +kernel, by decide +kernel⟩, by decide⟩, (zg3 167 (by decide +kernel) rfl), (zg3 168 (by decide +kernel) rfl), _, _, rfl⟩
theorem mbX9_isSingle : zMw0 zX9_isSingle 0 ∧ Cond.instanceMethod zX9_isSingle.1 ∈ zgood ∧ Cond.selects zX9_isSingle.1.cls zX9_isSingle.1 zX9_isSingle.1 ∈ zgood ∧ ∃ (T : u_T) (N : Nat), zcl[9]? = some (zX9_isSingle.1.cls, T, N) := ⟨⟨(zg3 101 (by decide +kernel) rfl), (zg1 2 (by decide +kernel) rfl), ⟨by decide +kernel, by decide +kernel, by decide +kernel⟩, by decide⟩, (zg3 99 (by decide +kernel) rfl), (zg3 100 (by decide +kernel) rfl), _, _, rfl⟩
theorem mbX9_isSmall : zMw0 zX9_isSmall 1 ∧ Cond.static zX9_isSmall.1 ∈ zgood := ⟨⟨(zg2 221 (by decide +kernel) rfl), (zg1 2 (by decide +kernel) rfl), ⟨by decide +kernel, by decide +kernel, by decide +kernel⟩, by decide⟩, (zg2 220 (by decide +kernel) rfl)⟩
theorem mbX9_isWord : zMw0 zX9_isWord 1 ∧ Cond.instanceMethod zX9_isWord.1 ∈ zgood ∧ Cond.selects zX9_isWord.1.cls zX9_isWord.1 zX9_isWord.1 ∈ zgood ∧ ∃ (T : u_T) (N : Nat), zcl[9]? = some (zX9_isWord.1.cls, T, N) := ⟨⟨(zg3 32 (by decide +kernel) rfl), (zg1 2 (by decide +kernel) rfl), ⟨by decide +kernel, by decide +kernel, by decide +kernel⟩, by decide⟩, (zg3 30 (by decide +kernel) rfl), (zg3 31 (by decide +kernel) rfl), _, _, rfl⟩
theorem mbX9_letterAt : zMw0 zX9_letterAt 1 ∧ Cond.instanceMethod zX9_letterAt.1 ∈ zgood ∧ Cond.selects zX9_letterAt.1.cls zX9_letterAt.1 zX9_letterAt.1 ∈ zgood ∧ ∃ (T : u_T) (N : Nat), zcl[9]? = some (zX9_letterAt.1.cls, T, N) := ⟨⟨(zg4 50 (by decide +kernel) rfl), (zg1 2 (by decide +kernel) rfl), ⟨by decide +kernel, by decide +kernel, by decide +kernel⟩, by decide⟩, (zg4 48 (by decide +kernel) rfl), (zg4 49 (by decide +kernel) rfl), _, _, rfl⟩
theorem mbX9_misplaced : zMw0 zX9_misplaced 0 ∧ Cond.instanceMethod zX9_misplaced.1 ∈ zgood ∧ Cond.selects zX9_misplaced.1.cls zX9_misplaced.1 zX9_misplaced.1 ∈ zgood ∧ ∃ (T : u_T) (N : Nat), zcl[9]? = some (zX9_misplaced.1.cls, T, N) := ⟨⟨(zg3 105 (by decide +kernel) rfl), (zg1 2 (by decide +kernel) rfl), ⟨by decide +kernel, by decide +kernel, by decide +kernel⟩, by decide⟩, (zg3 103 (by decide +kernel) rfl), (zg3 104 (by decide +kernel) rfl), _, _, rfl⟩
theorem mbX9_passSign : zMw0 zX9_passSign 1 ∧ Cond.instanceMethod zX9_passSign.1 ∈ zgood ∧ Cond.selects zX9_passSign.1.cls zX9_passSign.1 zX9_passSign.1 ∈ zgood ∧ ∃ (T : u_T) (N : Nat), zcl[9]? = some (zX9_passSign.1.cls, T, N) := ⟨⟨(zg3 177 (by decide +kernel) rfl), (zg1 2 (by decide +kernel) rfl), ⟨by decide +kernel, by decide +kernel, by decide +kernel⟩, by decide⟩, (zg3 175 (by decide +kernel) rfl), (zg3 176 (by decide +kernel) rfl), _, _, rfl⟩
theorem mbX9_size : zMw0 zX9_size 0 ∧ Cond.instanceMethod zX9_size.1 ∈ zgood ∧ Cond.selects zX9_size.1.cls zX9_size.1 zX9_size.1 ∈ zgood ∧ ∃ (T : u_T) (N : Nat), zcl[9]? = some (zX9_size.1.cls, T, N) := ⟨⟨(zg3 36 (by decide +kernel) rfl), (zg1 2 (by decide +kernel) rfl), ⟨by decide +kernel, by decide +kernel, by decide +kernel⟩, by decide⟩, (zg3 34 (by decide +kernel) rfl), (zg3 35 (by decide +kernel) rfl), _, _, rfl⟩
theorem mbX9_takeNumber : zMw0 zX9_takeNumber 0 ∧ Cond.instanceMethod zX9_takeNumber.1 ∈ zgood ∧ Cond.selects zX9_takeNumber.1.cls zX9_takeNumber.1 zX9_takeNumber.1 ∈ zgood ∧ ∃ (T : u_T) (N : Nat), zcl[9]? = some (zX9_takeNumber.1.cls, T, N) := ⟨⟨(zg2 232 (by decide +kernel) rfl), (zg1 2 (by decide +kernel) rfl), ⟨by decide +kernel, by decide +kernel, by decide +kernel⟩, by decide⟩, (zg2 231 (by decide +kernel) rfl), (zg0 3 (by decide +kernel) rfl), _, _, rfl⟩
theorem mbX9_takeSign : zMw0 zX9_takeSign 0 ∧ Cond.instanceMethod zX9_takeSign.1 ∈ zgood ∧ Cond.selects zX9_takeSign.1.cls zX9_takeSign.1 zX9_takeSign.1 ∈ zgood ∧ ∃ (T : u_T) (N : Nat), zcl[9]? = some (zX9_takeSign.1.cls, T, N) := ⟨⟨(zg2 236 (by decide +kernel) rfl), (zg1 2 (by decide +kernel) rfl), ⟨by decide +kernel, by decide +kernel, by decide +kernel⟩, by decide⟩, (zg2 235 (by decide +kernel) rfl), (zg0 4 (by decide +kernel) rfl), _, _, rfl⟩
theorem mbX9_takeWord : zMw0 zX9_takeWord 0 ∧ Cond.instanceMethod zX9_takeWord.1 ∈ zgood ∧ Cond.selects zX9_takeWord.1.cls zX9_takeWord.1 zX9_takeWord.1 ∈ zgood ∧ ∃ (T : u_T) (N : Nat), zcl[9]? = some (zX9_takeWord.1.cls, T, N) := ⟨⟨(zg2 225 (by decide +kernel) rfl), (zg1 2 (by decide +kernel) rfl), ⟨by decide +kernel, by decide +kernel, by decide +kernel⟩, by decide⟩, (zg2 224 (by decide +kernel) rfl), (zg0 2 (by decide +kernel) rfl), _, _, rfl⟩
theorem mlX11_9 : zMi RX11 9 zX9_init 0 := ⟨⟨Or.inr ⟨"ContractionCounter", zn1 31 (by decide +kernel)⟩, mbX9_init.1⟩, mbX9_init.2⟩
theorem mlX11_18 : zMi RX11 18 zX8_init 0 := ⟨⟨Or.inr ⟨"ContractionCounter", zn1 77 (by decide +kernel)⟩, mbX8_init.1⟩, mbX8_init.2⟩
theorem mlX11_25 : zMi RX11 25 zX3_init 0 := ⟨⟨Or.inr ⟨"ContractionCounter", zn1 84 (by decide +kernel)⟩, mbX3_init.1⟩, mbX3_init.2⟩
theorem mlX11_32 : zMi RX11 32 zX10_init 0 := ⟨⟨Or.inr ⟨"ContractionCounter", zn1 106 (by decide +kernel)⟩, mbX10_init.1⟩, mbX10_init.2⟩
theorem mlX11_39 : zMi RX11 39 zX4_init 0 := ⟨⟨Or.inr ⟨"ContractionCounter", zn1 123 (by decide +kernel)⟩, mbX4_init.1⟩, mbX4_init.2⟩
theorem mlX11_49 : zMi RX11 49 zX0_init 0 := ⟨⟨Or.inr ⟨"ContractionCounter", zn1 157 (by decide +kernel)⟩, mbX0_init.1⟩, mbX0_init.2⟩
theorem mlX11_56 : zMi RX11 56 zX1_init 0 := ⟨⟨Or.inr ⟨"ContractionCounter", zn2 23 (by decide +kernel)⟩, mbX1_init.1⟩, mbX1_init.2⟩
theorem mlX11_63 : zMi RX11 63 zX6_init 0 := ⟨⟨Or.inr ⟨"ContractionCounter", zn2 26 (by decide +kernel)⟩, mbX6_init.1⟩, mbX6_init.2⟩
theorem mlX11_70 : zMi RX11 70 zX7_init 0 := ⟨⟨Or.inl (zg2 41 (by decide +kernel) rfl), mbX7_init.1⟩, mbX7_init.2⟩
theorem mlX11_85 : zMv RX11 85 zX9_append 9 1 := ⟨⟨Or.inl (zg2 192 (by decide +kernel) rfl), mbX9_append.1⟩, mbX9_append.2⟩
theorem mlX11_89 : zMv RX11 89 zX11_isOnTape 11 1 := ⟨⟨Or.inl (zg2 200 (by decide +kernel) rfl), mbX11_isOnTape.1⟩, mbX11_isOnTape.2⟩
theorem mlX11_93 : zMv RX11 93 zX11_refuse 11 1 := ⟨⟨Or.inl (zg2 204 (by decide +kernel) rfl), mbX11_refuse.1⟩, mbX11_refuse.2⟩
theorem mlX11_97 : zMv RX11 97 zX9_begin 9 2 := ⟨⟨Or.inl (zg2 208 (by decide +kernel) rfl), mbX9_begin.1⟩, mbX9_begin.2⟩
theorem mlX11_101 : zMv RX11 101 zX8_readTheory 8 2 := ⟨⟨Or.inl (zg2 237 (by decide +kernel) rfl), mbX8_readTheory.1⟩, mbX8_readTheory.2⟩
theorem mlX11_105 : zMv RX11 105 zX11_forgetAll 11 0 := ⟨⟨Or.inl (zg3 181 (by decide +kernel) rfl), mbX11_forgetAll.1⟩, mbX11_forgetAll.2⟩
theorem mlX11_111 : zMv RX11 111 zX11_answer 11 1 := ⟨⟨Or.inl (zg3 185 (by decide +kernel) rfl), mbX11_answer.1⟩, mbX11_answer.2⟩
theorem mlX11_114 : zMv RX11 114 zX3_readPairs 3 2 := ⟨⟨Or.inl (zg3 194 (by decide +kernel) rfl), mbX3_readPairs.1⟩, mbX3_readPairs.2⟩
theorem mlX11_120 : zMv RX11 120 zX7_allLetters 7 0 := ⟨⟨Or.inl (zg3 217 (by decide +kernel) rfl), mbX7_allLetters.1⟩, mbX7_allLetters.2⟩
theorem mlX11_124 : zMv RX11 124 zX11_knownPairings 11 0 := ⟨⟨Or.inl (zg3 221 (by decide +kernel) rfl), mbX11_knownPairings.1⟩, mbX11_knownPairings.2⟩
theorem mlX11_132 : zMv RX11 132 zX4_find 4 1 := ⟨⟨Or.inl (zg4 24 (by decide +kernel) rfl), mbX4_find.1⟩, mbX4_find.2⟩
theorem mlX11_136 : zMv RX11 136 zX3_readLines 3 2 := ⟨⟨Or.inl (zg4 32 (by decide +kernel) rfl), mbX3_readLines.1⟩, mbX3_readLines.2⟩
theorem mlX11_142 : zMv RX11 142 zX11_knownDiagrams 11 0 := ⟨⟨Or.inl (zg4 60 (by decide +kernel) rfl), mbX11_knownDiagrams.1⟩, mbX11_knownDiagrams.2⟩
theorem mlX11_146 : zMv RX11 146 zX3_sortedKey 3 0 := ⟨⟨Or.inl (zg4 160 (by decide +kernel) rfl), mbX3_sortedKey.1⟩, mbX3_sortedKey.2⟩
theorem mlX11_150 : zMv RX11 150 zX0_find 0 1 := ⟨⟨Or.inl (zg4 165 (by decide +kernel) rfl), mbX0_find.1⟩, mbX0_find.2⟩
theorem mlX11_166 : zMv RX11 166 zX7_vertexCount 7 0 := ⟨⟨Or.inl (zg4 177 (by decide +kernel) rfl), mbX7_vertexCount.1⟩, mbX7_vertexCount.2⟩
theorem mlX11_169 : zMv RX11 169 zX11_pairingCount 11 0 := ⟨⟨Or.inl (zg4 178 (by decide +kernel) rfl), mbX11_pairingCount.1⟩, mbX11_pairingCount.2⟩
theorem mlX11_175 : zMv RX11 175 zX4_signs 4 0 := ⟨⟨Or.inl (zg4 183 (by decide +kernel) rfl), mbX4_signs.1⟩, mbX4_signs.2⟩
theorem mlX11_178 : zMv RX11 178 zX0_linkedPairings 0 0 := ⟨⟨Or.inl (zg4 188 (by decide +kernel) rfl), mbX0_linkedPairings.1⟩, mbX0_linkedPairings.2⟩
theorem mlX11_181 : zMv RX11 181 zX0_connectedPairings 0 0 := ⟨⟨Or.inl (zg4 239 (by decide +kernel) rfl), mbX0_connectedPairings.1⟩, mbX0_connectedPairings.2⟩
theorem mlX11_184 : zMv RX11 184 zX4_tally 4 3 := ⟨⟨Or.inl (zg5 7 (by decide +kernel) rfl), mbX4_tally.1⟩, mbX4_tally.2⟩
theorem mlX11_188 : zMv RX11 188 zX0_linkedDiagrams 0 0 := ⟨⟨Or.inl (zg5 23 (by decide +kernel) rfl), mbX0_linkedDiagrams.1⟩, mbX0_linkedDiagrams.2⟩
theorem mlX11_191 : zMv RX11 191 zX0_countWith 0 2 := ⟨⟨Or.inl (zg5 27 (by decide +kernel) rfl), mbX0_countWith.1⟩, mbX0_countWith.2⟩
theorem mlX11_195 : zMv RX11 195 zX7_hasLetter 7 1 := ⟨⟨Or.inl (zg5 59 (by decide +kernel) rfl), mbX7_hasLetter.1⟩, mbX7_hasLetter.2⟩
theorem mlX11_198 : zMv RX11 198 zX7_letterFact 7 2 := ⟨⟨Or.inl (zg5 63 (by decide +kernel) rfl), mbX7_letterFact.1⟩, mbX7_letterFact.2⟩
theorem mlX11_201 : zMv RX11 201 zX7_fieldFact 7 2 := ⟨⟨Or.inl (zg5 71 (by decide +kernel) rfl), mbX7_fieldFact.1⟩, mbX7_fieldFact.2⟩
theorem mlX11_204 : zMv RX11 204 zX7_hasPoint 7 1 := ⟨⟨Or.inl (zg5 79 (by decide +kernel) rfl), mbX7_hasPoint.1⟩, mbX7_hasPoint.2⟩
theorem mlX11_207 : zMv RX11 207 zX7_pointFact 7 2 := ⟨⟨Or.inl (zg5 83 (by decide +kernel) rfl), mbX7_pointFact.1⟩, mbX7_pointFact.2⟩
theorem mlX11_210 : zMv RX11 210 zX7_mayPair 7 2 := ⟨⟨Or.inl (zg5 95 (by decide +kernel) rfl), mbX7_mayPair.1⟩, mbX7_mayPair.2⟩
theorem mlX11_214 : zMv RX11 214 zX7_codeOf 7 2 := ⟨⟨Or.inl (zg5 96 (by decide +kernel) rfl), mbX7_codeOf.1⟩, mbX7_codeOf.2⟩
theorem mlX11_217 : zMv RX11 217 zX7_removePoint 7 1 := ⟨⟨Or.inl (zg5 101 (by decide +kernel) rfl), mbX7_removePoint.1⟩, mbX7_removePoint.2⟩
theorem mlX11_220 : zMv RX11 220 zX7_shiftPoint 7 2 := ⟨⟨Or.inl (zg5 113 (by decide +kernel) rfl), mbX7_shiftPoint.1⟩, mbX7_shiftPoint.2⟩
theorem mlX11_224 : zMv RX11 224 zX7_firstLetter 7 1 := ⟨⟨Or.inl (zg5 114 (by decide +kernel) rfl), mbX7_firstLetter.1⟩, mbX7_firstLetter.2⟩
theorem mlX11_234 : zMv RX11 234 zX7_exchangeLetters 7 1 := ⟨⟨Or.inl (zg5 119 (by decide +kernel) rfl), mbX7_exchangeLetters.1⟩, mbX7_exchangeLetters.2⟩
theorem mlX11_247 : zMv RX11 247 zX7_setNormal 7 2 := ⟨⟨Or.inl (zg5 127 (by decide +kernel) rfl), mbX7_setNormal.1⟩, mbX7_setNormal.2⟩
theorem mlX11_250 : zMv RX11 250 zX7_hasRoomForCopy 7 1 := ⟨⟨Or.inl (zg5 135 (by decide +kernel) rfl), mbX7_hasRoomForCopy.1⟩, mbX7_hasRoomForCopy.2⟩
theorem mlX11_253 : zMv RX11 253 zX7_copyPoint 7 1 := ⟨⟨Or.inl (zg5 140 (by decide +kernel) rfl), mbX7_copyPoint.1⟩, mbX7_copyPoint.2⟩
theorem mlX11_256 : zMv RX11 256 zX7_hasCode 7 1 := ⟨⟨Or.inl (zg5 154 (by decide +kernel) rfl), mbX7_hasCode.1⟩, mbX7_hasCode.2⟩
theorem mlX11_262 : zMv RX11 262 zX11_hasPairing 11 1 := ⟨⟨Or.inl (zg5 171 (by decide +kernel) rfl), mbX11_hasPairing.1⟩, mbX11_hasPairing.2⟩
theorem mlX11_265 : zMv RX11 265 zX4_mateOf 4 2 := ⟨⟨Or.inl (zg5 175 (by decide +kernel) rfl), mbX4_mateOf.1⟩, mbX4_mateOf.2⟩
theorem mlX11_268 : zMv RX11 268 zX4_sign 4 1 := ⟨⟨Or.inl (zg5 180 (by decide +kernel) rfl), mbX4_sign.1⟩, mbX4_sign.2⟩
theorem mlX11_271 : zMv RX11 271 zX4_crossings 4 1 := ⟨⟨Or.inl (zg5 181 (by decide +kernel) rfl), mbX4_crossings.1⟩, mbX4_crossings.2⟩
theorem mlX11_274 : zMv RX11 274 zX11_knownRounds 11 0 := ⟨⟨Or.inl (zg5 182 (by decide +kernel) rfl), mbX11_knownRounds.1⟩, mbX11_knownRounds.2⟩
theorem mlX11_277 : zMv RX11 277 zX4_holesOf 4 1 := ⟨⟨Or.inl (zg5 195 (by decide +kernel) rfl), mbX4_holesOf.1⟩, mbX4_holesOf.2⟩
theorem mlX11_280 : zMv RX11 280 zX0_diagramOf 0 1 := ⟨⟨Or.inl (zg5 196 (by decide +kernel) rfl), mbX0_diagramOf.1⟩, mbX0_diagramOf.2⟩
theorem mlX11_283 : zMv RX11 283 zX4_rounds 4 1 := ⟨⟨Or.inl (zg5 200 (by decide +kernel) rfl), mbX4_rounds.1⟩, mbX4_rounds.2⟩
theorem mlX11_286 : zMv RX11 286 zX4_together 4 3 := ⟨⟨Or.inl (zg5 205 (by decide +kernel) rfl), mbX4_together.1⟩, mbX4_together.2⟩
theorem mlX11_290 : zMv RX11 290 zX4_commonLines 4 2 := ⟨⟨Or.inl (zg5 213 (by decide +kernel) rfl), mbX4_commonLines.1⟩, mbX4_commonLines.2⟩
theorem mlX11_293 : zMv RX11 293 zX4_commonRings 4 2 := ⟨⟨Or.inl (zg5 217 (by decide +kernel) rfl), mbX4_commonRings.1⟩, mbX4_commonRings.2⟩
theorem mlX11_296 : zMv RX11 296 zX11_knownWays 11 0 := ⟨⟨Or.inl (zg3 225 (by decide +kernel) rfl), mbX11_knownWays.1⟩, mbX11_knownWays.2⟩
theorem mlX11_300 : zMv RX11 300 zX10_withLines 10 1 := ⟨⟨Or.inl (zg5 233 (by decide +kernel) rfl), mbX10_withLines.1⟩, mbX10_withLines.2⟩
theorem mlX11_303 : zMv RX11 303 zX7_allPoints 7 0 := ⟨⟨Or.inl (zg6 2 (by decide +kernel) rfl), mbX7_allPoints.1⟩, mbX7_allPoints.2⟩
theorem mlX11_306 : zMv RX11 306 zX7_lettersOf 7 1 := ⟨⟨Or.inl (zg6 3 (by decide +kernel) rfl), mbX7_lettersOf.1⟩, mbX7_lettersOf.2⟩
theorem mlX11_309 : zMv RX11 309 zX10_of 10 1 := ⟨⟨Or.inl (zg4 182 (by decide +kernel) rfl), mbX10_of.1⟩, mbX10_of.2⟩
theorem mlX11_312 : zMv RX11 312 zX11_pairingsOf 11 1 := ⟨⟨Or.inl (zg6 7 (by decide +kernel) rfl), mbX11_pairingsOf.1⟩, mbX11_pairingsOf.2⟩
theorem mlX11_316 : zMv RX11 316 zX11_countHanging 11 3 := ⟨⟨Or.inl (zg6 11 (by decide +kernel) rfl), mbX11_countHanging.1⟩, mbX11_countHanging.2⟩
theorem mlX11_321 : zMv RX11 321 zX11_worthOf 11 2 := ⟨⟨Or.inl (zg6 28 (by decide +kernel) rfl), mbX11_worthOf.1⟩, mbX11_worthOf.2⟩
theorem mlX11_325 : zMv RX11 325 zX11_hasDiagram 11 1 := ⟨⟨Or.inl (zg6 36 (by decide +kernel) rfl), mbX11_hasDiagram.1⟩, mbX11_hasDiagram.2⟩
theorem mlX11_328 : zMv RX11 328 zX0_fact 0 2 := ⟨⟨Or.inl (zg6 40 (by decide +kernel) rfl), mbX0_fact.1⟩, mbX0_fact.2⟩
theorem mlX11_331 : zMv RX11 331 zX0_codeAt 0 2 := ⟨⟨Or.inl (zg6 45 (by decide +kernel) rfl), mbX0_codeAt.1⟩, mbX0_codeAt.2⟩
theorem mlX11_334 : zMv RX11 334 zX11_graphOf 11 1 := ⟨⟨Or.inl (zg6 50 (by decide +kernel) rfl), mbX11_graphOf.1⟩, mbX11_graphOf.2⟩
theorem mlX11_338 : zMv RX11 338 zX1_reach 1 2 := ⟨⟨Or.inl (zg6 22 (by decide +kernel) rfl), mbX1_reach.1⟩, mbX1_reach.2⟩
theorem mlX11_341 : zMv RX11 341 zX1_distance 1 2 := ⟨⟨Or.inl (zg6 60 (by decide +kernel) rfl), mbX1_distance.1⟩, mbX1_distance.2⟩
theorem mlX11_344 : zMv RX11 344 zX1_cutPoints 1 0 := ⟨⟨Or.inl (zg6 68 (by decide +kernel) rfl), mbX1_cutPoints.1⟩, mbX1_cutPoints.2⟩
theorem mlX11_347 : zMv RX11 347 zX6_clear 6 0 := ⟨⟨Or.inl (zg6 92 (by decide +kernel) rfl), mbX6_clear.1⟩, mbX6_clear.2⟩
theorem mlX11_350 : zMv RX11 350 zX6_putLine 6 2 := ⟨⟨Or.inl (zg6 96 (by decide +kernel) rfl), mbX6_putLine.1⟩, mbX6_putLine.2⟩
theorem mlX11_357 : zMv RX11 357 zX6_putPair 6 2 := ⟨⟨Or.inl (zg6 117 (by decide +kernel) rfl), mbX6_putPair.1⟩, mbX6_putPair.2⟩
theorem mlX11_363 : zMv RX11 363 zX7_outerPoints 7 0 := ⟨⟨Or.inl (zg6 15 (by decide +kernel) rfl), mbX7_outerPoints.1⟩, mbX7_outerPoints.2⟩
theorem mlX11_366 : zMs RX11 366 zJ6_bitCount_0f7a4 1 := ⟨⟨Or.inl (zg3 237 (by decide +kernel) rfl), mbJ6_bitCount_0f7a4.1⟩, mbJ6_bitCount_0f7a4.2⟩
theorem mlX11_371 : zMv RX11 371 zX1_linesWithin 1 1 := ⟨⟨Or.inl (zg6 129 (by decide +kernel) rfl), mbX1_linesWithin.1⟩, mbX1_linesWithin.2⟩
theorem mlX11_382 : zMv RX11 382 zX10_fill 10 1 := ⟨⟨Or.inl (zg3 229 (by decide +kernel) rfl), mbX10_fill.1⟩, mbX10_fill.2⟩
theorem mlX11_386 : zMv RX11 386 zX4_fill 4 3 := ⟨⟨Or.inl (zg3 238 (by decide +kernel) rfl), mbX4_fill.1⟩, mbX4_fill.2⟩
theorem mlX11_389 : zMv RX11 389 zX4_traceRounds 4 0 := ⟨⟨Or.inl (zg5 186 (by decide +kernel) rfl), mbX4_traceRounds.1⟩, mbX4_traceRounds.2⟩
theorem mlX11_392 : zMv RX11 392 zX0_build 0 2 := ⟨⟨Or.inl (zg4 64 (by decide +kernel) rfl), mbX0_build.1⟩, mbX0_build.2⟩
theorem mlX11_396 : zMv RX11 396 zX0_nameOf 0 1 := ⟨⟨Or.inl (zg6 54 (by decide +kernel) rfl), mbX0_nameOf.1⟩, mbX0_nameOf.2⟩
theorem mlX11_400 : zMv RX11 400 zX1_readName 1 3 := ⟨⟨Or.inl (zg6 55 (by decide +kernel) rfl), mbX1_readName.1⟩, mbX1_readName.2⟩
theorem mlX11_404 : zMv RX11 404 zX11_drawPairing 11 3 := ⟨⟨Or.inl (zg6 16 (by decide +kernel) rfl), mbX11_drawPairing.1⟩, mbX11_drawPairing.2⟩
theorem mlX11_408 : zMv RX11 408 zX1_partCount 1 0 := ⟨⟨Or.inl (zg6 23 (by decide +kernel) rfl), mbX1_partCount.1⟩, mbX1_partCount.2⟩
theorem mlX11_411 : zMv RX11 411 zX1_clear 1 1 := ⟨⟨Or.inl (zg6 20 (by decide +kernel) rfl), mbX1_clear.1⟩, mbX1_clear.2⟩
theorem mlX11_416 : zMv RX11 416 zX1_addLine 1 1 := ⟨⟨Or.inl (zg6 21 (by decide +kernel) rfl), mbX1_addLine.1⟩, mbX1_addLine.2⟩
theorem mlX11_419 : zMs RX11 419 zJ9_min_7cf53 2 := ⟨⟨Or.inl (zg4 9 (by decide +kernel) rfl), mbJ9_min_7cf53.1⟩, mbJ9_min_7cf53.2⟩
theorem mlX0_11 : zMi RX0 11 zX2_init 0 := ⟨⟨Or.inr ⟨"ContractionCounter", zn1 163 (by decide +kernel)⟩, mbX2_init.1⟩, mbX2_init.2⟩
theorem mlX0_20 : zMi RX0 20 zX1_init 0 := ⟨⟨Or.inr ⟨"ContractionCounter", zn1 179 (by decide +kernel)⟩, mbX1_init.1⟩, mbX1_init.2⟩
theorem mlX0_66 : zMs RX0 66 zX11_roomFor 1 := ⟨⟨Or.inr ⟨"ContractionCounter", zn4 68 (by decide +kernel)⟩, mbX11_roomFor.1⟩, mbX11_roomFor.2⟩
theorem mlX0_70 : zMv RX0 70 zX0_makeRoom 0 1 := ⟨⟨Or.inl (zg4 69 (by decide +kernel) rfl), mbX0_makeRoom.1⟩, mbX0_makeRoom.2⟩
theorem mlX0_82 : zMv RX0 82 zX7_allPoints 7 0 := ⟨⟨Or.inl (zg4 73 (by decide +kernel) rfl), mbX7_allPoints.1⟩, mbX7_allPoints.2⟩
theorem mlX0_88 : zMv RX0 88 zX7_outerPoints 7 0 := ⟨⟨Or.inl (zg4 77 (by decide +kernel) rfl), mbX7_outerPoints.1⟩, mbX7_outerPoints.2⟩
theorem mlX0_93 : zMv RX0 93 zX7_orders 7 0 := ⟨⟨Or.inl (zg4 78 (by decide +kernel) rfl), mbX7_orders.1⟩, mbX7_orders.2⟩
theorem mlX0_101 : zMv RX0 101 zX0_listChanges 0 4 := ⟨⟨Or.inl (zg4 94 (by decide +kernel) rfl), mbX0_listChanges.1⟩, mbX0_listChanges.2⟩
theorem mlX0_105 : zMv RX0 105 zX2_clear 2 1 := ⟨⟨Or.inl (zg4 99 (by decide +kernel) rfl), mbX2_clear.1⟩, mbX2_clear.2⟩
theorem mlX0_109 : zMv RX0 109 zX0_rowOf 0 3 := ⟨⟨Or.inl (zg4 108 (by decide +kernel) rfl), mbX0_rowOf.1⟩, mbX0_rowOf.2⟩
theorem mlX0_113 : zMv RX0 113 zX2_find 2 1 := ⟨⟨Or.inl (zg4 123 (by decide +kernel) rfl), mbX2_find.1⟩, mbX2_find.2⟩
theorem mlX0_117 : zMv RX0 117 zX0_open 0 3 := ⟨⟨Or.inl (zg4 132 (by decide +kernel) rfl), mbX0_open.1⟩, mbX0_open.2⟩
theorem mlX0_121 : zMv RX0 121 zX4_sign 4 1 := ⟨⟨Or.inl (zg4 148 (by decide +kernel) rfl), mbX4_sign.1⟩, mbX4_sign.2⟩
theorem mlX0_124 : zMv RX0 124 zX0_sortByName 0 0 := ⟨⟨Or.inl (zg4 152 (by decide +kernel) rfl), mbX0_sortByName.1⟩, mbX0_sortByName.2⟩
theorem mlX0_138 : zMv RX0 138 zX5_isAlike 5 1 := ⟨⟨Or.inl (zg4 98 (by decide +kernel) rfl), mbX5_isAlike.1⟩, mbX5_isAlike.2⟩
theorem mlX0_144 : zMv RX0 144 zX4_mateOf 4 2 := ⟨⟨Or.inl (zg4 112 (by decide +kernel) rfl), mbX4_mateOf.1⟩, mbX4_mateOf.2⟩
theorem mlX0_148 : zMv RX0 148 zX7_codeOf 7 2 := ⟨⟨Or.inl (zg4 116 (by decide +kernel) rfl), mbX7_codeOf.1⟩, mbX7_codeOf.2⟩
theorem mlX0_151 : zMs RX0 151 zX0_keyOf 2 := ⟨⟨Or.inl (zg4 120 (by decide +kernel) rfl), mbX0_keyOf.1⟩, mbX0_keyOf.2⟩
theorem mlX0_155 : zMv RX0 155 zX0_imageOf 0 2 := ⟨⟨Or.inl (zg4 136 (by decide +kernel) rfl), mbX0_imageOf.1⟩, mbX0_imageOf.2⟩
theorem mlX0_159 : zMs RX0 159 zJ9_min_f86c9 2 := ⟨⟨Or.inl (zg4 141 (by decide +kernel) rfl), mbJ9_min_f86c9.1⟩, mbJ9_min_f86c9.2⟩
theorem mlX0_165 : zMv RX0 165 zX2_put 2 2 := ⟨⟨Or.inl (zg4 144 (by decide +kernel) rfl), mbX2_put.1⟩, mbX2_put.2⟩
theorem mlX0_169 : zMv RX0 169 zX7_codeFor 7 3 := ⟨⟨Or.inl (zg4 140 (by decide +kernel) rfl), mbX7_codeFor.1⟩, mbX7_codeFor.2⟩
theorem mlX0_173 : zMv RX0 173 zX0_sink 0 2 := ⟨⟨Or.inl (zg4 156 (by decide +kernel) rfl), mbX0_sink.1⟩, mbX0_sink.2⟩
theorem mlX0_177 : zMv RX0 177 zX0_nameOf 0 1 := ⟨⟨Or.inl (zg5 50 (by decide +kernel) rfl), mbX0_nameOf.1⟩, mbX0_nameOf.2⟩
theorem mlX0_181 : zMv RX0 181 zX0_symmetry 0 1 := ⟨⟨Or.inl (zg5 38 (by decide +kernel) rfl), mbX0_symmetry.1⟩, mbX0_symmetry.2⟩
theorem mlX0_184 : zMv RX0 184 zX0_shapeOf 0 1 := ⟨⟨Or.inl (zg4 196 (by decide +kernel) rfl), mbX0_shapeOf.1⟩, mbX0_shapeOf.2⟩
theorem mlX0_187 : zMv RX0 187 zX0_thickest 0 1 := ⟨⟨Or.inl (zg5 42 (by decide +kernel) rfl), mbX0_thickest.1⟩, mbX0_thickest.2⟩
theorem mlX0_190 : zMv RX0 190 zX1_readName 1 3 := ⟨⟨Or.inl (zg4 200 (by decide +kernel) rfl), mbX1_readName.1⟩, mbX1_readName.2⟩
theorem mlX0_194 : zMv RX0 194 zX1_partCount 1 0 := ⟨⟨Or.inl (zg4 213 (by decide +kernel) rfl), mbX1_partCount.1⟩, mbX1_partCount.2⟩
theorem mlX0_197 : zMs RX0 197 zJ6_bitCount_0f7a4 1 := ⟨⟨Or.inl (zg4 225 (by decide +kernel) rfl), mbJ6_bitCount_0f7a4.1⟩, mbJ6_bitCount_0f7a4.2⟩
theorem mlX0_202 : zMv RX0 202 zX1_bridges 1 0 := ⟨⟨Or.inl (zg4 226 (by decide +kernel) rfl), mbX1_bridges.1⟩, mbX1_bridges.2⟩
theorem mlX0_205 : zMv RX0 205 zX1_rings 1 0 := ⟨⟨Or.inl (zg4 234 (by decide +kernel) rfl), mbX1_rings.1⟩, mbX1_rings.2⟩
theorem mlX0_208 : zMv RX0 208 zX1_reach 1 2 := ⟨⟨Or.inl (zg4 238 (by decide +kernel) rfl), mbX1_reach.1⟩, mbX1_reach.2⟩
theorem mlX0_211 : zMv RX0 211 zX0_codeAt 0 2 := ⟨⟨Or.inl (zg5 46 (by decide +kernel) rfl), mbX0_codeAt.1⟩, mbX0_codeAt.2⟩
theorem mlX0_214 : zMs RX0 214 zJ9_max_7cf53 2 := ⟨⟨Or.inl (zg5 54 (by decide +kernel) rfl), mbJ9_max_7cf53.1⟩, mbJ9_max_7cf53.2⟩
theorem mlX0_217 : zMv RX0 217 zX0_isLinked 0 1 := ⟨⟨Or.inl (zg4 192 (by decide +kernel) rfl), mbX0_isLinked.1⟩, mbX0_isLinked.2⟩
theorem mlX0_221 : zMv RX0 221 zX0_partsOf 0 1 := ⟨⟨Or.inl (zg5 3 (by decide +kernel) rfl), mbX0_partsOf.1⟩, mbX0_partsOf.2⟩
theorem mlX0_224 : zMs RX0 224 zX0_factFor 1 := ⟨⟨Or.inl (zg5 31 (by decide +kernel) rfl), mbX0_factFor.1⟩, mbX0_factFor.2⟩
theorem mlX0_227 : zMv RX0 227 zX0_fact 0 2 := ⟨⟨Or.inl (zg5 34 (by decide +kernel) rfl), mbX0_fact.1⟩, mbX0_fact.2⟩
theorem mlX1_28 : zMs RX1 28 zJ7_fill_53178 2 := ⟨⟨Or.inl (zg4 208 (by decide +kernel) rfl), mbJ7_fill_53178.1⟩, mbJ7_fill_53178.2⟩
theorem mlX1_34 : zMv RX1 34 zX1_clear 1 1 := ⟨⟨Or.inl (zg4 204 (by decide +kernel) rfl), mbX1_clear.1⟩, mbX1_clear.2⟩
theorem mlX1_38 : zMv RX1 38 zX1_addLine 1 1 := ⟨⟨Or.inl (zg4 209 (by decide +kernel) rfl), mbX1_addLine.1⟩, mbX1_addLine.2⟩
theorem mlX1_41 : zMv RX1 41 zX1_nextTo 1 1 := ⟨⟨Or.inl (zg4 221 (by decide +kernel) rfl), mbX1_nextTo.1⟩, mbX1_nextTo.2⟩
theorem mlX1_45 : zMv RX1 45 zX1_reach 1 2 := ⟨⟨Or.inl (zg4 217 (by decide +kernel) rfl), mbX1_reach.1⟩, mbX1_reach.2⟩
theorem mlX1_49 : zMv RX1 49 zX1_hasTwin 1 1 := ⟨⟨Or.inl (zg4 230 (by decide +kernel) rfl), mbX1_hasTwin.1⟩, mbX1_hasTwin.2⟩
theorem mlX1_53 : zMv RX1 53 zX1_isCut 1 1 := ⟨⟨Or.inl (zg6 72 (by decide +kernel) rfl), mbX1_isCut.1⟩, mbX1_isCut.2⟩
theorem mlX2_23 : zMs RX2 23 zJ9_min_7cf53 2 := ⟨⟨Or.inl (zg4 103 (by decide +kernel) rfl), mbJ9_min_7cf53.1⟩, mbJ9_min_7cf53.2⟩
theorem mlX2_29 : zMs RX2 29 zJ9_max_7cf53 2 := ⟨⟨Or.inl (zg4 104 (by decide +kernel) rfl), mbJ9_max_7cf53.1⟩, mbJ9_max_7cf53.2⟩
theorem mlX2_32 : zMs RX2 32 zJ7_fill_53178 2 := ⟨⟨Or.inl (zg4 107 (by decide +kernel) rfl), mbJ7_fill_53178.1⟩, mbJ7_fill_53178.2⟩
theorem mlX2_40 : zMv RX2 40 zX2_slotOf 2 1 := ⟨⟨Or.inl (zg4 127 (by decide +kernel) rfl), mbX2_slotOf.1⟩, mbX2_slotOf.2⟩
theorem mlX3_31 : zMv RX3 31 zX3_readOnePair 3 2 := ⟨⟨Or.inl (zg3 198 (by decide +kernel) rfl), mbX3_readOnePair.1⟩, mbX3_readOnePair.2⟩
theorem mlX3_40 : zMv RX3 40 zX3_readNumber 3 2 := ⟨⟨Or.inl (zg3 202 (by decide +kernel) rfl), mbX3_readNumber.1⟩, mbX3_readNumber.2⟩
theorem mlX3_47 : zMv RX3 47 zX9_failHere 9 1 := ⟨⟨Or.inl (zg3 207 (by decide +kernel) rfl), mbX9_failHere.1⟩, mbX9_failHere.2⟩
theorem mlX3_51 : zMv RX3 51 zX9_advance 9 0 := ⟨⟨Or.inl (zg3 208 (by decide +kernel) rfl), mbX9_advance.1⟩, mbX9_advance.2⟩
theorem mlX3_54 : zMv RX3 54 zX9_passSign 9 1 := ⟨⟨Or.inl (zg3 209 (by decide +kernel) rfl), mbX9_passSign.1⟩, mbX9_passSign.2⟩
theorem mlX3_58 : zMv RX3 58 zX7_mayPair 7 2 := ⟨⟨Or.inl (zg3 210 (by decide +kernel) rfl), mbX7_mayPair.1⟩, mbX7_mayPair.2⟩
theorem mlX3_62 : zMs RX3 62 zX4_packed 2 := ⟨⟨Or.inl (zg3 214 (by decide +kernel) rfl), mbX4_packed.1⟩, mbX4_packed.2⟩
theorem mlX3_68 : zMv RX3 68 zX9_misplaced 9 0 := ⟨⟨Or.inl (zg3 206 (by decide +kernel) rfl), mbX9_misplaced.1⟩, mbX9_misplaced.2⟩
theorem mlX3_72 : zMv RX3 72 zX3_readOneLine 3 2 := ⟨⟨Or.inl (zg4 36 (by decide +kernel) rfl), mbX3_readOneLine.1⟩, mbX3_readOneLine.2⟩
theorem mlX3_78 : zMv RX3 78 zX9_isSign 9 1 := ⟨⟨Or.inl (zg4 40 (by decide +kernel) rfl), mbX9_isSign.1⟩, mbX9_isSign.2⟩
theorem mlX3_81 : zMv RX3 81 zX3_readSort 3 2 := ⟨⟨Or.inl (zg4 41 (by decide +kernel) rfl), mbX3_readSort.1⟩, mbX3_readSort.2⟩
theorem mlX3_85 : zMv RX3 85 zX7_isPairSort 7 1 := ⟨⟨Or.inl (zg4 55 (by decide +kernel) rfl), mbX7_isPairSort.1⟩, mbX7_isPairSort.2⟩
theorem mlX3_88 : zMv RX3 88 zX7_codeFor 7 3 := ⟨⟨Or.inl (zg4 59 (by decide +kernel) rfl), mbX7_codeFor.1⟩, mbX7_codeFor.2⟩
theorem mlX3_92 : zMv RX3 92 zX9_size 9 0 := ⟨⟨Or.inl (zg4 45 (by decide +kernel) rfl), mbX9_size.1⟩, mbX9_size.2⟩
theorem mlX3_96 : zMv RX3 96 zX7_fieldOf 7 1 := ⟨⟨Or.inl (zg4 46 (by decide +kernel) rfl), mbX7_fieldOf.1⟩, mbX7_fieldOf.2⟩
theorem mlX3_100 : zMv RX3 100 zX9_letterAt 9 1 := ⟨⟨Or.inl (zg4 47 (by decide +kernel) rfl), mbX9_letterAt.1⟩, mbX9_letterAt.2⟩
theorem mlX3_103 : zMv RX3 103 zX7_mixOfLetters 7 2 := ⟨⟨Or.inl (zg4 51 (by decide +kernel) rfl), mbX7_mixOfLetters.1⟩, mbX7_mixOfLetters.2⟩
theorem mlX3_107 : zMs RX3 107 zX0_keyOf 2 := ⟨⟨Or.inl (zg4 164 (by decide +kernel) rfl), mbX0_keyOf.1⟩, mbX0_keyOf.2⟩
theorem mlX4_19 : zMv RX4 19 zX10_of 10 1 := ⟨⟨Or.inl (zg4 2 (by decide +kernel) rfl), mbX10_of.1⟩, mbX10_of.2⟩
theorem mlX4_25 : zMs RX4 25 zX11_roomFor 1 := ⟨⟨Or.inr ⟨"ContractionCounter", zn4 6 (by decide +kernel)⟩, mbX11_roomFor.1⟩, mbX11_roomFor.2⟩
theorem mlX4_41 : zMv RX4 41 zX4_extend 4 6 := ⟨⟨Or.inl (zg4 10 (by decide +kernel) rfl), mbX4_extend.1⟩, mbX4_extend.2⟩
theorem mlX4_52 : zMv RX4 52 zX4_store 4 2 := ⟨⟨Or.inl (zg4 14 (by decide +kernel) rfl), mbX4_store.1⟩, mbX4_store.2⟩
theorem mlX4_56 : zMs RX4 56 zX11_leastOf 1 := ⟨⟨Or.inr ⟨"ContractionCounter", zn4 18 (by decide +kernel)⟩, mbX11_leastOf.1⟩, mbX11_leastOf.2⟩
theorem mlX4_62 : zMs RX4 62 zX4_withLine 5 := ⟨⟨Or.inl (zg4 19 (by decide +kernel) rfl), mbX4_withLine.1⟩, mbX4_withLine.2⟩
theorem mlX4_66 : zMs RX4 66 zX4_packed 2 := ⟨⟨Or.inl (zg4 23 (by decide +kernel) rfl), mbX4_packed.1⟩, mbX4_packed.2⟩
theorem mlX4_70 : zMs RX4 70 zJ6_bitCount_0f7a4 1 := ⟨⟨Or.inl (zg4 22 (by decide +kernel) rfl), mbJ6_bitCount_0f7a4.1⟩, mbJ6_bitCount_0f7a4.2⟩
theorem mlX4_81 : zMv RX4 81 zX4_countRounds 4 1 := ⟨⟨Or.inl (zg5 190 (by decide +kernel) rfl), mbX4_countRounds.1⟩, mbX4_countRounds.2⟩
theorem mlX4_84 : zMv RX4 84 zX4_mateOf 4 2 := ⟨⟨Or.inl (zg5 194 (by decide +kernel) rfl), mbX4_mateOf.1⟩, mbX4_mateOf.2⟩
theorem mlX4_88 : zMv RX4 88 zX4_rounds 4 1 := ⟨⟨Or.inl (zg5 15 (by decide +kernel) rfl), mbX4_rounds.1⟩, mbX4_rounds.2⟩
theorem mlX4_91 : zMv RX4 91 zX4_sign 4 1 := ⟨⟨Or.inl (zg4 187 (by decide +kernel) rfl), mbX4_sign.1⟩, mbX4_sign.2⟩
theorem mlX4_94 : zMv RX4 94 zX4_holesOf 4 1 := ⟨⟨Or.inl (zg5 11 (by decide +kernel) rfl), mbX4_holesOf.1⟩, mbX4_holesOf.2⟩
theorem mlX4_97 : zMv RX4 97 zX4_crossings 4 1 := ⟨⟨Or.inl (zg5 19 (by decide +kernel) rfl), mbX4_crossings.1⟩, mbX4_crossings.2⟩
theorem mlX5_26 : zMv RX5 26 zX5_begin 5 2 := ⟨⟨Or.inl (zg5 148 (by decide +kernel) rfl), mbX5_begin.1⟩, mbX5_begin.2⟩
theorem mlX5_30 : zMv RX5 30 zX5_addKind 5 1 := ⟨⟨Or.inl (zg5 149 (by decide +kernel) rfl), mbX5_addKind.1⟩, mbX5_addKind.2⟩
theorem mlX6_19 : zMv RX6 19 zX6_put 6 1 := ⟨⟨Or.inl (zg6 104 (by decide +kernel) rfl), mbX6_put.1⟩, mbX6_put.2⟩
theorem mlX6_23 : zMv RX6 23 zX6_putNumber 6 1 := ⟨⟨Or.inl (zg6 100 (by decide +kernel) rfl), mbX6_putNumber.1⟩, mbX6_putNumber.2⟩
theorem mlX6_26 : zMv RX6 26 zX7_isPairSort 7 1 := ⟨⟨Or.inl (zg6 108 (by decide +kernel) rfl), mbX7_isPairSort.1⟩, mbX7_isPairSort.2⟩
theorem mlX6_32 : zMv RX6 32 zX6_putSymbol 6 2 := ⟨⟨Or.inl (zg6 109 (by decide +kernel) rfl), mbX6_putSymbol.1⟩, mbX6_putSymbol.2⟩
theorem mlX7_49 : zMi RX7 49 zX5_init 0 := ⟨⟨Or.inr ⟨"ContractionCounter", zn2 48 (by decide +kernel)⟩, mbX5_init.1⟩, mbX5_init.2⟩
theorem mlX7_60 : zMv RX7 60 zX7_renumber 7 0 := ⟨⟨Or.inl (zg3 5 (by decide +kernel) rfl), mbX7_renumber.1⟩, mbX7_renumber.2⟩
theorem mlX7_63 : zMs RX7 63 zJ7_fill_53178 2 := ⟨⟨Or.inl (zg3 9 (by decide +kernel) rfl), mbJ7_fill_53178.1⟩, mbJ7_fill_53178.2⟩
theorem mlX7_81 : zMv RX7 81 zX7_linkLetters 7 2 := ⟨⟨Or.inl (zg3 12 (by decide +kernel) rfl), mbX7_linkLetters.1⟩, mbX7_linkLetters.2⟩
theorem mlX7_89 : zMv RX7 89 zX7_mixOf 7 2 := ⟨⟨Or.inl (zg3 16 (by decide +kernel) rfl), mbX7_mixOf.1⟩, mbX7_mixOf.2⟩
theorem mlX7_93 : zMv RX7 93 zX7_setCode 7 4 := ⟨⟨Or.inl (zg3 20 (by decide +kernel) rfl), mbX7_setCode.1⟩, mbX7_setCode.2⟩
theorem mlX7_97 : zMv RX7 97 zX7_codeFor 7 3 := ⟨⟨Or.inl (zg3 24 (by decide +kernel) rfl), mbX7_codeFor.1⟩, mbX7_codeFor.2⟩
theorem mlX7_104 : zMv RX7 104 zX7_outerPoints 7 0 := ⟨⟨Or.inl (zg3 142 (by decide +kernel) rfl), mbX7_outerPoints.1⟩, mbX7_outerPoints.2⟩
theorem mlX7_108 : zMs RX7 108 zJ6_bitCount_0f7a4 1 := ⟨⟨Or.inl (zg3 146 (by decide +kernel) rfl), mbJ6_bitCount_0f7a4.1⟩, mbJ6_bitCount_0f7a4.2⟩
theorem mlX7_114 : zMv RX7 114 zX7_firstLetter 7 1 := ⟨⟨Or.inl (zg5 87 (by decide +kernel) rfl), mbX7_firstLetter.1⟩, mbX7_firstLetter.2⟩
theorem mlX7_117 : zMv RX7 117 zX7_alikeUpTo 7 2 := ⟨⟨Or.inl (zg4 86 (by decide +kernel) rfl), mbX7_alikeUpTo.1⟩, mbX7_alikeUpTo.2⟩
theorem mlX7_120 : zMv RX7 120 zX5_isAlike 5 1 := ⟨⟨Or.inl (zg4 90 (by decide +kernel) rfl), mbX5_isAlike.1⟩, mbX5_isAlike.2⟩
theorem mlX7_124 : zMv RX7 124 zX5_orders 5 0 := ⟨⟨Or.inl (zg4 82 (by decide +kernel) rfl), mbX5_orders.1⟩, mbX5_orders.2⟩
theorem mlX7_127 : zMv RX7 127 zX7_hasPoint 7 1 := ⟨⟨Or.inl (zg5 158 (by decide +kernel) rfl), mbX7_hasPoint.1⟩, mbX7_hasPoint.2⟩
theorem mlX7_131 : zMv RX7 131 zX7_hasSort 7 1 := ⟨⟨Or.inl (zg5 159 (by decide +kernel) rfl), mbX7_hasSort.1⟩, mbX7_hasSort.2⟩
theorem mlX7_134 : zMv RX7 134 zX7_isRealSort 7 1 := ⟨⟨Or.inl (zg5 163 (by decide +kernel) rfl), mbX7_isRealSort.1⟩, mbX7_isRealSort.2⟩
theorem mlX7_137 : zMv RX7 137 zX7_shiftPoint 7 2 := ⟨⟨Or.inl (zg5 105 (by decide +kernel) rfl), mbX7_shiftPoint.1⟩, mbX7_shiftPoint.2⟩
theorem mlX7_140 : zMv RX7 140 zX7_vertexCount 7 0 := ⟨⟨Or.inl (zg5 139 (by decide +kernel) rfl), mbX7_vertexCount.1⟩, mbX7_vertexCount.2⟩
theorem mlX7_143 : zMv RX7 143 zX5_become 5 1 := ⟨⟨Or.inl (zg5 144 (by decide +kernel) rfl), mbX5_become.1⟩, mbX5_become.2⟩
theorem mlX7_147 : zMs RX7 147 zJ9_min_7cf53 2 := ⟨⟨Or.inl (zg3 157 (by decide +kernel) rfl), mbJ9_min_7cf53.1⟩, mbJ9_min_7cf53.2⟩
theorem mlX7_152 : zMv RX7 152 zX5_begin 5 2 := ⟨⟨Or.inl (zg3 158 (by decide +kernel) rfl), mbX5_begin.1⟩, mbX5_begin.2⟩
theorem mlX8_9 : zMv RX8 9 zX7_clear 7 0 := ⟨⟨Or.inl (zg3 1 (by decide +kernel) rfl), mbX7_clear.1⟩, mbX7_clear.2⟩
theorem mlX8_22 : zMv RX8 22 zX9_isWord 9 1 := ⟨⟨Or.inl (zg3 29 (by decide +kernel) rfl), mbX9_isWord.1⟩, mbX9_isWord.2⟩
theorem mlX8_26 : zMv RX8 26 zX8_readField 8 2 := ⟨⟨Or.inl (zg3 85 (by decide +kernel) rfl), mbX8_readField.1⟩, mbX8_readField.2⟩
theorem mlX8_34 : zMv RX8 34 zX8_readMix 8 2 := ⟨⟨Or.inl (zg3 118 (by decide +kernel) rfl), mbX8_readMix.1⟩, mbX8_readMix.2⟩
theorem mlX8_37 : zMv RX8 37 zX8_readPoint 8 2 := ⟨⟨Or.inl (zg3 131 (by decide +kernel) rfl), mbX8_readPoint.1⟩, mbX8_readPoint.2⟩
theorem mlX8_40 : zMv RX8 40 zX9_passSign 9 1 := ⟨⟨Or.inl (zg3 174 (by decide +kernel) rfl), mbX9_passSign.1⟩, mbX9_passSign.2⟩
theorem mlX8_44 : zMv RX8 44 zX7_renumber 7 0 := ⟨⟨Or.inl (zg3 180 (by decide +kernel) rfl), mbX7_renumber.1⟩, mbX7_renumber.2⟩
theorem mlX8_50 : zMv RX8 50 zX9_failHere 9 1 := ⟨⟨Or.inl (zg3 89 (by decide +kernel) rfl), mbX9_failHere.1⟩, mbX9_failHere.2⟩
theorem mlX8_54 : zMv RX8 54 zX9_advance 9 0 := ⟨⟨Or.inl (zg3 97 (by decide +kernel) rfl), mbX9_advance.1⟩, mbX9_advance.2⟩
theorem mlX8_57 : zMv RX8 57 zX9_isSingle 9 0 := ⟨⟨Or.inl (zg3 98 (by decide +kernel) rfl), mbX9_isSingle.1⟩, mbX9_isSingle.2⟩
theorem mlX8_61 : zMv RX8 61 zX9_misplaced 9 0 := ⟨⟨Or.inl (zg3 102 (by decide +kernel) rfl), mbX9_misplaced.1⟩, mbX9_misplaced.2⟩
theorem mlX8_67 : zMv RX8 67 zX7_fieldOf 7 1 := ⟨⟨Or.inl (zg3 106 (by decide +kernel) rfl), mbX7_fieldOf.1⟩, mbX7_fieldOf.2⟩
theorem mlX8_77 : zMv RX8 77 zX7_addField 7 3 := ⟨⟨Or.inl (zg3 113 (by decide +kernel) rfl), mbX7_addField.1⟩, mbX7_addField.2⟩
theorem mlX8_84 : zMv RX8 84 zX8_readKnownField 8 2 := ⟨⟨Or.inl (zg3 122 (by decide +kernel) rfl), mbX8_readKnownField.1⟩, mbX8_readKnownField.2⟩
theorem mlX8_95 : zMv RX8 95 zX7_mixOf 7 2 := ⟨⟨Or.inl (zg3 126 (by decide +kernel) rfl), mbX7_mixOf.1⟩, mbX7_mixOf.2⟩
theorem mlX8_99 : zMv RX8 99 zX7_addMix 7 2 := ⟨⟨Or.inl (zg3 127 (by decide +kernel) rfl), mbX7_addMix.1⟩, mbX7_addMix.2⟩
theorem mlX8_115 : zMv RX8 115 zX7_vertexCount 7 0 := ⟨⟨Or.inl (zg3 138 (by decide +kernel) rfl), mbX7_vertexCount.1⟩, mbX7_vertexCount.2⟩
theorem mlX8_119 : zMv RX8 119 zX9_failAt 9 2 := ⟨⟨Or.inl (zg3 152 (by decide +kernel) rfl), mbX9_failAt.1⟩, mbX9_failAt.2⟩
theorem mlX8_123 : zMv RX8 123 zX7_openPoint 7 2 := ⟨⟨Or.inl (zg3 153 (by decide +kernel) rfl), mbX7_openPoint.1⟩, mbX7_openPoint.2⟩
theorem mlX8_127 : zMv RX8 127 zX8_readRow 8 3 := ⟨⟨Or.inl (zg3 162 (by decide +kernel) rfl), mbX8_readRow.1⟩, mbX8_readRow.2⟩
theorem mlX8_131 : zMv RX8 131 zX9_isSign 9 1 := ⟨⟨Or.inl (zg3 166 (by decide +kernel) rfl), mbX9_isSign.1⟩, mbX9_isSign.2⟩
theorem mlX8_137 : zMv RX8 137 zX5_addKind 5 1 := ⟨⟨Or.inl (zg3 170 (by decide +kernel) rfl), mbX5_addKind.1⟩, mbX5_addKind.2⟩
theorem mlX9_25 : zMs RX9 25 zJ9_min_7cf53 2 := ⟨⟨Or.inl (zg2 212 (by decide +kernel) rfl), mbJ9_min_7cf53.1⟩, mbJ9_min_7cf53.2⟩
theorem mlX9_41 : zMv RX9 41 zX9_advance 9 0 := ⟨⟨Or.inl (zg2 215 (by decide +kernel) rfl), mbX9_advance.1⟩, mbX9_advance.2⟩
theorem mlX9_50 : zMs RX9 50 zX9_isSmall 1 := ⟨⟨Or.inl (zg2 219 (by decide +kernel) rfl), mbX9_isSmall.1⟩, mbX9_isSmall.2⟩
theorem mlX9_54 : zMv RX9 54 zX9_takeWord 9 0 := ⟨⟨Or.inl (zg2 222 (by decide +kernel) rfl), mbX9_takeWord.1⟩, mbX9_takeWord.2⟩
theorem mlX9_57 : zMs RX9 57 zX9_isDigit 1 := ⟨⟨Or.inl (zg2 226 (by decide +kernel) rfl), mbX9_isDigit.1⟩, mbX9_isDigit.2⟩
theorem mlX9_60 : zMv RX9 60 zX9_takeNumber 9 0 := ⟨⟨Or.inl (zg2 229 (by decide +kernel) rfl), mbX9_takeNumber.1⟩, mbX9_takeNumber.2⟩
theorem mlX9_63 : zMv RX9 63 zX9_takeSign 9 0 := ⟨⟨Or.inl (zg2 233 (by decide +kernel) rfl), mbX9_takeSign.1⟩, mbX9_takeSign.2⟩
theorem mlX9_69 : zMv RX9 69 zX9_size 9 0 := ⟨⟨Or.inl (zg3 33 (by decide +kernel) rfl), mbX9_size.1⟩, mbX9_size.2⟩
theorem mlX9_81 : zMv RX9 81 zX9_isSign 9 1 := ⟨⟨Or.inl (zg3 178 (by decide +kernel) rfl), mbX9_isSign.1⟩, mbX9_isSign.2⟩
theorem mlX9_85 : zMv RX9 85 zX9_misplaced 9 0 := ⟨⟨Or.inl (zg3 179 (by decide +kernel) rfl), mbX9_misplaced.1⟩, mbX9_misplaced.2⟩
theorem mlX9_89 : zMv RX9 89 zX9_failAt 9 2 := ⟨⟨Or.inl (zg3 93 (by decide +kernel) rfl), mbX9_failAt.1⟩, mbX9_failAt.2⟩
theorem mlX10_15 : zMv RX10 15 zX7_allLetters 7 0 := ⟨⟨Or.inl (zg3 233 (by decide +kernel) rfl), mbX7_allLetters.1⟩, mbX7_allLetters.2⟩
theorem mlX10_25 : zMs RX10 25 zX11_leastOf 1 := ⟨⟨Or.inr ⟨"ContractionCounter", zn3 234 (by decide +kernel)⟩, mbX11_leastOf.1⟩, mbX11_leastOf.2⟩
theorem mlX10_36 : zMs RX10 36 zJ6_bitCount_0f7a4 1 := ⟨⟨Or.inl (zg5 237 (by decide +kernel) rfl), mbJ6_bitCount_0f7a4.1⟩, mbJ6_bitCount_0f7a4.2⟩
theorem mlL_9 : zMi R_law 9 zX11_init 0 := ⟨⟨Or.inl (zg1 23 (by decide +kernel) rfl), mbX11_init.1⟩, mbX11_init.2⟩
theorem mlL_12 : zMi R_law 12 zX12_init 0 := ⟨⟨Or.inl (zg6 135 (by decide +kernel) rfl), mbX12_init.1⟩, mbX12_init.2⟩
theorem mlL_13 : zMv R_law 13 zX11_status 11 0 := ⟨⟨Or.inl (zg2 184 (by decide +kernel) rfl), mbX11_status.1⟩, mbX11_status.2⟩
theorem mlL_17 : zMv R_law 17 zX12_status 12 0 := ⟨⟨Or.inl (zg7 75 (by decide +kernel) rfl), mbX12_status.1⟩, mbX12_status.2⟩
theorem mlL_18 : zMv R_law 18 zX11_feed 11 5 := ⟨⟨Or.inl (zg2 188 (by decide +kernel) rfl), mbX11_feed.1⟩, mbX11_feed.2⟩
theorem mlL_22 : zMv R_law 22 zX12_feed 12 5 := ⟨⟨Or.inl (zg9 71 (by decide +kernel) rfl), mbX12_feed.1⟩, mbX12_feed.2⟩
theorem mlL_23 : zMv R_law 23 zX11_load 11 1 := ⟨⟨Or.inl (zg2 196 (by decide +kernel) rfl), mbX11_load.1⟩, mbX11_load.2⟩
theorem mlL_27 : zMv R_law 27 zX12_load 12 1 := ⟨⟨Or.inl (zg9 79 (by decide +kernel) rfl), mbX12_load.1⟩, mbX12_load.2⟩
theorem mlL_28 : zMv R_law 28 zX11_pairs 11 1 := ⟨⟨Or.inl (zg3 190 (by decide +kernel) rfl), mbX11_pairs.1⟩, mbX11_pairs.2⟩
theorem mlL_31 : zMv R_law 31 zX12_pairs 12 1 := ⟨⟨Or.inl (zg9 157 (by decide +kernel) rfl), mbX12_pairs.1⟩, mbX12_pairs.2⟩
theorem mlL_32 : zMv R_law 32 zX11_lines 11 1 := ⟨⟨Or.inl (zg4 28 (by decide +kernel) rfl), mbX11_lines.1⟩, mbX11_lines.2⟩
theorem mlL_35 : zMv R_law 35 zX12_lines 12 1 := ⟨⟨Or.inl (zg9 173 (by decide +kernel) rfl), mbX12_lines.1⟩, mbX12_lines.2⟩
theorem mlL_36 : zMv R_law 36 zX11_fault 11 1 := ⟨⟨Or.inl (zg4 169 (by decide +kernel) rfl), mbX11_fault.1⟩, mbX11_fault.2⟩
theorem mlL_39 : zMv R_law 39 zX12_fault 12 1 := ⟨⟨Or.inl (zg9 153 (by decide +kernel) rfl), mbX12_fault.1⟩, mbX12_fault.2⟩
theorem mlL_40 : zMv R_law 40 zX11_many 11 1 := ⟨⟨Or.inl (zg4 173 (by decide +kernel) rfl), mbX11_many.1⟩, mbX11_many.2⟩
theorem mlL_43 : zMv R_law 43 zX12_many 12 1 := ⟨⟨Or.inl (zg7 79 (by decide +kernel) rfl), mbX12_many.1⟩, mbX12_many.2⟩
theorem mlL_44 : zMv R_law 44 zX11_letter 11 2 := ⟨⟨Or.inl (zg5 55 (by decide +kernel) rfl), mbX11_letter.1⟩, mbX11_letter.2⟩
theorem mlL_48 : zMv R_law 48 zX12_letter 12 2 := ⟨⟨Or.inl (zg8 38 (by decide +kernel) rfl), mbX12_letter.1⟩, mbX12_letter.2⟩
theorem mlL_49 : zMv R_law 49 zX11_field 11 2 := ⟨⟨Or.inl (zg5 67 (by decide +kernel) rfl), mbX11_field.1⟩, mbX11_field.2⟩
theorem mlL_52 : zMv R_law 52 zX12_field 12 2 := ⟨⟨Or.inl (zg8 46 (by decide +kernel) rfl), mbX12_field.1⟩, mbX12_field.2⟩
theorem mlL_53 : zMv R_law 53 zX11_point 11 2 := ⟨⟨Or.inl (zg5 75 (by decide +kernel) rfl), mbX11_point.1⟩, mbX11_point.2⟩
theorem mlL_56 : zMv R_law 56 zX12_point 12 2 := ⟨⟨Or.inl (zg8 50 (by decide +kernel) rfl), mbX12_point.1⟩, mbX12_point.2⟩
theorem mlL_57 : zMv R_law 57 zX11_code 11 2 := ⟨⟨Or.inl (zg5 91 (by decide +kernel) rfl), mbX11_code.1⟩, mbX11_code.2⟩
theorem mlL_60 : zMv R_law 60 zX12_code 12 2 := ⟨⟨Or.inl (zg8 66 (by decide +kernel) rfl), mbX12_code.1⟩, mbX12_code.2⟩
theorem mlL_61 : zMv R_law 61 zX11_drop 11 1 := ⟨⟨Or.inl (zg5 97 (by decide +kernel) rfl), mbX11_drop.1⟩, mbX11_drop.2⟩
theorem mlL_64 : zMv R_law 64 zX12_drop 12 1 := ⟨⟨Or.inl (zg8 70 (by decide +kernel) rfl), mbX12_drop.1⟩, mbX12_drop.2⟩
theorem mlL_65 : zMv R_law 65 zX11_move 11 2 := ⟨⟨Or.inl (zg5 109 (by decide +kernel) rfl), mbX11_move.1⟩, mbX11_move.2⟩
theorem mlL_68 : zMv R_law 68 zX12_move 12 2 := ⟨⟨Or.inl (zg8 90 (by decide +kernel) rfl), mbX12_move.1⟩, mbX12_move.2⟩
theorem mlL_69 : zMv R_law 69 zX11_swap 11 1 := ⟨⟨Or.inl (zg5 115 (by decide +kernel) rfl), mbX11_swap.1⟩, mbX11_swap.2⟩
theorem mlL_72 : zMv R_law 72 zX12_swap 12 1 := ⟨⟨Or.inl (zg8 102 (by decide +kernel) rfl), mbX12_swap.1⟩, mbX12_swap.2⟩
theorem mlL_73 : zMv R_law 73 zX11_normal 11 2 := ⟨⟨Or.inl (zg5 123 (by decide +kernel) rfl), mbX11_normal.1⟩, mbX11_normal.2⟩
theorem mlL_77 : zMv R_law 77 zX12_normal 12 2 := ⟨⟨Or.inl (zg8 106 (by decide +kernel) rfl), mbX12_normal.1⟩, mbX12_normal.2⟩
theorem mlL_78 : zMv R_law 78 zX11_copy 11 1 := ⟨⟨Or.inl (zg5 131 (by decide +kernel) rfl), mbX11_copy.1⟩, mbX11_copy.2⟩
theorem mlL_81 : zMv R_law 81 zX12_copy 12 1 := ⟨⟨Or.inl (zg8 110 (by decide +kernel) rfl), mbX12_copy.1⟩, mbX12_copy.2⟩
theorem mlL_82 : zMv R_law 82 zX11_worth 11 2 := ⟨⟨Or.inl (zg5 150 (by decide +kernel) rfl), mbX11_worth.1⟩, mbX11_worth.2⟩
theorem mlL_85 : zMv R_law 85 zX12_worth 12 2 := ⟨⟨Or.inl (zg8 114 (by decide +kernel) rfl), mbX12_worth.1⟩, mbX12_worth.2⟩
theorem mlL_86 : zMv R_law 86 zX11_mate 11 2 := ⟨⟨Or.inl (zg5 167 (by decide +kernel) rfl), mbX11_mate.1⟩, mbX11_mate.2⟩
theorem mlL_89 : zMv R_law 89 zX12_mate 12 2 := ⟨⟨Or.inl (zg8 122 (by decide +kernel) rfl), mbX12_mate.1⟩, mbX12_mate.2⟩
theorem mlL_90 : zMv R_law 90 zX11_pairing 11 2 := ⟨⟨Or.inl (zg5 176 (by decide +kernel) rfl), mbX11_pairing.1⟩, mbX11_pairing.2⟩
theorem mlL_93 : zMv R_law 93 zX12_pairing 12 2 := ⟨⟨Or.inl (zg8 130 (by decide +kernel) rfl), mbX12_pairing.1⟩, mbX12_pairing.2⟩
theorem mlL_94 : zMv R_law 94 zX11_ways 11 3 := ⟨⟨Or.inl (zg5 201 (by decide +kernel) rfl), mbX11_ways.1⟩, mbX11_ways.2⟩
theorem mlL_98 : zMv R_law 98 zX12_ways 12 3 := ⟨⟨Or.inl (zg8 142 (by decide +kernel) rfl), mbX12_ways.1⟩, mbX12_ways.2⟩
theorem mlL_99 : zMv R_law 99 zX11_overlay 11 3 := ⟨⟨Or.inl (zg5 209 (by decide +kernel) rfl), mbX11_overlay.1⟩, mbX11_overlay.2⟩
theorem mlL_102 : zMv R_law 102 zX12_overlay 12 3 := ⟨⟨Or.inl (zg8 146 (by decide +kernel) rfl), mbX12_overlay.1⟩, mbX12_overlay.2⟩
theorem mlL_103 : zMv R_law 103 zX11_by 11 2 := ⟨⟨Or.inl (zg5 221 (by decide +kernel) rfl), mbX11_by.1⟩, mbX11_by.2⟩
theorem mlL_106 : zMv R_law 106 zX12_by 12 2 := ⟨⟨Or.inl (zg8 154 (by decide +kernel) rfl), mbX12_by.1⟩, mbX12_by.2⟩
theorem mlL_107 : zMv R_law 107 zX11_signedBy 11 2 := ⟨⟨Or.inl (zg5 225 (by decide +kernel) rfl), mbX11_signedBy.1⟩, mbX11_signedBy.2⟩
theorem mlL_110 : zMv R_law 110 zX12_signedBy 12 2 := ⟨⟨Or.inl (zg8 166 (by decide +kernel) rfl), mbX12_signedBy.1⟩, mbX12_signedBy.2⟩
theorem mlL_111 : zMv R_law 111 zX11_partial 11 1 := ⟨⟨Or.inl (zg5 229 (by decide +kernel) rfl), mbX11_partial.1⟩, mbX11_partial.2⟩
theorem mlL_114 : zMv R_law 114 zX12_partial 12 1 := ⟨⟨Or.inl (zg8 170 (by decide +kernel) rfl), mbX12_partial.1⟩, mbX12_partial.2⟩
theorem mlL_115 : zMv R_law 115 zX11_sub 11 2 := ⟨⟨Or.inl (zg5 238 (by decide +kernel) rfl), mbX11_sub.1⟩, mbX11_sub.2⟩
theorem mlL_118 : zMv R_law 118 zX12_sub 12 2 := ⟨⟨Or.inl (zg8 178 (by decide +kernel) rfl), mbX12_sub.1⟩, mbX12_sub.2⟩
theorem mlL_119 : zMv R_law 119 zX11_sum 11 0 := ⟨⟨Or.inl (zg6 24 (by decide +kernel) rfl), mbX11_sum.1⟩, mbX11_sum.2⟩
theorem mlL_123 : zMv R_law 123 zX12_sum 12 0 := ⟨⟨Or.inl (zg8 190 (by decide +kernel) rfl), mbX12_sum.1⟩, mbX12_sum.2⟩
theorem mlL_124 : zMv R_law 124 zX11_diagram 11 2 := ⟨⟨Or.inl (zg6 32 (by decide +kernel) rfl), mbX11_diagram.1⟩, mbX11_diagram.2⟩
theorem mlL_127 : zMv R_law 127 zX12_diagram 12 2 := ⟨⟨Or.inl (zg8 198 (by decide +kernel) rfl), mbX12_diagram.1⟩, mbX12_diagram.2⟩
theorem mlL_128 : zMv R_law 128 zX11_name 11 2 := ⟨⟨Or.inl (zg6 41 (by decide +kernel) rfl), mbX11_name.1⟩, mbX11_name.2⟩
theorem mlL_131 : zMv R_law 131 zX12_name 12 2 := ⟨⟨Or.inl (zg9 5 (by decide +kernel) rfl), mbX12_name.1⟩, mbX12_name.2⟩
theorem mlL_132 : zMv R_law 132 zX11_part 11 2 := ⟨⟨Or.inl (zg6 46 (by decide +kernel) rfl), mbX11_part.1⟩, mbX11_part.2⟩
theorem mlL_135 : zMv R_law 135 zX12_part 12 2 := ⟨⟨Or.inl (zg9 9 (by decide +kernel) rfl), mbX12_part.1⟩, mbX12_part.2⟩
theorem mlL_136 : zMv R_law 136 zX11_far 11 3 := ⟨⟨Or.inl (zg6 56 (by decide +kernel) rfl), mbX11_far.1⟩, mbX11_far.2⟩
theorem mlL_139 : zMv R_law 139 zX12_far 12 3 := ⟨⟨Or.inl (zg9 13 (by decide +kernel) rfl), mbX12_far.1⟩, mbX12_far.2⟩
theorem mlL_140 : zMv R_law 140 zX11_holds 11 1 := ⟨⟨Or.inl (zg6 64 (by decide +kernel) rfl), mbX11_holds.1⟩, mbX11_holds.2⟩
theorem mlL_143 : zMv R_law 143 zX12_holds 12 1 := ⟨⟨Or.inl (zg9 21 (by decide +kernel) rfl), mbX12_holds.1⟩, mbX12_holds.2⟩
theorem mlL_144 : zMv R_law 144 zX11_ofDiagram 11 3 := ⟨⟨Or.inl (zg6 76 (by decide +kernel) rfl), mbX11_ofDiagram.1⟩, mbX11_ofDiagram.2⟩
theorem mlL_147 : zMv R_law 147 zX12_ofDiagram 12 3 := ⟨⟨Or.inl (zg9 25 (by decide +kernel) rfl), mbX12_ofDiagram.1⟩, mbX12_ofDiagram.2⟩
theorem mlL_148 : zMv R_law 148 zX11_sumOf 11 1 := ⟨⟨Or.inl (zg6 80 (by decide +kernel) rfl), mbX11_sumOf.1⟩, mbX11_sumOf.2⟩
theorem mlL_152 : zMv R_law 152 zX12_sumOf 12 1 := ⟨⟨Or.inl (zg9 29 (by decide +kernel) rfl), mbX12_sumOf.1⟩, mbX12_sumOf.2⟩
theorem mlL_153 : zMv R_law 153 zX11_diagrams 11 2 := ⟨⟨Or.inl (zg6 84 (by decide +kernel) rfl), mbX11_diagrams.1⟩, mbX11_diagrams.2⟩
theorem mlL_156 : zMv R_law 156 zX12_diagrams 12 2 := ⟨⟨Or.inl (zg9 33 (by decide +kernel) rfl), mbX12_diagrams.1⟩, mbX12_diagrams.2⟩
theorem mlL_157 : zMv R_law 157 zX11_print 11 1 := ⟨⟨Or.inl (zg6 88 (by decide +kernel) rfl), mbX11_print.1⟩, mbX11_print.2⟩
theorem mlL_160 : zMv R_law 160 zX12_print 12 1 := ⟨⟨Or.inl (zg9 47 (by decide +kernel) rfl), mbX12_print.1⟩, mbX12_print.2⟩
theorem mlL_161 : zMv R_law 161 zX11_printPairs 11 1 := ⟨⟨Or.inl (zg6 113 (by decide +kernel) rfl), mbX11_printPairs.1⟩, mbX11_printPairs.2⟩
theorem mlL_164 : zMv R_law 164 zX12_printPairs 12 1 := ⟨⟨Or.inl (zg9 63 (by decide +kernel) rfl), mbX12_printPairs.1⟩, mbX12_printPairs.2⟩
theorem mlL_165 : zMv R_law 165 zX11_out 11 1 := ⟨⟨Or.inl (zg6 121 (by decide +kernel) rfl), mbX11_out.1⟩, mbX11_out.2⟩
theorem mlL_168 : zMv R_law 168 zX12_out 12 1 := ⟨⟨Or.inl (zg9 67 (by decide +kernel) rfl), mbX12_out.1⟩, mbX12_out.2⟩
theorem mlL_169 : zMv R_law 169 zX11_core 11 2 := ⟨⟨Or.inl (zg6 125 (by decide +kernel) rfl), mbX11_core.1⟩, mbX11_core.2⟩
theorem mlL_172 : zMv R_law 172 zX12_core 12 2 := ⟨⟨Or.inl (zg9 40 (by decide +kernel) rfl), mbX12_core.1⟩, mbX12_core.2⟩
theorem mlX12_111 : zMv RX12 111 zX12_unworths 12 0 := ⟨⟨Or.inl (zg6 148 (by decide +kernel) rfl), mbX12_unworths.1⟩, mbX12_unworths.2⟩
theorem mlX12_120 : zMv RX12 120 zX12_at 12 1 := ⟨⟨Or.inl (zg7 141 (by decide +kernel) rfl), mbX12_at.1⟩, mbX12_at.2⟩
theorem mlX12_127 : zMv RX12 127 zX12_sizeOf 12 1 := ⟨⟨Or.inl (zg7 215 (by decide +kernel) rfl), mbX12_sizeOf.1⟩, mbX12_sizeOf.2⟩
theorem mlX12_137 : zMv RX12 137 zX12_stands 12 0 := ⟨⟨Or.inl (zg8 86 (by decide +kernel) rfl), mbX12_stands.1⟩, mbX12_stands.2⟩
theorem mlX12_140 : zMs RX12 140 zX12_isIn 3 := ⟨⟨Or.inl (zg7 83 (by decide +kernel) rfl), mbX12_isIn.1⟩, mbX12_isIn.2⟩
theorem mlX12_144 : zMv RX12 144 zX12_isNormal 12 1 := ⟨⟨Or.inl (zg7 137 (by decide +kernel) rfl), mbX12_isNormal.1⟩, mbX12_isNormal.2⟩
theorem mlX12_148 : zMv RX12 148 zX12_isPair 12 1 := ⟨⟨Or.inl (zg7 117 (by decide +kernel) rfl), mbX12_isPair.1⟩, mbX12_isPair.2⟩
theorem mlX12_151 : zMv RX12 151 zX12_mixOf 12 2 := ⟨⟨Or.inl (zg7 145 (by decide +kernel) rfl), mbX12_mixOf.1⟩, mbX12_mixOf.2⟩
theorem mlX12_158 : zMs RX12 158 zX12_has 2 := ⟨⟨Or.inl (zg7 106 (by decide +kernel) rfl), mbX12_has.1⟩, mbX12_has.2⟩
theorem mlX12_162 : zMv RX12 162 zX12_doCross 12 2 := ⟨⟨Or.inl (zg7 121 (by decide +kernel) rfl), mbX12_doCross.1⟩, mbX12_doCross.2⟩
theorem mlX12_165 : zMv RX12 165 zX12_isOdd 12 1 := ⟨⟨Or.inl (zg7 113 (by decide +kernel) rfl), mbX12_isOdd.1⟩, mbX12_isOdd.2⟩
theorem mlX12_168 : zMv RX12 168 zX12_firstFree 12 0 := ⟨⟨Or.inl (zg7 102 (by decide +kernel) rfl), mbX12_firstFree.1⟩, mbX12_firstFree.2⟩
theorem mlX12_175 : zMv RX12 175 zX12_signNow 12 0 := ⟨⟨Or.inl (zg7 109 (by decide +kernel) rfl), mbX12_signNow.1⟩, mbX12_signNow.2⟩
theorem mlX12_178 : zMv RX12 178 zX12_crossingsNow 12 0 := ⟨⟨Or.inl (zg7 125 (by decide +kernel) rfl), mbX12_crossingsNow.1⟩, mbX12_crossingsNow.2⟩
theorem mlX12_181 : zMv RX12 181 zX12_roundsNow 12 0 := ⟨⟨Or.inl (zg7 129 (by decide +kernel) rfl), mbX12_roundsNow.1⟩, mbX12_roundsNow.2⟩
theorem mlX12_184 : zMv RX12 184 zX12_mayBe 12 2 := ⟨⟨Or.inl (zg7 133 (by decide +kernel) rfl), mbX12_mayBe.1⟩, mbX12_mayBe.2⟩
theorem mlX12_187 : zMv RX12 187 zX12_laysAll 12 0 := ⟨⟨Or.inl (zg7 98 (by decide +kernel) rfl), mbX12_laysAll.1⟩, mbX12_laysAll.2⟩
theorem mlX12_190 : zMv RX12 190 zX12_begins 12 1 := ⟨⟨Or.inl (zg7 94 (by decide +kernel) rfl), mbX12_begins.1⟩, mbX12_begins.2⟩
theorem mlX12_194 : zMv RX12 194 zX12_lays 12 0 := ⟨⟨Or.inl (zg7 90 (by decide +kernel) rfl), mbX12_lays.1⟩, mbX12_lays.2⟩
theorem mlX12_200 : zMv RX12 200 zX12_mateOf 12 2 := ⟨⟨Or.inl (zg7 165 (by decide +kernel) rfl), mbX12_mateOf.1⟩, mbX12_mateOf.2⟩
theorem mlX12_203 : zMv RX12 203 zX12_codeOf 12 2 := ⟨⟨Or.inl (zg7 169 (by decide +kernel) rfl), mbX12_codeOf.1⟩, mbX12_codeOf.2⟩
theorem mlX12_206 : zMv RX12 206 zX12_isRealSort 12 1 := ⟨⟨Or.inl (zg7 203 (by decide +kernel) rfl), mbX12_isRealSort.1⟩, mbX12_isRealSort.2⟩
theorem mlX12_209 : zMs RX12 209 zX12_sorts 2 := ⟨⟨Or.inl (zg7 173 (by decide +kernel) rfl), mbX12_sorts.1⟩, mbX12_sorts.2⟩
theorem mlX12_213 : zMs RX12 213 zX12_packed 2 := ⟨⟨Or.inl (zg7 176 (by decide +kernel) rfl), mbX12_packed.1⟩, mbX12_packed.2⟩
theorem mlX12_217 : zMv RX12 217 zX12_isVertex 12 1 := ⟨⟨Or.inl (zg7 211 (by decide +kernel) rfl), mbX12_isVertex.1⟩, mbX12_isVertex.2⟩
theorem mlX12_220 : zMv RX12 220 zX12_named 12 0 := ⟨⟨Or.inl (zg7 199 (by decide +kernel) rfl), mbX12_named.1⟩, mbX12_named.2⟩
theorem mlX12_234 : zMv RX12 234 zX12_areAlike 12 2 := ⟨⟨Or.inl (zg7 207 (by decide +kernel) rfl), mbX12_areAlike.1⟩, mbX12_areAlike.2⟩
theorem mlX12_237 : zMv RX12 237 zX12_tries 12 2 := ⟨⟨Or.inl (zg7 195 (by decide +kernel) rfl), mbX12_tries.1⟩, mbX12_tries.2⟩
theorem mlX12_245 : zMs RX12 245 zX12_sinks 3 := ⟨⟨Or.inl (zg7 182 (by decide +kernel) rfl), mbX12_sinks.1⟩, mbX12_sinks.2⟩
theorem mlX12_249 : zMv RX12 249 zX12_codesOf 12 1 := ⟨⟨Or.inl (zg7 161 (by decide +kernel) rfl), mbX12_codesOf.1⟩, mbX12_codesOf.2⟩
theorem mlX12_252 : zMs RX12 252 zX12_sorts_ 2 := ⟨⟨Or.inl (zg7 179 (by decide +kernel) rfl), mbX12_sorts_.1⟩, mbX12_sorts_.2⟩
theorem mlX12_258 : zMv RX12 258 zX12_unpacks 12 2 := ⟨⟨Or.inl (zg7 185 (by decide +kernel) rfl), mbX12_unpacks.1⟩, mbX12_unpacks.2⟩
theorem mlX12_262 : zMv RX12 262 zX12_leastOf 12 1 := ⟨⟨Or.inl (zg7 191 (by decide +kernel) rfl), mbX12_leastOf.1⟩, mbX12_leastOf.2⟩
theorem mlX12_269 : zMs RX12 269 zX12_placeIn 3 := ⟨⟨Or.inl (zg7 219 (by decide +kernel) rfl), mbX12_placeIn.1⟩, mbX12_placeIn.2⟩
theorem mlX12_273 : zMv RX12 273 zX12_laysNames 12 0 := ⟨⟨Or.inl (zg7 157 (by decide +kernel) rfl), mbX12_laysNames.1⟩, mbX12_laysNames.2⟩
theorem mlX12_276 : zMv RX12 276 zX12_fromOf 12 1 := ⟨⟨Or.inl (zg8 14 (by decide +kernel) rfl), mbX12_fromOf.1⟩, mbX12_fromOf.2⟩
theorem mlX12_279 : zMv RX12 279 zX12_toOf 12 1 := ⟨⟨Or.inl (zg8 18 (by decide +kernel) rfl), mbX12_toOf.1⟩, mbX12_toOf.2⟩
theorem mlX12_282 : zMv RX12 282 zX12_reached 12 3 := ⟨⟨Or.inl (zg8 10 (by decide +kernel) rfl), mbX12_reached.1⟩, mbX12_reached.2⟩
theorem mlX12_286 : zMv RX12 286 zX12_outerPoints 12 0 := ⟨⟨Or.inl (zg8 30 (by decide +kernel) rfl), mbX12_outerPoints.1⟩, mbX12_outerPoints.2⟩
theorem mlX12_289 : zMv RX12 289 zX12_opens 12 1 := ⟨⟨Or.inl (zg7 238 (by decide +kernel) rfl), mbX12_opens.1⟩, mbX12_opens.2⟩
theorem mlX12_292 : zMv RX12 292 zX12_allPoints 12 0 := ⟨⟨Or.inl (zg8 2 (by decide +kernel) rfl), mbX12_allPoints.1⟩, mbX12_allPoints.2⟩
theorem mlX12_295 : zMv RX12 295 zX12_lost 12 1 := ⟨⟨Or.inl (zg8 26 (by decide +kernel) rfl), mbX12_lost.1⟩, mbX12_lost.2⟩
theorem mlX12_298 : zMv RX12 298 zX12_partsOf 12 2 := ⟨⟨Or.inl (zg8 6 (by decide +kernel) rfl), mbX12_partsOf.1⟩, mbX12_partsOf.2⟩
theorem mlX12_301 : zMv RX12 301 zX12_isConnected 12 1 := ⟨⟨Or.inl (zg7 234 (by decide +kernel) rfl), mbX12_isConnected.1⟩, mbX12_isConnected.2⟩
theorem mlX12_304 : zMv RX12 304 zX12_isLinked 12 1 := ⟨⟨Or.inl (zg8 22 (by decide +kernel) rfl), mbX12_isLinked.1⟩, mbX12_isLinked.2⟩
theorem mlX12_307 : zMv RX12 307 zX12_countOf 12 1 := ⟨⟨Or.inl (zg8 34 (by decide +kernel) rfl), mbX12_countOf.1⟩, mbX12_countOf.2⟩
theorem mlX12_310 : zMv RX12 310 zX12_is 12 1 := ⟨⟨Or.inl (zg7 86 (by decide +kernel) rfl), mbX12_is.1⟩, mbX12_is.2⟩
theorem mlX12_313 : zMv RX12 313 zX12_vertices 12 0 := ⟨⟨Or.inl (zg7 149 (by decide +kernel) rfl), mbX12_vertices.1⟩, mbX12_vertices.2⟩
theorem mlX12_316 : zMv RX12 316 zX12_diagramMany 12 0 := ⟨⟨Or.inl (zg7 153 (by decide +kernel) rfl), mbX12_diagramMany.1⟩, mbX12_diagramMany.2⟩
theorem mlX12_319 : zMv RX12 319 zX12_signs 12 0 := ⟨⟨Or.inl (zg7 222 (by decide +kernel) rfl), mbX12_signs.1⟩, mbX12_signs.2⟩
theorem mlX12_322 : zMv RX12 322 zX12_uncrossed 12 0 := ⟨⟨Or.inl (zg7 226 (by decide +kernel) rfl), mbX12_uncrossed.1⟩, mbX12_uncrossed.2⟩
theorem mlX12_325 : zMv RX12 325 zX12_manySuch 12 2 := ⟨⟨Or.inl (zg7 230 (by decide +kernel) rfl), mbX12_manySuch.1⟩, mbX12_manySuch.2⟩
theorem mlX12_329 : zMv RX12 329 zX12_isLetter 12 1 := ⟨⟨Or.inl (zg8 42 (by decide +kernel) rfl), mbX12_isLetter.1⟩, mbX12_isLetter.2⟩
theorem mlX12_332 : zMv RX12 332 zX12_isPoint 12 1 := ⟨⟨Or.inl (zg8 54 (by decide +kernel) rfl), mbX12_isPoint.1⟩, mbX12_isPoint.2⟩
theorem mlX12_335 : zMv RX12 335 zX12_firstOf 12 1 := ⟨⟨Or.inl (zg8 58 (by decide +kernel) rfl), mbX12_firstOf.1⟩, mbX12_firstOf.2⟩
theorem mlX12_338 : zMv RX12 338 zX12_alikeTo 12 1 := ⟨⟨Or.inl (zg8 62 (by decide +kernel) rfl), mbX12_alikeTo.1⟩, mbX12_alikeTo.2⟩
theorem mlX12_341 : zMv RX12 341 zX12_changes 12 0 := ⟨⟨Or.inl (zg8 82 (by decide +kernel) rfl), mbX12_changes.1⟩, mbX12_changes.2⟩
theorem mlX12_344 : zMv RX12 344 zX12_shifts 12 2 := ⟨⟨Or.inl (zg8 74 (by decide +kernel) rfl), mbX12_shifts.1⟩, mbX12_shifts.2⟩
theorem mlX12_347 : zMv RX12 347 zX12_pointsChange 12 0 := ⟨⟨Or.inl (zg8 78 (by decide +kernel) rfl), mbX12_pointsChange.1⟩, mbX12_pointsChange.2⟩
theorem mlX12_350 : zMv RX12 350 zX12_holds0 12 1 := ⟨⟨Or.inl (zg8 94 (by decide +kernel) rfl), mbX12_holds0.1⟩, mbX12_holds0.2⟩
theorem mlX12_353 : zMv RX12 353 zX12_laysHeld 12 1 := ⟨⟨Or.inl (zg8 98 (by decide +kernel) rfl), mbX12_laysHeld.1⟩, mbX12_laysHeld.2⟩
theorem mlX12_356 : zMv RX12 356 zX12_isCode 12 1 := ⟨⟨Or.inl (zg8 118 (by decide +kernel) rfl), mbX12_isCode.1⟩, mbX12_isCode.2⟩
theorem mlX12_359 : zMv RX12 359 zX12_isPairing 12 1 := ⟨⟨Or.inl (zg8 126 (by decide +kernel) rfl), mbX12_isPairing.1⟩, mbX12_isPairing.2⟩
theorem mlX12_362 : zMv RX12 362 zX12_holesOf 12 1 := ⟨⟨Or.inl (zg8 134 (by decide +kernel) rfl), mbX12_holesOf.1⟩, mbX12_holesOf.2⟩
theorem mlX12_365 : zMv RX12 365 zX12_diagramOf 12 1 := ⟨⟨Or.inl (zg8 138 (by decide +kernel) rfl), mbX12_diagramOf.1⟩, mbX12_diagramOf.2⟩
theorem mlX12_367 : zMv RX12 367 zX12_ringsOf 12 2 := ⟨⟨Or.inl (zg8 150 (by decide +kernel) rfl), mbX12_ringsOf.1⟩, mbX12_ringsOf.2⟩
theorem mlX12_370 : zMv RX12 370 zX12_isSuch 12 3 := ⟨⟨Or.inl (zg8 162 (by decide +kernel) rfl), mbX12_isSuch.1⟩, mbX12_isSuch.2⟩
theorem mlX12_373 : zMv RX12 373 zX12_summed 12 3 := ⟨⟨Or.inl (zg8 158 (by decide +kernel) rfl), mbX12_summed.1⟩, mbX12_summed.2⟩
theorem mlX12_377 : zMv RX12 377 zX12_partials 12 3 := ⟨⟨Or.inl (zg8 174 (by decide +kernel) rfl), mbX12_partials.1⟩, mbX12_partials.2⟩
theorem mlX12_383 : zMv RX12 383 zX12_countsSub 12 0 := ⟨⟨Or.inl (zg8 186 (by decide +kernel) rfl), mbX12_countsSub.1⟩, mbX12_countsSub.2⟩
theorem mlX12_386 : zMv RX12 386 zX12_laysSub 12 0 := ⟨⟨Or.inl (zg8 182 (by decide +kernel) rfl), mbX12_laysSub.1⟩, mbX12_laysSub.2⟩
theorem mlX12_389 : zMv RX12 389 zX12_worthOf 12 1 := ⟨⟨Or.inl (zg8 194 (by decide +kernel) rfl), mbX12_worthOf.1⟩, mbX12_worthOf.2⟩
theorem mlX12_393 : zMs RX12 393 zX12_orders 1 := ⟨⟨Or.inl (zg8 218 (by decide +kernel) rfl), mbX12_orders.1⟩, mbX12_orders.2⟩
theorem mlX12_396 : zMv RX12 396 zX12_signedOf 12 1 := ⟨⟨Or.inl (zg8 210 (by decide +kernel) rfl), mbX12_signedOf.1⟩, mbX12_signedOf.2⟩
theorem mlX12_399 : zMv RX12 399 zX12_symmetryOf 12 1 := ⟨⟨Or.inl (zg8 214 (by decide +kernel) rfl), mbX12_symmetryOf.1⟩, mbX12_symmetryOf.2⟩
theorem mlX12_402 : zMv RX12 402 zX12_loops 12 0 := ⟨⟨Or.inl (zg8 221 (by decide +kernel) rfl), mbX12_loops.1⟩, mbX12_loops.2⟩
theorem mlX12_405 : zMv RX12 405 zX12_bridges 12 0 := ⟨⟨Or.inl (zg8 225 (by decide +kernel) rfl), mbX12_bridges.1⟩, mbX12_bridges.2⟩
theorem mlX12_408 : zMv RX12 408 zX12_rings 12 0 := ⟨⟨Or.inl (zg8 229 (by decide +kernel) rfl), mbX12_rings.1⟩, mbX12_rings.2⟩
theorem mlX12_411 : zMv RX12 411 zX12_firstPairing 12 1 := ⟨⟨Or.inl (zg8 233 (by decide +kernel) rfl), mbX12_firstPairing.1⟩, mbX12_firstPairing.2⟩
theorem mlX12_414 : zMv RX12 414 zX12_mostOfOne 12 0 := ⟨⟨Or.inl (zg8 237 (by decide +kernel) rfl), mbX12_mostOfOne.1⟩, mbX12_mostOfOne.2⟩
theorem mlX12_417 : zMv RX12 417 zX12_leaving 12 1 := ⟨⟨Or.inl (zg9 1 (by decide +kernel) rfl), mbX12_leaving.1⟩, mbX12_leaving.2⟩
theorem mlX12_420 : zMv RX12 420 zX12_isDiagram 12 1 := ⟨⟨Or.inl (zg8 202 (by decide +kernel) rfl), mbX12_isDiagram.1⟩, mbX12_isDiagram.2⟩
theorem mlX12_423 : zMv RX12 423 zX12_ofDiagram0 12 2 := ⟨⟨Or.inl (zg8 206 (by decide +kernel) rfl), mbX12_ofDiagram0.1⟩, mbX12_ofDiagram0.2⟩
theorem mlX12_426 : zMv RX12 426 zX12_refuse 12 1 := ⟨⟨Or.inl (zg9 17 (by decide +kernel) rfl), mbX12_refuse.1⟩, mbX12_refuse.2⟩
theorem mlX12_429 : zMs RX12 429 zX12_asDiagram 1 := ⟨⟨Or.inl (zg9 37 (by decide +kernel) rfl), mbX12_asDiagram.1⟩, mbX12_asDiagram.2⟩
theorem mlX12_432 : zMs RX12 432 zX12_bits 1 := ⟨⟨Or.inl (zg9 44 (by decide +kernel) rfl), mbX12_bits.1⟩, mbX12_bits.2⟩
theorem mlX12_438 : zMv RX12 438 zX12_says 12 1 := ⟨⟨Or.inl (zg9 55 (by decide +kernel) rfl), mbX12_says.1⟩, mbX12_says.2⟩
theorem mlX12_441 : zMv RX12 441 zX12_saysNumber 12 1 := ⟨⟨Or.inl (zg9 51 (by decide +kernel) rfl), mbX12_saysNumber.1⟩, mbX12_saysNumber.2⟩
theorem mlX12_444 : zMv RX12 444 zX12_saysField 12 1 := ⟨⟨Or.inl (zg9 59 (by decide +kernel) rfl), mbX12_saysField.1⟩, mbX12_saysField.2⟩
theorem mlX12_450 : zMv RX12 450 zX12_puts 12 1 := ⟨⟨Or.inl (zg9 75 (by decide +kernel) rfl), mbX12_puts.1⟩, mbX12_puts.2⟩
theorem mlX12_465 : zMv RX12 465 zX12_isOf 12 3 := ⟨⟨Or.inl (zg9 91 (by decide +kernel) rfl), mbX12_isOf.1⟩, mbX12_isOf.2⟩
theorem mlX12_468 : zMv RX12 468 zX12_isSignByte 12 1 := ⟨⟨Or.inl (zg9 95 (by decide +kernel) rfl), mbX12_isSignByte.1⟩, mbX12_isSignByte.2⟩
theorem mlX12_493 : zMv RX12 493 zX12_must 12 2 := ⟨⟨Or.inl (zg9 113 (by decide +kernel) rfl), mbX12_must.1⟩, mbX12_must.2⟩
theorem mlX12_497 : zMv RX12 497 zX12_reads 12 0 := ⟨⟨Or.inl (zg9 87 (by decide +kernel) rfl), mbX12_reads.1⟩, mbX12_reads.2⟩
theorem mlX12_500 : zMv RX12 500 zX12_fieldHere 12 0 := ⟨⟨Or.inl (zg9 117 (by decide +kernel) rfl), mbX12_fieldHere.1⟩, mbX12_fieldHere.2⟩
theorem mlX12_503 : zMv RX12 503 zX12_isWord 12 1 := ⟨⟨Or.inl (zg9 105 (by decide +kernel) rfl), mbX12_isWord.1⟩, mbX12_isWord.2⟩
theorem mlX12_506 : zMv RX12 506 zX12_takes 12 1 := ⟨⟨Or.inl (zg9 121 (by decide +kernel) rfl), mbX12_takes.1⟩, mbX12_takes.2⟩
theorem mlX12_510 : zMv RX12 510 zX12_fieldTold 12 0 := ⟨⟨Or.inl (zg9 129 (by decide +kernel) rfl), mbX12_fieldTold.1⟩, mbX12_fieldTold.2⟩
theorem mlX12_513 : zMv RX12 513 zX12_isVertexBehind 12 0 := ⟨⟨Or.inl (zg9 137 (by decide +kernel) rfl), mbX12_isVertexBehind.1⟩, mbX12_isVertexBehind.2⟩
theorem mlX12_517 : zMv RX12 517 zX12_lettersTold 12 0 := ⟨⟨Or.inl (zg9 141 (by decide +kernel) rfl), mbX12_lettersTold.1⟩, mbX12_lettersTold.2⟩
theorem mlX12_520 : zMv RX12 520 zX12_isSign 12 1 := ⟨⟨Or.inl (zg9 145 (by decide +kernel) rfl), mbX12_isSign.1⟩, mbX12_isSign.2⟩
theorem mlX12_523 : zMv RX12 523 zX12_readsField 12 0 := ⟨⟨Or.inl (zg9 109 (by decide +kernel) rfl), mbX12_readsField.1⟩, mbX12_readsField.2⟩
theorem mlX12_526 : zMv RX12 526 zX12_readsMix 12 0 := ⟨⟨Or.inl (zg9 125 (by decide +kernel) rfl), mbX12_readsMix.1⟩, mbX12_readsMix.2⟩
theorem mlX12_529 : zMv RX12 529 zX12_readsPoint 12 0 := ⟨⟨Or.inl (zg9 133 (by decide +kernel) rfl), mbX12_readsPoint.1⟩, mbX12_readsPoint.2⟩
theorem mlX12_532 : zMv RX12 532 zX12_beginsText 12 2 := ⟨⟨Or.inl (zg9 83 (by decide +kernel) rfl), mbX12_beginsText.1⟩, mbX12_beginsText.2⟩
theorem mlX12_536 : zMv RX12 536 zX12_line 12 0 := ⟨⟨Or.inl (zg9 101 (by decide +kernel) rfl), mbX12_line.1⟩, mbX12_line.2⟩
theorem mlX12_539 : zMv RX12 539 zX12_endsText 12 0 := ⟨⟨Or.inl (zg9 149 (by decide +kernel) rfl), mbX12_endsText.1⟩, mbX12_endsText.2⟩
theorem mlX12_542 : zMv RX12 542 zX12_needsNumber 12 1 := ⟨⟨Or.inl (zg9 165 (by decide +kernel) rfl), mbX12_needsNumber.1⟩, mbX12_needsNumber.2⟩
theorem mlX12_548 : zMv RX12 548 zX12_readsTwo 12 0 := ⟨⟨Or.inl (zg9 161 (by decide +kernel) rfl), mbX12_readsTwo.1⟩, mbX12_readsTwo.2⟩
theorem mlX12_551 : zMv RX12 551 zX12_whichPairing 12 0 := ⟨⟨Or.inl (zg9 169 (by decide +kernel) rfl), mbX12_whichPairing.1⟩, mbX12_whichPairing.2⟩
theorem mlX12_554 : zMv RX12 554 zX12_sortHere 12 0 := ⟨⟨Or.inl (zg9 181 (by decide +kernel) rfl), mbX12_sortHere.1⟩, mbX12_sortHere.2⟩
theorem mlX12_557 : zMv RX12 557 zX12_readsLine 12 0 := ⟨⟨Or.inl (zg9 177 (by decide +kernel) rfl), mbX12_readsLine.1⟩, mbX12_readsLine.2⟩
theorem mlJ0_495 : zMs RJ0 495 zJ1_charAt_3b067 2 := ⟨⟨Or.inl (zg3 55 (by decide +kernel) rfl), mbJ1_charAt_3b067.1⟩, mbJ1_charAt_3b067.2⟩
theorem mlJ0_498 : zMs RJ0 498 zJ2_charAt_3b067 2 := ⟨⟨Or.inl (zg3 66 (by decide +kernel) rfl), mbJ2_charAt_3b067.1⟩, mbJ2_charAt_3b067.2⟩
theorem mlJ0_1059 : zMs RJ0 1059 zJ3_checkIndex_8e157 3 := ⟨⟨Or.inl (zg3 63 (by decide +kernel) rfl), mbJ3_checkIndex_8e157.1⟩, mbJ3_checkIndex_8e157.2⟩
theorem mlJ1_9 : zMs RJ1 9 zJ0_checkIndex_df160 2 := ⟨⟨Or.inl (zg3 58 (by decide +kernel) rfl), mbJ0_checkIndex_df160.1⟩, mbJ0_checkIndex_df160.2⟩
theorem mlJ2_48 : zMs RJ2 48 zJ2_length_9d52b 1 := ⟨⟨Or.inl (zg3 72 (by decide +kernel) rfl), mbJ2_length_9d52b.1⟩, mbJ2_length_9d52b.2⟩
theorem mlJ2_67 : zMs RJ2 67 zJ2_checkIndex_2214a 2 := ⟨⟨Or.inl (zg3 69 (by decide +kernel) rfl), mbJ2_checkIndex_2214a.1⟩, mbJ2_checkIndex_2214a.2⟩
theorem mlJ2_71 : zMs RJ2 71 zJ2_getChar_3b067 2 := ⟨⟨Or.inl (zg3 76 (by decide +kernel) rfl), mbJ2_getChar_3b067.1⟩, mbJ2_getChar_3b067.2⟩
theorem mlJ2_414 : zMs RJ2 414 zJ0_checkIndex_df160 2 := ⟨⟨Or.inl (zg3 75 (by decide +kernel) rfl), mbJ0_checkIndex_df160.1⟩, mbJ0_checkIndex_df160.2⟩
theorem kcJ6_265 : Cond.constant RJ6 265 (Int32.ofInt (1431655765)) ∈ zgood := (zg3 149 (by decide +kernel) rfl)
theorem kcJ6_266 : Cond.constant RJ6 266 (Int32.ofInt (858993459)) ∈ zgood := (zg3 150 (by decide +kernel) rfl)
theorem kcJ6_267 : Cond.constant RJ6 267 (Int32.ofInt (252645135)) ∈ zgood := (zg3 151 (by decide +kernel) rfl)
theorem kcX2_38 : Cond.constantLong RX2 38 (Int64.ofInt (-7046029254386353131)) ∈ zgood := (zg4 131 (by decide +kernel) rfl)
theorem kcX12_25 : Cond.constant RX12 25 (Int32.ofInt (124740)) ∈ zgood := (zg6 139 (by decide +kernel) rfl)
theorem kcX12_86 : Cond.constantLong RX12 86 (Int64.ofInt (3369766)) ∈ zgood := (zg6 140 (by decide +kernel) rfl)
theorem kcX12_88 : Cond.constantLong RX12 88 (Int64.ofInt (357978)) ∈ zgood := (zg6 141 (by decide +kernel) rfl)
theorem kcX12_90 : Cond.constantLong RX12 90 (Int64.ofInt (315918)) ∈ zgood := (zg6 142 (by decide +kernel) rfl)
theorem kcX12_92 : Cond.constantLong RX12 92 (Int64.ofInt (11047)) ∈ zgood := (zg6 143 (by decide +kernel) rfl)
theorem kcX12_94 : Cond.constantLong RX12 94 (Int64.ofInt (9744)) ∈ zgood := (zg6 144 (by decide +kernel) rfl)
theorem kcX12_96 : Cond.constantLong RX12 96 (Int64.ofInt (209220123)) ∈ zgood := (zg6 145 (by decide +kernel) rfl)
theorem kcX12_98 : Cond.constantLong RX12 98 (Int64.ofInt (8399691)) ∈ zgood := (zg6 146 (by decide +kernel) rfl)
theorem kcX12_100 : Cond.constantLong RX12 100 (Int64.ofInt (318702192)) ∈ zgood := (zg6 147 (by decide +kernel) rfl)
theorem kcX12_243 : Cond.constantLong RX12 243 (Int64.ofInt (1023)) ∈ zgood := (zg7 189 (by decide +kernel) rfl)
theorem kcX12_241 : Cond.constantLong RX12 241 (Int64.ofInt (-1)) ∈ zgood := (zg7 190 (by decide +kernel) rfl)
theorem kcX12_477 : Cond.constantLong RX12 477 (Int64.ofInt (27)) ∈ zgood := (zg9 99 (by decide +kernel) rfl)
theorem kcX12_479 : Cond.constantLong RX12 479 (Int64.ofInt (96)) ∈ zgood := (zg9 100 (by decide +kernel) rfl)
theorem ac_int : Cond.arrayClass .int ∈ zgood := (zg1 74 (by decide +kernel) rfl)
theorem ac_long : Cond.arrayClass .long ∈ zgood := (zg1 154 (by decide +kernel) rfl)
theorem ac_byte : Cond.arrayClass .byte ∈ zgood := (zg3 189 (by decide +kernel) rfl)
theorem ac_boolean : Cond.arrayClass .boolean ∈ zgood := (zg2 70 (by decide +kernel) rfl)
theorem nwL_7 : zNw R_law 7 11 12 := ⟨_, _, rfl, (zg1 21 (by decide +kernel) rfl), (zg1 22 (by decide +kernel) rfl), (zg1 1 (by decide +kernel) rfl), by decide +kernel⟩
theorem clL_7 : Cond.classLink R_law 7 RX11 ∈ zgood := (zg1 21 (by decide +kernel) rfl)
theorem oiX11 : Cond.methodLink RX11 1 objectInit ∈ zgood := (zg1 26 (by decide +kernel) rfl)
theorem oi_inst : Cond.instanceMethod objectInit ∈ zgood := (zg1 27 (by decide +kernel) rfl)
theorem oi_code : Cond.code objectInit ⟨#[0xb1]⟩ 1 none ∈ zgood := (zg1 28 (by decide +kernel) rfl)
theorem nwX11_7 : zNw RX11 7 9 10 := ⟨_, _, rfl, (zg1 29 (by decide +kernel) rfl), (zg1 30 (by decide +kernel) rfl), (zg1 2 (by decide +kernel) rfl), by decide +kernel⟩
theorem clX11_7 : Cond.classLink RX11 7 RX9 ∈ zgood := (zg1 29 (by decide +kernel) rfl)
theorem oiX9 : Cond.methodLink RX9 3 objectInit ∈ zgood := (zg1 34 (by decide +kernel) rfl)
theorem nwX11_16 : zNw RX11 16 8 0 := ⟨_, _, rfl, (zg1 75 (by decide +kernel) rfl), (zg1 76 (by decide +kernel) rfl), (zg1 3 (by decide +kernel) rfl), by decide +kernel⟩
theorem clX11_16 : Cond.classLink RX11 16 RX8 ∈ zgood := (zg1 75 (by decide +kernel) rfl)
theorem oiX8 : Cond.methodLink RX8 3 objectInit ∈ zgood := (zg1 80 (by decide +kernel) rfl)
theorem nwX11_23 : zNw RX11 23 3 4 := ⟨_, _, rfl, (zg1 82 (by decide +kernel) rfl), (zg1 83 (by decide +kernel) rfl), (zg1 4 (by decide +kernel) rfl), by decide +kernel⟩
theorem clX11_23 : Cond.classLink RX11 23 RX3 ∈ zgood := (zg1 82 (by decide +kernel) rfl)
theorem oiX3 : Cond.methodLink RX3 3 objectInit ∈ zgood := (zg1 87 (by decide +kernel) rfl)
theorem nwX11_30 : zNw RX11 30 10 3 := ⟨_, _, rfl, (zg1 104 (by decide +kernel) rfl), (zg1 105 (by decide +kernel) rfl), (zg1 5 (by decide +kernel) rfl), by decide +kernel⟩
theorem clX11_30 : Cond.classLink RX11 30 RX10 ∈ zgood := (zg1 104 (by decide +kernel) rfl)
theorem oiX10 : Cond.methodLink RX10 3 objectInit ∈ zgood := (zg1 109 (by decide +kernel) rfl)
theorem nwX11_37 : zNw RX11 37 4 7 := ⟨_, _, rfl, (zg1 121 (by decide +kernel) rfl), (zg1 122 (by decide +kernel) rfl), (zg1 6 (by decide +kernel) rfl), by decide +kernel⟩
theorem clX11_37 : Cond.classLink RX11 37 RX4 ∈ zgood := (zg1 121 (by decide +kernel) rfl)
theorem oiX4 : Cond.methodLink RX4 3 objectInit ∈ zgood := (zg1 126 (by decide +kernel) rfl)
theorem nwX11_47 : zNw RX11 47 0 20 := ⟨_, _, rfl, (zg1 155 (by decide +kernel) rfl), (zg1 156 (by decide +kernel) rfl), (zg1 7 (by decide +kernel) rfl), by decide +kernel⟩
theorem clX11_47 : Cond.classLink RX11 47 RX0 ∈ zgood := (zg1 155 (by decide +kernel) rfl)
theorem oiX0 : Cond.methodLink RX0 3 objectInit ∈ zgood := (zg1 160 (by decide +kernel) rfl)
theorem nwX0_9 : zNw RX0 9 2 3 := ⟨_, _, rfl, (zg1 161 (by decide +kernel) rfl), (zg1 162 (by decide +kernel) rfl), (zg1 8 (by decide +kernel) rfl), by decide +kernel⟩
theorem clX0_9 : Cond.classLink RX0 9 RX2 ∈ zgood := (zg1 161 (by decide +kernel) rfl)
theorem oiX2 : Cond.methodLink RX2 3 objectInit ∈ zgood := (zg1 166 (by decide +kernel) rfl)
theorem nwX0_18 : zNw RX0 18 1 5 := ⟨_, _, rfl, (zg1 177 (by decide +kernel) rfl), (zg1 178 (by decide +kernel) rfl), (zg1 9 (by decide +kernel) rfl), by decide +kernel⟩
theorem clX0_18 : Cond.classLink RX0 18 RX1 ∈ zgood := (zg1 177 (by decide +kernel) rfl)
theorem oiX1 : Cond.methodLink RX1 3 objectInit ∈ zgood := (zg1 182 (by decide +kernel) rfl)
theorem nwX11_54 : zNw RX11 54 1 5 := ⟨_, _, rfl, (zg2 22 (by decide +kernel) rfl), (zg1 178 (by decide +kernel) rfl), (zg1 9 (by decide +kernel) rfl), by decide +kernel⟩
theorem clX11_54 : Cond.classLink RX11 54 RX1 ∈ zgood := (zg2 22 (by decide +kernel) rfl)
theorem nwX11_61 : zNw RX11 61 6 2 := ⟨_, _, rfl, (zg2 24 (by decide +kernel) rfl), (zg2 25 (by decide +kernel) rfl), (zg1 10 (by decide +kernel) rfl), by decide +kernel⟩
theorem clX11_61 : Cond.classLink RX11 61 RX6 ∈ zgood := (zg2 24 (by decide +kernel) rfl)
theorem oiX6 : Cond.methodLink RX6 3 objectInit ∈ zgood := (zg2 29 (by decide +kernel) rfl)
theorem nwX11_68 : zNw RX11 68 7 16 := ⟨_, _, rfl, (zg2 39 (by decide +kernel) rfl), (zg2 40 (by decide +kernel) rfl), (zg1 11 (by decide +kernel) rfl), by decide +kernel⟩
theorem clX11_68 : Cond.classLink RX11 68 RX7 ∈ zgood := (zg2 39 (by decide +kernel) rfl)
theorem oiX7 : Cond.methodLink RX7 3 objectInit ∈ zgood := (zg2 44 (by decide +kernel) rfl)
theorem nwX7_28 : zNw RX7 28 5 4 := ⟨_, _, rfl, (zg2 45 (by decide +kernel) rfl), (zg2 47 (by decide +kernel) rfl), (zg1 12 (by decide +kernel) rfl), by decide +kernel⟩
theorem clX7_28 : Cond.classLink RX7 28 RX5 ∈ zgood := (zg2 45 (by decide +kernel) rfl)
theorem oiX5 : Cond.methodLink RX5 3 objectInit ∈ zgood := (zg2 51 (by decide +kernel) rfl)
theorem nwL_10 : zNw R_law 10 12 54 := ⟨_, _, rfl, (zg6 133 (by decide +kernel) rfl), (zg6 134 (by decide +kernel) rfl), (zg1 13 (by decide +kernel) rfl), by decide +kernel⟩
theorem clL_10 : Cond.classLink R_law 10 RX12 ∈ zgood := (zg6 133 (by decide +kernel) rfl)
theorem oiX12 : Cond.methodLink RX12 1 objectInit ∈ zgood := (zg6 138 (by decide +kernel) rfl)
