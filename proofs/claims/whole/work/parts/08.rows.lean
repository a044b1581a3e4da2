def M_xTerms_has : jMd := (yX6_has, cX6_has, 2, (some .boolean))
theorem lk_xTerms_has : jLk M_xTerms_has 1 := ⟨(mr_11 _ (List.mem_of_getElem? (i := 11) rfl)), (mr_1 _ (List.mem_of_getElem? (i := 19) rfl)), ⟨by decide, by decide, by decide +kernel⟩, by decide⟩
def M_xTerms_kindOf : jMd := (yX6_kindOf, cX6_kindOf, 2, (some .int))
theorem lk_xTerms_kindOf : jLk M_xTerms_kindOf 1 := ⟨(mr_15 _ (List.mem_of_getElem? (i := 22) rfl)), (mr_1 _ (List.mem_of_getElem? (i := 19) rfl)), ⟨by decide, by decide, by decide +kernel⟩, by decide⟩
def M_xTerms_sizeOf : jMd := (yX6_sizeOf, cX6_sizeOf, 2, (some .int))
theorem lk_xTerms_sizeOf : jLk M_xTerms_sizeOf 1 := ⟨(mr_11 _ (List.mem_of_getElem? (i := 7) rfl)), (mr_1 _ (List.mem_of_getElem? (i := 19) rfl)), ⟨by decide, by decide, by decide +kernel⟩, by decide⟩
def M_xTerms_numberOf : jMd := (yX6_numberOf, cX6_numberOf, 2, (some .int))
theorem lk_xTerms_numberOf : jLk M_xTerms_numberOf 1 := ⟨(mr_16 _ (List.mem_of_getElem? (i := 4) rfl)), (mr_1 _ (List.mem_of_getElem? (i := 19) rfl)), ⟨by decide, by decide, by decide +kernel⟩, by decide⟩
def M_xTerms_letterOf : jMd := (yX6_letterOf, cX6_letterOf, 2, (some .int))
theorem lk_xTerms_letterOf : jLk M_xTerms_letterOf 1 := ⟨(mr_16 _ (List.mem_of_getElem? (i := 8) rfl)), (mr_1 _ (List.mem_of_getElem? (i := 19) rfl)), ⟨by decide, by decide, by decide +kernel⟩, by decide⟩
def M_xc_isLetter : jMd := (yX9_isLetter, cX9_isLetter, 1, (some .boolean))
theorem lk_xc_isLetter : jLk M_xc_isLetter 1 := ⟨(mr_10 _ (List.mem_of_getElem? (i := 0) rfl)), (mr_1 _ (List.mem_of_getElem? (i := 2) rfl)), ⟨by decide, by decide, by decide +kernel⟩, by decide⟩
def M_xComparer_sameName : jMd := (yX0_sameName, cX0_sameName, 3, (some .boolean))
theorem lk_xComparer_sameName : jLk M_xComparer_sameName 2 := ⟨(mr_24 _ (List.mem_of_getElem? (i := 11) rfl)), (mr_2 _ (List.mem_of_getElem? (i := 3) rfl)), ⟨by decide, by decide, by decide +kernel⟩, by decide⟩
def M_xTerms_typeOf : jMd := (yX6_typeOf, cX6_typeOf, 2, (some .int))
theorem lk_xTerms_typeOf : jLk M_xTerms_typeOf 1 := ⟨(mr_16 _ (List.mem_of_getElem? (i := 12) rfl)), (mr_1 _ (List.mem_of_getElem? (i := 19) rfl)), ⟨by decide, by decide, by decide +kernel⟩, by decide⟩
def M_xTerms_firstOf : jMd := (yX6_firstOf, cX6_firstOf, 2, (some .int))
theorem lk_xTerms_firstOf : jLk M_xTerms_firstOf 1 := ⟨(mr_16 _ (List.mem_of_getElem? (i := 16) rfl)), (mr_1 _ (List.mem_of_getElem? (i := 19) rfl)), ⟨by decide, by decide, by decide +kernel⟩, by decide⟩
def M_xTerms_secondOf : jMd := (yX6_secondOf, cX6_secondOf, 2, (some .int))
theorem lk_xTerms_secondOf : jLk M_xTerms_secondOf 1 := ⟨(mr_16 _ (List.mem_of_getElem? (i := 20) rfl)), (mr_1 _ (List.mem_of_getElem? (i := 19) rfl)), ⟨by decide, by decide, by decide +kernel⟩, by decide⟩
def M_xTerms_thirdOf : jMd := (yX6_thirdOf, cX6_thirdOf, 2, (some .int))
theorem lk_xTerms_thirdOf : jLk M_xTerms_thirdOf 1 := ⟨(mr_17 _ (List.mem_of_getElem? (i := 0) rfl)), (mr_1 _ (List.mem_of_getElem? (i := 19) rfl)), ⟨by decide, by decide, by decide +kernel⟩, by decide⟩
def M_xComparer_same : jMd := (yX0_same, cX0_same, 5, (some .boolean))
theorem lk_xComparer_same : jLk M_xComparer_same 3 := ⟨(mr_24 _ (List.mem_of_getElem? (i := 3) rfl)), (mr_2 _ (List.mem_of_getElem? (i := 3) rfl)), ⟨by decide, by decide, by decide +kernel⟩, by decide⟩
def M_xComparer_sameUnder : jMd := (yX0_sameUnder, cX0_sameUnder, 11, (some .boolean))
theorem lk_xComparer_sameUnder : jLk M_xComparer_sameUnder 5 := ⟨(mr_24 _ (List.mem_of_getElem? (i := 19) rfl)), (mr_2 _ (List.mem_of_getElem? (i := 3) rfl)), ⟨by decide, by decide, by decide +kernel⟩, by decide⟩
def M_xComparer_areAlike : jMd := (yX0_areAlike, cX0_areAlike, 4, (some .boolean))
theorem lk_xComparer_areAlike : jLk M_xComparer_areAlike 2 := ⟨(mr_23 _ (List.mem_of_getElem? (i := 23) rfl)), (mr_2 _ (List.mem_of_getElem? (i := 3) rfl)), ⟨by decide, by decide, by decide +kernel⟩, by decide⟩
def M_xTerms_freeLettersOf : jMd := (yX6_freeLettersOf, cX6_freeLettersOf, 2, (some .int))
theorem lk_xTerms_freeLettersOf : jLk M_xTerms_freeLettersOf 1 := ⟨(mr_11 _ (List.mem_of_getElem? (i := 22) rfl)), (mr_1 _ (List.mem_of_getElem? (i := 19) rfl)), ⟨by decide, by decide, by decide +kernel⟩, by decide⟩
def M_xTerms_bit : jMd := (yX6_bit, cX6_bit, 1, (some .int))
theorem lk_xTerms_bit : jLk M_xTerms_bit 1 := ⟨(mr_11 _ (List.mem_of_getElem? (i := 18) rfl)), (mr_1 _ (List.mem_of_getElem? (i := 19) rfl)), ⟨by decide, by decide, by decide +kernel⟩, by decide⟩
def M_xTerms_isFree : jMd := (yX6_isFree, cX6_isFree, 3, (some .boolean))
theorem lk_xTerms_isFree : jLk M_xTerms_isFree 2 := ⟨(mr_18 _ (List.mem_of_getElem? (i := 5) rfl)), (mr_1 _ (List.mem_of_getElem? (i := 19) rfl)), ⟨by decide, by decide, by decide +kernel⟩, by decide⟩
def M_xTerms_depthOf : jMd := (yX6_depthOf, cX6_depthOf, 2, (some .int))
theorem lk_xTerms_depthOf : jLk M_xTerms_depthOf 1 := ⟨(mr_11 _ (List.mem_of_getElem? (i := 15) rfl)), (mr_1 _ (List.mem_of_getElem? (i := 19) rfl)), ⟨by decide, by decide, by decide +kernel⟩, by decide⟩
def M_xTerms_freeLettersFor : jMd := (yX6_freeLettersFor, cX6_freeLettersFor, 5, (some .int))
theorem lk_xTerms_freeLettersFor : jLk M_xTerms_freeLettersFor 5 := ⟨(mr_12 _ (List.mem_of_getElem? (i := 1) rfl)), (mr_1 _ (List.mem_of_getElem? (i := 19) rfl)), ⟨by decide, by decide, by decide +kernel⟩, by decide⟩
def M_xTerms_marksOf : jMd := (yX6_marksOf, cX6_marksOf, 1, (some .int))
theorem lk_xTerms_marksOf : jLk M_xTerms_marksOf 1 := ⟨(mr_12 _ (List.mem_of_getElem? (i := 4) rfl)), (mr_1 _ (List.mem_of_getElem? (i := 19) rfl)), ⟨by decide, by decide, by decide +kernel⟩, by decide⟩
def M_xTypes_has : jMd := (yX7_has, cX7_has, 2, (some .boolean))
theorem lk_xTypes_has : jLk M_xTypes_has 1 := ⟨(mr_8 _ (List.mem_of_getElem? (i := 1) rfl)), (mr_1 _ (List.mem_of_getElem? (i := 15) rfl)), ⟨by decide, by decide, by decide +kernel⟩, by decide⟩
def M_xTypes_lengthOf : jMd := (yX7_lengthOf, cX7_lengthOf, 2, (some .int))
theorem lk_xTypes_lengthOf : jLk M_xTypes_lengthOf 1 := ⟨(mr_8 _ (List.mem_of_getElem? (i := 9) rfl)), (mr_1 _ (List.mem_of_getElem? (i := 15) rfl)), ⟨by decide, by decide, by decide +kernel⟩, by decide⟩
def M_xTerms_widthOf : jMd := (yX6_widthOf, cX6_widthOf, 2, (some .int))
theorem lk_xTerms_widthOf : jLk M_xTerms_widthOf 1 := ⟨(mr_12 _ (List.mem_of_getElem? (i := 9) rfl)), (mr_1 _ (List.mem_of_getElem? (i := 19) rfl)), ⟨by decide, by decide, by decide +kernel⟩, by decide⟩
def M_xTerms_made : jMd := (yX6_made, cX6_made, 10, (some .int))
theorem lk_xTerms_made : jLk M_xTerms_made 6 := ⟨(mr_10 _ (List.mem_of_getElem? (i := 23) rfl)), (mr_1 _ (List.mem_of_getElem? (i := 19) rfl)), ⟨by decide, by decide, by decide +kernel⟩, by decide⟩
def M_xTerms_withParts : jMd := (yX6_withParts, cX6_withParts, 6, (some .int))
theorem lk_xTerms_withParts : jLk M_xTerms_withParts 5 := ⟨(mr_27 _ (List.mem_of_getElem? (i := 7) rfl)), (mr_1 _ (List.mem_of_getElem? (i := 19) rfl)), ⟨by decide, by decide, by decide +kernel⟩, by decide⟩
def M_xDropper_withoutLets : jMd := (yX1_withoutLets, cX1_withoutLets, 5, (some .int))
theorem lk_xDropper_withoutLets : jLk M_xDropper_withoutLets 1 := ⟨(mr_32 _ (List.mem_of_getElem? (i := 4) rfl)), (mr_2 _ (List.mem_of_getElem? (i := 15) rfl)), ⟨by decide, by decide, by decide +kernel⟩, by decide⟩
def M_xPrinter_printLength : jMd := (yX2_printLength, cX2_printLength, 1, (some .int))
theorem lk_xPrinter_printLength : jLk M_xPrinter_printLength 0 := ⟨(mr_38 _ (List.mem_of_getElem? (i := 3) rfl)), (mr_2 _ (List.mem_of_getElem? (i := 19) rfl)), ⟨by decide, by decide, by decide +kernel⟩, by decide⟩
def M_xPrinter_byteAt : jMd := (yX2_byteAt, cX2_byteAt, 2, (some .int))
theorem lk_xPrinter_byteAt : jLk M_xPrinter_byteAt 1 := ⟨(mr_36 _ (List.mem_of_getElem? (i := 18) rfl)), (mr_2 _ (List.mem_of_getElem? (i := 19) rfl)), ⟨by decide, by decide, by decide +kernel⟩, by decide⟩
def M_xPrinter_write : jMd := (yX2_write, cX2_write, 2, none)
theorem lk_xPrinter_write : jLk M_xPrinter_write 1 := ⟨(mr_34 _ (List.mem_of_getElem? (i := 1) rfl)), (mr_2 _ (List.mem_of_getElem? (i := 19) rfl)), ⟨by decide, by decide, by decide +kernel⟩, by decide⟩
def M_xPrinter_writeNumber : jMd := (yX2_writeNumber, cX2_writeNumber, 7, none)
theorem lk_xPrinter_writeNumber : jLk M_xPrinter_writeNumber 2 := ⟨(mr_33 _ (List.mem_of_getElem? (i := 16) rfl)), (mr_2 _ (List.mem_of_getElem? (i := 19) rfl)), ⟨by decide, by decide, by decide +kernel⟩, by decide⟩
def M_xPrinter_writeLetter : jMd := (yX2_writeLetter, cX2_writeLetter, 2, none)
theorem lk_xPrinter_writeLetter : jLk M_xPrinter_writeLetter 1 := ⟨(mr_34 _ (List.mem_of_getElem? (i := 6) rfl)), (mr_2 _ (List.mem_of_getElem? (i := 19) rfl)), ⟨by decide, by decide, by decide +kernel⟩, by decide⟩
def M_xTypes_fromOf : jMd := (yX7_fromOf, cX7_fromOf, 2, (some .int))
theorem lk_xTypes_fromOf : jLk M_xTypes_fromOf 1 := ⟨(mr_9 _ (List.mem_of_getElem? (i := 9) rfl)), (mr_1 _ (List.mem_of_getElem? (i := 15) rfl)), ⟨by decide, by decide, by decide +kernel⟩, by decide⟩
def M_xTypes_toOf : jMd := (yX7_toOf, cX7_toOf, 2, (some .int))
theorem lk_xTypes_toOf : jLk M_xTypes_toOf 1 := ⟨(mr_9 _ (List.mem_of_getElem? (i := 13) rfl)), (mr_1 _ (List.mem_of_getElem? (i := 15) rfl)), ⟨by decide, by decide, by decide +kernel⟩, by decide⟩
def M_xPrinter_writeType : jMd := (yX2_writeType, cX2_writeType, 2, none)
theorem lk_xPrinter_writeType : jLk M_xPrinter_writeType 1 := ⟨(mr_35 _ (List.mem_of_getElem? (i := 4) rfl)), (mr_2 _ (List.mem_of_getElem? (i := 19) rfl)), ⟨by decide, by decide, by decide +kernel⟩, by decide⟩
def M_xPrinter_writeTerm : jMd := (yX2_writeTerm, cX2_writeTerm, 2, none)
theorem lk_xPrinter_writeTerm : jLk M_xPrinter_writeTerm 1 := ⟨(mr_33 _ (List.mem_of_getElem? (i := 10) rfl)), (mr_2 _ (List.mem_of_getElem? (i := 19) rfl)), ⟨by decide, by decide, by decide +kernel⟩, by decide⟩
def M_xPrinter_writeFunction : jMd := (yX2_writeFunction, cX2_writeFunction, 2, none)
theorem lk_xPrinter_writeFunction : jLk M_xPrinter_writeFunction 1 := ⟨(mr_34 _ (List.mem_of_getElem? (i := 23) rfl)), (mr_2 _ (List.mem_of_getElem? (i := 19) rfl)), ⟨by decide, by decide, by decide +kernel⟩, by decide⟩
def M_xPrinter_writePair : jMd := (yX2_writePair, cX2_writePair, 3, none)
theorem lk_xPrinter_writePair : jLk M_xPrinter_writePair 2 := ⟨(mr_35 _ (List.mem_of_getElem? (i := 9) rfl)), (mr_2 _ (List.mem_of_getElem? (i := 19) rfl)), ⟨by decide, by decide, by decide +kernel⟩, by decide⟩
def M_xPrinter_writeLet : jMd := (yX2_writeLet, cX2_writeLet, 2, none)
theorem lk_xPrinter_writeLet : jLk M_xPrinter_writeLet 1 := ⟨(mr_35 _ (List.mem_of_getElem? (i := 8) rfl)), (mr_2 _ (List.mem_of_getElem? (i := 19) rfl)), ⟨by decide, by decide, by decide +kernel⟩, by decide⟩
def M_xPrinter_writeChoice : jMd := (yX2_writeChoice, cX2_writeChoice, 2, none)
theorem lk_xPrinter_writeChoice : jLk M_xPrinter_writeChoice 1 := ⟨(mr_34 _ (List.mem_of_getElem? (i := 19) rfl)), (mr_2 _ (List.mem_of_getElem? (i := 19) rfl)), ⟨by decide, by decide, by decide +kernel⟩, by decide⟩
def M_xPrinter_show : jMd := (yX2_show, cX2_show, 2, (some .int))
theorem lk_xPrinter_show : jLk M_xPrinter_show 1 := ⟨(mr_33 _ (List.mem_of_getElem? (i := 5) rfl)), (mr_2 _ (List.mem_of_getElem? (i := 19) rfl)), ⟨by decide, by decide, by decide +kernel⟩, by decide⟩
def M_xPutter_letterFor : jMd := (yX3_letterFor, cX3_letterFor, 5, (some .int))
theorem lk_xPutter_letterFor : jLk M_xPutter_letterFor 3 := ⟨(mr_27 _ (List.mem_of_getElem? (i := 0) rfl)), (mr_2 _ (List.mem_of_getElem? (i := 7) rfl)), ⟨by decide, by decide, by decide +kernel⟩, by decide⟩
def M_xTerms_newName : jMd := (yX6_newName, cX6_newName, 2, (some .int))
theorem lk_xTerms_newName : jLk M_xTerms_newName 1 := ⟨(mr_13 _ (List.mem_of_getElem? (i := 16) rfl)), (mr_1 _ (List.mem_of_getElem? (i := 19) rfl)), ⟨by decide, by decide, by decide +kernel⟩, by decide⟩
def M_xPutter_into : jMd := (yX3_into, cX3_into, 4, (some .int))
theorem lk_xPutter_into : jLk M_xPutter_into 3 := ⟨(mr_26 _ (List.mem_of_getElem? (i := 3) rfl)), (mr_2 _ (List.mem_of_getElem? (i := 7) rfl)), ⟨by decide, by decide, by decide +kernel⟩, by decide⟩
def M_xPutter_intoFunction : jMd := (yX3_intoFunction, cX3_intoFunction, 7, (some .int))
theorem lk_xPutter_intoFunction : jLk M_xPutter_intoFunction 3 := ⟨(mr_26 _ (List.mem_of_getElem? (i := 18) rfl)), (mr_2 _ (List.mem_of_getElem? (i := 7) rfl)), ⟨by decide, by decide, by decide +kernel⟩, by decide⟩
def M_xPutter_intoBody : jMd := (yX3_intoBody, cX3_intoBody, 8, (some .int))
theorem lk_xPutter_intoBody : jLk M_xPutter_intoBody 5 := ⟨(mr_26 _ (List.mem_of_getElem? (i := 15) rfl)), (mr_2 _ (List.mem_of_getElem? (i := 7) rfl)), ⟨by decide, by decide, by decide +kernel⟩, by decide⟩
def M_xPutter_intoLet : jMd := (yX3_intoLet, cX3_intoLet, 9, (some .int))
theorem lk_xPutter_intoLet : jLk M_xPutter_intoLet 3 := ⟨(mr_27 _ (List.mem_of_getElem? (i := 9) rfl)), (mr_2 _ (List.mem_of_getElem? (i := 7) rfl)), ⟨by decide, by decide, by decide +kernel⟩, by decide⟩
def M_xPutter_intoParts : jMd := (yX3_intoParts, cX3_intoParts, 7, (some .int))
theorem lk_xPutter_intoParts : jLk M_xPutter_intoParts 3 := ⟨(mr_27 _ (List.mem_of_getElem? (i := 11) rfl)), (mr_2 _ (List.mem_of_getElem? (i := 7) rfl)), ⟨by decide, by decide, by decide +kernel⟩, by decide⟩
def M_xReader_tapeLength : jMd := (yX4_tapeLength, cX4_tapeLength, 1, (some .int))
theorem lk_xReader_tapeLength : jLk M_xReader_tapeLength 0 := ⟨(mr_44 _ (List.mem_of_getElem? (i := 1) rfl)), (mr_2 _ (List.mem_of_getElem? (i := 23) rfl)), ⟨by decide, by decide, by decide +kernel⟩, by decide⟩
def M_xReader_add : jMd := (yX4_add, cX4_add, 2, none)
theorem lk_xReader_add : jLk M_xReader_add 1 := ⟨(mr_37 _ (List.mem_of_getElem? (i := 10) rfl)), (mr_2 _ (List.mem_of_getElem? (i := 23) rfl)), ⟨by decide, by decide, by decide +kernel⟩, by decide⟩
def M_xReader_addBytes : jMd := (yX4_addBytes, cX4_addBytes, 5, (some .int))
theorem lk_xReader_addBytes : jLk M_xReader_addBytes 2 := ⟨(mr_37 _ (List.mem_of_getElem? (i := 6) rfl)), (mr_2 _ (List.mem_of_getElem? (i := 23) rfl)), ⟨by decide, by decide, by decide +kernel⟩, by decide⟩
def M_xReader_takeFrom : jMd := (yX4_takeFrom, cX4_takeFrom, 4, (some .int))
theorem lk_xReader_takeFrom : jLk M_xReader_takeFrom 1 := ⟨(mr_37 _ (List.mem_of_getElem? (i := 23) rfl)), (mr_2 _ (List.mem_of_getElem? (i := 23) rfl)), ⟨by decide, by decide, by decide +kernel⟩, by decide⟩
def M_xTerms_total : jMd := (yX6_total, cX6_total, 1, (some .int))
theorem lk_xTerms_total : jLk M_xTerms_total 0 := ⟨(mr_26 _ (List.mem_of_getElem? (i := 0) rfl)), (mr_1 _ (List.mem_of_getElem? (i := 19) rfl)), ⟨by decide, by decide, by decide +kernel⟩, by decide⟩
def M_xTypes_total : jMd := (yX7_total, cX7_total, 1, (some .int))
theorem lk_xTypes_total : jLk M_xTypes_total 0 := ⟨(mr_19 _ (List.mem_of_getElem? (i := 3) rfl)), (mr_1 _ (List.mem_of_getElem? (i := 15) rfl)), ⟨by decide, by decide, by decide +kernel⟩, by decide⟩
def M_xReader_byteHere : jMd := (yX4_byteHere, cX4_byteHere, 1, (some .int))
theorem lk_xReader_byteHere : jLk M_xReader_byteHere 0 := ⟨(mr_39 _ (List.mem_of_getElem? (i := 2) rfl)), (mr_2 _ (List.mem_of_getElem? (i := 23) rfl)), ⟨by decide, by decide, by decide +kernel⟩, by decide⟩
def M_xReader_isDigit : jMd := (yX4_isDigit, cX4_isDigit, 1, (some .boolean))
theorem lk_xReader_isDigit : jLk M_xReader_isDigit 1 := ⟨(mr_39 _ (List.mem_of_getElem? (i := 8) rfl)), (mr_2 _ (List.mem_of_getElem? (i := 23) rfl)), ⟨by decide, by decide, by decide +kernel⟩, by decide⟩
def M_xReader_beginsTerm : jMd := (yX4_beginsTerm, cX4_beginsTerm, 1, (some .boolean))
theorem lk_xReader_beginsTerm : jLk M_xReader_beginsTerm 1 := ⟨(mr_39 _ (List.mem_of_getElem? (i := 5) rfl)), (mr_2 _ (List.mem_of_getElem? (i := 23) rfl)), ⟨by decide, by decide, by decide +kernel⟩, by decide⟩
def M_xReader_wrongHere : jMd := (yX4_wrongHere, cX4_wrongHere, 1, (some .int))
theorem lk_xReader_wrongHere : jLk M_xReader_wrongHere 0 := ⟨(mr_39 _ (List.mem_of_getElem? (i := 12) rfl)), (mr_2 _ (List.mem_of_getElem? (i := 23) rfl)), ⟨by decide, by decide, by decide +kernel⟩, by decide⟩
def M_xReader_pass : jMd := (yX4_pass, cX4_pass, 2, (some .int))
theorem lk_xReader_pass : jLk M_xReader_pass 1 := ⟨(mr_40 _ (List.mem_of_getElem? (i := 19) rfl)), (mr_2 _ (List.mem_of_getElem? (i := 23) rfl)), ⟨by decide, by decide, by decide +kernel⟩, by decide⟩
def M_xReader_letterBehind : jMd := (yX4_letterBehind, cX4_letterBehind, 4, (some .int))
theorem lk_xReader_letterBehind : jLk M_xReader_letterBehind 1 := ⟨(mr_41 _ (List.mem_of_getElem? (i := 1) rfl)), (mr_2 _ (List.mem_of_getElem? (i := 23) rfl)), ⟨by decide, by decide, by decide +kernel⟩, by decide⟩
def M_xReader_beginsType : jMd := (yX4_beginsType, cX4_beginsType, 1, (some .boolean))
theorem lk_xReader_beginsType : jLk M_xReader_beginsType 1 := ⟨(mr_41 _ (List.mem_of_getElem? (i := 8) rfl)), (mr_2 _ (List.mem_of_getElem? (i := 23) rfl)), ⟨by decide, by decide, by decide +kernel⟩, by decide⟩
def M_xTypes_arrowOf : jMd := (yX7_arrowOf, cX7_arrowOf, 4, (some .int))
theorem lk_xTypes_arrowOf : jLk M_xTypes_arrowOf 2 := ⟨(mr_8 _ (List.mem_of_getElem? (i := 5) rfl)), (mr_1 _ (List.mem_of_getElem? (i := 15) rfl)), ⟨by decide, by decide, by decide +kernel⟩, by decide⟩
def M_xReader_typeHere : jMd := (yX4_typeHere, cX4_typeHere, 6, (some .int))
theorem lk_xReader_typeHere : jLk M_xReader_typeHere 1 := ⟨(mr_41 _ (List.mem_of_getElem? (i := 5) rfl)), (mr_2 _ (List.mem_of_getElem? (i := 23) rfl)), ⟨by decide, by decide, by decide +kernel⟩, by decide⟩
def M_xReader_typeBehind : jMd := (yX4_typeBehind, cX4_typeBehind, 4, (some .int))
theorem lk_xReader_typeBehind : jLk M_xReader_typeBehind 2 := ⟨(mr_41 _ (List.mem_of_getElem? (i := 13) rfl)), (mr_2 _ (List.mem_of_getElem? (i := 23) rfl)), ⟨by decide, by decide, by decide +kernel⟩, by decide⟩
def M_xTerms_newFunction : jMd := (yX6_newFunction, cX6_newFunction, 4, (some .int))
theorem lk_xTerms_newFunction : jLk M_xTerms_newFunction 3 := ⟨(mr_14 _ (List.mem_of_getElem? (i := 5) rfl)), (mr_1 _ (List.mem_of_getElem? (i := 19) rfl)), ⟨by decide, by decide, by decide +kernel⟩, by decide⟩
def M_xTerms_newJoined : jMd := (yX6_newJoined, cX6_newJoined, 5, (some .int))
theorem lk_xTerms_newJoined : jLk M_xTerms_newJoined 4 := ⟨(mr_15 _ (List.mem_of_getElem? (i := 9) rfl)), (mr_1 _ (List.mem_of_getElem? (i := 19) rfl)), ⟨by decide, by decide, by decide +kernel⟩, by decide⟩
def M_xTerms_newLet : jMd := (yX6_newLet, cX6_newLet, 4, (some .int))
theorem lk_xTerms_newLet : jLk M_xTerms_newLet 3 := ⟨(mr_14 _ (List.mem_of_getElem? (i := 21) rfl)), (mr_1 _ (List.mem_of_getElem? (i := 19) rfl)), ⟨by decide, by decide, by decide +kernel⟩, by decide⟩
def M_xReader_nameHere : jMd := (yX4_nameHere, cX4_nameHere, 2, (some .int))
theorem lk_xReader_nameHere : jLk M_xReader_nameHere 0 := ⟨(mr_40 _ (List.mem_of_getElem? (i := 4) rfl)), (mr_2 _ (List.mem_of_getElem? (i := 23) rfl)), ⟨by decide, by decide, by decide +kernel⟩, by decide⟩
def M_xTerms_digitsOf : jMd := (yX6_digitsOf, cX6_digitsOf, 4, (some .int))
theorem lk_xTerms_digitsOf : jLk M_xTerms_digitsOf 1 := ⟨(mr_12 _ (List.mem_of_getElem? (i := 12) rfl)), (mr_1 _ (List.mem_of_getElem? (i := 19) rfl)), ⟨by decide, by decide, by decide +kernel⟩, by decide⟩
def M_xTerms_newNumber : jMd := (yX6_newNumber, cX6_newNumber, 3, (some .int))
theorem lk_xTerms_newNumber : jLk M_xTerms_newNumber 1 := ⟨(mr_10 _ (List.mem_of_getElem? (i := 19) rfl)), (mr_1 _ (List.mem_of_getElem? (i := 19) rfl)), ⟨by decide, by decide, by decide +kernel⟩, by decide⟩
def M_xReader_numberHere : jMd := (yX4_numberHere, cX4_numberHere, 4, (some .int))
theorem lk_xReader_numberHere : jLk M_xReader_numberHere 0 := ⟨(mr_40 _ (List.mem_of_getElem? (i := 9) rfl)), (mr_2 _ (List.mem_of_getElem? (i := 23) rfl)), ⟨by decide, by decide, by decide +kernel⟩, by decide⟩
def M_xReader_termHere : jMd := (yX4_termHere, cX4_termHere, 3, (some .int))
theorem lk_xReader_termHere : jLk M_xReader_termHere 1 := ⟨(mr_38 _ (List.mem_of_getElem? (i := 22) rfl)), (mr_2 _ (List.mem_of_getElem? (i := 23) rfl)), ⟨by decide, by decide, by decide +kernel⟩, by decide⟩
def M_xReader_functionHere : jMd := (yX4_functionHere, cX4_functionHere, 6, (some .int))
theorem lk_xReader_functionHere : jLk M_xReader_functionHere 1 := ⟨(mr_40 _ (List.mem_of_getElem? (i := 21) rfl)), (mr_2 _ (List.mem_of_getElem? (i := 23) rfl)), ⟨by decide, by decide, by decide +kernel⟩, by decide⟩
def M_xReader_termBehind : jMd := (yX4_termBehind, cX4_termBehind, 4, (some .int))
theorem lk_xReader_termBehind : jLk M_xReader_termBehind 2 := ⟨(mr_41 _ (List.mem_of_getElem? (i := 18) rfl)), (mr_2 _ (List.mem_of_getElem? (i := 23) rfl)), ⟨by decide, by decide, by decide +kernel⟩, by decide⟩
def M_xReader_pairHere : jMd := (yX4_pairHere, cX4_pairHere, 6, (some .int))
theorem lk_xReader_pairHere : jLk M_xReader_pairHere 1 := ⟨(mr_41 _ (List.mem_of_getElem? (i := 17) rfl)), (mr_2 _ (List.mem_of_getElem? (i := 23) rfl)), ⟨by decide, by decide, by decide +kernel⟩, by decide⟩
def M_xReader_letHere : jMd := (yX4_letHere, cX4_letHere, 5, (some .int))
theorem lk_xReader_letHere : jLk M_xReader_letHere 1 := ⟨(mr_41 _ (List.mem_of_getElem? (i := 15) rfl)), (mr_2 _ (List.mem_of_getElem? (i := 23) rfl)), ⟨by decide, by decide, by decide +kernel⟩, by decide⟩
def M_xReader_choiceHere : jMd := (yX4_choiceHere, cX4_choiceHere, 6, (some .int))
theorem lk_xReader_choiceHere : jLk M_xReader_choiceHere 1 := ⟨(mr_40 _ (List.mem_of_getElem? (i := 12) rfl)), (mr_2 _ (List.mem_of_getElem? (i := 23) rfl)), ⟨by decide, by decide, by decide +kernel⟩, by decide⟩
def M_xTerms_cutTo : jMd := (yX6_cutTo, cX6_cutTo, 2, none)
theorem lk_xTerms_cutTo : jLk M_xTerms_cutTo 1 := ⟨(mr_27 _ (List.mem_of_getElem? (i := 20) rfl)), (mr_1 _ (List.mem_of_getElem? (i := 19) rfl)), ⟨by decide, by decide, by decide +kernel⟩, by decide⟩
def M_xTypes_cutTo : jMd := (yX7_cutTo, cX7_cutTo, 2, none)
theorem lk_xTypes_cutTo : jLk M_xTypes_cutTo 1 := ⟨(mr_21 _ (List.mem_of_getElem? (i := 16) rfl)), (mr_1 _ (List.mem_of_getElem? (i := 15) rfl)), ⟨by decide, by decide, by decide +kernel⟩, by decide⟩
def M_xReader_wholeTape : jMd := (yX4_wholeTape, cX4_wholeTape, 4, (some .int))
theorem lk_xReader_wholeTape : jLk M_xReader_wholeTape 0 := ⟨(mr_38 _ (List.mem_of_getElem? (i := 16) rfl)), (mr_2 _ (List.mem_of_getElem? (i := 23) rfl)), ⟨by decide, by decide, by decide +kernel⟩, by decide⟩
def M_xStepper_stepOf : jMd := (yX5_stepOf, cX5_stepOf, 2, (some .int))
theorem lk_xStepper_stepOf : jLk M_xStepper_stepOf 1 := ⟨(mr_29 _ (List.mem_of_getElem? (i := 11) rfl)), (mr_2 _ (List.mem_of_getElem? (i := 11) rfl)), ⟨by decide, by decide, by decide +kernel⟩, by decide⟩
def M_xStepper_stepOfCall : jMd := (yX5_stepOfCall, cX5_stepOfCall, 3, (some .int))
theorem lk_xStepper_stepOfCall : jLk M_xStepper_stepOfCall 1 := ⟨(mr_30 _ (List.mem_of_getElem? (i := 1) rfl)), (mr_2 _ (List.mem_of_getElem? (i := 11) rfl)), ⟨by decide, by decide, by decide +kernel⟩, by decide⟩
def M_xStepper_stepOfFirst : jMd := (yX5_stepOfFirst, cX5_stepOfFirst, 3, (some .int))
theorem lk_xStepper_stepOfFirst : jLk M_xStepper_stepOfFirst 1 := ⟨(mr_30 _ (List.mem_of_getElem? (i := 8) rfl)), (mr_2 _ (List.mem_of_getElem? (i := 11) rfl)), ⟨by decide, by decide, by decide +kernel⟩, by decide⟩
def M_xStepper_stepOfSum : jMd := (yX5_stepOfSum, cX5_stepOfSum, 5, (some .int))
theorem lk_xStepper_stepOfSum : jLk M_xStepper_stepOfSum 1 := ⟨(mr_30 _ (List.mem_of_getElem? (i := 11) rfl)), (mr_2 _ (List.mem_of_getElem? (i := 11) rfl)), ⟨by decide, by decide, by decide +kernel⟩, by decide⟩
def M_xStepper_stepOfChoice : jMd := (yX5_stepOfChoice, cX5_stepOfChoice, 3, (some .int))
theorem lk_xStepper_stepOfChoice : jLk M_xStepper_stepOfChoice 1 := ⟨(mr_30 _ (List.mem_of_getElem? (i := 5) rfl)), (mr_2 _ (List.mem_of_getElem? (i := 11) rfl)), ⟨by decide, by decide, by decide +kernel⟩, by decide⟩
def M_xTerms_usesOf : jMd := (yX6_usesOf, cX6_usesOf, 3, (some .int))
theorem lk_xTerms_usesOf : jLk M_xTerms_usesOf 2 := ⟨(mr_18 _ (List.mem_of_getElem? (i := 1) rfl)), (mr_1 _ (List.mem_of_getElem? (i := 19) rfl)), ⟨by decide, by decide, by decide +kernel⟩, by decide⟩
def M_xTypist_setDeclared : jMd := (yX8_setDeclared, cX8_setDeclared, 3, none)
theorem lk_xTypist_setDeclared : jLk M_xTypist_setDeclared 2 := ⟨(mr_10 _ (List.mem_of_getElem? (i := 4) rfl)), (mr_1 _ (List.mem_of_getElem? (i := 23) rfl)), ⟨by decide, by decide, by decide +kernel⟩, by decide⟩
def M_xTypist_latestFault : jMd := (yX8_latestFault, cX8_latestFault, 1, (some .int))
theorem lk_xTypist_latestFault : jLk M_xTypist_latestFault 0 := ⟨(mr_23 _ (List.mem_of_getElem? (i := 7) rfl)), (mr_1 _ (List.mem_of_getElem? (i := 23) rfl)), ⟨by decide, by decide, by decide +kernel⟩, by decide⟩
def M_xTypist_latestFaultAt : jMd := (yX8_latestFaultAt, cX8_latestFaultAt, 1, (some .int))
theorem lk_xTypist_latestFaultAt : jLk M_xTypist_latestFaultAt 0 := ⟨(mr_23 _ (List.mem_of_getElem? (i := 11) rfl)), (mr_1 _ (List.mem_of_getElem? (i := 23) rfl)), ⟨by decide, by decide, by decide +kernel⟩, by decide⟩
def M_xTypist_knownOf : jMd := (yX8_knownOf, cX8_knownOf, 2, (some .int))
theorem lk_xTypist_knownOf : jLk M_xTypist_knownOf 1 := ⟨(mr_19 _ (List.mem_of_getElem? (i := 17) rfl)), (mr_1 _ (List.mem_of_getElem? (i := 23) rfl)), ⟨by decide, by decide, by decide +kernel⟩, by decide⟩
def M_xTypist_faulty : jMd := (yX8_faulty, cX8_faulty, 3, (some .int))
theorem lk_xTypist_faulty : jLk M_xTypist_faulty 2 := ⟨(mr_19 _ (List.mem_of_getElem? (i := 21) rfl)), (mr_1 _ (List.mem_of_getElem? (i := 23) rfl)), ⟨by decide, by decide, by decide +kernel⟩, by decide⟩
def M_xTypist_typeForName : jMd := (yX8_typeForName, cX8_typeForName, 3, (some .int))
theorem lk_xTypist_typeForName : jLk M_xTypist_typeForName 1 := ⟨(mr_19 _ (List.mem_of_getElem? (i := 12) rfl)), (mr_1 _ (List.mem_of_getElem? (i := 23) rfl)), ⟨by decide, by decide, by decide +kernel⟩, by decide⟩
def M_xTypist_setKnown : jMd := (yX8_setKnown, cX8_setKnown, 3, none)
theorem lk_xTypist_setKnown : jLk M_xTypist_setKnown 2 := ⟨(mr_21 _ (List.mem_of_getElem? (i := 12) rfl)), (mr_1 _ (List.mem_of_getElem? (i := 23) rfl)), ⟨by decide, by decide, by decide +kernel⟩, by decide⟩
def M_xTypist_typeFor : jMd := (yX8_typeFor, cX8_typeFor, 2, (some .int))
theorem lk_xTypist_typeFor : jLk M_xTypist_typeFor 1 := ⟨(mr_19 _ (List.mem_of_getElem? (i := 7) rfl)), (mr_1 _ (List.mem_of_getElem? (i := 23) rfl)), ⟨by decide, by decide, by decide +kernel⟩, by decide⟩
def M_xTypist_typeForFunction : jMd := (yX8_typeForFunction, cX8_typeForFunction, 4, (some .int))
theorem lk_xTypist_typeForFunction : jLk M_xTypist_typeForFunction 1 := ⟨(mr_20 _ (List.mem_of_getElem? (i := 23) rfl)), (mr_1 _ (List.mem_of_getElem? (i := 23) rfl)), ⟨by decide, by decide, by decide +kernel⟩, by decide⟩
def M_xTypist_typeUnder : jMd := (yX8_typeUnder, cX8_typeUnder, 6, (some .int))
theorem lk_xTypist_typeUnder : jLk M_xTypist_typeUnder 3 := ⟨(mr_21 _ (List.mem_of_getElem? (i := 8) rfl)), (mr_1 _ (List.mem_of_getElem? (i := 23) rfl)), ⟨by decide, by decide, by decide +kernel⟩, by decide⟩
def M_xTypist_typeForCall : jMd := (yX8_typeForCall, cX8_typeForCall, 5, (some .int))
theorem lk_xTypist_typeForCall : jLk M_xTypist_typeForCall 1 := ⟨(mr_20 _ (List.mem_of_getElem? (i := 13) rfl)), (mr_1 _ (List.mem_of_getElem? (i := 23) rfl)), ⟨by decide, by decide, by decide +kernel⟩, by decide⟩
def M_xTypist_typeThatIs : jMd := (yX8_typeThatIs, cX8_typeThatIs, 4, (some .int))
theorem lk_xTypist_typeThatIs : jLk M_xTypist_typeThatIs 2 := ⟨(mr_21 _ (List.mem_of_getElem? (i := 7) rfl)), (mr_1 _ (List.mem_of_getElem? (i := 23) rfl)), ⟨by decide, by decide, by decide +kernel⟩, by decide⟩
def M_xTypist_typeForLet : jMd := (yX8_typeForLet, cX8_typeForLet, 3, (some .int))
theorem lk_xTypist_typeForLet : jLk M_xTypist_typeForLet 1 := ⟨(mr_21 _ (List.mem_of_getElem? (i := 5) rfl)), (mr_1 _ (List.mem_of_getElem? (i := 23) rfl)), ⟨by decide, by decide, by decide +kernel⟩, by decide⟩
def M_xTypist_typeForSum : jMd := (yX8_typeForSum, cX8_typeForSum, 3, (some .int))
theorem lk_xTypist_typeForSum : jLk M_xTypist_typeForSum 1 := ⟨(mr_21 _ (List.mem_of_getElem? (i := 6) rfl)), (mr_1 _ (List.mem_of_getElem? (i := 23) rfl)), ⟨by decide, by decide, by decide +kernel⟩, by decide⟩
def M_xTypist_typeForChoice : jMd := (yX8_typeForChoice, cX8_typeForChoice, 4, (some .int))
theorem lk_xTypist_typeForChoice : jLk M_xTypist_typeForChoice 1 := ⟨(mr_20 _ (List.mem_of_getElem? (i := 21) rfl)), (mr_1 _ (List.mem_of_getElem? (i := 23) rfl)), ⟨by decide, by decide, by decide +kernel⟩, by decide⟩
def M_xTypist_wholeTypeOf : jMd := (yX8_wholeTypeOf, cX8_wholeTypeOf, 4, (some .int))
theorem lk_xTypist_wholeTypeOf : jLk M_xTypist_wholeTypeOf 1 := ⟨(mr_18 _ (List.mem_of_getElem? (i := 23) rfl)), (mr_1 _ (List.mem_of_getElem? (i := 23) rfl)), ⟨by decide, by decide, by decide +kernel⟩, by decide⟩
def M_xc_arrow : jMd := (yX9_arrow, cX9_arrow, 3, (some .int))
theorem lk_xc_arrow : jLk M_xc_arrow 2 := ⟨(mr_7 _ (List.mem_of_getElem? (i := 21) rfl)), (mr_1 _ (List.mem_of_getElem? (i := 2) rfl)), ⟨by decide, by decide, by decide +kernel⟩, by decide⟩
def M_xc_side : jMd := (yX9_side, cX9_side, 3, (some .int))
theorem lk_xc_side : jLk M_xc_side 2 := ⟨(mr_9 _ (List.mem_of_getElem? (i := 5) rfl)), (mr_1 _ (List.mem_of_getElem? (i := 2) rfl)), ⟨by decide, by decide, by decide +kernel⟩, by decide⟩
def M_xc_declare : jMd := (yX9_declare, cX9_declare, 3, (some .int))
theorem lk_xc_declare : jLk M_xc_declare 2 := ⟨(mr_9 _ (List.mem_of_getElem? (i := 21) rfl)), (mr_1 _ (List.mem_of_getElem? (i := 2) rfl)), ⟨by decide, by decide, by decide +kernel⟩, by decide⟩
def M_xc_number : jMd := (yX9_number, cX9_number, 2, (some .int))
theorem lk_xc_number : jLk M_xc_number 1 := ⟨(mr_10 _ (List.mem_of_getElem? (i := 15) rfl)), (mr_1 _ (List.mem_of_getElem? (i := 2) rfl)), ⟨by decide, by decide, by decide +kernel⟩, by decide⟩
def M_xc_name : jMd := (yX9_name, cX9_name, 2, (some .int))
theorem lk_xc_name : jLk M_xc_name 1 := ⟨(mr_13 _ (List.mem_of_getElem? (i := 12) rfl)), (mr_1 _ (List.mem_of_getElem? (i := 2) rfl)), ⟨by decide, by decide, by decide +kernel⟩, by decide⟩
def M_xc_function : jMd := (yX9_function, cX9_function, 4, (some .int))
theorem lk_xc_function : jLk M_xc_function 3 := ⟨(mr_14 _ (List.mem_of_getElem? (i := 0) rfl)), (mr_1 _ (List.mem_of_getElem? (i := 2) rfl)), ⟨by decide, by decide, by decide +kernel⟩, by decide⟩
def M_xc_let : jMd := (yX9_let, cX9_let, 4, (some .int))
theorem lk_xc_let : jLk M_xc_let 3 := ⟨(mr_14 _ (List.mem_of_getElem? (i := 17) rfl)), (mr_1 _ (List.mem_of_getElem? (i := 2) rfl)), ⟨by decide, by decide, by decide +kernel⟩, by decide⟩
def M_xc_join : jMd := (yX9_join, cX9_join, 5, (some .int))
theorem lk_xc_join : jLk M_xc_join 4 := ⟨(mr_15 _ (List.mem_of_getElem? (i := 5) rfl)), (mr_1 _ (List.mem_of_getElem? (i := 2) rfl)), ⟨by decide, by decide, by decide +kernel⟩, by decide⟩
def M_xc_told : jMd := (yX9_told, cX9_told, 3, (some .long))
theorem lk_xc_told : jLk M_xc_told 2 := ⟨(mr_15 _ (List.mem_of_getElem? (i := 17) rfl)), (mr_1 _ (List.mem_of_getElem? (i := 2) rfl)), ⟨by decide, by decide, by decide +kernel⟩, by decide⟩
def M_xc_free : jMd := (yX9_free, cX9_free, 2, (some .int))
theorem lk_xc_free : jLk M_xc_free 1 := ⟨(mr_17 _ (List.mem_of_getElem? (i := 9) rfl)), (mr_1 _ (List.mem_of_getElem? (i := 2) rfl)), ⟨by decide, by decide, by decide +kernel⟩, by decide⟩
def M_xc_uses : jMd := (yX9_uses, cX9_uses, 3, (some .int))
theorem lk_xc_uses : jLk M_xc_uses 2 := ⟨(mr_17 _ (List.mem_of_getElem? (i := 22) rfl)), (mr_1 _ (List.mem_of_getElem? (i := 2) rfl)), ⟨by decide, by decide, by decide +kernel⟩, by decide⟩
def M_xc_type : jMd := (yX9_type, cX9_type, 2, (some .int))
theorem lk_xc_type : jLk M_xc_type 1 := ⟨(mr_18 _ (List.mem_of_getElem? (i := 19) rfl)), (mr_1 _ (List.mem_of_getElem? (i := 2) rfl)), ⟨by decide, by decide, by decide +kernel⟩, by decide⟩
def M_xc_fault : jMd := (yX9_fault, cX9_fault, 2, (some .int))
theorem lk_xc_fault : jLk M_xc_fault 1 := ⟨(mr_23 _ (List.mem_of_getElem? (i := 3) rfl)), (mr_1 _ (List.mem_of_getElem? (i := 2) rfl)), ⟨by decide, by decide, by decide +kernel⟩, by decide⟩
def M_xc_alike : jMd := (yX9_alike, cX9_alike, 3, (some .int))
theorem lk_xc_alike : jLk M_xc_alike 2 := ⟨(mr_23 _ (List.mem_of_getElem? (i := 19) rfl)), (mr_1 _ (List.mem_of_getElem? (i := 2) rfl)), ⟨by decide, by decide, by decide +kernel⟩, by decide⟩
def M_xc_least : jMd := (yX9_least, cX9_least, 3, (some .int))
theorem lk_xc_least : jLk M_xc_least 1 := ⟨(mr_25 _ (List.mem_of_getElem? (i := 12) rfl)), (mr_1 _ (List.mem_of_getElem? (i := 2) rfl)), ⟨by decide, by decide, by decide +kernel⟩, by decide⟩
def M_xc_keptOrUndone : jMd := (yX9_keptOrUndone, cX9_keptOrUndone, 3, (some .int))
theorem lk_xc_keptOrUndone : jLk M_xc_keptOrUndone 2 := ⟨(mr_27 _ (List.mem_of_getElem? (i := 16) rfl)), (mr_1 _ (List.mem_of_getElem? (i := 2) rfl)), ⟨by decide, by decide, by decide +kernel⟩, by decide⟩
def M_xc_put : jMd := (yX9_put, cX9_put, 5, (some .int))
theorem lk_xc_put : jLk M_xc_put 3 := ⟨(mr_25 _ (List.mem_of_getElem? (i := 20) rfl)), (mr_1 _ (List.mem_of_getElem? (i := 2) rfl)), ⟨by decide, by decide, by decide +kernel⟩, by decide⟩
def M_xc_step : jMd := (yX9_step, cX9_step, 3, (some .int))
theorem lk_xc_step : jLk M_xc_step 1 := ⟨(mr_29 _ (List.mem_of_getElem? (i := 8) rfl)), (mr_1 _ (List.mem_of_getElem? (i := 2) rfl)), ⟨by decide, by decide, by decide +kernel⟩, by decide⟩
def M_xc_run : jMd := (yX9_run, cX9_run, 8, (some .int))
theorem lk_xc_run : jLk M_xc_run 2 := ⟨(mr_31 _ (List.mem_of_getElem? (i := 8) rfl)), (mr_1 _ (List.mem_of_getElem? (i := 2) rfl)), ⟨by decide, by decide, by decide +kernel⟩, by decide⟩
def M_xc_ran : jMd := (yX9_ran, cX9_ran, 1, (some .int))
theorem lk_xc_ran : jLk M_xc_ran 0 := ⟨(mr_31 _ (List.mem_of_getElem? (i := 17) rfl)), (mr_1 _ (List.mem_of_getElem? (i := 2) rfl)), ⟨by decide, by decide, by decide +kernel⟩, by decide⟩
def M_xc_drop : jMd := (yX9_drop, cX9_drop, 3, (some .int))
theorem lk_xc_drop : jLk M_xc_drop 1 := ⟨(mr_32 _ (List.mem_of_getElem? (i := 1) rfl)), (mr_1 _ (List.mem_of_getElem? (i := 2) rfl)), ⟨by decide, by decide, by decide +kernel⟩, by decide⟩
def M_xc_print : jMd := (yX9_print, cX9_print, 2, (some .int))
theorem lk_xc_print : jLk M_xc_print 1 := ⟨(mr_33 _ (List.mem_of_getElem? (i := 1) rfl)), (mr_1 _ (List.mem_of_getElem? (i := 2) rfl)), ⟨by decide, by decide, by decide +kernel⟩, by decide⟩
def M_xc_at : jMd := (yX9_at, cX9_at, 2, (some .int))
theorem lk_xc_at : jLk M_xc_at 1 := ⟨(mr_36 _ (List.mem_of_getElem? (i := 14) rfl)), (mr_1 _ (List.mem_of_getElem? (i := 2) rfl)), ⟨by decide, by decide, by decide +kernel⟩, by decide⟩
def M_xc_feed : jMd := (yX9_feed, cX9_feed, 4, (some .int))
theorem lk_xc_feed : jLk M_xc_feed 2 := ⟨(mr_37 _ (List.mem_of_getElem? (i := 2) rfl)), (mr_1 _ (List.mem_of_getElem? (i := 2) rfl)), ⟨by decide, by decide, by decide +kernel⟩, by decide⟩
def M_xc_copy : jMd := (yX9_copy, cX9_copy, 1, (some .int))
theorem lk_xc_copy : jLk M_xc_copy 0 := ⟨(mr_37 _ (List.mem_of_getElem? (i := 19) rfl)), (mr_1 _ (List.mem_of_getElem? (i := 2) rfl)), ⟨by decide, by decide, by decide +kernel⟩, by decide⟩
def M_xc_read : jMd := (yX9_read, cX9_read, 1, (some .int))
theorem lk_xc_read : jLk M_xc_read 0 := ⟨(mr_38 _ (List.mem_of_getElem? (i := 12) rfl)), (mr_1 _ (List.mem_of_getElem? (i := 2) rfl)), ⟨by decide, by decide, by decide +kernel⟩, by decide⟩
def M_xc_count : jMd := (yX9_count, cX9_count, 2, (some .int))
theorem lk_xc_count : jLk M_xc_count 1 := ⟨(mr_43 _ (List.mem_of_getElem? (i := 20) rfl)), (mr_1 _ (List.mem_of_getElem? (i := 2) rfl)), ⟨by decide, by decide, by decide +kernel⟩, by decide⟩
def M_xc_clear : jMd := (yX9_clear, cX9_clear, 2, (some .int))
theorem lk_xc_clear : jLk M_xc_clear 0 := ⟨(mr_44 _ (List.mem_of_getElem? (i := 10) rfl)), (mr_1 _ (List.mem_of_getElem? (i := 2) rfl)), ⟨by decide, by decide, by decide +kernel⟩, by decide⟩
def M_init0 : jMd := (yX0_init, cX0_init, 2, none)
theorem lk_init0 : jLk M_init0 1 := ⟨(mr_4 _ (List.mem_of_getElem? (i := 16) rfl)), (mr_2 _ (List.mem_of_getElem? (i := 3) rfl)), ⟨by decide, by decide, by decide +kernel⟩, by decide⟩
def M_init1 : jMd := (yX1_init, cX1_init, 2, none)
theorem lk_init1 : jLk M_init1 1 := ⟨(mr_5 _ (List.mem_of_getElem? (i := 10) rfl)), (mr_2 _ (List.mem_of_getElem? (i := 15) rfl)), ⟨by decide, by decide, by decide +kernel⟩, by decide⟩
def M_init2 : jMd := (yX2_init, cX2_init, 3, none)
theorem lk_init2 : jLk M_init2 2 := ⟨(mr_5 _ (List.mem_of_getElem? (i := 15) rfl)), (mr_2 _ (List.mem_of_getElem? (i := 19) rfl)), ⟨by decide, by decide, by decide +kernel⟩, by decide⟩
def M_init3 : jMd := (yX3_init, cX3_init, 2, none)
theorem lk_init3 : jLk M_init3 1 := ⟨(mr_4 _ (List.mem_of_getElem? (i := 23) rfl)), (mr_2 _ (List.mem_of_getElem? (i := 7) rfl)), ⟨by decide, by decide, by decide +kernel⟩, by decide⟩
def M_init4 : jMd := (yX4_init, cX4_init, 3, none)
theorem lk_init4 : jLk M_init4 2 := ⟨(mr_6 _ (List.mem_of_getElem? (i := 0) rfl)), (mr_2 _ (List.mem_of_getElem? (i := 23) rfl)), ⟨by decide, by decide, by decide +kernel⟩, by decide⟩
def M_init5 : jMd := (yX5_init, cX5_init, 3, none)
theorem lk_init5 : jLk M_init5 2 := ⟨(mr_5 _ (List.mem_of_getElem? (i := 4) rfl)), (mr_2 _ (List.mem_of_getElem? (i := 11) rfl)), ⟨by decide, by decide, by decide +kernel⟩, by decide⟩
def M_init6 : jMd := (yX6_init, cX6_init, 2, none)
theorem lk_init6 : jLk M_init6 1 := ⟨(mr_3 _ (List.mem_of_getElem? (i := 13) rfl)), (mr_1 _ (List.mem_of_getElem? (i := 19) rfl)), ⟨by decide, by decide, by decide +kernel⟩, by decide⟩
def M_init7 : jMd := (yX7_init, cX7_init, 1, none)
theorem lk_init7 : jLk M_init7 0 := ⟨(mr_3 _ (List.mem_of_getElem? (i := 4) rfl)), (mr_1 _ (List.mem_of_getElem? (i := 15) rfl)), ⟨by decide, by decide, by decide +kernel⟩, by decide⟩
def M_init8 : jMd := (yX8_init, cX8_init, 4, none)
theorem lk_init8 : jLk M_init8 2 := ⟨(mr_4 _ (List.mem_of_getElem? (i := 6) rfl)), (mr_1 _ (List.mem_of_getElem? (i := 23) rfl)), ⟨by decide, by decide, by decide +kernel⟩, by decide⟩
def M_init9 : jMd := (yX9_init, cX9_init, 1, none)
theorem lk_init9 : jLk M_init9 0 := ⟨(mr_1 _ (List.mem_of_getElem? (i := 9) rfl)), (mr_1 _ (List.mem_of_getElem? (i := 2) rfl)), ⟨by decide, by decide, by decide +kernel⟩, by decide⟩
theorem fl_0_9 : jFld RX0 9 0 1 := ⟨RX0, TX0, _, rfl, inlX0, by decide, (mr_4 _ (List.mem_of_getElem? (i := 18) rfl))⟩
theorem pfl_0_9 : jFldP RX0 9 0 1 true (tyX0 1) := ⟨RX0, TX0, _, tyX0, rfl, inlX0, by decide, (mr_4 _ (List.mem_of_getElem? (i := 18) rfl)), tyX0_ok, nmX0, rfl, tyX0_ok 1 (by decide), rfl⟩
theorem fl_0_15 : jFld RX0 15 0 2 := ⟨RX0, TX0, _, rfl, inlX0, by decide, (mr_4 _ (List.mem_of_getElem? (i := 19) rfl))⟩
theorem pfl_0_15 : jFldP RX0 15 0 2 true (tyX0 2) := ⟨RX0, TX0, _, tyX0, rfl, inlX0, by decide, (mr_4 _ (List.mem_of_getElem? (i := 19) rfl)), tyX0_ok, nmX0, rfl, tyX0_ok 2 (by decide), rfl⟩
theorem fl_0_18 : jFld RX0 18 0 0 := ⟨RX0, TX0, _, rfl, inlX0, by decide, (mr_4 _ (List.mem_of_getElem? (i := 20) rfl))⟩
theorem pfl_0_18 : jFldP RX0 18 0 0 true (tyX0 0) := ⟨RX0, TX0, _, tyX0, rfl, inlX0, by decide, (mr_4 _ (List.mem_of_getElem? (i := 20) rfl)), tyX0_ok, nmX0, rfl, tyX0_ok 0 (by decide), rfl⟩
theorem ln_0_22 : jLV RX0 22 M_xComparer_same 3 0 := ⟨lk_xComparer_same, Or.inl (mr_24 _ (List.mem_of_getElem? (i := 0) rfl)), (mr_24 _ (List.mem_of_getElem? (i := 1) rfl)), (mr_24 _ (List.mem_of_getElem? (i := 2) rfl)), _, rfl, rfl⟩
theorem ln_0_26 : jLV RX0 26 M_xTerms_kindOf 1 6 := ⟨lk_xTerms_kindOf, Or.inl (mr_24 _ (List.mem_of_getElem? (i := 4) rfl)), (mr_15 _ (List.mem_of_getElem? (i := 20) rfl)), (mr_15 _ (List.mem_of_getElem? (i := 21) rfl)), _, rfl, rfl⟩
theorem ln_0_32 : jLV RX0 32 M_xTerms_sizeOf 1 6 := ⟨lk_xTerms_sizeOf, Or.inl (mr_24 _ (List.mem_of_getElem? (i := 5) rfl)), (mr_11 _ (List.mem_of_getElem? (i := 5) rfl)), (mr_11 _ (List.mem_of_getElem? (i := 6) rfl)), _, rfl, rfl⟩
theorem ln_0_35 : jLV RX0 35 M_xTerms_numberOf 1 6 := ⟨lk_xTerms_numberOf, Or.inl (mr_24 _ (List.mem_of_getElem? (i := 6) rfl)), (mr_16 _ (List.mem_of_getElem? (i := 2) rfl)), (mr_16 _ (List.mem_of_getElem? (i := 3) rfl)), _, rfl, rfl⟩
theorem ln_0_38 : jLV RX0 38 M_xTerms_letterOf 1 6 := ⟨lk_xTerms_letterOf, Or.inl (mr_24 _ (List.mem_of_getElem? (i := 7) rfl)), (mr_16 _ (List.mem_of_getElem? (i := 6) rfl)), (mr_16 _ (List.mem_of_getElem? (i := 7) rfl)), _, rfl, rfl⟩
theorem ln_0_41 : jLV RX0 41 M_xComparer_sameName 2 0 := ⟨lk_xComparer_sameName, Or.inl (mr_24 _ (List.mem_of_getElem? (i := 8) rfl)), (mr_24 _ (List.mem_of_getElem? (i := 9) rfl)), (mr_24 _ (List.mem_of_getElem? (i := 10) rfl)), _, rfl, rfl⟩
theorem ln_0_45 : jLV RX0 45 M_xTerms_typeOf 1 6 := ⟨lk_xTerms_typeOf, Or.inl (mr_24 _ (List.mem_of_getElem? (i := 12) rfl)), (mr_16 _ (List.mem_of_getElem? (i := 10) rfl)), (mr_16 _ (List.mem_of_getElem? (i := 11) rfl)), _, rfl, rfl⟩
theorem ln_0_48 : jLV RX0 48 M_xTerms_firstOf 1 6 := ⟨lk_xTerms_firstOf, Or.inl (mr_24 _ (List.mem_of_getElem? (i := 13) rfl)), (mr_16 _ (List.mem_of_getElem? (i := 14) rfl)), (mr_16 _ (List.mem_of_getElem? (i := 15) rfl)), _, rfl, rfl⟩
theorem ln_0_51 : jLV RX0 51 M_xComparer_sameUnder 5 0 := ⟨lk_xComparer_sameUnder, Or.inl (mr_24 _ (List.mem_of_getElem? (i := 14) rfl)), (mr_24 _ (List.mem_of_getElem? (i := 15) rfl)), (mr_24 _ (List.mem_of_getElem? (i := 16) rfl)), _, rfl, rfl⟩
theorem ln_0_55 : jLV RX0 55 M_xTerms_secondOf 1 6 := ⟨lk_xTerms_secondOf, Or.inl (mr_24 _ (List.mem_of_getElem? (i := 17) rfl)), (mr_16 _ (List.mem_of_getElem? (i := 18) rfl)), (mr_16 _ (List.mem_of_getElem? (i := 19) rfl)), _, rfl, rfl⟩
theorem ln_0_58 : jLV RX0 58 M_xTerms_thirdOf 1 6 := ⟨lk_xTerms_thirdOf, Or.inl (mr_24 _ (List.mem_of_getElem? (i := 18) rfl)), (mr_16 _ (List.mem_of_getElem? (i := 22) rfl)), (mr_16 _ (List.mem_of_getElem? (i := 23) rfl)), _, rfl, rfl⟩
theorem ln_0_61 : jLN RX0 61 M_xc_isLetter 1 := ⟨lk_xc_isLetter, ⟨"CoreTerms", List.mem_of_getElem? (i := 2) rfl⟩, (mr_9 _ (List.mem_of_getElem? (i := 23) rfl))⟩
theorem fl_1_9 : jFld RX1 9 1 0 := ⟨RX1, TX1, _, rfl, inlX1, by decide, (mr_5 _ (List.mem_of_getElem? (i := 12) rfl))⟩
theorem pfl_1_9 : jFldP RX1 9 1 0 true (tyX1 0) := ⟨RX1, TX1, _, tyX1, rfl, inlX1, by decide, (mr_5 _ (List.mem_of_getElem? (i := 12) rfl)), tyX1_ok, nmX1, rfl, tyX1_ok 0 (by decide), rfl⟩
theorem ln_1_15 : jLV RX1 15 M_xTerms_has 1 6 := ⟨lk_xTerms_has, Or.inl (mr_32 _ (List.mem_of_getElem? (i := 5) rfl)), (mr_11 _ (List.mem_of_getElem? (i := 9) rfl)), (mr_11 _ (List.mem_of_getElem? (i := 10) rfl)), _, rfl, rfl⟩
theorem ln_1_21 : jLV RX1 21 M_xTerms_firstOf 1 6 := ⟨lk_xTerms_firstOf, Or.inl (mr_32 _ (List.mem_of_getElem? (i := 6) rfl)), (mr_16 _ (List.mem_of_getElem? (i := 14) rfl)), (mr_16 _ (List.mem_of_getElem? (i := 15) rfl)), _, rfl, rfl⟩
theorem ln_1_25 : jLV RX1 25 M_xDropper_withoutLets 1 1 := ⟨lk_xDropper_withoutLets, Or.inl (mr_32 _ (List.mem_of_getElem? (i := 7) rfl)), (mr_32 _ (List.mem_of_getElem? (i := 2) rfl)), (mr_32 _ (List.mem_of_getElem? (i := 3) rfl)), _, rfl, rfl⟩
theorem ln_1_28 : jLV RX1 28 M_xTerms_secondOf 1 6 := ⟨lk_xTerms_secondOf, Or.inl (mr_32 _ (List.mem_of_getElem? (i := 8) rfl)), (mr_16 _ (List.mem_of_getElem? (i := 18) rfl)), (mr_16 _ (List.mem_of_getElem? (i := 19) rfl)), _, rfl, rfl⟩
theorem ln_1_31 : jLV RX1 31 M_xTerms_thirdOf 1 6 := ⟨lk_xTerms_thirdOf, Or.inl (mr_32 _ (List.mem_of_getElem? (i := 9) rfl)), (mr_16 _ (List.mem_of_getElem? (i := 22) rfl)), (mr_16 _ (List.mem_of_getElem? (i := 23) rfl)), _, rfl, rfl⟩
theorem ln_1_34 : jLV RX1 34 M_xTerms_kindOf 1 6 := ⟨lk_xTerms_kindOf, Or.inl (mr_32 _ (List.mem_of_getElem? (i := 10) rfl)), (mr_15 _ (List.mem_of_getElem? (i := 20) rfl)), (mr_15 _ (List.mem_of_getElem? (i := 21) rfl)), _, rfl, rfl⟩
theorem ln_1_37 : jLV RX1 37 M_xTerms_letterOf 1 6 := ⟨lk_xTerms_letterOf, Or.inl (mr_32 _ (List.mem_of_getElem? (i := 11) rfl)), (mr_16 _ (List.mem_of_getElem? (i := 6) rfl)), (mr_16 _ (List.mem_of_getElem? (i := 7) rfl)), _, rfl, rfl⟩
theorem ln_1_40 : jLV RX1 40 M_xTerms_isFree 2 6 := ⟨lk_xTerms_isFree, Or.inl (mr_32 _ (List.mem_of_getElem? (i := 12) rfl)), (mr_18 _ (List.mem_of_getElem? (i := 3) rfl)), (mr_18 _ (List.mem_of_getElem? (i := 4) rfl)), _, rfl, rfl⟩
theorem ln_1_44 : jLV RX1 44 M_xTerms_withParts 5 6 := ⟨lk_xTerms_withParts, Or.inl (mr_32 _ (List.mem_of_getElem? (i := 13) rfl)), (mr_27 _ (List.mem_of_getElem? (i := 5) rfl)), (mr_27 _ (List.mem_of_getElem? (i := 6) rfl)), _, rfl, rfl⟩
theorem fl_2_9 : jFld RX2 9 2 2 := ⟨RX2, TX2, _, rfl, inlX2, by decide, (mr_5 _ (List.mem_of_getElem? (i := 18) rfl))⟩
theorem pfl_2_9 : jFldP RX2 9 2 2 true (tyX2 2) := ⟨RX2, TX2, _, tyX2, rfl, inlX2, by decide, (mr_5 _ (List.mem_of_getElem? (i := 18) rfl)), tyX2_ok, nmX2, rfl, tyX2_ok 2 (by decide), rfl⟩
theorem fl_2_15 : jFld RX2 15 2 0 := ⟨RX2, TX2, _, rfl, inlX2, by decide, (mr_5 _ (List.mem_of_getElem? (i := 19) rfl))⟩
theorem pfl_2_15 : jFldP RX2 15 2 0 true (tyX2 0) := ⟨RX2, TX2, _, tyX2, rfl, inlX2, by decide, (mr_5 _ (List.mem_of_getElem? (i := 19) rfl)), tyX2_ok, nmX2, rfl, tyX2_ok 0 (by decide), rfl⟩
theorem fl_2_19 : jFld RX2 19 2 1 := ⟨RX2, TX2, _, rfl, inlX2, by decide, (mr_5 _ (List.mem_of_getElem? (i := 20) rfl))⟩
theorem pfl_2_19 : jFldP RX2 19 2 1 true (tyX2 1) := ⟨RX2, TX2, _, tyX2, rfl, inlX2, by decide, (mr_5 _ (List.mem_of_getElem? (i := 20) rfl)), tyX2_ok, nmX2, rfl, tyX2_ok 1 (by decide), rfl⟩
theorem fl_2_23 : jFld RX2 23 2 3 := ⟨RX2, TX2, _, rfl, inlX2, by decide, (mr_5 _ (List.mem_of_getElem? (i := 21) rfl))⟩
theorem pfl_2_23 : jFldP RX2 23 2 3 false (tyX2 3) := ⟨RX2, TX2, _, tyX2, rfl, inlX2, by decide, (mr_5 _ (List.mem_of_getElem? (i := 21) rfl)), tyX2_ok, nmX2, rfl, tyX2_ok 3 (by decide), rfl⟩
theorem ln_2_27 : jLV RX2 27 M_xTerms_widthOf 1 6 := ⟨lk_xTerms_widthOf, Or.inl (mr_33 _ (List.mem_of_getElem? (i := 6) rfl)), (mr_12 _ (List.mem_of_getElem? (i := 7) rfl)), (mr_12 _ (List.mem_of_getElem? (i := 8) rfl)), _, rfl, rfl⟩
theorem ln_2_33 : jLV RX2 33 M_xPrinter_writeTerm 1 2 := ⟨lk_xPrinter_writeTerm, Or.inl (mr_33 _ (List.mem_of_getElem? (i := 7) rfl)), (mr_33 _ (List.mem_of_getElem? (i := 8) rfl)), (mr_33 _ (List.mem_of_getElem? (i := 9) rfl)), _, rfl, rfl⟩
theorem ln_2_37 : jLV RX2 37 M_xTerms_kindOf 1 6 := ⟨lk_xTerms_kindOf, Or.inl (mr_33 _ (List.mem_of_getElem? (i := 11) rfl)), (mr_15 _ (List.mem_of_getElem? (i := 20) rfl)), (mr_15 _ (List.mem_of_getElem? (i := 21) rfl)), _, rfl, rfl⟩
theorem ln_2_40 : jLV RX2 40 M_xTerms_numberOf 1 6 := ⟨lk_xTerms_numberOf, Or.inl (mr_33 _ (List.mem_of_getElem? (i := 12) rfl)), (mr_16 _ (List.mem_of_getElem? (i := 2) rfl)), (mr_16 _ (List.mem_of_getElem? (i := 3) rfl)), _, rfl, rfl⟩
theorem ln_2_43 : jLV RX2 43 M_xPrinter_writeNumber 2 2 := ⟨lk_xPrinter_writeNumber, Or.inl (mr_33 _ (List.mem_of_getElem? (i := 13) rfl)), (mr_33 _ (List.mem_of_getElem? (i := 14) rfl)), (mr_33 _ (List.mem_of_getElem? (i := 15) rfl)), _, rfl, rfl⟩
theorem ln_2_47 : jLV RX2 47 M_xTerms_letterOf 1 6 := ⟨lk_xTerms_letterOf, Or.inl (mr_34 _ (List.mem_of_getElem? (i := 2) rfl)), (mr_16 _ (List.mem_of_getElem? (i := 6) rfl)), (mr_16 _ (List.mem_of_getElem? (i := 7) rfl)), _, rfl, rfl⟩
theorem ln_2_50 : jLV RX2 50 M_xPrinter_writeLetter 1 2 := ⟨lk_xPrinter_writeLetter, Or.inl (mr_34 _ (List.mem_of_getElem? (i := 3) rfl)), (mr_34 _ (List.mem_of_getElem? (i := 4) rfl)), (mr_34 _ (List.mem_of_getElem? (i := 5) rfl)), _, rfl, rfl⟩
theorem ln_2_53 : jLV RX2 53 M_xPrinter_writeFunction 1 2 := ⟨lk_xPrinter_writeFunction, Or.inl (mr_34 _ (List.mem_of_getElem? (i := 7) rfl)), (mr_34 _ (List.mem_of_getElem? (i := 8) rfl)), (mr_34 _ (List.mem_of_getElem? (i := 9) rfl)), _, rfl, rfl⟩
theorem ln_2_56 : jLV RX2 56 M_xPrinter_writePair 2 2 := ⟨lk_xPrinter_writePair, Or.inl (mr_34 _ (List.mem_of_getElem? (i := 10) rfl)), (mr_34 _ (List.mem_of_getElem? (i := 11) rfl)), (mr_34 _ (List.mem_of_getElem? (i := 12) rfl)), _, rfl, rfl⟩
theorem ln_2_59 : jLV RX2 59 M_xPrinter_writeLet 1 2 := ⟨lk_xPrinter_writeLet, Or.inl (mr_34 _ (List.mem_of_getElem? (i := 13) rfl)), (mr_34 _ (List.mem_of_getElem? (i := 14) rfl)), (mr_34 _ (List.mem_of_getElem? (i := 15) rfl)), _, rfl, rfl⟩
theorem ln_2_62 : jLV RX2 62 M_xPrinter_writeChoice 1 2 := ⟨lk_xPrinter_writeChoice, Or.inl (mr_34 _ (List.mem_of_getElem? (i := 16) rfl)), (mr_34 _ (List.mem_of_getElem? (i := 17) rfl)), (mr_34 _ (List.mem_of_getElem? (i := 18) rfl)), _, rfl, rfl⟩
theorem jdk_2_65 : jMa RX2 65 := ⟨(mr_33 _ (List.mem_of_getElem? (i := 17) rfl)), (mr_33 _ (List.mem_of_getElem? (i := 18) rfl)), (mr_11 _ (List.mem_of_getElem? (i := 2) rfl)), (mr_33 _ (List.mem_of_getElem? (i := 19) rfl))⟩
theorem ln_2_71 : jLV RX2 71 M_xPrinter_write 1 2 := ⟨lk_xPrinter_write, Or.inl (mr_33 _ (List.mem_of_getElem? (i := 22) rfl)), (mr_33 _ (List.mem_of_getElem? (i := 23) rfl)), (mr_34 _ (List.mem_of_getElem? (i := 0) rfl)), _, rfl, rfl⟩
theorem ln_2_78 : jLV RX2 78 M_xTerms_typeOf 1 6 := ⟨lk_xTerms_typeOf, Or.inl (mr_35 _ (List.mem_of_getElem? (i := 0) rfl)), (mr_16 _ (List.mem_of_getElem? (i := 10) rfl)), (mr_16 _ (List.mem_of_getElem? (i := 11) rfl)), _, rfl, rfl⟩
theorem ln_2_81 : jLV RX2 81 M_xPrinter_writeType 1 2 := ⟨lk_xPrinter_writeType, Or.inl (mr_35 _ (List.mem_of_getElem? (i := 1) rfl)), (mr_35 _ (List.mem_of_getElem? (i := 2) rfl)), (mr_35 _ (List.mem_of_getElem? (i := 3) rfl)), _, rfl, rfl⟩
theorem ln_2_84 : jLV RX2 84 M_xTerms_firstOf 1 6 := ⟨lk_xTerms_firstOf, Or.inl (mr_34 _ (List.mem_of_getElem? (i := 20) rfl)), (mr_16 _ (List.mem_of_getElem? (i := 14) rfl)), (mr_16 _ (List.mem_of_getElem? (i := 15) rfl)), _, rfl, rfl⟩
theorem ln_2_87 : jLV RX2 87 M_xTerms_secondOf 1 6 := ⟨lk_xTerms_secondOf, Or.inl (mr_34 _ (List.mem_of_getElem? (i := 21) rfl)), (mr_16 _ (List.mem_of_getElem? (i := 18) rfl)), (mr_16 _ (List.mem_of_getElem? (i := 19) rfl)), _, rfl, rfl⟩
theorem ln_2_90 : jLV RX2 90 M_xTerms_thirdOf 1 6 := ⟨lk_xTerms_thirdOf, Or.inl (mr_34 _ (List.mem_of_getElem? (i := 22) rfl)), (mr_16 _ (List.mem_of_getElem? (i := 22) rfl)), (mr_16 _ (List.mem_of_getElem? (i := 23) rfl)), _, rfl, rfl⟩
theorem ln_2_93 : jLV RX2 93 M_xTypes_has 1 7 := ⟨lk_xTypes_has, Or.inl (mr_35 _ (List.mem_of_getElem? (i := 5) rfl)), (mr_7 _ (List.mem_of_getElem? (i := 23) rfl)), (mr_8 _ (List.mem_of_getElem? (i := 0) rfl)), _, rfl, rfl⟩
theorem ln_2_99 : jLV RX2 99 M_xTypes_fromOf 1 7 := ⟨lk_xTypes_fromOf, Or.inl (mr_35 _ (List.mem_of_getElem? (i := 6) rfl)), (mr_9 _ (List.mem_of_getElem? (i := 7) rfl)), (mr_9 _ (List.mem_of_getElem? (i := 8) rfl)), _, rfl, rfl⟩
theorem ln_2_102 : jLV RX2 102 M_xTypes_toOf 1 7 := ⟨lk_xTypes_toOf, Or.inl (mr_35 _ (List.mem_of_getElem? (i := 7) rfl)), (mr_9 _ (List.mem_of_getElem? (i := 11) rfl)), (mr_9 _ (List.mem_of_getElem? (i := 12) rfl)), _, rfl, rfl⟩
theorem fl_3_9 : jFld RX3 9 3 0 := ⟨RX3, TX3, _, rfl, inlX3, by decide, (mr_5 _ (List.mem_of_getElem? (i := 1) rfl))⟩
theorem pfl_3_9 : jFldP RX3 9 3 0 true (tyX3 0) := ⟨RX3, TX3, _, tyX3, rfl, inlX3, by decide, (mr_5 _ (List.mem_of_getElem? (i := 1) rfl)), tyX3_ok, nmX3, rfl, tyX3_ok 0 (by decide), rfl⟩
theorem ln_3_15 : jLV RX3 15 M_xTerms_isFree 2 6 := ⟨lk_xTerms_isFree, Or.inl (mr_26 _ (List.mem_of_getElem? (i := 4) rfl)), (mr_18 _ (List.mem_of_getElem? (i := 3) rfl)), (mr_18 _ (List.mem_of_getElem? (i := 4) rfl)), _, rfl, rfl⟩
theorem ln_3_21 : jLV RX3 21 M_xTerms_kindOf 1 6 := ⟨lk_xTerms_kindOf, Or.inl (mr_26 _ (List.mem_of_getElem? (i := 5) rfl)), (mr_15 _ (List.mem_of_getElem? (i := 20) rfl)), (mr_15 _ (List.mem_of_getElem? (i := 21) rfl)), _, rfl, rfl⟩
theorem ln_3_25 : jLV RX3 25 M_xPutter_intoFunction 3 3 := ⟨lk_xPutter_intoFunction, Or.inl (mr_26 _ (List.mem_of_getElem? (i := 6) rfl)), (mr_26 _ (List.mem_of_getElem? (i := 7) rfl)), (mr_26 _ (List.mem_of_getElem? (i := 8) rfl)), _, rfl, rfl⟩
theorem ln_3_29 : jLV RX3 29 M_xPutter_intoLet 3 3 := ⟨lk_xPutter_intoLet, Or.inl (mr_26 _ (List.mem_of_getElem? (i := 9) rfl)), (mr_26 _ (List.mem_of_getElem? (i := 10) rfl)), (mr_26 _ (List.mem_of_getElem? (i := 11) rfl)), _, rfl, rfl⟩
theorem ln_3_32 : jLV RX3 32 M_xPutter_intoParts 3 3 := ⟨lk_xPutter_intoParts, Or.inl (mr_26 _ (List.mem_of_getElem? (i := 12) rfl)), (mr_26 _ (List.mem_of_getElem? (i := 13) rfl)), (mr_26 _ (List.mem_of_getElem? (i := 14) rfl)), _, rfl, rfl⟩
theorem ln_3_35 : jLV RX3 35 M_xTerms_firstOf 1 6 := ⟨lk_xTerms_firstOf, Or.inl (mr_26 _ (List.mem_of_getElem? (i := 19) rfl)), (mr_16 _ (List.mem_of_getElem? (i := 14) rfl)), (mr_16 _ (List.mem_of_getElem? (i := 15) rfl)), _, rfl, rfl⟩
theorem ln_3_38 : jLV RX3 38 M_xPutter_into 3 3 := ⟨lk_xPutter_into, Or.inl (mr_26 _ (List.mem_of_getElem? (i := 16) rfl)), (mr_26 _ (List.mem_of_getElem? (i := 1) rfl)), (mr_26 _ (List.mem_of_getElem? (i := 2) rfl)), _, rfl, rfl⟩
theorem ln_3_41 : jLV RX3 41 M_xTerms_secondOf 1 6 := ⟨lk_xTerms_secondOf, Or.inl (mr_27 _ (List.mem_of_getElem? (i := 10) rfl)), (mr_16 _ (List.mem_of_getElem? (i := 18) rfl)), (mr_16 _ (List.mem_of_getElem? (i := 19) rfl)), _, rfl, rfl⟩
theorem ln_3_44 : jLV RX3 44 M_xTerms_thirdOf 1 6 := ⟨lk_xTerms_thirdOf, Or.inl (mr_27 _ (List.mem_of_getElem? (i := 12) rfl)), (mr_16 _ (List.mem_of_getElem? (i := 22) rfl)), (mr_16 _ (List.mem_of_getElem? (i := 23) rfl)), _, rfl, rfl⟩
theorem ln_3_47 : jLV RX3 47 M_xTerms_letterOf 1 6 := ⟨lk_xTerms_letterOf, Or.inl (mr_26 _ (List.mem_of_getElem? (i := 20) rfl)), (mr_16 _ (List.mem_of_getElem? (i := 6) rfl)), (mr_16 _ (List.mem_of_getElem? (i := 7) rfl)), _, rfl, rfl⟩
theorem ln_3_50 : jLV RX3 50 M_xTerms_withParts 5 6 := ⟨lk_xTerms_withParts, Or.inl (mr_27 _ (List.mem_of_getElem? (i := 4) rfl)), (mr_27 _ (List.mem_of_getElem? (i := 5) rfl)), (mr_27 _ (List.mem_of_getElem? (i := 6) rfl)), _, rfl, rfl⟩
theorem ln_3_54 : jLV RX3 54 M_xPutter_letterFor 3 3 := ⟨lk_xPutter_letterFor, Or.inl (mr_26 _ (List.mem_of_getElem? (i := 21) rfl)), (mr_26 _ (List.mem_of_getElem? (i := 22) rfl)), (mr_26 _ (List.mem_of_getElem? (i := 23) rfl)), _, rfl, rfl⟩
theorem ln_3_57 : jLV RX3 57 M_xPutter_intoBody 5 3 := ⟨lk_xPutter_intoBody, Or.inl (mr_27 _ (List.mem_of_getElem? (i := 1) rfl)), (mr_27 _ (List.mem_of_getElem? (i := 2) rfl)), (mr_27 _ (List.mem_of_getElem? (i := 3) rfl)), _, rfl, rfl⟩
theorem ln_3_60 : jLV RX3 60 M_xTerms_newName 1 6 := ⟨lk_xTerms_newName, Or.inl (mr_26 _ (List.mem_of_getElem? (i := 17) rfl)), (mr_13 _ (List.mem_of_getElem? (i := 14) rfl)), (mr_13 _ (List.mem_of_getElem? (i := 15) rfl)), _, rfl, rfl⟩
theorem fl_4_9 : jFld RX4 9 4 2 := ⟨RX4, TX4, _, rfl, inlX4, by decide, (mr_6 _ (List.mem_of_getElem? (i := 2) rfl))⟩
theorem pfl_4_9 : jFldP RX4 9 4 2 true (tyX4 2) := ⟨RX4, TX4, _, tyX4, rfl, inlX4, by decide, (mr_6 _ (List.mem_of_getElem? (i := 2) rfl)), tyX4_ok, nmX4, rfl, tyX4_ok 2 (by decide), rfl⟩
theorem fl_4_15 : jFld RX4 15 4 0 := ⟨RX4, TX4, _, rfl, inlX4, by decide, (mr_6 _ (List.mem_of_getElem? (i := 3) rfl))⟩
theorem pfl_4_15 : jFldP RX4 15 4 0 true (tyX4 0) := ⟨RX4, TX4, _, tyX4, rfl, inlX4, by decide, (mr_6 _ (List.mem_of_getElem? (i := 3) rfl)), tyX4_ok, nmX4, rfl, tyX4_ok 0 (by decide), rfl⟩
theorem fl_4_19 : jFld RX4 19 4 1 := ⟨RX4, TX4, _, rfl, inlX4, by decide, (mr_6 _ (List.mem_of_getElem? (i := 4) rfl))⟩
theorem pfl_4_19 : jFldP RX4 19 4 1 true (tyX4 1) := ⟨RX4, TX4, _, tyX4, rfl, inlX4, by decide, (mr_6 _ (List.mem_of_getElem? (i := 4) rfl)), tyX4_ok, nmX4, rfl, tyX4_ok 1 (by decide), rfl⟩
theorem fl_4_23 : jFld RX4 23 4 3 := ⟨RX4, TX4, _, rfl, inlX4, by decide, (mr_6 _ (List.mem_of_getElem? (i := 5) rfl))⟩
theorem pfl_4_23 : jFldP RX4 23 4 3 false (tyX4 3) := ⟨RX4, TX4, _, tyX4, rfl, inlX4, by decide, (mr_6 _ (List.mem_of_getElem? (i := 5) rfl)), tyX4_ok, nmX4, rfl, tyX4_ok 3 (by decide), rfl⟩
theorem fl_4_27 : jFld RX4 27 4 4 := ⟨RX4, TX4, _, rfl, inlX4, by decide, (mr_6 _ (List.mem_of_getElem? (i := 6) rfl))⟩
theorem pfl_4_27 : jFldP RX4 27 4 4 false (tyX4 4) := ⟨RX4, TX4, _, tyX4, rfl, inlX4, by decide, (mr_6 _ (List.mem_of_getElem? (i := 6) rfl)), tyX4_ok, nmX4, rfl, tyX4_ok 4 (by decide), rfl⟩
theorem ln_4_30 : jLV RX4 30 M_xReader_add 1 4 := ⟨lk_xReader_add, Or.inl (mr_37 _ (List.mem_of_getElem? (i := 7) rfl)), (mr_37 _ (List.mem_of_getElem? (i := 8) rfl)), (mr_37 _ (List.mem_of_getElem? (i := 9) rfl)), _, rfl, rfl⟩
theorem ln_4_34 : jLV RX4 34 M_xPrinter_printLength 0 2 := ⟨lk_xPrinter_printLength, Or.inl (mr_38 _ (List.mem_of_getElem? (i := 0) rfl)), (mr_38 _ (List.mem_of_getElem? (i := 1) rfl)), (mr_38 _ (List.mem_of_getElem? (i := 2) rfl)), _, rfl, rfl⟩
theorem ln_4_40 : jLV RX4 40 M_xPrinter_byteAt 1 2 := ⟨lk_xPrinter_byteAt, Or.inl (mr_38 _ (List.mem_of_getElem? (i := 4) rfl)), (mr_36 _ (List.mem_of_getElem? (i := 16) rfl)), (mr_36 _ (List.mem_of_getElem? (i := 17) rfl)), _, rfl, rfl⟩
theorem ln_4_44 : jLV RX4 44 M_xTerms_total 0 6 := ⟨lk_xTerms_total, Or.inl (mr_38 _ (List.mem_of_getElem? (i := 17) rfl)), (mr_25 _ (List.mem_of_getElem? (i := 22) rfl)), (mr_25 _ (List.mem_of_getElem? (i := 23) rfl)), _, rfl, rfl⟩
theorem ln_4_49 : jLV RX4 49 M_xTypes_total 0 7 := ⟨lk_xTypes_total, Or.inl (mr_38 _ (List.mem_of_getElem? (i := 18) rfl)), (mr_19 _ (List.mem_of_getElem? (i := 1) rfl)), (mr_19 _ (List.mem_of_getElem? (i := 2) rfl)), _, rfl, rfl⟩
theorem ln_4_52 : jLV RX4 52 M_xReader_termHere 1 4 := ⟨lk_xReader_termHere, Or.inl (mr_38 _ (List.mem_of_getElem? (i := 19) rfl)), (mr_38 _ (List.mem_of_getElem? (i := 20) rfl)), (mr_38 _ (List.mem_of_getElem? (i := 21) rfl)), _, rfl, rfl⟩
theorem ln_4_55 : jLV RX4 55 M_xReader_wrongHere 0 4 := ⟨lk_xReader_wrongHere, Or.inl (mr_39 _ (List.mem_of_getElem? (i := 9) rfl)), (mr_39 _ (List.mem_of_getElem? (i := 10) rfl)), (mr_39 _ (List.mem_of_getElem? (i := 11) rfl)), _, rfl, rfl⟩
theorem ln_4_58 : jLV RX4 58 M_xTerms_cutTo 1 6 := ⟨lk_xTerms_cutTo, Or.inl (mr_41 _ (List.mem_of_getElem? (i := 19) rfl)), (mr_27 _ (List.mem_of_getElem? (i := 18) rfl)), (mr_27 _ (List.mem_of_getElem? (i := 19) rfl)), _, rfl, rfl⟩
theorem ln_4_61 : jLV RX4 61 M_xTypes_cutTo 1 7 := ⟨lk_xTypes_cutTo, Or.inl (mr_41 _ (List.mem_of_getElem? (i := 20) rfl)), (mr_21 _ (List.mem_of_getElem? (i := 14) rfl)), (mr_21 _ (List.mem_of_getElem? (i := 15) rfl)), _, rfl, rfl⟩
theorem ln_4_62 : jLV RX4 62 M_xReader_byteHere 0 4 := ⟨lk_xReader_byteHere, Or.inl (mr_38 _ (List.mem_of_getElem? (i := 23) rfl)), (mr_39 _ (List.mem_of_getElem? (i := 0) rfl)), (mr_39 _ (List.mem_of_getElem? (i := 1) rfl)), _, rfl, rfl⟩
theorem ln_4_65 : jLS RX4 65 M_xReader_beginsTerm 1 := ⟨lk_xReader_beginsTerm, (mr_39 _ (List.mem_of_getElem? (i := 3) rfl)), (mr_39 _ (List.mem_of_getElem? (i := 4) rfl))⟩
theorem ln_4_69 : jLV RX4 69 M_xReader_functionHere 1 4 := ⟨lk_xReader_functionHere, Or.inl (mr_39 _ (List.mem_of_getElem? (i := 13) rfl)), (mr_39 _ (List.mem_of_getElem? (i := 14) rfl)), (mr_39 _ (List.mem_of_getElem? (i := 15) rfl)), _, rfl, rfl⟩
theorem ln_4_72 : jLV RX4 72 M_xReader_pairHere 1 4 := ⟨lk_xReader_pairHere, Or.inl (mr_39 _ (List.mem_of_getElem? (i := 16) rfl)), (mr_39 _ (List.mem_of_getElem? (i := 17) rfl)), (mr_39 _ (List.mem_of_getElem? (i := 18) rfl)), _, rfl, rfl⟩
theorem ln_4_75 : jLV RX4 75 M_xReader_letHere 1 4 := ⟨lk_xReader_letHere, Or.inl (mr_39 _ (List.mem_of_getElem? (i := 19) rfl)), (mr_39 _ (List.mem_of_getElem? (i := 20) rfl)), (mr_39 _ (List.mem_of_getElem? (i := 21) rfl)), _, rfl, rfl⟩
theorem ln_4_78 : jLV RX4 78 M_xReader_choiceHere 1 4 := ⟨lk_xReader_choiceHere, Or.inl (mr_39 _ (List.mem_of_getElem? (i := 22) rfl)), (mr_39 _ (List.mem_of_getElem? (i := 23) rfl)), (mr_40 _ (List.mem_of_getElem? (i := 0) rfl)), _, rfl, rfl⟩
theorem ln_4_81 : jLN RX4 81 M_xc_isLetter 1 := ⟨lk_xc_isLetter, ⟨"CoreTerms", List.mem_of_getElem? (i := 7) rfl⟩, (mr_9 _ (List.mem_of_getElem? (i := 23) rfl))⟩
theorem ln_4_84 : jLV RX4 84 M_xReader_nameHere 0 4 := ⟨lk_xReader_nameHere, Or.inl (mr_40 _ (List.mem_of_getElem? (i := 1) rfl)), (mr_40 _ (List.mem_of_getElem? (i := 2) rfl)), (mr_40 _ (List.mem_of_getElem? (i := 3) rfl)), _, rfl, rfl⟩
theorem ln_4_87 : jLV RX4 87 M_xReader_numberHere 0 4 := ⟨lk_xReader_numberHere, Or.inl (mr_40 _ (List.mem_of_getElem? (i := 6) rfl)), (mr_40 _ (List.mem_of_getElem? (i := 7) rfl)), (mr_40 _ (List.mem_of_getElem? (i := 8) rfl)), _, rfl, rfl⟩
theorem ln_4_90 : jLV RX4 90 M_xTerms_newName 1 6 := ⟨lk_xTerms_newName, Or.inl (mr_40 _ (List.mem_of_getElem? (i := 5) rfl)), (mr_13 _ (List.mem_of_getElem? (i := 14) rfl)), (mr_13 _ (List.mem_of_getElem? (i := 15) rfl)), _, rfl, rfl⟩
theorem ln_4_93 : jLS RX4 93 M_xReader_isDigit 1 := ⟨lk_xReader_isDigit, (mr_39 _ (List.mem_of_getElem? (i := 6) rfl)), (mr_39 _ (List.mem_of_getElem? (i := 7) rfl))⟩
theorem ln_4_96 : jLV RX4 96 M_xTerms_newNumber 1 6 := ⟨lk_xTerms_newNumber, Or.inl (mr_40 _ (List.mem_of_getElem? (i := 11) rfl)), (mr_10 _ (List.mem_of_getElem? (i := 17) rfl)), (mr_10 _ (List.mem_of_getElem? (i := 18) rfl)), _, rfl, rfl⟩
theorem ln_4_101 : jLV RX4 101 M_xReader_letterBehind 1 4 := ⟨lk_xReader_letterBehind, Or.inl (mr_40 _ (List.mem_of_getElem? (i := 22) rfl)), (mr_40 _ (List.mem_of_getElem? (i := 23) rfl)), (mr_41 _ (List.mem_of_getElem? (i := 0) rfl)), _, rfl, rfl⟩
theorem ln_4_104 : jLV RX4 104 M_xReader_pass 1 4 := ⟨lk_xReader_pass, Or.inl (mr_40 _ (List.mem_of_getElem? (i := 16) rfl)), (mr_40 _ (List.mem_of_getElem? (i := 17) rfl)), (mr_40 _ (List.mem_of_getElem? (i := 18) rfl)), _, rfl, rfl⟩
theorem ln_4_107 : jLV RX4 107 M_xReader_typeHere 1 4 := ⟨lk_xReader_typeHere, Or.inl (mr_41 _ (List.mem_of_getElem? (i := 2) rfl)), (mr_41 _ (List.mem_of_getElem? (i := 3) rfl)), (mr_41 _ (List.mem_of_getElem? (i := 4) rfl)), _, rfl, rfl⟩
theorem ln_4_110 : jLV RX4 110 M_xReader_termBehind 2 4 := ⟨lk_xReader_termBehind, Or.inl (mr_40 _ (List.mem_of_getElem? (i := 13) rfl)), (mr_40 _ (List.mem_of_getElem? (i := 14) rfl)), (mr_40 _ (List.mem_of_getElem? (i := 15) rfl)), _, rfl, rfl⟩
theorem ln_4_114 : jLV RX4 114 M_xTerms_newFunction 3 6 := ⟨lk_xTerms_newFunction, Or.inl (mr_41 _ (List.mem_of_getElem? (i := 14) rfl)), (mr_14 _ (List.mem_of_getElem? (i := 3) rfl)), (mr_14 _ (List.mem_of_getElem? (i := 4) rfl)), _, rfl, rfl⟩
theorem ln_4_118 : jLV RX4 118 M_xTerms_newJoined 4 6 := ⟨lk_xTerms_newJoined, Or.inl (mr_40 _ (List.mem_of_getElem? (i := 20) rfl)), (mr_15 _ (List.mem_of_getElem? (i := 7) rfl)), (mr_15 _ (List.mem_of_getElem? (i := 8) rfl)), _, rfl, rfl⟩
theorem ln_4_122 : jLV RX4 122 M_xTerms_newLet 3 6 := ⟨lk_xTerms_newLet, Or.inl (mr_41 _ (List.mem_of_getElem? (i := 16) rfl)), (mr_14 _ (List.mem_of_getElem? (i := 19) rfl)), (mr_14 _ (List.mem_of_getElem? (i := 20) rfl)), _, rfl, rfl⟩
theorem ln_4_125 : jLS RX4 125 M_xReader_beginsType 1 := ⟨lk_xReader_beginsType, (mr_41 _ (List.mem_of_getElem? (i := 6) rfl)), (mr_41 _ (List.mem_of_getElem? (i := 7) rfl))⟩
theorem ln_4_128 : jLV RX4 128 M_xReader_typeBehind 2 4 := ⟨lk_xReader_typeBehind, Or.inl (mr_41 _ (List.mem_of_getElem? (i := 9) rfl)), (mr_41 _ (List.mem_of_getElem? (i := 10) rfl)), (mr_41 _ (List.mem_of_getElem? (i := 11) rfl)), _, rfl, rfl⟩
theorem ln_4_131 : jLV RX4 131 M_xTypes_arrowOf 2 7 := ⟨lk_xTypes_arrowOf, Or.inl (mr_41 _ (List.mem_of_getElem? (i := 12) rfl)), (mr_8 _ (List.mem_of_getElem? (i := 3) rfl)), (mr_8 _ (List.mem_of_getElem? (i := 4) rfl)), _, rfl, rfl⟩
theorem fl_5_9 : jFld RX5 9 5 0 := ⟨RX5, TX5, _, rfl, inlX5, by decide, (mr_5 _ (List.mem_of_getElem? (i := 6) rfl))⟩
theorem pfl_5_9 : jFldP RX5 9 5 0 true (tyX5 0) := ⟨RX5, TX5, _, tyX5, rfl, inlX5, by decide, (mr_5 _ (List.mem_of_getElem? (i := 6) rfl)), tyX5_ok, nmX5, rfl, tyX5_ok 0 (by decide), rfl⟩
theorem fl_5_15 : jFld RX5 15 5 1 := ⟨RX5, TX5, _, rfl, inlX5, by decide, (mr_5 _ (List.mem_of_getElem? (i := 7) rfl))⟩
theorem pfl_5_15 : jFldP RX5 15 5 1 true (tyX5 1) := ⟨RX5, TX5, _, tyX5, rfl, inlX5, by decide, (mr_5 _ (List.mem_of_getElem? (i := 7) rfl)), tyX5_ok, nmX5, rfl, tyX5_ok 1 (by decide), rfl⟩
theorem ln_5_19 : jLV RX5 19 M_xTerms_kindOf 1 6 := ⟨lk_xTerms_kindOf, Or.inl (mr_29 _ (List.mem_of_getElem? (i := 12) rfl)), (mr_15 _ (List.mem_of_getElem? (i := 20) rfl)), (mr_15 _ (List.mem_of_getElem? (i := 21) rfl)), _, rfl, rfl⟩
theorem ln_5_25 : jLV RX5 25 M_xStepper_stepOfCall 1 5 := ⟨lk_xStepper_stepOfCall, Or.inl (mr_29 _ (List.mem_of_getElem? (i := 13) rfl)), (mr_29 _ (List.mem_of_getElem? (i := 14) rfl)), (mr_29 _ (List.mem_of_getElem? (i := 15) rfl)), _, rfl, rfl⟩
theorem ln_5_28 : jLV RX5 28 M_xTerms_secondOf 1 6 := ⟨lk_xTerms_secondOf, Or.inl (mr_29 _ (List.mem_of_getElem? (i := 16) rfl)), (mr_16 _ (List.mem_of_getElem? (i := 18) rfl)), (mr_16 _ (List.mem_of_getElem? (i := 19) rfl)), _, rfl, rfl⟩
theorem ln_5_31 : jLV RX5 31 M_xTerms_letterOf 1 6 := ⟨lk_xTerms_letterOf, Or.inl (mr_29 _ (List.mem_of_getElem? (i := 17) rfl)), (mr_16 _ (List.mem_of_getElem? (i := 6) rfl)), (mr_16 _ (List.mem_of_getElem? (i := 7) rfl)), _, rfl, rfl⟩
theorem ln_5_34 : jLV RX5 34 M_xTerms_firstOf 1 6 := ⟨lk_xTerms_firstOf, Or.inl (mr_29 _ (List.mem_of_getElem? (i := 18) rfl)), (mr_16 _ (List.mem_of_getElem? (i := 14) rfl)), (mr_16 _ (List.mem_of_getElem? (i := 15) rfl)), _, rfl, rfl⟩
theorem ln_5_37 : jLV RX5 37 M_xPutter_into 3 3 := ⟨lk_xPutter_into, Or.inr ⟨"CoreTerms", List.mem_of_getElem? (i := 5) rfl⟩, (mr_26 _ (List.mem_of_getElem? (i := 1) rfl)), (mr_26 _ (List.mem_of_getElem? (i := 2) rfl)), _, rfl, rfl⟩
theorem ln_5_43 : jLV RX5 43 M_xStepper_stepOfSum 1 5 := ⟨lk_xStepper_stepOfSum, Or.inl (mr_29 _ (List.mem_of_getElem? (i := 19) rfl)), (mr_29 _ (List.mem_of_getElem? (i := 20) rfl)), (mr_29 _ (List.mem_of_getElem? (i := 21) rfl)), _, rfl, rfl⟩
theorem ln_5_46 : jLV RX5 46 M_xStepper_stepOfChoice 1 5 := ⟨lk_xStepper_stepOfChoice, Or.inl (mr_29 _ (List.mem_of_getElem? (i := 22) rfl)), (mr_29 _ (List.mem_of_getElem? (i := 23) rfl)), (mr_30 _ (List.mem_of_getElem? (i := 0) rfl)), _, rfl, rfl⟩
theorem ln_5_49 : jLV RX5 49 M_xStepper_stepOfFirst 1 5 := ⟨lk_xStepper_stepOfFirst, Or.inl (mr_30 _ (List.mem_of_getElem? (i := 2) rfl)), (mr_30 _ (List.mem_of_getElem? (i := 3) rfl)), (mr_30 _ (List.mem_of_getElem? (i := 4) rfl)), _, rfl, rfl⟩
theorem ln_5_52 : jLV RX5 52 M_xTerms_numberOf 1 6 := ⟨lk_xTerms_numberOf, Or.inl (mr_30 _ (List.mem_of_getElem? (i := 6) rfl)), (mr_16 _ (List.mem_of_getElem? (i := 2) rfl)), (mr_16 _ (List.mem_of_getElem? (i := 3) rfl)), _, rfl, rfl⟩
theorem ln_5_55 : jLV RX5 55 M_xTerms_newNumber 1 6 := ⟨lk_xTerms_newNumber, Or.inl (mr_30 _ (List.mem_of_getElem? (i := 12) rfl)), (mr_10 _ (List.mem_of_getElem? (i := 17) rfl)), (mr_10 _ (List.mem_of_getElem? (i := 18) rfl)), _, rfl, rfl⟩
theorem ln_5_58 : jLV RX5 58 M_xStepper_stepOf 1 5 := ⟨lk_xStepper_stepOf, Or.inl (mr_30 _ (List.mem_of_getElem? (i := 9) rfl)), (mr_29 _ (List.mem_of_getElem? (i := 9) rfl)), (mr_29 _ (List.mem_of_getElem? (i := 10) rfl)), _, rfl, rfl⟩
theorem ln_5_61 : jLV RX5 61 M_xTerms_withParts 5 6 := ⟨lk_xTerms_withParts, Or.inl (mr_30 _ (List.mem_of_getElem? (i := 10) rfl)), (mr_27 _ (List.mem_of_getElem? (i := 5) rfl)), (mr_27 _ (List.mem_of_getElem? (i := 6) rfl)), _, rfl, rfl⟩
theorem ln_5_65 : jLV RX5 65 M_xTerms_thirdOf 1 6 := ⟨lk_xTerms_thirdOf, Or.inl (mr_30 _ (List.mem_of_getElem? (i := 7) rfl)), (mr_16 _ (List.mem_of_getElem? (i := 22) rfl)), (mr_16 _ (List.mem_of_getElem? (i := 23) rfl)), _, rfl, rfl⟩
theorem fl_6_9 : jFld RX6 9 6 1 := ⟨RX6, TX6, _, rfl, inlX6, by decide, (mr_3 _ (List.mem_of_getElem? (i := 15) rfl))⟩
theorem pfl_6_9 : jFldP RX6 9 6 1 true (tyX6 1) := ⟨RX6, TX6, _, tyX6, rfl, inlX6, by decide, (mr_3 _ (List.mem_of_getElem? (i := 15) rfl)), tyX6_ok, nmX6, rfl, tyX6_ok 1 (by decide), rfl⟩
theorem fl_6_15 : jFld RX6 15 6 2 := ⟨RX6, TX6, _, rfl, inlX6, by decide, (mr_3 _ (List.mem_of_getElem? (i := 16) rfl))⟩
theorem pfl_6_15 : jFldP RX6 15 6 2 true (tyX6 2) := ⟨RX6, TX6, _, tyX6, rfl, inlX6, by decide, (mr_3 _ (List.mem_of_getElem? (i := 16) rfl)), tyX6_ok, nmX6, rfl, tyX6_ok 2 (by decide), rfl⟩
theorem fl_6_18 : jFld RX6 18 6 3 := ⟨RX6, TX6, _, rfl, inlX6, by decide, (mr_3 _ (List.mem_of_getElem? (i := 17) rfl))⟩
theorem pfl_6_18 : jFldP RX6 18 6 3 true (tyX6 3) := ⟨RX6, TX6, _, tyX6, rfl, inlX6, by decide, (mr_3 _ (List.mem_of_getElem? (i := 17) rfl)), tyX6_ok, nmX6, rfl, tyX6_ok 3 (by decide), rfl⟩
theorem fl_6_21 : jFld RX6 21 6 4 := ⟨RX6, TX6, _, rfl, inlX6, by decide, (mr_3 _ (List.mem_of_getElem? (i := 18) rfl))⟩
theorem pfl_6_21 : jFldP RX6 21 6 4 true (tyX6 4) := ⟨RX6, TX6, _, tyX6, rfl, inlX6, by decide, (mr_3 _ (List.mem_of_getElem? (i := 18) rfl)), tyX6_ok, nmX6, rfl, tyX6_ok 4 (by decide), rfl⟩
theorem fl_6_24 : jFld RX6 24 6 5 := ⟨RX6, TX6, _, rfl, inlX6, by decide, (mr_3 _ (List.mem_of_getElem? (i := 19) rfl))⟩
theorem pfl_6_24 : jFldP RX6 24 6 5 true (tyX6 5) := ⟨RX6, TX6, _, tyX6, rfl, inlX6, by decide, (mr_3 _ (List.mem_of_getElem? (i := 19) rfl)), tyX6_ok, nmX6, rfl, tyX6_ok 5 (by decide), rfl⟩
theorem fl_6_27 : jFld RX6 27 6 6 := ⟨RX6, TX6, _, rfl, inlX6, by decide, (mr_3 _ (List.mem_of_getElem? (i := 20) rfl))⟩
theorem pfl_6_27 : jFldP RX6 27 6 6 true (tyX6 6) := ⟨RX6, TX6, _, tyX6, rfl, inlX6, by decide, (mr_3 _ (List.mem_of_getElem? (i := 20) rfl)), tyX6_ok, nmX6, rfl, tyX6_ok 6 (by decide), rfl⟩
theorem fl_6_30 : jFld RX6 30 6 7 := ⟨RX6, TX6, _, rfl, inlX6, by decide, (mr_3 _ (List.mem_of_getElem? (i := 21) rfl))⟩
theorem pfl_6_30 : jFldP RX6 30 6 7 true (tyX6 7) := ⟨RX6, TX6, _, tyX6, rfl, inlX6, by decide, (mr_3 _ (List.mem_of_getElem? (i := 21) rfl)), tyX6_ok, nmX6, rfl, tyX6_ok 7 (by decide), rfl⟩
theorem fl_6_33 : jFld RX6 33 6 8 := ⟨RX6, TX6, _, rfl, inlX6, by decide, (mr_3 _ (List.mem_of_getElem? (i := 22) rfl))⟩
theorem pfl_6_33 : jFldP RX6 33 6 8 true (tyX6 8) := ⟨RX6, TX6, _, tyX6, rfl, inlX6, by decide, (mr_3 _ (List.mem_of_getElem? (i := 22) rfl)), tyX6_ok, nmX6, rfl, tyX6_ok 8 (by decide), rfl⟩
theorem fl_6_36 : jFld RX6 36 6 9 := ⟨RX6, TX6, _, rfl, inlX6, by decide, (mr_3 _ (List.mem_of_getElem? (i := 23) rfl))⟩
theorem pfl_6_36 : jFldP RX6 36 6 9 true (tyX6 9) := ⟨RX6, TX6, _, tyX6, rfl, inlX6, by decide, (mr_3 _ (List.mem_of_getElem? (i := 23) rfl)), tyX6_ok, nmX6, rfl, tyX6_ok 9 (by decide), rfl⟩
theorem fl_6_39 : jFld RX6 39 6 10 := ⟨RX6, TX6, _, rfl, inlX6, by decide, (mr_4 _ (List.mem_of_getElem? (i := 0) rfl))⟩
theorem pfl_6_39 : jFldP RX6 39 6 10 true (tyX6 10) := ⟨RX6, TX6, _, tyX6, rfl, inlX6, by decide, (mr_4 _ (List.mem_of_getElem? (i := 0) rfl)), tyX6_ok, nmX6, rfl, tyX6_ok 10 (by decide), rfl⟩
theorem fl_6_42 : jFld RX6 42 6 11 := ⟨RX6, TX6, _, rfl, inlX6, by decide, (mr_4 _ (List.mem_of_getElem? (i := 1) rfl))⟩
theorem pfl_6_42 : jFldP RX6 42 6 11 true (tyX6 11) := ⟨RX6, TX6, _, tyX6, rfl, inlX6, by decide, (mr_4 _ (List.mem_of_getElem? (i := 1) rfl)), tyX6_ok, nmX6, rfl, tyX6_ok 11 (by decide), rfl⟩
theorem fl_6_45 : jFld RX6 45 6 0 := ⟨RX6, TX6, _, rfl, inlX6, by decide, (mr_4 _ (List.mem_of_getElem? (i := 2) rfl))⟩
theorem pfl_6_45 : jFldP RX6 45 6 0 true (tyX6 0) := ⟨RX6, TX6, _, tyX6, rfl, inlX6, by decide, (mr_4 _ (List.mem_of_getElem? (i := 2) rfl)), tyX6_ok, nmX6, rfl, tyX6_ok 0 (by decide), rfl⟩
theorem fl_6_49 : jFld RX6 49 6 12 := ⟨RX6, TX6, _, rfl, inlX6, by decide, (mr_4 _ (List.mem_of_getElem? (i := 3) rfl))⟩
theorem pfl_6_49 : jFldP RX6 49 6 12 false (tyX6 12) := ⟨RX6, TX6, _, tyX6, rfl, inlX6, by decide, (mr_4 _ (List.mem_of_getElem? (i := 3) rfl)), tyX6_ok, nmX6, rfl, tyX6_ok 12 (by decide), rfl⟩
theorem ln_6_53 : jLV RX6 53 M_xTerms_has 1 6 := ⟨lk_xTerms_has, Or.inl (mr_11 _ (List.mem_of_getElem? (i := 8) rfl)), (mr_11 _ (List.mem_of_getElem? (i := 9) rfl)), (mr_11 _ (List.mem_of_getElem? (i := 10) rfl)), _, rfl, rfl⟩
theorem ln_6_57 : jLV RX6 57 M_xTerms_freeLettersOf 1 6 := ⟨lk_xTerms_freeLettersOf, Or.inl (mr_11 _ (List.mem_of_getElem? (i := 19) rfl)), (mr_11 _ (List.mem_of_getElem? (i := 20) rfl)), (mr_11 _ (List.mem_of_getElem? (i := 21) rfl)), _, rfl, rfl⟩
theorem ln_6_61 : jLS RX6 61 M_xTerms_bit 1 := ⟨lk_xTerms_bit, (mr_11 _ (List.mem_of_getElem? (i := 16) rfl)), (mr_11 _ (List.mem_of_getElem? (i := 17) rfl))⟩
theorem ln_6_64 : jLV RX6 64 M_xTerms_isFree 2 6 := ⟨lk_xTerms_isFree, Or.inl (mr_18 _ (List.mem_of_getElem? (i := 2) rfl)), (mr_18 _ (List.mem_of_getElem? (i := 3) rfl)), (mr_18 _ (List.mem_of_getElem? (i := 4) rfl)), _, rfl, rfl⟩
theorem ln_6_68 : jLV RX6 68 M_xTerms_kindOf 1 6 := ⟨lk_xTerms_kindOf, Or.inl (mr_18 _ (List.mem_of_getElem? (i := 6) rfl)), (mr_15 _ (List.mem_of_getElem? (i := 20) rfl)), (mr_15 _ (List.mem_of_getElem? (i := 21) rfl)), _, rfl, rfl⟩
theorem ln_6_71 : jLV RX6 71 M_xTerms_letterOf 1 6 := ⟨lk_xTerms_letterOf, Or.inl (mr_18 _ (List.mem_of_getElem? (i := 7) rfl)), (mr_16 _ (List.mem_of_getElem? (i := 6) rfl)), (mr_16 _ (List.mem_of_getElem? (i := 7) rfl)), _, rfl, rfl⟩
theorem ln_6_74 : jLV RX6 74 M_xTerms_firstOf 1 6 := ⟨lk_xTerms_firstOf, Or.inl (mr_18 _ (List.mem_of_getElem? (i := 8) rfl)), (mr_16 _ (List.mem_of_getElem? (i := 14) rfl)), (mr_16 _ (List.mem_of_getElem? (i := 15) rfl)), _, rfl, rfl⟩
theorem ln_6_77 : jLV RX6 77 M_xTerms_usesOf 2 6 := ⟨lk_xTerms_usesOf, Or.inl (mr_18 _ (List.mem_of_getElem? (i := 9) rfl)), (mr_17 _ (List.mem_of_getElem? (i := 23) rfl)), (mr_18 _ (List.mem_of_getElem? (i := 0) rfl)), _, rfl, rfl⟩
theorem ln_6_81 : jLV RX6 81 M_xTerms_secondOf 1 6 := ⟨lk_xTerms_secondOf, Or.inl (mr_18 _ (List.mem_of_getElem? (i := 10) rfl)), (mr_16 _ (List.mem_of_getElem? (i := 18) rfl)), (mr_16 _ (List.mem_of_getElem? (i := 19) rfl)), _, rfl, rfl⟩
theorem ln_6_84 : jLV RX6 84 M_xTerms_thirdOf 1 6 := ⟨lk_xTerms_thirdOf, Or.inl (mr_18 _ (List.mem_of_getElem? (i := 11) rfl)), (mr_16 _ (List.mem_of_getElem? (i := 22) rfl)), (mr_16 _ (List.mem_of_getElem? (i := 23) rfl)), _, rfl, rfl⟩
theorem ln_6_87 : jLV RX6 87 M_xTerms_made 6 6 := ⟨lk_xTerms_made, Or.inl (mr_10 _ (List.mem_of_getElem? (i := 20) rfl)), (mr_10 _ (List.mem_of_getElem? (i := 21) rfl)), (mr_10 _ (List.mem_of_getElem? (i := 22) rfl)), _, rfl, rfl⟩
theorem ln_6_91 : jLS RX6 91 M_xTerms_digitsOf 1 := ⟨lk_xTerms_digitsOf, (mr_12 _ (List.mem_of_getElem? (i := 10) rfl)), (mr_12 _ (List.mem_of_getElem? (i := 11) rfl))⟩
theorem ln_6_94 : jLV RX6 94 M_xTerms_typeOf 1 6 := ⟨lk_xTerms_typeOf, Or.inl (mr_27 _ (List.mem_of_getElem? (i := 8) rfl)), (mr_16 _ (List.mem_of_getElem? (i := 10) rfl)), (mr_16 _ (List.mem_of_getElem? (i := 11) rfl)), _, rfl, rfl⟩
theorem ln_6_97 : jLV RX6 97 M_xTerms_sizeOf 1 6 := ⟨lk_xTerms_sizeOf, Or.inl (mr_11 _ (List.mem_of_getElem? (i := 4) rfl)), (mr_11 _ (List.mem_of_getElem? (i := 5) rfl)), (mr_11 _ (List.mem_of_getElem? (i := 6) rfl)), _, rfl, rfl⟩
theorem ln_6_100 : jLV RX6 100 M_xTerms_depthOf 1 6 := ⟨lk_xTerms_depthOf, Or.inl (mr_11 _ (List.mem_of_getElem? (i := 12) rfl)), (mr_11 _ (List.mem_of_getElem? (i := 13) rfl)), (mr_11 _ (List.mem_of_getElem? (i := 14) rfl)), _, rfl, rfl⟩
theorem jdk_6_103 : jMx RX6 103 := ⟨(mr_11 _ (List.mem_of_getElem? (i := 0) rfl)), (mr_11 _ (List.mem_of_getElem? (i := 1) rfl)), (mr_11 _ (List.mem_of_getElem? (i := 2) rfl)), (mr_11 _ (List.mem_of_getElem? (i := 3) rfl))⟩
theorem ln_6_108 : jLS RX6 108 M_xTerms_freeLettersFor 5 := ⟨lk_xTerms_freeLettersFor, (mr_11 _ (List.mem_of_getElem? (i := 23) rfl)), (mr_12 _ (List.mem_of_getElem? (i := 0) rfl))⟩
theorem ln_6_112 : jLS RX6 112 M_xTerms_marksOf 1 := ⟨lk_xTerms_marksOf, (mr_12 _ (List.mem_of_getElem? (i := 2) rfl)), (mr_12 _ (List.mem_of_getElem? (i := 3) rfl))⟩
theorem ln_6_115 : jLV RX6 115 M_xTypes_lengthOf 1 7 := ⟨lk_xTypes_lengthOf, Or.inl (mr_12 _ (List.mem_of_getElem? (i := 5) rfl)), (mr_8 _ (List.mem_of_getElem? (i := 7) rfl)), (mr_8 _ (List.mem_of_getElem? (i := 8) rfl)), _, rfl, rfl⟩
theorem ln_6_120 : jLV RX6 120 M_xTerms_widthOf 1 6 := ⟨lk_xTerms_widthOf, Or.inl (mr_12 _ (List.mem_of_getElem? (i := 6) rfl)), (mr_12 _ (List.mem_of_getElem? (i := 7) rfl)), (mr_12 _ (List.mem_of_getElem? (i := 8) rfl)), _, rfl, rfl⟩
theorem fl_7_9 : jFld RX7 9 7 0 := ⟨RX7, TX7, _, rfl, inlX7, by decide, (mr_3 _ (List.mem_of_getElem? (i := 7) rfl))⟩
theorem pfl_7_9 : jFldP RX7 9 7 0 true (tyX7 0) := ⟨RX7, TX7, _, tyX7, rfl, inlX7, by decide, (mr_3 _ (List.mem_of_getElem? (i := 7) rfl)), tyX7_ok, nmX7, rfl, tyX7_ok 0 (by decide), rfl⟩
theorem fl_7_15 : jFld RX7 15 7 1 := ⟨RX7, TX7, _, rfl, inlX7, by decide, (mr_3 _ (List.mem_of_getElem? (i := 8) rfl))⟩
theorem pfl_7_15 : jFldP RX7 15 7 1 true (tyX7 1) := ⟨RX7, TX7, _, tyX7, rfl, inlX7, by decide, (mr_3 _ (List.mem_of_getElem? (i := 8) rfl)), tyX7_ok, nmX7, rfl, tyX7_ok 1 (by decide), rfl⟩
theorem fl_7_18 : jFld RX7 18 7 2 := ⟨RX7, TX7, _, rfl, inlX7, by decide, (mr_3 _ (List.mem_of_getElem? (i := 9) rfl))⟩
theorem pfl_7_18 : jFldP RX7 18 7 2 true (tyX7 2) := ⟨RX7, TX7, _, tyX7, rfl, inlX7, by decide, (mr_3 _ (List.mem_of_getElem? (i := 9) rfl)), tyX7_ok, nmX7, rfl, tyX7_ok 2 (by decide), rfl⟩
theorem fl_7_21 : jFld RX7 21 7 3 := ⟨RX7, TX7, _, rfl, inlX7, by decide, (mr_3 _ (List.mem_of_getElem? (i := 10) rfl))⟩
theorem pfl_7_21 : jFldP RX7 21 7 3 false (tyX7 3) := ⟨RX7, TX7, _, tyX7, rfl, inlX7, by decide, (mr_3 _ (List.mem_of_getElem? (i := 10) rfl)), tyX7_ok, nmX7, rfl, tyX7_ok 3 (by decide), rfl⟩
theorem ln_7_25 : jLV RX7 25 M_xTypes_has 1 7 := ⟨lk_xTypes_has, Or.inl (mr_8 _ (List.mem_of_getElem? (i := 10) rfl)), (mr_7 _ (List.mem_of_getElem? (i := 23) rfl)), (mr_8 _ (List.mem_of_getElem? (i := 0) rfl)), _, rfl, rfl⟩
theorem ln_7_29 : jLV RX7 29 M_xTypes_lengthOf 1 7 := ⟨lk_xTypes_lengthOf, Or.inl (mr_8 _ (List.mem_of_getElem? (i := 6) rfl)), (mr_8 _ (List.mem_of_getElem? (i := 7) rfl)), (mr_8 _ (List.mem_of_getElem? (i := 8) rfl)), _, rfl, rfl⟩
theorem fl_8_9 : jFld RX8 9 8 2 := ⟨RX8, TX8, _, rfl, inlX8, by decide, (mr_4 _ (List.mem_of_getElem? (i := 8) rfl))⟩
theorem pfl_8_9 : jFldP RX8 9 8 2 true (tyX8 2) := ⟨RX8, TX8, _, tyX8, rfl, inlX8, by decide, (mr_4 _ (List.mem_of_getElem? (i := 8) rfl)), tyX8_ok, nmX8, rfl, tyX8_ok 2 (by decide), rfl⟩
theorem fl_8_15 : jFld RX8 15 8 3 := ⟨RX8, TX8, _, rfl, inlX8, by decide, (mr_4 _ (List.mem_of_getElem? (i := 9) rfl))⟩
theorem pfl_8_15 : jFldP RX8 15 8 3 true (tyX8 3) := ⟨RX8, TX8, _, tyX8, rfl, inlX8, by decide, (mr_4 _ (List.mem_of_getElem? (i := 9) rfl)), tyX8_ok, nmX8, rfl, tyX8_ok 3 (by decide), rfl⟩
theorem fl_8_18 : jFld RX8 18 8 0 := ⟨RX8, TX8, _, rfl, inlX8, by decide, (mr_4 _ (List.mem_of_getElem? (i := 10) rfl))⟩
theorem pfl_8_18 : jFldP RX8 18 8 0 true (tyX8 0) := ⟨RX8, TX8, _, tyX8, rfl, inlX8, by decide, (mr_4 _ (List.mem_of_getElem? (i := 10) rfl)), tyX8_ok, nmX8, rfl, tyX8_ok 0 (by decide), rfl⟩
theorem fl_8_22 : jFld RX8 22 8 1 := ⟨RX8, TX8, _, rfl, inlX8, by decide, (mr_4 _ (List.mem_of_getElem? (i := 11) rfl))⟩
theorem pfl_8_22 : jFldP RX8 22 8 1 true (tyX8 1) := ⟨RX8, TX8, _, tyX8, rfl, inlX8, by decide, (mr_4 _ (List.mem_of_getElem? (i := 11) rfl)), tyX8_ok, nmX8, rfl, tyX8_ok 1 (by decide), rfl⟩
theorem fl_8_26 : jFld RX8 26 8 4 := ⟨RX8, TX8, _, rfl, inlX8, by decide, (mr_4 _ (List.mem_of_getElem? (i := 12) rfl))⟩
theorem pfl_8_26 : jFldP RX8 26 8 4 false (tyX8 4) := ⟨RX8, TX8, _, tyX8, rfl, inlX8, by decide, (mr_4 _ (List.mem_of_getElem? (i := 12) rfl)), tyX8_ok, nmX8, rfl, tyX8_ok 4 (by decide), rfl⟩
theorem fl_8_30 : jFld RX8 30 8 5 := ⟨RX8, TX8, _, rfl, inlX8, by decide, (mr_4 _ (List.mem_of_getElem? (i := 13) rfl))⟩
theorem pfl_8_30 : jFldP RX8 30 8 5 false (tyX8 5) := ⟨RX8, TX8, _, tyX8, rfl, inlX8, by decide, (mr_4 _ (List.mem_of_getElem? (i := 13) rfl)), tyX8_ok, nmX8, rfl, tyX8_ok 5 (by decide), rfl⟩
theorem ln_8_33 : jLN RX8 33 M_xc_isLetter 1 := ⟨lk_xc_isLetter, ⟨"CoreTerms", List.mem_of_getElem? (i := 0) rfl⟩, (mr_9 _ (List.mem_of_getElem? (i := 23) rfl))⟩
theorem ln_8_37 : jLV RX8 37 M_xTypes_total 0 7 := ⟨lk_xTypes_total, Or.inl (mr_19 _ (List.mem_of_getElem? (i := 0) rfl)), (mr_19 _ (List.mem_of_getElem? (i := 1) rfl)), (mr_19 _ (List.mem_of_getElem? (i := 2) rfl)), _, rfl, rfl⟩
theorem ln_8_43 : jLV RX8 43 M_xTypist_typeFor 1 8 := ⟨lk_xTypist_typeFor, Or.inl (mr_19 _ (List.mem_of_getElem? (i := 4) rfl)), (mr_19 _ (List.mem_of_getElem? (i := 5) rfl)), (mr_19 _ (List.mem_of_getElem? (i := 6) rfl)), _, rfl, rfl⟩
theorem ln_8_47 : jLV RX8 47 M_xTypes_cutTo 1 7 := ⟨lk_xTypes_cutTo, Or.inl (mr_21 _ (List.mem_of_getElem? (i := 13) rfl)), (mr_21 _ (List.mem_of_getElem? (i := 14) rfl)), (mr_21 _ (List.mem_of_getElem? (i := 15) rfl)), _, rfl, rfl⟩
theorem ln_8_51 : jLV RX8 51 M_xTerms_kindOf 1 6 := ⟨lk_xTerms_kindOf, Or.inl (mr_19 _ (List.mem_of_getElem? (i := 8) rfl)), (mr_15 _ (List.mem_of_getElem? (i := 20) rfl)), (mr_15 _ (List.mem_of_getElem? (i := 21) rfl)), _, rfl, rfl⟩
theorem ln_8_56 : jLV RX8 56 M_xTypist_typeForName 1 8 := ⟨lk_xTypist_typeForName, Or.inl (mr_19 _ (List.mem_of_getElem? (i := 9) rfl)), (mr_19 _ (List.mem_of_getElem? (i := 10) rfl)), (mr_19 _ (List.mem_of_getElem? (i := 11) rfl)), _, rfl, rfl⟩
theorem ln_8_59 : jLV RX8 59 M_xTypist_typeForFunction 1 8 := ⟨lk_xTypist_typeForFunction, Or.inl (mr_19 _ (List.mem_of_getElem? (i := 22) rfl)), (mr_19 _ (List.mem_of_getElem? (i := 23) rfl)), (mr_20 _ (List.mem_of_getElem? (i := 0) rfl)), _, rfl, rfl⟩
theorem ln_8_62 : jLV RX8 62 M_xTypist_typeForCall 1 8 := ⟨lk_xTypist_typeForCall, Or.inl (mr_20 _ (List.mem_of_getElem? (i := 1) rfl)), (mr_20 _ (List.mem_of_getElem? (i := 2) rfl)), (mr_20 _ (List.mem_of_getElem? (i := 3) rfl)), _, rfl, rfl⟩
theorem ln_8_65 : jLV RX8 65 M_xTypist_typeForLet 1 8 := ⟨lk_xTypist_typeForLet, Or.inl (mr_20 _ (List.mem_of_getElem? (i := 4) rfl)), (mr_20 _ (List.mem_of_getElem? (i := 5) rfl)), (mr_20 _ (List.mem_of_getElem? (i := 6) rfl)), _, rfl, rfl⟩
theorem ln_8_68 : jLV RX8 68 M_xTypist_typeForSum 1 8 := ⟨lk_xTypist_typeForSum, Or.inl (mr_20 _ (List.mem_of_getElem? (i := 7) rfl)), (mr_20 _ (List.mem_of_getElem? (i := 8) rfl)), (mr_20 _ (List.mem_of_getElem? (i := 9) rfl)), _, rfl, rfl⟩
theorem ln_8_71 : jLV RX8 71 M_xTypist_typeForChoice 1 8 := ⟨lk_xTypist_typeForChoice, Or.inl (mr_20 _ (List.mem_of_getElem? (i := 10) rfl)), (mr_20 _ (List.mem_of_getElem? (i := 11) rfl)), (mr_20 _ (List.mem_of_getElem? (i := 12) rfl)), _, rfl, rfl⟩
theorem ln_8_74 : jLV RX8 74 M_xTerms_letterOf 1 6 := ⟨lk_xTerms_letterOf, Or.inl (mr_19 _ (List.mem_of_getElem? (i := 13) rfl)), (mr_16 _ (List.mem_of_getElem? (i := 6) rfl)), (mr_16 _ (List.mem_of_getElem? (i := 7) rfl)), _, rfl, rfl⟩
theorem ln_8_77 : jLV RX8 77 M_xTypist_knownOf 1 8 := ⟨lk_xTypist_knownOf, Or.inl (mr_19 _ (List.mem_of_getElem? (i := 14) rfl)), (mr_19 _ (List.mem_of_getElem? (i := 15) rfl)), (mr_19 _ (List.mem_of_getElem? (i := 16) rfl)), _, rfl, rfl⟩
theorem ln_8_80 : jLV RX8 80 M_xTypist_faulty 2 8 := ⟨lk_xTypist_faulty, Or.inl (mr_19 _ (List.mem_of_getElem? (i := 18) rfl)), (mr_19 _ (List.mem_of_getElem? (i := 19) rfl)), (mr_19 _ (List.mem_of_getElem? (i := 20) rfl)), _, rfl, rfl⟩
theorem ln_8_84 : jLV RX8 84 M_xTerms_typeOf 1 6 := ⟨lk_xTerms_typeOf, Or.inl (mr_21 _ (List.mem_of_getElem? (i := 0) rfl)), (mr_16 _ (List.mem_of_getElem? (i := 10) rfl)), (mr_16 _ (List.mem_of_getElem? (i := 11) rfl)), _, rfl, rfl⟩
theorem ln_8_87 : jLV RX8 87 M_xTerms_firstOf 1 6 := ⟨lk_xTerms_firstOf, Or.inl (mr_20 _ (List.mem_of_getElem? (i := 14) rfl)), (mr_16 _ (List.mem_of_getElem? (i := 14) rfl)), (mr_16 _ (List.mem_of_getElem? (i := 15) rfl)), _, rfl, rfl⟩
theorem ln_8_90 : jLV RX8 90 M_xTypist_typeUnder 3 8 := ⟨lk_xTypist_typeUnder, Or.inl (mr_21 _ (List.mem_of_getElem? (i := 1) rfl)), (mr_21 _ (List.mem_of_getElem? (i := 2) rfl)), (mr_21 _ (List.mem_of_getElem? (i := 3) rfl)), _, rfl, rfl⟩
theorem ln_8_94 : jLV RX8 94 M_xTypes_arrowOf 2 7 := ⟨lk_xTypes_arrowOf, Or.inl (mr_21 _ (List.mem_of_getElem? (i := 4) rfl)), (mr_8 _ (List.mem_of_getElem? (i := 3) rfl)), (mr_8 _ (List.mem_of_getElem? (i := 4) rfl)), _, rfl, rfl⟩
theorem ln_8_97 : jLV RX8 97 M_xTypes_fromOf 1 7 := ⟨lk_xTypes_fromOf, Or.inl (mr_20 _ (List.mem_of_getElem? (i := 15) rfl)), (mr_9 _ (List.mem_of_getElem? (i := 7) rfl)), (mr_9 _ (List.mem_of_getElem? (i := 8) rfl)), _, rfl, rfl⟩
theorem ln_8_100 : jLV RX8 100 M_xTerms_secondOf 1 6 := ⟨lk_xTerms_secondOf, Or.inl (mr_20 _ (List.mem_of_getElem? (i := 16) rfl)), (mr_16 _ (List.mem_of_getElem? (i := 18) rfl)), (mr_16 _ (List.mem_of_getElem? (i := 19) rfl)), _, rfl, rfl⟩
theorem ln_8_103 : jLV RX8 103 M_xTypist_typeThatIs 2 8 := ⟨lk_xTypist_typeThatIs, Or.inl (mr_20 _ (List.mem_of_getElem? (i := 17) rfl)), (mr_20 _ (List.mem_of_getElem? (i := 18) rfl)), (mr_20 _ (List.mem_of_getElem? (i := 19) rfl)), _, rfl, rfl⟩
theorem ln_8_106 : jLV RX8 106 M_xTypes_toOf 1 7 := ⟨lk_xTypes_toOf, Or.inl (mr_20 _ (List.mem_of_getElem? (i := 20) rfl)), (mr_9 _ (List.mem_of_getElem? (i := 11) rfl)), (mr_9 _ (List.mem_of_getElem? (i := 12) rfl)), _, rfl, rfl⟩
theorem ln_8_109 : jLV RX8 109 M_xTerms_thirdOf 1 6 := ⟨lk_xTerms_thirdOf, Or.inl (mr_20 _ (List.mem_of_getElem? (i := 22) rfl)), (mr_16 _ (List.mem_of_getElem? (i := 22) rfl)), (mr_16 _ (List.mem_of_getElem? (i := 23) rfl)), _, rfl, rfl⟩
theorem ln_8_112 : jLV RX8 112 M_xTypist_setKnown 2 8 := ⟨lk_xTypist_setKnown, Or.inl (mr_21 _ (List.mem_of_getElem? (i := 9) rfl)), (mr_21 _ (List.mem_of_getElem? (i := 10) rfl)), (mr_21 _ (List.mem_of_getElem? (i := 11) rfl)), _, rfl, rfl⟩
theorem fl_9_10 : jFld RX9 10 9 0 := ⟨RX9, TX9, _, rfl, inlX9, by decide, (mr_1 _ (List.mem_of_getElem? (i := 16) rfl))⟩
theorem pfl_9_10 : jFldP RX9 10 9 0 true (tyX9 0) := ⟨RX9, TX9, _, tyX9, rfl, inlX9, by decide, (mr_1 _ (List.mem_of_getElem? (i := 16) rfl)), tyX9_ok, nmX9, rfl, tyX9_ok 0 (by decide), rfl⟩
theorem fl_9_21 : jFld RX9 21 9 1 := ⟨RX9, TX9, _, rfl, inlX9, by decide, (mr_1 _ (List.mem_of_getElem? (i := 20) rfl))⟩
theorem pfl_9_21 : jFldP RX9 21 9 1 true (tyX9 1) := ⟨RX9, TX9, _, tyX9, rfl, inlX9, by decide, (mr_1 _ (List.mem_of_getElem? (i := 20) rfl)), tyX9_ok, nmX9, rfl, tyX9_ok 1 (by decide), rfl⟩
theorem fl_9_30 : jFld RX9 30 9 2 := ⟨RX9, TX9, _, rfl, inlX9, by decide, (mr_2 _ (List.mem_of_getElem? (i := 0) rfl))⟩
theorem pfl_9_30 : jFldP RX9 30 9 2 true (tyX9 2) := ⟨RX9, TX9, _, tyX9, rfl, inlX9, by decide, (mr_2 _ (List.mem_of_getElem? (i := 0) rfl)), tyX9_ok, nmX9, rfl, tyX9_ok 2 (by decide), rfl⟩
theorem fl_9_39 : jFld RX9 39 9 3 := ⟨RX9, TX9, _, rfl, inlX9, by decide, (mr_2 _ (List.mem_of_getElem? (i := 4) rfl))⟩
theorem pfl_9_39 : jFldP RX9 39 9 3 true (tyX9 3) := ⟨RX9, TX9, _, tyX9, rfl, inlX9, by decide, (mr_2 _ (List.mem_of_getElem? (i := 4) rfl)), tyX9_ok, nmX9, rfl, tyX9_ok 3 (by decide), rfl⟩
theorem fl_9_46 : jFld RX9 46 9 4 := ⟨RX9, TX9, _, rfl, inlX9, by decide, (mr_2 _ (List.mem_of_getElem? (i := 8) rfl))⟩
theorem pfl_9_46 : jFldP RX9 46 9 4 true (tyX9 4) := ⟨RX9, TX9, _, tyX9, rfl, inlX9, by decide, (mr_2 _ (List.mem_of_getElem? (i := 8) rfl)), tyX9_ok, nmX9, rfl, tyX9_ok 4 (by decide), rfl⟩
theorem fl_9_55 : jFld RX9 55 9 5 := ⟨RX9, TX9, _, rfl, inlX9, by decide, (mr_2 _ (List.mem_of_getElem? (i := 12) rfl))⟩
theorem pfl_9_55 : jFldP RX9 55 9 5 true (tyX9 5) := ⟨RX9, TX9, _, tyX9, rfl, inlX9, by decide, (mr_2 _ (List.mem_of_getElem? (i := 12) rfl)), tyX9_ok, nmX9, rfl, tyX9_ok 5 (by decide), rfl⟩
theorem fl_9_62 : jFld RX9 62 9 6 := ⟨RX9, TX9, _, rfl, inlX9, by decide, (mr_2 _ (List.mem_of_getElem? (i := 16) rfl))⟩
theorem pfl_9_62 : jFldP RX9 62 9 6 true (tyX9 6) := ⟨RX9, TX9, _, tyX9, rfl, inlX9, by decide, (mr_2 _ (List.mem_of_getElem? (i := 16) rfl)), tyX9_ok, nmX9, rfl, tyX9_ok 6 (by decide), rfl⟩
theorem fl_9_69 : jFld RX9 69 9 7 := ⟨RX9, TX9, _, rfl, inlX9, by decide, (mr_2 _ (List.mem_of_getElem? (i := 20) rfl))⟩
theorem pfl_9_69 : jFldP RX9 69 9 7 true (tyX9 7) := ⟨RX9, TX9, _, tyX9, rfl, inlX9, by decide, (mr_2 _ (List.mem_of_getElem? (i := 20) rfl)), tyX9_ok, nmX9, rfl, tyX9_ok 7 (by decide), rfl⟩
theorem fl_9_76 : jFld RX9 76 9 8 := ⟨RX9, TX9, _, rfl, inlX9, by decide, (mr_3 _ (List.mem_of_getElem? (i := 0) rfl))⟩
theorem pfl_9_76 : jFldP RX9 76 9 8 true (tyX9 8) := ⟨RX9, TX9, _, tyX9, rfl, inlX9, by decide, (mr_3 _ (List.mem_of_getElem? (i := 0) rfl)), tyX9_ok, nmX9, rfl, tyX9_ok 8 (by decide), rfl⟩
theorem fl_9_80 : jFld RX9 80 9 9 := ⟨RX9, TX9, _, rfl, inlX9, by decide, (mr_3 _ (List.mem_of_getElem? (i := 1) rfl))⟩
theorem pfl_9_80 : jFldP RX9 80 9 9 false (tyX9 9) := ⟨RX9, TX9, _, tyX9, rfl, inlX9, by decide, (mr_3 _ (List.mem_of_getElem? (i := 1) rfl)), tyX9_ok, nmX9, rfl, tyX9_ok 9 (by decide), rfl⟩
theorem ln_9_84 : jLV RX9 84 M_xTypes_has 1 7 := ⟨lk_xTypes_has, Or.inl (mr_7 _ (List.mem_of_getElem? (i := 22) rfl)), (mr_7 _ (List.mem_of_getElem? (i := 23) rfl)), (mr_8 _ (List.mem_of_getElem? (i := 0) rfl)), _, rfl, rfl⟩
theorem ln_9_88 : jLV RX9 88 M_xTypes_arrowOf 2 7 := ⟨lk_xTypes_arrowOf, Or.inl (mr_8 _ (List.mem_of_getElem? (i := 2) rfl)), (mr_8 _ (List.mem_of_getElem? (i := 3) rfl)), (mr_8 _ (List.mem_of_getElem? (i := 4) rfl)), _, rfl, rfl⟩
theorem ln_9_92 : jLV RX9 92 M_xTypes_fromOf 1 7 := ⟨lk_xTypes_fromOf, Or.inl (mr_9 _ (List.mem_of_getElem? (i := 6) rfl)), (mr_9 _ (List.mem_of_getElem? (i := 7) rfl)), (mr_9 _ (List.mem_of_getElem? (i := 8) rfl)), _, rfl, rfl⟩
theorem ln_9_96 : jLV RX9 96 M_xTypes_toOf 1 7 := ⟨lk_xTypes_toOf, Or.inl (mr_9 _ (List.mem_of_getElem? (i := 10) rfl)), (mr_9 _ (List.mem_of_getElem? (i := 11) rfl)), (mr_9 _ (List.mem_of_getElem? (i := 12) rfl)), _, rfl, rfl⟩
theorem ln_9_99 : jLS RX9 99 M_xc_isLetter 1 := ⟨lk_xc_isLetter, (mr_9 _ (List.mem_of_getElem? (i := 22) rfl)), (mr_9 _ (List.mem_of_getElem? (i := 23) rfl))⟩
theorem ln_9_102 : jLV RX9 102 M_xTypist_setDeclared 2 8 := ⟨lk_xTypist_setDeclared, Or.inl (mr_10 _ (List.mem_of_getElem? (i := 1) rfl)), (mr_10 _ (List.mem_of_getElem? (i := 2) rfl)), (mr_10 _ (List.mem_of_getElem? (i := 3) rfl)), _, rfl, rfl⟩
theorem ln_9_106 : jLV RX9 106 M_xTerms_newNumber 1 6 := ⟨lk_xTerms_newNumber, Or.inl (mr_10 _ (List.mem_of_getElem? (i := 16) rfl)), (mr_10 _ (List.mem_of_getElem? (i := 17) rfl)), (mr_10 _ (List.mem_of_getElem? (i := 18) rfl)), _, rfl, rfl⟩
theorem ln_9_109 : jLV RX9 109 M_xTerms_newName 1 6 := ⟨lk_xTerms_newName, Or.inl (mr_13 _ (List.mem_of_getElem? (i := 13) rfl)), (mr_13 _ (List.mem_of_getElem? (i := 14) rfl)), (mr_13 _ (List.mem_of_getElem? (i := 15) rfl)), _, rfl, rfl⟩
theorem ln_9_112 : jLV RX9 112 M_xTerms_has 1 6 := ⟨lk_xTerms_has, Or.inl (mr_14 _ (List.mem_of_getElem? (i := 1) rfl)), (mr_11 _ (List.mem_of_getElem? (i := 9) rfl)), (mr_11 _ (List.mem_of_getElem? (i := 10) rfl)), _, rfl, rfl⟩
theorem ln_9_113 : jLV RX9 113 M_xTerms_newFunction 3 6 := ⟨lk_xTerms_newFunction, Or.inl (mr_14 _ (List.mem_of_getElem? (i := 2) rfl)), (mr_14 _ (List.mem_of_getElem? (i := 3) rfl)), (mr_14 _ (List.mem_of_getElem? (i := 4) rfl)), _, rfl, rfl⟩
theorem ln_9_117 : jLV RX9 117 M_xTerms_newLet 3 6 := ⟨lk_xTerms_newLet, Or.inl (mr_14 _ (List.mem_of_getElem? (i := 18) rfl)), (mr_14 _ (List.mem_of_getElem? (i := 19) rfl)), (mr_14 _ (List.mem_of_getElem? (i := 20) rfl)), _, rfl, rfl⟩
theorem ln_9_120 : jLV RX9 120 M_xTerms_newJoined 4 6 := ⟨lk_xTerms_newJoined, Or.inl (mr_15 _ (List.mem_of_getElem? (i := 6) rfl)), (mr_15 _ (List.mem_of_getElem? (i := 7) rfl)), (mr_15 _ (List.mem_of_getElem? (i := 8) rfl)), _, rfl, rfl⟩
theorem ln_9_126 : jLV RX9 126 M_xTerms_kindOf 1 6 := ⟨lk_xTerms_kindOf, Or.inl (mr_15 _ (List.mem_of_getElem? (i := 19) rfl)), (mr_15 _ (List.mem_of_getElem? (i := 20) rfl)), (mr_15 _ (List.mem_of_getElem? (i := 21) rfl)), _, rfl, rfl⟩
theorem ln_9_129 : jLV RX9 129 M_xTerms_sizeOf 1 6 := ⟨lk_xTerms_sizeOf, Or.inl (mr_15 _ (List.mem_of_getElem? (i := 23) rfl)), (mr_11 _ (List.mem_of_getElem? (i := 5) rfl)), (mr_11 _ (List.mem_of_getElem? (i := 6) rfl)), _, rfl, rfl⟩
theorem ln_9_132 : jLV RX9 132 M_xTerms_depthOf 1 6 := ⟨lk_xTerms_depthOf, Or.inl (mr_16 _ (List.mem_of_getElem? (i := 0) rfl)), (mr_11 _ (List.mem_of_getElem? (i := 13) rfl)), (mr_11 _ (List.mem_of_getElem? (i := 14) rfl)), _, rfl, rfl⟩
theorem ln_9_135 : jLV RX9 135 M_xTerms_numberOf 1 6 := ⟨lk_xTerms_numberOf, Or.inl (mr_16 _ (List.mem_of_getElem? (i := 1) rfl)), (mr_16 _ (List.mem_of_getElem? (i := 2) rfl)), (mr_16 _ (List.mem_of_getElem? (i := 3) rfl)), _, rfl, rfl⟩
theorem ln_9_138 : jLV RX9 138 M_xTerms_letterOf 1 6 := ⟨lk_xTerms_letterOf, Or.inl (mr_16 _ (List.mem_of_getElem? (i := 5) rfl)), (mr_16 _ (List.mem_of_getElem? (i := 6) rfl)), (mr_16 _ (List.mem_of_getElem? (i := 7) rfl)), _, rfl, rfl⟩
theorem ln_9_141 : jLV RX9 141 M_xTerms_typeOf 1 6 := ⟨lk_xTerms_typeOf, Or.inl (mr_16 _ (List.mem_of_getElem? (i := 9) rfl)), (mr_16 _ (List.mem_of_getElem? (i := 10) rfl)), (mr_16 _ (List.mem_of_getElem? (i := 11) rfl)), _, rfl, rfl⟩
theorem ln_9_144 : jLV RX9 144 M_xTerms_firstOf 1 6 := ⟨lk_xTerms_firstOf, Or.inl (mr_16 _ (List.mem_of_getElem? (i := 13) rfl)), (mr_16 _ (List.mem_of_getElem? (i := 14) rfl)), (mr_16 _ (List.mem_of_getElem? (i := 15) rfl)), _, rfl, rfl⟩
theorem ln_9_147 : jLV RX9 147 M_xTerms_secondOf 1 6 := ⟨lk_xTerms_secondOf, Or.inl (mr_16 _ (List.mem_of_getElem? (i := 17) rfl)), (mr_16 _ (List.mem_of_getElem? (i := 18) rfl)), (mr_16 _ (List.mem_of_getElem? (i := 19) rfl)), _, rfl, rfl⟩
theorem ln_9_150 : jLV RX9 150 M_xTerms_thirdOf 1 6 := ⟨lk_xTerms_thirdOf, Or.inl (mr_16 _ (List.mem_of_getElem? (i := 21) rfl)), (mr_16 _ (List.mem_of_getElem? (i := 22) rfl)), (mr_16 _ (List.mem_of_getElem? (i := 23) rfl)), _, rfl, rfl⟩
theorem ln_9_153 : jLV RX9 153 M_xTerms_freeLettersOf 1 6 := ⟨lk_xTerms_freeLettersOf, Or.inl (mr_17 _ (List.mem_of_getElem? (i := 10) rfl)), (mr_11 _ (List.mem_of_getElem? (i := 20) rfl)), (mr_11 _ (List.mem_of_getElem? (i := 21) rfl)), _, rfl, rfl⟩
theorem ln_9_156 : jLV RX9 156 M_xTerms_usesOf 2 6 := ⟨lk_xTerms_usesOf, Or.inr ⟨"CoreTerms", List.mem_of_getElem? (i := 1) rfl⟩, (mr_17 _ (List.mem_of_getElem? (i := 23) rfl)), (mr_18 _ (List.mem_of_getElem? (i := 0) rfl)), _, rfl, rfl⟩
theorem ln_9_159 : jLV RX9 159 M_xTypist_wholeTypeOf 1 8 := ⟨lk_xTypist_wholeTypeOf, Or.inl (mr_18 _ (List.mem_of_getElem? (i := 20) rfl)), (mr_18 _ (List.mem_of_getElem? (i := 21) rfl)), (mr_18 _ (List.mem_of_getElem? (i := 22) rfl)), _, rfl, rfl⟩
theorem ln_9_162 : jLV RX9 162 M_xTypist_latestFault 0 8 := ⟨lk_xTypist_latestFault, Or.inl (mr_23 _ (List.mem_of_getElem? (i := 4) rfl)), (mr_23 _ (List.mem_of_getElem? (i := 5) rfl)), (mr_23 _ (List.mem_of_getElem? (i := 6) rfl)), _, rfl, rfl⟩
theorem ln_9_166 : jLV RX9 166 M_xTypist_latestFaultAt 0 8 := ⟨lk_xTypist_latestFaultAt, Or.inl (mr_23 _ (List.mem_of_getElem? (i := 8) rfl)), (mr_23 _ (List.mem_of_getElem? (i := 9) rfl)), (mr_23 _ (List.mem_of_getElem? (i := 10) rfl)), _, rfl, rfl⟩
theorem ln_9_169 : jLV RX9 169 M_xComparer_areAlike 2 0 := ⟨lk_xComparer_areAlike, Or.inl (mr_23 _ (List.mem_of_getElem? (i := 20) rfl)), (mr_23 _ (List.mem_of_getElem? (i := 21) rfl)), (mr_23 _ (List.mem_of_getElem? (i := 22) rfl)), _, rfl, rfl⟩
theorem ln_9_173 : jLV RX9 173 M_xTerms_total 0 6 := ⟨lk_xTerms_total, Or.inl (mr_25 _ (List.mem_of_getElem? (i := 21) rfl)), (mr_25 _ (List.mem_of_getElem? (i := 22) rfl)), (mr_25 _ (List.mem_of_getElem? (i := 23) rfl)), _, rfl, rfl⟩
theorem ln_9_176 : jLV RX9 176 M_xPutter_into 3 3 := ⟨lk_xPutter_into, Or.inr ⟨"CoreTerms", List.mem_of_getElem? (i := 3) rfl⟩, (mr_26 _ (List.mem_of_getElem? (i := 1) rfl)), (mr_26 _ (List.mem_of_getElem? (i := 2) rfl)), _, rfl, rfl⟩
theorem ln_9_179 : jLV RX9 179 M_xc_keptOrUndone 2 9 := ⟨lk_xc_keptOrUndone, Or.inl (mr_27 _ (List.mem_of_getElem? (i := 13) rfl)), (mr_27 _ (List.mem_of_getElem? (i := 14) rfl)), (mr_27 _ (List.mem_of_getElem? (i := 15) rfl)), _, rfl, rfl⟩
theorem ln_9_182 : jLV RX9 182 M_xStepper_stepOf 1 5 := ⟨lk_xStepper_stepOf, Or.inr ⟨"CoreTerms", List.mem_of_getElem? (i := 4) rfl⟩, (mr_29 _ (List.mem_of_getElem? (i := 9) rfl)), (mr_29 _ (List.mem_of_getElem? (i := 10) rfl)), _, rfl, rfl⟩
theorem ln_9_185 : jLV RX9 185 M_xDropper_withoutLets 1 1 := ⟨lk_xDropper_withoutLets, Or.inr ⟨"CoreTerms", List.mem_of_getElem? (i := 6) rfl⟩, (mr_32 _ (List.mem_of_getElem? (i := 2) rfl)), (mr_32 _ (List.mem_of_getElem? (i := 3) rfl)), _, rfl, rfl⟩
theorem ln_9_188 : jLV RX9 188 M_xPrinter_show 1 2 := ⟨lk_xPrinter_show, Or.inl (mr_33 _ (List.mem_of_getElem? (i := 2) rfl)), (mr_33 _ (List.mem_of_getElem? (i := 3) rfl)), (mr_33 _ (List.mem_of_getElem? (i := 4) rfl)), _, rfl, rfl⟩
theorem ln_9_191 : jLV RX9 191 M_xPrinter_byteAt 1 2 := ⟨lk_xPrinter_byteAt, Or.inl (mr_36 _ (List.mem_of_getElem? (i := 15) rfl)), (mr_36 _ (List.mem_of_getElem? (i := 16) rfl)), (mr_36 _ (List.mem_of_getElem? (i := 17) rfl)), _, rfl, rfl⟩
theorem ln_9_194 : jLV RX9 194 M_xReader_addBytes 2 4 := ⟨lk_xReader_addBytes, Or.inl (mr_37 _ (List.mem_of_getElem? (i := 3) rfl)), (mr_37 _ (List.mem_of_getElem? (i := 4) rfl)), (mr_37 _ (List.mem_of_getElem? (i := 5) rfl)), _, rfl, rfl⟩
theorem ln_9_198 : jLV RX9 198 M_xReader_takeFrom 1 4 := ⟨lk_xReader_takeFrom, Or.inl (mr_37 _ (List.mem_of_getElem? (i := 20) rfl)), (mr_37 _ (List.mem_of_getElem? (i := 21) rfl)), (mr_37 _ (List.mem_of_getElem? (i := 22) rfl)), _, rfl, rfl⟩
theorem ln_9_202 : jLV RX9 202 M_xReader_wholeTape 0 4 := ⟨lk_xReader_wholeTape, Or.inl (mr_38 _ (List.mem_of_getElem? (i := 13) rfl)), (mr_38 _ (List.mem_of_getElem? (i := 14) rfl)), (mr_38 _ (List.mem_of_getElem? (i := 15) rfl)), _, rfl, rfl⟩
theorem ln_9_205 : jLV RX9 205 M_xTypes_total 0 7 := ⟨lk_xTypes_total, Or.inl (mr_43 _ (List.mem_of_getElem? (i := 21) rfl)), (mr_19 _ (List.mem_of_getElem? (i := 1) rfl)), (mr_19 _ (List.mem_of_getElem? (i := 2) rfl)), _, rfl, rfl⟩
theorem ln_9_206 : jLV RX9 206 M_xReader_tapeLength 0 4 := ⟨lk_xReader_tapeLength, Or.inl (mr_43 _ (List.mem_of_getElem? (i := 22) rfl)), (mr_43 _ (List.mem_of_getElem? (i := 23) rfl)), (mr_44 _ (List.mem_of_getElem? (i := 0) rfl)), _, rfl, rfl⟩
theorem ln_9_209 : jLV RX9 209 M_xPrinter_printLength 0 2 := ⟨lk_xPrinter_printLength, Or.inl (mr_44 _ (List.mem_of_getElem? (i := 2) rfl)), (mr_38 _ (List.mem_of_getElem? (i := 1) rfl)), (mr_38 _ (List.mem_of_getElem? (i := 2) rfl)), _, rfl, rfl⟩
theorem ln_9_212 : jLV RX9 212 M_xTerms_cutTo 1 6 := ⟨lk_xTerms_cutTo, Or.inl (mr_27 _ (List.mem_of_getElem? (i := 17) rfl)), (mr_27 _ (List.mem_of_getElem? (i := 18) rfl)), (mr_27 _ (List.mem_of_getElem? (i := 19) rfl)), _, rfl, rfl⟩
def M_m_in : jMd := (yX10_in, cX10_in, 3, (some .boolean))
theorem lk_m_in : jLk M_m_in 3 := ⟨(mr_8 _ (List.mem_of_getElem? (i := 21) rfl)), (mr_1 _ (List.mem_of_getElem? (i := 5) rfl)), ⟨by decide, by decide, by decide +kernel⟩, by decide⟩
def M_m_isLetter : jMd := (yX10_isLetter, cX10_isLetter, 1, (some .boolean))
theorem lk_m_isLetter : jLk M_m_isLetter 1 := ⟨(mr_10 _ (List.mem_of_getElem? (i := 11) rfl)), (mr_1 _ (List.mem_of_getElem? (i := 5) rfl)), ⟨by decide, by decide, by decide +kernel⟩, by decide⟩
def M_m_isType : jMd := (yX10_isType, cX10_isType, 2, (some .boolean))
theorem lk_m_isType : jLk M_m_isType 1 := ⟨(mr_8 _ (List.mem_of_getElem? (i := 18) rfl)), (mr_1 _ (List.mem_of_getElem? (i := 5) rfl)), ⟨by decide, by decide, by decide +kernel⟩, by decide⟩
def M_m_arrowOf : jMd := (yX10_arrowOf, cX10_arrowOf, 4, (some .int))
theorem lk_m_arrowOf : jLk M_m_arrowOf 2 := ⟨(mr_9 _ (List.mem_of_getElem? (i := 1) rfl)), (mr_1 _ (List.mem_of_getElem? (i := 5) rfl)), ⟨by decide, by decide, by decide +kernel⟩, by decide⟩
def M_m_arrow : jMd := (yX10_arrow, cX10_arrow, 3, (some .int))
theorem lk_m_arrow : jLk M_m_arrow 2 := ⟨(mr_8 _ (List.mem_of_getElem? (i := 14) rfl)), (mr_1 _ (List.mem_of_getElem? (i := 5) rfl)), ⟨by decide, by decide, by decide +kernel⟩, by decide⟩
def M_m_side : jMd := (yX10_side, cX10_side, 3, (some .int))
theorem lk_m_side : jLk M_m_side 2 := ⟨(mr_9 _ (List.mem_of_getElem? (i := 17) rfl)), (mr_1 _ (List.mem_of_getElem? (i := 5) rfl)), ⟨by decide, by decide, by decide +kernel⟩, by decide⟩
def M_m_declare : jMd := (yX10_declare, cX10_declare, 3, (some .int))
theorem lk_m_declare : jLk M_m_declare 2 := ⟨(mr_10 _ (List.mem_of_getElem? (i := 8) rfl)), (mr_1 _ (List.mem_of_getElem? (i := 5) rfl)), ⟨by decide, by decide, by decide +kernel⟩, by decide⟩
def M_m_isTerm : jMd := (yX10_isTerm, cX10_isTerm, 2, (some .boolean))
theorem lk_m_isTerm : jLk M_m_isTerm 1 := ⟨(mr_14 _ (List.mem_of_getElem? (i := 13) rfl)), (mr_1 _ (List.mem_of_getElem? (i := 5) rfl)), ⟨by decide, by decide, by decide +kernel⟩, by decide⟩
def M_m_partsOf : jMd := (yX10_partsOf, cX10_partsOf, 1, (some .int))
theorem lk_m_partsOf : jLk M_m_partsOf 1 := ⟨(mr_13 _ (List.mem_of_getElem? (i := 0) rfl)), (mr_1 _ (List.mem_of_getElem? (i := 5) rfl)), ⟨by decide, by decide, by decide +kernel⟩, by decide⟩
def M_m_part : jMd := (yX10_part, cX10_part, 3, (some .int))
theorem lk_m_part : jLk M_m_part 2 := ⟨(mr_13 _ (List.mem_of_getElem? (i := 4) rfl)), (mr_1 _ (List.mem_of_getElem? (i := 5) rfl)), ⟨by decide, by decide, by decide +kernel⟩, by decide⟩
def M_m_freeOf : jMd := (yX10_freeOf, cX10_freeOf, 3, (some .int))
theorem lk_m_freeOf : jLk M_m_freeOf 2 := ⟨(mr_13 _ (List.mem_of_getElem? (i := 8) rfl)), (mr_1 _ (List.mem_of_getElem? (i := 5) rfl)), ⟨by decide, by decide, by decide +kernel⟩, by decide⟩
def M_m_isFree : jMd := (yX10_isFree, cX10_isFree, 3, (some .boolean))
theorem lk_m_isFree : jLk M_m_isFree 2 := ⟨(mr_17 _ (List.mem_of_getElem? (i := 18) rfl)), (mr_1 _ (List.mem_of_getElem? (i := 5) rfl)), ⟨by decide, by decide, by decide +kernel⟩, by decide⟩
def M_m_make : jMd := (yX10_make, cX10_make, 15, (some .int))
theorem lk_m_make : jLk M_m_make 7 := ⟨(mr_12 _ (List.mem_of_getElem? (i := 20) rfl)), (mr_1 _ (List.mem_of_getElem? (i := 5) rfl)), ⟨by decide, by decide, by decide +kernel⟩, by decide⟩
def M_m_number : jMd := (yX10_number, cX10_number, 2, (some .int))
theorem lk_m_number : jLk M_m_number 1 := ⟨(mr_12 _ (List.mem_of_getElem? (i := 16) rfl)), (mr_1 _ (List.mem_of_getElem? (i := 5) rfl)), ⟨by decide, by decide, by decide +kernel⟩, by decide⟩
def M_m_name : jMd := (yX10_name, cX10_name, 2, (some .int))
theorem lk_m_name : jLk M_m_name 1 := ⟨(mr_13 _ (List.mem_of_getElem? (i := 20) rfl)), (mr_1 _ (List.mem_of_getElem? (i := 5) rfl)), ⟨by decide, by decide, by decide +kernel⟩, by decide⟩
def M_m_function : jMd := (yX10_function, cX10_function, 4, (some .int))
theorem lk_m_function : jLk M_m_function 3 := ⟨(mr_14 _ (List.mem_of_getElem? (i := 9) rfl)), (mr_1 _ (List.mem_of_getElem? (i := 5) rfl)), ⟨by decide, by decide, by decide +kernel⟩, by decide⟩
def M_m_let : jMd := (yX10_let, cX10_let, 4, (some .int))
theorem lk_m_let : jLk M_m_let 3 := ⟨(mr_15 _ (List.mem_of_getElem? (i := 1) rfl)), (mr_1 _ (List.mem_of_getElem? (i := 5) rfl)), ⟨by decide, by decide, by decide +kernel⟩, by decide⟩
def M_m_join : jMd := (yX10_join, cX10_join, 6, (some .int))
theorem lk_m_join : jLk M_m_join 4 := ⟨(mr_15 _ (List.mem_of_getElem? (i := 13) rfl)), (mr_1 _ (List.mem_of_getElem? (i := 5) rfl)), ⟨by decide, by decide, by decide +kernel⟩, by decide⟩
def M_m_told : jMd := (yX10_told, cX10_told, 3, (some .long))
theorem lk_m_told : jLk M_m_told 2 := ⟨(mr_17 _ (List.mem_of_getElem? (i := 4) rfl)), (mr_1 _ (List.mem_of_getElem? (i := 5) rfl)), ⟨by decide, by decide, by decide +kernel⟩, by decide⟩
def M_m_free : jMd := (yX10_free, cX10_free, 4, (some .int))
theorem lk_m_free : jLk M_m_free 1 := ⟨(mr_17 _ (List.mem_of_getElem? (i := 14) rfl)), (mr_1 _ (List.mem_of_getElem? (i := 5) rfl)), ⟨by decide, by decide, by decide +kernel⟩, by decide⟩
def M_m_uses : jMd := (yX10_uses, cX10_uses, 3, (some .int))
theorem lk_m_uses : jLk M_m_uses 2 := ⟨(mr_18 _ (List.mem_of_getElem? (i := 15) rfl)), (mr_1 _ (List.mem_of_getElem? (i := 5) rfl)), ⟨by decide, by decide, by decide +kernel⟩, by decide⟩
def M_m_push : jMd := (yX10_push, cX10_push, 2, none)
theorem lk_m_push : jLk M_m_push 1 := ⟨(mr_22 _ (List.mem_of_getElem? (i := 3) rfl)), (mr_1 _ (List.mem_of_getElem? (i := 5) rfl)), ⟨by decide, by decide, by decide +kernel⟩, by decide⟩
def M_m_faults : jMd := (yX10_faults, cX10_faults, 3, none)
theorem lk_m_faults : jLk M_m_faults 2 := ⟨(mr_22 _ (List.mem_of_getElem? (i := 7) rfl)), (mr_1 _ (List.mem_of_getElem? (i := 5) rfl)), ⟨by decide, by decide, by decide +kernel⟩, by decide⟩
def M_m_binds : jMd := (yX10_binds, cX10_binds, 4, none)
theorem lk_m_binds : jLk M_m_binds 3 := ⟨(mr_22 _ (List.mem_of_getElem? (i := 15) rfl)), (mr_1 _ (List.mem_of_getElem? (i := 5) rfl)), ⟨by decide, by decide, by decide +kernel⟩, by decide⟩
def M_m_typeOfNumbers : jMd := (yX10_typeOfNumbers, cX10_typeOfNumbers, 5, none)
theorem lk_m_typeOfNumbers : jLk M_m_typeOfNumbers 3 := ⟨(mr_22 _ (List.mem_of_getElem? (i := 23) rfl)), (mr_1 _ (List.mem_of_getElem? (i := 5) rfl)), ⟨by decide, by decide, by decide +kernel⟩, by decide⟩
def M_m_typeOfCall : jMd := (yX10_typeOfCall, cX10_typeOfCall, 4, none)
theorem lk_m_typeOfCall : jLk M_m_typeOfCall 3 := ⟨(mr_22 _ (List.mem_of_getElem? (i := 19) rfl)), (mr_1 _ (List.mem_of_getElem? (i := 5) rfl)), ⟨by decide, by decide, by decide +kernel⟩, by decide⟩
def M_m_typeOfBinder : jMd := (yX10_typeOfBinder, cX10_typeOfBinder, 6, none)
theorem lk_m_typeOfBinder : jLk M_m_typeOfBinder 3 := ⟨(mr_22 _ (List.mem_of_getElem? (i := 11) rfl)), (mr_1 _ (List.mem_of_getElem? (i := 5) rfl)), ⟨by decide, by decide, by decide +kernel⟩, by decide⟩
def M_m_type : jMd := (yX10_type, cX10_type, 7, (some .int))
theorem lk_m_type : jLk M_m_type 1 := ⟨(mr_21 _ (List.mem_of_getElem? (i := 20) rfl)), (mr_1 _ (List.mem_of_getElem? (i := 5) rfl)), ⟨by decide, by decide, by decide +kernel⟩, by decide⟩
def M_m_fault : jMd := (yX10_fault, cX10_fault, 2, (some .int))
theorem lk_m_fault : jLk M_m_fault 1 := ⟨(mr_23 _ (List.mem_of_getElem? (i := 15) rfl)), (mr_1 _ (List.mem_of_getElem? (i := 5) rfl)), ⟨by decide, by decide, by decide +kernel⟩, by decide⟩
def M_m_isLikeHere : jMd := (yX10_isLikeHere, cX10_isLikeHere, 5, (some .boolean))
theorem lk_m_isLikeHere : jLk M_m_isLikeHere 2 := ⟨(mr_25 _ (List.mem_of_getElem? (i := 8) rfl)), (mr_1 _ (List.mem_of_getElem? (i := 5) rfl)), ⟨by decide, by decide, by decide +kernel⟩, by decide⟩
def M_m_areAlike : jMd := (yX10_areAlike, cX10_areAlike, 10, (some .boolean))
theorem lk_m_areAlike : jLk M_m_areAlike 2 := ⟨(mr_25 _ (List.mem_of_getElem? (i := 3) rfl)), (mr_1 _ (List.mem_of_getElem? (i := 5) rfl)), ⟨by decide, by decide, by decide +kernel⟩, by decide⟩
def M_m_alike : jMd := (yX10_alike, cX10_alike, 3, (some .int))
theorem lk_m_alike : jLk M_m_alike 2 := ⟨(mr_24 _ (List.mem_of_getElem? (i := 23) rfl)), (mr_1 _ (List.mem_of_getElem? (i := 5) rfl)), ⟨by decide, by decide, by decide +kernel⟩, by decide⟩
def M_m_least : jMd := (yX10_least, cX10_least, 3, (some .int))
theorem lk_m_least : jLk M_m_least 1 := ⟨(mr_25 _ (List.mem_of_getElem? (i := 16) rfl)), (mr_1 _ (List.mem_of_getElem? (i := 5) rfl)), ⟨by decide, by decide, by decide +kernel⟩, by decide⟩
def M_m_pushPut : jMd := (yX10_pushPut, cX10_pushPut, 4, none)
theorem lk_m_pushPut : jLk M_m_pushPut 3 := ⟨(mr_28 _ (List.mem_of_getElem? (i := 8) rfl)), (mr_1 _ (List.mem_of_getElem? (i := 5) rfl)), ⟨by decide, by decide, by decide +kernel⟩, by decide⟩
def M_m_newLetter : jMd := (yX10_newLetter, cX10_newLetter, 4, (some .int))
theorem lk_m_newLetter : jLk M_m_newLetter 2 := ⟨(mr_28 _ (List.mem_of_getElem? (i := 20) rfl)), (mr_1 _ (List.mem_of_getElem? (i := 5) rfl)), ⟨by decide, by decide, by decide +kernel⟩, by decide⟩
def M_m_remade : jMd := (yX10_remade, cX10_remade, 7, (some .int))
theorem lk_m_remade : jLk M_m_remade 5 := ⟨(mr_29 _ (List.mem_of_getElem? (i := 0) rfl)), (mr_1 _ (List.mem_of_getElem? (i := 5) rfl)), ⟨by decide, by decide, by decide +kernel⟩, by decide⟩
def M_m_putBody : jMd := (yX10_putBody, cX10_putBody, 10, none)
theorem lk_m_putBody : jLk M_m_putBody 3 := ⟨(mr_28 _ (List.mem_of_getElem? (i := 16) rfl)), (mr_1 _ (List.mem_of_getElem? (i := 5) rfl)), ⟨by decide, by decide, by decide +kernel⟩, by decide⟩
def M_m_putParts : jMd := (yX10_putParts, cX10_putParts, 5, none)
theorem lk_m_putParts : jLk M_m_putParts 3 := ⟨(mr_29 _ (List.mem_of_getElem? (i := 4) rfl)), (mr_1 _ (List.mem_of_getElem? (i := 5) rfl)), ⟨by decide, by decide, by decide +kernel⟩, by decide⟩
def M_m_putTurn : jMd := (yX10_putTurn, cX10_putTurn, 5, none)
theorem lk_m_putTurn : jLk M_m_putTurn 0 := ⟨(mr_28 _ (List.mem_of_getElem? (i := 12) rfl)), (mr_1 _ (List.mem_of_getElem? (i := 5) rfl)), ⟨by decide, by decide, by decide +kernel⟩, by decide⟩
def M_m_putOf : jMd := (yX10_putOf, cX10_putOf, 5, (some .int))
theorem lk_m_putOf : jLk M_m_putOf 3 := ⟨(mr_28 _ (List.mem_of_getElem? (i := 4) rfl)), (mr_1 _ (List.mem_of_getElem? (i := 5) rfl)), ⟨by decide, by decide, by decide +kernel⟩, by decide⟩
def M_m_put : jMd := (yX10_put, cX10_put, 4, (some .int))
theorem lk_m_put : jLk M_m_put 3 := ⟨(mr_28 _ (List.mem_of_getElem? (i := 0) rfl)), (mr_1 _ (List.mem_of_getElem? (i := 5) rfl)), ⟨by decide, by decide, by decide +kernel⟩, by decide⟩
def M_m_partToStep : jMd := (yX10_partToStep, cX10_partToStep, 2, (some .int))
theorem lk_m_partToStep : jLk M_m_partToStep 1 := ⟨(mr_31 _ (List.mem_of_getElem? (i := 0) rfl)), (mr_1 _ (List.mem_of_getElem? (i := 5) rfl)), ⟨by decide, by decide, by decide +kernel⟩, by decide⟩
def M_m_stepHere : jMd := (yX10_stepHere, cX10_stepHere, 3, (some .int))
theorem lk_m_stepHere : jLk M_m_stepHere 1 := ⟨(mr_31 _ (List.mem_of_getElem? (i := 4) rfl)), (mr_1 _ (List.mem_of_getElem? (i := 5) rfl)), ⟨by decide, by decide, by decide +kernel⟩, by decide⟩
def M_m_stepOf : jMd := (yX10_stepOf, cX10_stepOf, 7, (some .int))
theorem lk_m_stepOf : jLk M_m_stepOf 1 := ⟨(mr_30 _ (List.mem_of_getElem? (i := 20) rfl)), (mr_1 _ (List.mem_of_getElem? (i := 5) rfl)), ⟨by decide, by decide, by decide +kernel⟩, by decide⟩
def M_m_step : jMd := (yX10_step, cX10_step, 2, (some .int))
theorem lk_m_step : jLk M_m_step 1 := ⟨(mr_30 _ (List.mem_of_getElem? (i := 16) rfl)), (mr_1 _ (List.mem_of_getElem? (i := 5) rfl)), ⟨by decide, by decide, by decide +kernel⟩, by decide⟩
def M_m_run : jMd := (yX10_run, cX10_run, 7, (some .int))
theorem lk_m_run : jLk M_m_run 2 := ⟨(mr_31 _ (List.mem_of_getElem? (i := 12) rfl)), (mr_1 _ (List.mem_of_getElem? (i := 5) rfl)), ⟨by decide, by decide, by decide +kernel⟩, by decide⟩
def M_m_ran : jMd := (yX10_ran, cX10_ran, 1, (some .int))
theorem lk_m_ran : jLk M_m_ran 0 := ⟨(mr_31 _ (List.mem_of_getElem? (i := 21) rfl)), (mr_1 _ (List.mem_of_getElem? (i := 5) rfl)), ⟨by decide, by decide, by decide +kernel⟩, by decide⟩
def M_m_dropTurn : jMd := (yX10_dropTurn, cX10_dropTurn, 5, none)
theorem lk_m_dropTurn : jLk M_m_dropTurn 0 := ⟨(mr_32 _ (List.mem_of_getElem? (i := 21) rfl)), (mr_1 _ (List.mem_of_getElem? (i := 5) rfl)), ⟨by decide, by decide, by decide +kernel⟩, by decide⟩
def M_m_drop : jMd := (yX10_drop, cX10_drop, 3, (some .int))
theorem lk_m_drop : jLk M_m_drop 1 := ⟨(mr_32 _ (List.mem_of_getElem? (i := 17) rfl)), (mr_1 _ (List.mem_of_getElem? (i := 5) rfl)), ⟨by decide, by decide, by decide +kernel⟩, by decide⟩
def M_m_say : jMd := (yX10_say, cX10_say, 2, none)
theorem lk_m_say : jLk M_m_say 1 := ⟨(mr_36 _ (List.mem_of_getElem? (i := 6) rfl)), (mr_1 _ (List.mem_of_getElem? (i := 5) rfl)), ⟨by decide, by decide, by decide +kernel⟩, by decide⟩
def M_m_sayNumber : jMd := (yX10_sayNumber, cX10_sayNumber, 6, none)
theorem lk_m_sayNumber : jLk M_m_sayNumber 1 := ⟨(mr_36 _ (List.mem_of_getElem? (i := 0) rfl)), (mr_1 _ (List.mem_of_getElem? (i := 5) rfl)), ⟨by decide, by decide, by decide +kernel⟩, by decide⟩
def M_m_sayType : jMd := (yX10_sayType, cX10_sayType, 5, none)
theorem lk_m_sayType : jLk M_m_sayType 1 := ⟨(mr_36 _ (List.mem_of_getElem? (i := 10) rfl)), (mr_1 _ (List.mem_of_getElem? (i := 5) rfl)), ⟨by decide, by decide, by decide +kernel⟩, by decide⟩
def M_m_sayAt : jMd := (yX10_sayAt, cX10_sayAt, 4, none)
theorem lk_m_sayAt : jLk M_m_sayAt 2 := ⟨(mr_35 _ (List.mem_of_getElem? (i := 20) rfl)), (mr_1 _ (List.mem_of_getElem? (i := 5) rfl)), ⟨by decide, by decide, by decide +kernel⟩, by decide⟩
def M_m_print : jMd := (yX10_print, cX10_print, 5, (some .int))
theorem lk_m_print : jLk M_m_print 1 := ⟨(mr_35 _ (List.mem_of_getElem? (i := 13) rfl)), (mr_1 _ (List.mem_of_getElem? (i := 5) rfl)), ⟨by decide, by decide, by decide +kernel⟩, by decide⟩
def M_m_at : jMd := (yX10_at, cX10_at, 2, (some .int))
theorem lk_m_at : jLk M_m_at 1 := ⟨(mr_36 _ (List.mem_of_getElem? (i := 22) rfl)), (mr_1 _ (List.mem_of_getElem? (i := 5) rfl)), ⟨by decide, by decide, by decide +kernel⟩, by decide⟩
def M_m_feed : jMd := (yX10_feed, cX10_feed, 5, (some .int))
theorem lk_m_feed : jLk M_m_feed 2 := ⟨(mr_37 _ (List.mem_of_getElem? (i := 14) rfl)), (mr_1 _ (List.mem_of_getElem? (i := 5) rfl)), ⟨by decide, by decide, by decide +kernel⟩, by decide⟩
def M_m_copy : jMd := (yX10_copy, cX10_copy, 2, (some .int))
theorem lk_m_copy : jLk M_m_copy 0 := ⟨(mr_38 _ (List.mem_of_getElem? (i := 8) rfl)), (mr_1 _ (List.mem_of_getElem? (i := 5) rfl)), ⟨by decide, by decide, by decide +kernel⟩, by decide⟩
def M_m_byteHere : jMd := (yX10_byteHere, cX10_byteHere, 1, (some .int))
theorem lk_m_byteHere : jLk M_m_byteHere 0 := ⟨(mr_42 _ (List.mem_of_getElem? (i := 10) rfl)), (mr_1 _ (List.mem_of_getElem? (i := 5) rfl)), ⟨by decide, by decide, by decide +kernel⟩, by decide⟩
def M_m_must : jMd := (yX10_must, cX10_must, 2, none)
theorem lk_m_must : jLk M_m_must 1 := ⟨(mr_42 _ (List.mem_of_getElem? (i := 14) rfl)), (mr_1 _ (List.mem_of_getElem? (i := 5) rfl)), ⟨by decide, by decide, by decide +kernel⟩, by decide⟩
def M_m_mustLetter : jMd := (yX10_mustLetter, cX10_mustLetter, 2, (some .int))
theorem lk_m_mustLetter : jLk M_m_mustLetter 0 := ⟨(mr_43 _ (List.mem_of_getElem? (i := 12) rfl)), (mr_1 _ (List.mem_of_getElem? (i := 5) rfl)), ⟨by decide, by decide, by decide +kernel⟩, by decide⟩
def M_m_made : jMd := (yX10_made, cX10_made, 2, none)
theorem lk_m_made : jLk M_m_made 1 := ⟨(mr_42 _ (List.mem_of_getElem? (i := 18) rfl)), (mr_1 _ (List.mem_of_getElem? (i := 5) rfl)), ⟨by decide, by decide, by decide +kernel⟩, by decide⟩
def M_m_readType : jMd := (yX10_readType, cX10_readType, 4, (some .int))
theorem lk_m_readType : jLk M_m_readType 0 := ⟨(mr_43 _ (List.mem_of_getElem? (i := 16) rfl)), (mr_1 _ (List.mem_of_getElem? (i := 5) rfl)), ⟨by decide, by decide, by decide +kernel⟩, by decide⟩
def M_m_readNumber : jMd := (yX10_readNumber, cX10_readNumber, 7, none)
theorem lk_m_readNumber : jLk M_m_readNumber 0 := ⟨(mr_43 _ (List.mem_of_getElem? (i := 5) rfl)), (mr_1 _ (List.mem_of_getElem? (i := 5) rfl)), ⟨by decide, by decide, by decide +kernel⟩, by decide⟩
def M_m_readBegin : jMd := (yX10_readBegin, cX10_readBegin, 4, none)
theorem lk_m_readBegin : jLk M_m_readBegin 0 := ⟨(mr_43 _ (List.mem_of_getElem? (i := 1) rfl)), (mr_1 _ (List.mem_of_getElem? (i := 5) rfl)), ⟨by decide, by decide, by decide +kernel⟩, by decide⟩
def M_m_readPart : jMd := (yX10_readPart, cX10_readPart, 6, none)
theorem lk_m_readPart : jLk M_m_readPart 0 := ⟨(mr_42 _ (List.mem_of_getElem? (i := 6) rfl)), (mr_1 _ (List.mem_of_getElem? (i := 5) rfl)), ⟨by decide, by decide, by decide +kernel⟩, by decide⟩
def M_m_begins : jMd := (yX10_begins, cX10_begins, 1, (some .boolean))
theorem lk_m_begins : jLk M_m_begins 1 := ⟨(mr_42 _ (List.mem_of_getElem? (i := 21) rfl)), (mr_1 _ (List.mem_of_getElem? (i := 5) rfl)), ⟨by decide, by decide, by decide +kernel⟩, by decide⟩
def M_m_read : jMd := (yX10_read, cX10_read, 3, (some .int))
theorem lk_m_read : jLk M_m_read 0 := ⟨(mr_42 _ (List.mem_of_getElem? (i := 0) rfl)), (mr_1 _ (List.mem_of_getElem? (i := 5) rfl)), ⟨by decide, by decide, by decide +kernel⟩, by decide⟩
def M_m_count : jMd := (yX10_count, cX10_count, 2, (some .int))
theorem lk_m_count : jLk M_m_count 1 := ⟨(mr_44 _ (List.mem_of_getElem? (i := 6) rfl)), (mr_1 _ (List.mem_of_getElem? (i := 5) rfl)), ⟨by decide, by decide, by decide +kernel⟩, by decide⟩
def M_m_clear : jMd := (yX10_clear, cX10_clear, 2, (some .int))
theorem lk_m_clear : jLk M_m_clear 0 := ⟨(mr_44 _ (List.mem_of_getElem? (i := 14) rfl)), (mr_1 _ (List.mem_of_getElem? (i := 5) rfl)), ⟨by decide, by decide, by decide +kernel⟩, by decide⟩
def M_init10 : jMd := (yX10_init, cX10_init, 2, none)
theorem lk_init10 : jLk M_init10 0 := ⟨(mr_6 _ (List.mem_of_getElem? (i := 9) rfl)), (mr_1 _ (List.mem_of_getElem? (i := 5) rfl)), ⟨by decide, by decide, by decide +kernel⟩, by decide⟩
theorem ln_10_3 : jLS RX10 3 M_m_in 3 := ⟨lk_m_in, (mr_8 _ (List.mem_of_getElem? (i := 19) rfl)), (mr_8 _ (List.mem_of_getElem? (i := 20) rfl))⟩
theorem fl_10_13 : jFld RX10 13 10 0 := ⟨RX10, TX10, _, rfl, inlX10, by decide, (mr_6 _ (List.mem_of_getElem? (i := 11) rfl))⟩
theorem pfl_10_13 : jFldP RX10 13 10 0 false (tyX10 0) := ⟨RX10, TX10, _, tyX10, rfl, inlX10, by decide, (mr_6 _ (List.mem_of_getElem? (i := 11) rfl)), tyX10_ok, nmX10, rfl, tyX10_ok 0 (by decide), rfl⟩
theorem fl_10_17 : jFld RX10 17 10 1 := ⟨RX10, TX10, _, rfl, inlX10, by decide, (mr_6 _ (List.mem_of_getElem? (i := 12) rfl))⟩
theorem pfl_10_17 : jFldP RX10 17 10 1 true (tyX10 1) := ⟨RX10, TX10, _, tyX10, rfl, inlX10, by decide, (mr_6 _ (List.mem_of_getElem? (i := 12) rfl)), tyX10_ok, nmX10, rfl, tyX10_ok 1 (by decide), rfl⟩
theorem fl_10_21 : jFld RX10 21 10 2 := ⟨RX10, TX10, _, rfl, inlX10, by decide, (mr_6 _ (List.mem_of_getElem? (i := 13) rfl))⟩
theorem pfl_10_21 : jFldP RX10 21 10 2 true (tyX10 2) := ⟨RX10, TX10, _, tyX10, rfl, inlX10, by decide, (mr_6 _ (List.mem_of_getElem? (i := 13) rfl)), tyX10_ok, nmX10, rfl, tyX10_ok 2 (by decide), rfl⟩
theorem fl_10_24 : jFld RX10 24 10 3 := ⟨RX10, TX10, _, rfl, inlX10, by decide, (mr_6 _ (List.mem_of_getElem? (i := 14) rfl))⟩
theorem pfl_10_24 : jFldP RX10 24 10 3 true (tyX10 3) := ⟨RX10, TX10, _, tyX10, rfl, inlX10, by decide, (mr_6 _ (List.mem_of_getElem? (i := 14) rfl)), tyX10_ok, nmX10, rfl, tyX10_ok 3 (by decide), rfl⟩
theorem fl_10_27 : jFld RX10 27 10 4 := ⟨RX10, TX10, _, rfl, inlX10, by decide, (mr_6 _ (List.mem_of_getElem? (i := 15) rfl))⟩
theorem pfl_10_27 : jFldP RX10 27 10 4 true (tyX10 4) := ⟨RX10, TX10, _, tyX10, rfl, inlX10, by decide, (mr_6 _ (List.mem_of_getElem? (i := 15) rfl)), tyX10_ok, nmX10, rfl, tyX10_ok 4 (by decide), rfl⟩
theorem fl_10_30 : jFld RX10 30 10 6 := ⟨RX10, TX10, _, rfl, inlX10, by decide, (mr_6 _ (List.mem_of_getElem? (i := 16) rfl))⟩
theorem pfl_10_30 : jFldP RX10 30 10 6 true (tyX10 6) := ⟨RX10, TX10, _, tyX10, rfl, inlX10, by decide, (mr_6 _ (List.mem_of_getElem? (i := 16) rfl)), tyX10_ok, nmX10, rfl, tyX10_ok 6 (by decide), rfl⟩
theorem fl_10_33 : jFld RX10 33 10 7 := ⟨RX10, TX10, _, rfl, inlX10, by decide, (mr_6 _ (List.mem_of_getElem? (i := 17) rfl))⟩
theorem pfl_10_33 : jFldP RX10 33 10 7 true (tyX10 7) := ⟨RX10, TX10, _, tyX10, rfl, inlX10, by decide, (mr_6 _ (List.mem_of_getElem? (i := 17) rfl)), tyX10_ok, nmX10, rfl, tyX10_ok 7 (by decide), rfl⟩
theorem fl_10_36 : jFld RX10 36 10 8 := ⟨RX10, TX10, _, rfl, inlX10, by decide, (mr_6 _ (List.mem_of_getElem? (i := 18) rfl))⟩
theorem pfl_10_36 : jFldP RX10 36 10 8 true (tyX10 8) := ⟨RX10, TX10, _, tyX10, rfl, inlX10, by decide, (mr_6 _ (List.mem_of_getElem? (i := 18) rfl)), tyX10_ok, nmX10, rfl, tyX10_ok 8 (by decide), rfl⟩
theorem fl_10_39 : jFld RX10 39 10 9 := ⟨RX10, TX10, _, rfl, inlX10, by decide, (mr_6 _ (List.mem_of_getElem? (i := 19) rfl))⟩
theorem pfl_10_39 : jFldP RX10 39 10 9 true (tyX10 9) := ⟨RX10, TX10, _, tyX10, rfl, inlX10, by decide, (mr_6 _ (List.mem_of_getElem? (i := 19) rfl)), tyX10_ok, nmX10, rfl, tyX10_ok 9 (by decide), rfl⟩
theorem fl_10_42 : jFld RX10 42 10 10 := ⟨RX10, TX10, _, rfl, inlX10, by decide, (mr_6 _ (List.mem_of_getElem? (i := 20) rfl))⟩
theorem pfl_10_42 : jFldP RX10 42 10 10 true (tyX10 10) := ⟨RX10, TX10, _, tyX10, rfl, inlX10, by decide, (mr_6 _ (List.mem_of_getElem? (i := 20) rfl)), tyX10_ok, nmX10, rfl, tyX10_ok 10 (by decide), rfl⟩
theorem fl_10_45 : jFld RX10 45 10 11 := ⟨RX10, TX10, _, rfl, inlX10, by decide, (mr_6 _ (List.mem_of_getElem? (i := 21) rfl))⟩
theorem pfl_10_45 : jFldP RX10 45 10 11 true (tyX10 11) := ⟨RX10, TX10, _, tyX10, rfl, inlX10, by decide, (mr_6 _ (List.mem_of_getElem? (i := 21) rfl)), tyX10_ok, nmX10, rfl, tyX10_ok 11 (by decide), rfl⟩
theorem fl_10_48 : jFld RX10 48 10 12 := ⟨RX10, TX10, _, rfl, inlX10, by decide, (mr_6 _ (List.mem_of_getElem? (i := 22) rfl))⟩
theorem pfl_10_48 : jFldP RX10 48 10 12 true (tyX10 12) := ⟨RX10, TX10, _, tyX10, rfl, inlX10, by decide, (mr_6 _ (List.mem_of_getElem? (i := 22) rfl)), tyX10_ok, nmX10, rfl, tyX10_ok 12 (by decide), rfl⟩
theorem fl_10_51 : jFld RX10 51 10 13 := ⟨RX10, TX10, _, rfl, inlX10, by decide, (mr_6 _ (List.mem_of_getElem? (i := 23) rfl))⟩
theorem pfl_10_51 : jFldP RX10 51 10 13 true (tyX10 13) := ⟨RX10, TX10, _, tyX10, rfl, inlX10, by decide, (mr_6 _ (List.mem_of_getElem? (i := 23) rfl)), tyX10_ok, nmX10, rfl, tyX10_ok 13 (by decide), rfl⟩
theorem fl_10_54 : jFld RX10 54 10 15 := ⟨RX10, TX10, _, rfl, inlX10, by decide, (mr_7 _ (List.mem_of_getElem? (i := 0) rfl))⟩
theorem pfl_10_54 : jFldP RX10 54 10 15 true (tyX10 15) := ⟨RX10, TX10, _, tyX10, rfl, inlX10, by decide, (mr_7 _ (List.mem_of_getElem? (i := 0) rfl)), tyX10_ok, nmX10, rfl, tyX10_ok 15 (by decide), rfl⟩
theorem fl_10_57 : jFld RX10 57 10 16 := ⟨RX10, TX10, _, rfl, inlX10, by decide, (mr_7 _ (List.mem_of_getElem? (i := 1) rfl))⟩
theorem pfl_10_57 : jFldP RX10 57 10 16 true (tyX10 16) := ⟨RX10, TX10, _, tyX10, rfl, inlX10, by decide, (mr_7 _ (List.mem_of_getElem? (i := 1) rfl)), tyX10_ok, nmX10, rfl, tyX10_ok 16 (by decide), rfl⟩
theorem fl_10_60 : jFld RX10 60 10 17 := ⟨RX10, TX10, _, rfl, inlX10, by decide, (mr_7 _ (List.mem_of_getElem? (i := 2) rfl))⟩
theorem pfl_10_60 : jFldP RX10 60 10 17 true (tyX10 17) := ⟨RX10, TX10, _, tyX10, rfl, inlX10, by decide, (mr_7 _ (List.mem_of_getElem? (i := 2) rfl)), tyX10_ok, nmX10, rfl, tyX10_ok 17 (by decide), rfl⟩
theorem fl_10_63 : jFld RX10 63 10 18 := ⟨RX10, TX10, _, rfl, inlX10, by decide, (mr_7 _ (List.mem_of_getElem? (i := 3) rfl))⟩
theorem pfl_10_63 : jFldP RX10 63 10 18 true (tyX10 18) := ⟨RX10, TX10, _, tyX10, rfl, inlX10, by decide, (mr_7 _ (List.mem_of_getElem? (i := 3) rfl)), tyX10_ok, nmX10, rfl, tyX10_ok 18 (by decide), rfl⟩
theorem fl_10_66 : jFld RX10 66 10 19 := ⟨RX10, TX10, _, rfl, inlX10, by decide, (mr_7 _ (List.mem_of_getElem? (i := 4) rfl))⟩
theorem pfl_10_66 : jFldP RX10 66 10 19 true (tyX10 19) := ⟨RX10, TX10, _, tyX10, rfl, inlX10, by decide, (mr_7 _ (List.mem_of_getElem? (i := 4) rfl)), tyX10_ok, nmX10, rfl, tyX10_ok 19 (by decide), rfl⟩
theorem fl_10_69 : jFld RX10 69 10 20 := ⟨RX10, TX10, _, rfl, inlX10, by decide, (mr_7 _ (List.mem_of_getElem? (i := 5) rfl))⟩
theorem pfl_10_69 : jFldP RX10 69 10 20 true (tyX10 20) := ⟨RX10, TX10, _, tyX10, rfl, inlX10, by decide, (mr_7 _ (List.mem_of_getElem? (i := 5) rfl)), tyX10_ok, nmX10, rfl, tyX10_ok 20 (by decide), rfl⟩
theorem fl_10_72 : jFld RX10 72 10 21 := ⟨RX10, TX10, _, rfl, inlX10, by decide, (mr_7 _ (List.mem_of_getElem? (i := 6) rfl))⟩
theorem pfl_10_72 : jFldP RX10 72 10 21 true (tyX10 21) := ⟨RX10, TX10, _, tyX10, rfl, inlX10, by decide, (mr_7 _ (List.mem_of_getElem? (i := 6) rfl)), tyX10_ok, nmX10, rfl, tyX10_ok 21 (by decide), rfl⟩
theorem fl_10_75 : jFld RX10 75 10 23 := ⟨RX10, TX10, _, rfl, inlX10, by decide, (mr_7 _ (List.mem_of_getElem? (i := 7) rfl))⟩
theorem pfl_10_75 : jFldP RX10 75 10 23 true (tyX10 23) := ⟨RX10, TX10, _, tyX10, rfl, inlX10, by decide, (mr_7 _ (List.mem_of_getElem? (i := 7) rfl)), tyX10_ok, nmX10, rfl, tyX10_ok 23 (by decide), rfl⟩
theorem fl_10_78 : jFld RX10 78 10 25 := ⟨RX10, TX10, _, rfl, inlX10, by decide, (mr_7 _ (List.mem_of_getElem? (i := 8) rfl))⟩
theorem pfl_10_78 : jFldP RX10 78 10 25 false (tyX10 25) := ⟨RX10, TX10, _, tyX10, rfl, inlX10, by decide, (mr_7 _ (List.mem_of_getElem? (i := 8) rfl)), tyX10_ok, nmX10, rfl, tyX10_ok 25 (by decide), rfl⟩
theorem fl_10_81 : jFld RX10 81 10 26 := ⟨RX10, TX10, _, rfl, inlX10, by decide, (mr_7 _ (List.mem_of_getElem? (i := 9) rfl))⟩
theorem pfl_10_81 : jFldP RX10 81 10 26 true (tyX10 26) := ⟨RX10, TX10, _, tyX10, rfl, inlX10, by decide, (mr_7 _ (List.mem_of_getElem? (i := 9) rfl)), tyX10_ok, nmX10, rfl, tyX10_ok 26 (by decide), rfl⟩
theorem fl_10_84 : jFld RX10 84 10 27 := ⟨RX10, TX10, _, rfl, inlX10, by decide, (mr_7 _ (List.mem_of_getElem? (i := 10) rfl))⟩
theorem pfl_10_84 : jFldP RX10 84 10 27 true (tyX10 27) := ⟨RX10, TX10, _, tyX10, rfl, inlX10, by decide, (mr_7 _ (List.mem_of_getElem? (i := 10) rfl)), tyX10_ok, nmX10, rfl, tyX10_ok 27 (by decide), rfl⟩
theorem fl_10_87 : jFld RX10 87 10 29 := ⟨RX10, TX10, _, rfl, inlX10, by decide, (mr_7 _ (List.mem_of_getElem? (i := 11) rfl))⟩
theorem pfl_10_87 : jFldP RX10 87 10 29 true (tyX10 29) := ⟨RX10, TX10, _, tyX10, rfl, inlX10, by decide, (mr_7 _ (List.mem_of_getElem? (i := 11) rfl)), tyX10_ok, nmX10, rfl, tyX10_ok 29 (by decide), rfl⟩
theorem fl_10_90 : jFld RX10 90 10 30 := ⟨RX10, TX10, _, rfl, inlX10, by decide, (mr_7 _ (List.mem_of_getElem? (i := 12) rfl))⟩
theorem pfl_10_90 : jFldP RX10 90 10 30 true (tyX10 30) := ⟨RX10, TX10, _, tyX10, rfl, inlX10, by decide, (mr_7 _ (List.mem_of_getElem? (i := 12) rfl)), tyX10_ok, nmX10, rfl, tyX10_ok 30 (by decide), rfl⟩
theorem fl_10_93 : jFld RX10 93 10 32 := ⟨RX10, TX10, _, rfl, inlX10, by decide, (mr_7 _ (List.mem_of_getElem? (i := 13) rfl))⟩
theorem pfl_10_93 : jFldP RX10 93 10 32 true (tyX10 32) := ⟨RX10, TX10, _, tyX10, rfl, inlX10, by decide, (mr_7 _ (List.mem_of_getElem? (i := 13) rfl)), tyX10_ok, nmX10, rfl, tyX10_ok 32 (by decide), rfl⟩
theorem fl_10_96 : jFld RX10 96 10 34 := ⟨RX10, TX10, _, rfl, inlX10, by decide, (mr_7 _ (List.mem_of_getElem? (i := 14) rfl))⟩
theorem pfl_10_96 : jFldP RX10 96 10 34 true (tyX10 34) := ⟨RX10, TX10, _, tyX10, rfl, inlX10, by decide, (mr_7 _ (List.mem_of_getElem? (i := 14) rfl)), tyX10_ok, nmX10, rfl, tyX10_ok 34 (by decide), rfl⟩
theorem fl_10_99 : jFld RX10 99 10 37 := ⟨RX10, TX10, _, rfl, inlX10, by decide, (mr_7 _ (List.mem_of_getElem? (i := 15) rfl))⟩
theorem pfl_10_99 : jFldP RX10 99 10 37 true (tyX10 37) := ⟨RX10, TX10, _, tyX10, rfl, inlX10, by decide, (mr_7 _ (List.mem_of_getElem? (i := 15) rfl)), tyX10_ok, nmX10, rfl, tyX10_ok 37 (by decide), rfl⟩
theorem fl_10_102 : jFld RX10 102 10 38 := ⟨RX10, TX10, _, rfl, inlX10, by decide, (mr_7 _ (List.mem_of_getElem? (i := 16) rfl))⟩
theorem pfl_10_102 : jFldP RX10 102 10 38 true (tyX10 38) := ⟨RX10, TX10, _, tyX10, rfl, inlX10, by decide, (mr_7 _ (List.mem_of_getElem? (i := 16) rfl)), tyX10_ok, nmX10, rfl, tyX10_ok 38 (by decide), rfl⟩
theorem fl_10_105 : jFld RX10 105 10 39 := ⟨RX10, TX10, _, rfl, inlX10, by decide, (mr_7 _ (List.mem_of_getElem? (i := 17) rfl))⟩
theorem pfl_10_105 : jFldP RX10 105 10 39 true (tyX10 39) := ⟨RX10, TX10, _, tyX10, rfl, inlX10, by decide, (mr_7 _ (List.mem_of_getElem? (i := 17) rfl)), tyX10_ok, nmX10, rfl, tyX10_ok 39 (by decide), rfl⟩
theorem ln_10_108 : jLV RX10 108 M_m_isType 1 10 := ⟨lk_m_isType, Or.inl (mr_8 _ (List.mem_of_getElem? (i := 15) rfl)), (mr_8 _ (List.mem_of_getElem? (i := 16) rfl)), (mr_8 _ (List.mem_of_getElem? (i := 17) rfl)), _, rfl, rfl⟩
theorem ln_10_112 : jLV RX10 112 M_m_arrowOf 2 10 := ⟨lk_m_arrowOf, Or.inl (mr_8 _ (List.mem_of_getElem? (i := 22) rfl)), (mr_8 _ (List.mem_of_getElem? (i := 23) rfl)), (mr_9 _ (List.mem_of_getElem? (i := 0) rfl)), _, rfl, rfl⟩
theorem ln_10_116 : jLS RX10 116 M_m_isLetter 1 := ⟨lk_m_isLetter, (mr_10 _ (List.mem_of_getElem? (i := 9) rfl)), (mr_10 _ (List.mem_of_getElem? (i := 10) rfl))⟩
theorem fl_10_119 : jFld RX10 119 10 5 := ⟨RX10, TX10, _, rfl, inlX10, by decide, (mr_12 _ (List.mem_of_getElem? (i := 21) rfl))⟩
theorem ln_10_122 : jLS RX10 122 M_m_partsOf 1 := ⟨lk_m_partsOf, (mr_12 _ (List.mem_of_getElem? (i := 22) rfl)), (mr_12 _ (List.mem_of_getElem? (i := 23) rfl))⟩
theorem ln_10_126 : jLV RX10 126 M_m_part 2 10 := ⟨lk_m_part, Or.inl (mr_13 _ (List.mem_of_getElem? (i := 1) rfl)), (mr_13 _ (List.mem_of_getElem? (i := 2) rfl)), (mr_13 _ (List.mem_of_getElem? (i := 3) rfl)), _, rfl, rfl⟩
theorem ln_10_129 : jLV RX10 129 M_m_freeOf 2 10 := ⟨lk_m_freeOf, Or.inl (mr_13 _ (List.mem_of_getElem? (i := 5) rfl)), (mr_13 _ (List.mem_of_getElem? (i := 6) rfl)), (mr_13 _ (List.mem_of_getElem? (i := 7) rfl)), _, rfl, rfl⟩
theorem pfl_10_119 : jFldP RX10 119 10 5 false (tyX10 5) := ⟨RX10, TX10, _, tyX10, rfl, inlX10, by decide, (mr_12 _ (List.mem_of_getElem? (i := 21) rfl)), tyX10_ok, nmX10, rfl, tyX10_ok 5 (by decide), rfl⟩
theorem ln_10_132 : jLV RX10 132 M_m_make 7 10 := ⟨lk_m_make, Or.inl (mr_12 _ (List.mem_of_getElem? (i := 17) rfl)), (mr_12 _ (List.mem_of_getElem? (i := 18) rfl)), (mr_12 _ (List.mem_of_getElem? (i := 19) rfl)), _, rfl, rfl⟩
theorem ln_10_136 : jLV RX10 136 M_m_isTerm 1 10 := ⟨lk_m_isTerm, Or.inl (mr_14 _ (List.mem_of_getElem? (i := 10) rfl)), (mr_14 _ (List.mem_of_getElem? (i := 11) rfl)), (mr_14 _ (List.mem_of_getElem? (i := 12) rfl)), _, rfl, rfl⟩
theorem ln_10_141 : jLV RX10 141 M_m_isFree 2 10 := ⟨lk_m_isFree, Or.inl (mr_17 _ (List.mem_of_getElem? (i := 15) rfl)), (mr_17 _ (List.mem_of_getElem? (i := 16) rfl)), (mr_17 _ (List.mem_of_getElem? (i := 17) rfl)), _, rfl, rfl⟩
theorem fl_10_145 : jFld RX10 145 10 14 := ⟨RX10, TX10, _, rfl, inlX10, by decide, (mr_21 _ (List.mem_of_getElem? (i := 22) rfl))⟩
theorem pfl_10_145 : jFldP RX10 145 10 14 false (tyX10 14) := ⟨RX10, TX10, _, tyX10, rfl, inlX10, by decide, (mr_21 _ (List.mem_of_getElem? (i := 22) rfl)), tyX10_ok, nmX10, rfl, tyX10_ok 14 (by decide), rfl⟩
theorem fl_10_148 : jFld RX10 148 10 24 := ⟨RX10, TX10, _, rfl, inlX10, by decide, (mr_21 _ (List.mem_of_getElem? (i := 21) rfl))⟩
theorem pfl_10_148 : jFldP RX10 148 10 24 false (tyX10 24) := ⟨RX10, TX10, _, tyX10, rfl, inlX10, by decide, (mr_21 _ (List.mem_of_getElem? (i := 21) rfl)), tyX10_ok, nmX10, rfl, tyX10_ok 24 (by decide), rfl⟩
theorem fl_10_151 : jFld RX10 151 10 22 := ⟨RX10, TX10, _, rfl, inlX10, by decide, (mr_21 _ (List.mem_of_getElem? (i := 23) rfl))⟩
theorem pfl_10_151 : jFldP RX10 151 10 22 false (tyX10 22) := ⟨RX10, TX10, _, tyX10, rfl, inlX10, by decide, (mr_21 _ (List.mem_of_getElem? (i := 23) rfl)), tyX10_ok, nmX10, rfl, tyX10_ok 22 (by decide), rfl⟩
theorem ln_10_154 : jLV RX10 154 M_m_push 1 10 := ⟨lk_m_push, Or.inl (mr_22 _ (List.mem_of_getElem? (i := 0) rfl)), (mr_22 _ (List.mem_of_getElem? (i := 1) rfl)), (mr_22 _ (List.mem_of_getElem? (i := 2) rfl)), _, rfl, rfl⟩
theorem ln_10_158 : jLV RX10 158 M_m_faults 2 10 := ⟨lk_m_faults, Or.inl (mr_22 _ (List.mem_of_getElem? (i := 4) rfl)), (mr_22 _ (List.mem_of_getElem? (i := 5) rfl)), (mr_22 _ (List.mem_of_getElem? (i := 6) rfl)), _, rfl, rfl⟩
theorem ln_10_162 : jLV RX10 162 M_m_binds 3 10 := ⟨lk_m_binds, Or.inl (mr_22 _ (List.mem_of_getElem? (i := 12) rfl)), (mr_22 _ (List.mem_of_getElem? (i := 13) rfl)), (mr_22 _ (List.mem_of_getElem? (i := 14) rfl)), _, rfl, rfl⟩
theorem ln_10_166 : jLV RX10 166 M_m_typeOfBinder 3 10 := ⟨lk_m_typeOfBinder, Or.inl (mr_22 _ (List.mem_of_getElem? (i := 8) rfl)), (mr_22 _ (List.mem_of_getElem? (i := 9) rfl)), (mr_22 _ (List.mem_of_getElem? (i := 10) rfl)), _, rfl, rfl⟩
theorem ln_10_169 : jLV RX10 169 M_m_typeOfCall 3 10 := ⟨lk_m_typeOfCall, Or.inl (mr_22 _ (List.mem_of_getElem? (i := 16) rfl)), (mr_22 _ (List.mem_of_getElem? (i := 17) rfl)), (mr_22 _ (List.mem_of_getElem? (i := 18) rfl)), _, rfl, rfl⟩
theorem ln_10_172 : jLV RX10 172 M_m_typeOfNumbers 3 10 := ⟨lk_m_typeOfNumbers, Or.inl (mr_22 _ (List.mem_of_getElem? (i := 20) rfl)), (mr_22 _ (List.mem_of_getElem? (i := 21) rfl)), (mr_22 _ (List.mem_of_getElem? (i := 22) rfl)), _, rfl, rfl⟩
theorem fl_10_175 : jFld RX10 175 10 28 := ⟨RX10, TX10, _, rfl, inlX10, by decide, (mr_25 _ (List.mem_of_getElem? (i := 4) rfl))⟩
theorem pfl_10_175 : jFldP RX10 175 10 28 false (tyX10 28) := ⟨RX10, TX10, _, tyX10, rfl, inlX10, by decide, (mr_25 _ (List.mem_of_getElem? (i := 4) rfl)), tyX10_ok, nmX10, rfl, tyX10_ok 28 (by decide), rfl⟩
theorem ln_10_178 : jLV RX10 178 M_m_isLikeHere 2 10 := ⟨lk_m_isLikeHere, Or.inl (mr_25 _ (List.mem_of_getElem? (i := 5) rfl)), (mr_25 _ (List.mem_of_getElem? (i := 6) rfl)), (mr_25 _ (List.mem_of_getElem? (i := 7) rfl)), _, rfl, rfl⟩
theorem ln_10_181 : jLV RX10 181 M_m_areAlike 2 10 := ⟨lk_m_areAlike, Or.inl (mr_25 _ (List.mem_of_getElem? (i := 0) rfl)), (mr_25 _ (List.mem_of_getElem? (i := 1) rfl)), (mr_25 _ (List.mem_of_getElem? (i := 2) rfl)), _, rfl, rfl⟩
theorem ln_10_184 : jLV RX10 184 M_m_pushPut 3 10 := ⟨lk_m_pushPut, Or.inl (mr_28 _ (List.mem_of_getElem? (i := 5) rfl)), (mr_28 _ (List.mem_of_getElem? (i := 6) rfl)), (mr_28 _ (List.mem_of_getElem? (i := 7) rfl)), _, rfl, rfl⟩
theorem ln_10_187 : jLV RX10 187 M_m_newLetter 2 10 := ⟨lk_m_newLetter, Or.inl (mr_28 _ (List.mem_of_getElem? (i := 17) rfl)), (mr_28 _ (List.mem_of_getElem? (i := 18) rfl)), (mr_28 _ (List.mem_of_getElem? (i := 19) rfl)), _, rfl, rfl⟩
theorem ln_10_190 : jLV RX10 190 M_m_remade 5 10 := ⟨lk_m_remade, Or.inl (mr_28 _ (List.mem_of_getElem? (i := 21) rfl)), (mr_28 _ (List.mem_of_getElem? (i := 22) rfl)), (mr_28 _ (List.mem_of_getElem? (i := 23) rfl)), _, rfl, rfl⟩
theorem ln_10_194 : jLV RX10 194 M_m_putBody 3 10 := ⟨lk_m_putBody, Or.inl (mr_28 _ (List.mem_of_getElem? (i := 13) rfl)), (mr_28 _ (List.mem_of_getElem? (i := 14) rfl)), (mr_28 _ (List.mem_of_getElem? (i := 15) rfl)), _, rfl, rfl⟩
theorem ln_10_197 : jLV RX10 197 M_m_putParts 3 10 := ⟨lk_m_putParts, Or.inl (mr_29 _ (List.mem_of_getElem? (i := 1) rfl)), (mr_29 _ (List.mem_of_getElem? (i := 2) rfl)), (mr_29 _ (List.mem_of_getElem? (i := 3) rfl)), _, rfl, rfl⟩
theorem ln_10_200 : jLV RX10 200 M_m_putTurn 0 10 := ⟨lk_m_putTurn, Or.inl (mr_28 _ (List.mem_of_getElem? (i := 9) rfl)), (mr_28 _ (List.mem_of_getElem? (i := 10) rfl)), (mr_28 _ (List.mem_of_getElem? (i := 11) rfl)), _, rfl, rfl⟩
theorem ln_10_203 : jLV RX10 203 M_m_putOf 3 10 := ⟨lk_m_putOf, Or.inl (mr_28 _ (List.mem_of_getElem? (i := 1) rfl)), (mr_28 _ (List.mem_of_getElem? (i := 2) rfl)), (mr_28 _ (List.mem_of_getElem? (i := 3) rfl)), _, rfl, rfl⟩
theorem ln_10_207 : jLV RX10 207 M_m_partToStep 1 10 := ⟨lk_m_partToStep, Or.inl (mr_30 _ (List.mem_of_getElem? (i := 21) rfl)), (mr_30 _ (List.mem_of_getElem? (i := 22) rfl)), (mr_30 _ (List.mem_of_getElem? (i := 23) rfl)), _, rfl, rfl⟩
theorem ln_10_210 : jLV RX10 210 M_m_stepHere 1 10 := ⟨lk_m_stepHere, Or.inl (mr_31 _ (List.mem_of_getElem? (i := 1) rfl)), (mr_31 _ (List.mem_of_getElem? (i := 2) rfl)), (mr_31 _ (List.mem_of_getElem? (i := 3) rfl)), _, rfl, rfl⟩
theorem ln_10_213 : jLV RX10 213 M_m_stepOf 1 10 := ⟨lk_m_stepOf, Or.inl (mr_30 _ (List.mem_of_getElem? (i := 17) rfl)), (mr_30 _ (List.mem_of_getElem? (i := 18) rfl)), (mr_30 _ (List.mem_of_getElem? (i := 19) rfl)), _, rfl, rfl⟩
theorem fl_10_216 : jFld RX10 216 10 31 := ⟨RX10, TX10, _, rfl, inlX10, by decide, (mr_31 _ (List.mem_of_getElem? (i := 13) rfl))⟩
theorem pfl_10_216 : jFldP RX10 216 10 31 false (tyX10 31) := ⟨RX10, TX10, _, tyX10, rfl, inlX10, by decide, (mr_31 _ (List.mem_of_getElem? (i := 13) rfl)), tyX10_ok, nmX10, rfl, tyX10_ok 31 (by decide), rfl⟩
theorem ln_10_219 : jLV RX10 219 M_m_dropTurn 0 10 := ⟨lk_m_dropTurn, Or.inl (mr_32 _ (List.mem_of_getElem? (i := 18) rfl)), (mr_32 _ (List.mem_of_getElem? (i := 19) rfl)), (mr_32 _ (List.mem_of_getElem? (i := 20) rfl)), _, rfl, rfl⟩
theorem fl_10_222 : jFld RX10 222 10 35 := ⟨RX10, TX10, _, rfl, inlX10, by decide, (mr_35 _ (List.mem_of_getElem? (i := 14) rfl))⟩
theorem fl_10_225 : jFld RX10 225 10 36 := ⟨RX10, TX10, _, rfl, inlX10, by decide, (mr_35 _ (List.mem_of_getElem? (i := 15) rfl))⟩
theorem pfl_10_225 : jFldP RX10 225 10 36 false (tyX10 36) := ⟨RX10, TX10, _, tyX10, rfl, inlX10, by decide, (mr_35 _ (List.mem_of_getElem? (i := 15) rfl)), tyX10_ok, nmX10, rfl, tyX10_ok 36 (by decide), rfl⟩
theorem pfl_10_222 : jFldP RX10 222 10 35 false (tyX10 35) := ⟨RX10, TX10, _, tyX10, rfl, inlX10, by decide, (mr_35 _ (List.mem_of_getElem? (i := 14) rfl)), tyX10_ok, nmX10, rfl, tyX10_ok 35 (by decide), rfl⟩
theorem ln_10_229 : jLV RX10 229 M_m_say 1 10 := ⟨lk_m_say, Or.inl (mr_36 _ (List.mem_of_getElem? (i := 3) rfl)), (mr_36 _ (List.mem_of_getElem? (i := 4) rfl)), (mr_36 _ (List.mem_of_getElem? (i := 5) rfl)), _, rfl, rfl⟩
theorem ln_10_236 : jLV RX10 236 M_m_sayNumber 1 10 := ⟨lk_m_sayNumber, Or.inl (mr_35 _ (List.mem_of_getElem? (i := 21) rfl)), (mr_35 _ (List.mem_of_getElem? (i := 22) rfl)), (mr_35 _ (List.mem_of_getElem? (i := 23) rfl)), _, rfl, rfl⟩
theorem ln_10_239 : jLV RX10 239 M_m_sayType 1 10 := ⟨lk_m_sayType, Or.inl (mr_36 _ (List.mem_of_getElem? (i := 7) rfl)), (mr_36 _ (List.mem_of_getElem? (i := 8) rfl)), (mr_36 _ (List.mem_of_getElem? (i := 9) rfl)), _, rfl, rfl⟩
theorem ln_10_242 : jLV RX10 242 M_m_sayAt 2 10 := ⟨lk_m_sayAt, Or.inl (mr_35 _ (List.mem_of_getElem? (i := 17) rfl)), (mr_35 _ (List.mem_of_getElem? (i := 18) rfl)), (mr_35 _ (List.mem_of_getElem? (i := 19) rfl)), _, rfl, rfl⟩
theorem fl_10_245 : jFld RX10 245 10 33 := ⟨RX10, TX10, _, rfl, inlX10, by decide, (mr_35 _ (List.mem_of_getElem? (i := 16) rfl))⟩
theorem pfl_10_245 : jFldP RX10 245 10 33 false (tyX10 33) := ⟨RX10, TX10, _, tyX10, rfl, inlX10, by decide, (mr_35 _ (List.mem_of_getElem? (i := 16) rfl)), tyX10_ok, nmX10, rfl, tyX10_ok 33 (by decide), rfl⟩
theorem fl_10_248 : jFld RX10 248 10 40 := ⟨RX10, TX10, _, rfl, inlX10, by decide, (mr_37 _ (List.mem_of_getElem? (i := 15) rfl))⟩
theorem pfl_10_248 : jFldP RX10 248 10 40 false (tyX10 40) := ⟨RX10, TX10, _, tyX10, rfl, inlX10, by decide, (mr_37 _ (List.mem_of_getElem? (i := 15) rfl)), tyX10_ok, nmX10, rfl, tyX10_ok 40 (by decide), rfl⟩
theorem fl_10_251 : jFld RX10 251 10 41 := ⟨RX10, TX10, _, rfl, inlX10, by decide, (mr_42 _ (List.mem_of_getElem? (i := 1) rfl))⟩
theorem fl_10_254 : jFld RX10 254 10 42 := ⟨RX10, TX10, _, rfl, inlX10, by decide, (mr_42 _ (List.mem_of_getElem? (i := 2) rfl))⟩
theorem ln_10_257 : jLV RX10 257 M_m_byteHere 0 10 := ⟨lk_m_byteHere, Or.inl (mr_42 _ (List.mem_of_getElem? (i := 7) rfl)), (mr_42 _ (List.mem_of_getElem? (i := 8) rfl)), (mr_42 _ (List.mem_of_getElem? (i := 9) rfl)), _, rfl, rfl⟩
theorem pfl_10_251 : jFldP RX10 251 10 41 false (tyX10 41) := ⟨RX10, TX10, _, tyX10, rfl, inlX10, by decide, (mr_42 _ (List.mem_of_getElem? (i := 1) rfl)), tyX10_ok, nmX10, rfl, tyX10_ok 41 (by decide), rfl⟩
theorem pfl_10_254 : jFldP RX10 254 10 42 false (tyX10 42) := ⟨RX10, TX10, _, tyX10, rfl, inlX10, by decide, (mr_42 _ (List.mem_of_getElem? (i := 2) rfl)), tyX10_ok, nmX10, rfl, tyX10_ok 42 (by decide), rfl⟩
theorem ln_10_261 : jLV RX10 261 M_m_must 1 10 := ⟨lk_m_must, Or.inl (mr_42 _ (List.mem_of_getElem? (i := 11) rfl)), (mr_42 _ (List.mem_of_getElem? (i := 12) rfl)), (mr_42 _ (List.mem_of_getElem? (i := 13) rfl)), _, rfl, rfl⟩
theorem ln_10_270 : jLV RX10 270 M_m_made 1 10 := ⟨lk_m_made, Or.inl (mr_42 _ (List.mem_of_getElem? (i := 15) rfl)), (mr_42 _ (List.mem_of_getElem? (i := 16) rfl)), (mr_42 _ (List.mem_of_getElem? (i := 17) rfl)), _, rfl, rfl⟩
theorem ln_10_273 : jLV RX10 273 M_m_readNumber 0 10 := ⟨lk_m_readNumber, Or.inl (mr_43 _ (List.mem_of_getElem? (i := 2) rfl)), (mr_43 _ (List.mem_of_getElem? (i := 3) rfl)), (mr_43 _ (List.mem_of_getElem? (i := 4) rfl)), _, rfl, rfl⟩
theorem ln_10_276 : jLV RX10 276 M_m_mustLetter 0 10 := ⟨lk_m_mustLetter, Or.inl (mr_43 _ (List.mem_of_getElem? (i := 9) rfl)), (mr_43 _ (List.mem_of_getElem? (i := 10) rfl)), (mr_43 _ (List.mem_of_getElem? (i := 11) rfl)), _, rfl, rfl⟩
theorem ln_10_279 : jLV RX10 279 M_m_readType 0 10 := ⟨lk_m_readType, Or.inl (mr_43 _ (List.mem_of_getElem? (i := 13) rfl)), (mr_43 _ (List.mem_of_getElem? (i := 14) rfl)), (mr_43 _ (List.mem_of_getElem? (i := 15) rfl)), _, rfl, rfl⟩
theorem ln_10_282 : jLV RX10 282 M_m_readPart 0 10 := ⟨lk_m_readPart, Or.inl (mr_42 _ (List.mem_of_getElem? (i := 3) rfl)), (mr_42 _ (List.mem_of_getElem? (i := 4) rfl)), (mr_42 _ (List.mem_of_getElem? (i := 5) rfl)), _, rfl, rfl⟩
theorem ln_10_285 : jLS RX10 285 M_m_begins 1 := ⟨lk_m_begins, (mr_42 _ (List.mem_of_getElem? (i := 19) rfl)), (mr_42 _ (List.mem_of_getElem? (i := 20) rfl))⟩
theorem ln_10_288 : jLV RX10 288 M_m_readBegin 0 10 := ⟨lk_m_readBegin, Or.inl (mr_42 _ (List.mem_of_getElem? (i := 22) rfl)), (mr_42 _ (List.mem_of_getElem? (i := 23) rfl)), (mr_43 _ (List.mem_of_getElem? (i := 0) rfl)), _, rfl, rfl⟩
