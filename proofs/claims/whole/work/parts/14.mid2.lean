abbrev mJ0_charAt_5068e : MI := (yJ0_charAt_5068e, cJ0_charAt_5068e, 2, (Option.some Jvm.ClassFile.FieldType.char))
abbrev mJ0_checkIndex_df160 : MI := (yJ0_checkIndex_df160, cJ0_checkIndex_df160, 2, (Option.none : Option Jvm.ClassFile.FieldType))
abbrev mJ0_coder_7d493 : MI := (yJ0_coder_7d493, cJ0_coder_7d493, 1, (Option.some Jvm.ClassFile.FieldType.byte))
abbrev mJ0_isLatin1_aae02 : MI := (yJ0_isLatin1_aae02, cJ0_isLatin1_aae02, 1, (Option.some Jvm.ClassFile.FieldType.boolean))
abbrev mJ0_length_8abf5 : MI := (yJ0_length_8abf5, cJ0_length_8abf5, 1, (Option.some Jvm.ClassFile.FieldType.int))
abbrev mJ1_charAt_3b067 : MI := (yJ1_charAt_3b067, cJ1_charAt_3b067, 2, (Option.some Jvm.ClassFile.FieldType.char))
abbrev mJ2_charAt_3b067 : MI := (yJ2_charAt_3b067, cJ2_charAt_3b067, 2, (Option.some Jvm.ClassFile.FieldType.char))
abbrev mJ2_checkIndex_2214a : MI := (yJ2_checkIndex_2214a, cJ2_checkIndex_2214a, 2, (Option.none : Option Jvm.ClassFile.FieldType))
abbrev mJ2_getChar_3b067 : MI := (yJ2_getChar_3b067, cJ2_getChar_3b067, 2, (Option.some Jvm.ClassFile.FieldType.char))
abbrev mJ2_length_9d52b : MI := (yJ2_length_9d52b, cJ2_length_9d52b, 1, (Option.some Jvm.ClassFile.FieldType.int))
abbrev mJ3_checkIndex_8e157 : MI := (yJ3_checkIndex_8e157, cJ3_checkIndex_8e157, 3, (Option.some Jvm.ClassFile.FieldType.int))
abbrev mJ6_bitCount_0f7a4 : MI := (yJ6_bitCount_0f7a4, cJ6_bitCount_0f7a4, 1, (Option.some Jvm.ClassFile.FieldType.int))
abbrev mJ7_fill_53178 : MI := (yJ7_fill_53178, cJ7_fill_53178, 4, (Option.none : Option Jvm.ClassFile.FieldType))
abbrev mJ9_abs_0f7a4 : MI := (yJ9_abs_0f7a4, cJ9_abs_0f7a4, 1, (Option.some Jvm.ClassFile.FieldType.int))
abbrev mJ9_max_7cf53 : MI := (yJ9_max_7cf53, cJ9_max_7cf53, 2, (Option.some Jvm.ClassFile.FieldType.int))
abbrev mJ9_min_7cf53 : MI := (yJ9_min_7cf53, cJ9_min_7cf53, 2, (Option.some Jvm.ClassFile.FieldType.int))
abbrev mX0_init : MI := (yX0_init, cX0_init, 1, (Option.none : Option Jvm.ClassFile.FieldType))
abbrev mX0_reach : MI := (yX0_reach, cX0_reach, 1, (Option.some Jvm.ClassFile.FieldType.int))
abbrev mX0_signs : MI := (yX0_signs, cX0_signs, 2, (Option.some Jvm.ClassFile.FieldType.int))
abbrev mX10_init : MI := (yX10_init, cX10_init, 1, (Option.none : Option Jvm.ClassFile.FieldType))
abbrev mX10_reach : MI := (yX10_reach, cX10_reach, 1, (Option.some Jvm.ClassFile.FieldType.int))
abbrev mX11_about : MI := (yX11_about, cX11_about, 3, (Option.some Jvm.ClassFile.FieldType.int))
abbrev mX11_all : MI := (yX11_all, cX11_all, 3, (Option.some Jvm.ClassFile.FieldType.int))
abbrev mX11_clear : MI := (yX11_clear, cX11_clear, 2, (Option.some Jvm.ClassFile.FieldType.int))
abbrev mX11_commonDivisor : MI := (yX11_commonDivisor, cX11_commonDivisor, 11, (Option.some Jvm.ClassFile.FieldType.long))
abbrev mX11_count : MI := (yX11_count, cX11_count, 2, (Option.some Jvm.ClassFile.FieldType.int))
abbrev mX11_cover : MI := (yX11_cover, cX11_cover, 4, (Option.some Jvm.ClassFile.FieldType.int))
abbrev mX11_day : MI := (yX11_day, cX11_day, 1, (Option.some Jvm.ClassFile.FieldType.int))
abbrev mX11_digest : MI := (yX11_digest, cX11_digest, 4, (Option.some Jvm.ClassFile.FieldType.long))
abbrev mX11_everyMember : MI := (yX11_everyMember, cX11_everyMember, 1, (Option.some Jvm.ClassFile.FieldType.int))
abbrev mX11_fewest : MI := (yX11_fewest, cX11_fewest, 5, (Option.some Jvm.ClassFile.FieldType.int))
abbrev mX11_forged : MI := (yX11_forged, cX11_forged, 2, (Option.some Jvm.ClassFile.FieldType.int))
abbrev mX11_forget : MI := (yX11_forget, cX11_forget, 4, (Option.some Jvm.ClassFile.FieldType.int))
abbrev mX11_found : MI := (yX11_found, cX11_found, 2, (Option.some Jvm.ClassFile.FieldType.int))
abbrev mX11_frank : MI := (yX11_frank, cX11_frank, 3, (Option.some Jvm.ClassFile.FieldType.int))
abbrev mX11_from : MI := (yX11_from, cX11_from, 2, (Option.some Jvm.ClassFile.FieldType.int))
abbrev mX11_house : MI := (yX11_house, cX11_house, 2, (Option.some Jvm.ClassFile.FieldType.int))
abbrev mX11_howMany : MI := (yX11_howMany, cX11_howMany, 2, (Option.some Jvm.ClassFile.FieldType.int))
abbrev mX11_image : MI := (yX11_image, cX11_image, 2, (Option.some Jvm.ClassFile.FieldType.int))
abbrev mX11_init : MI := (yX11_init, cX11_init, 2, (Option.none : Option Jvm.ClassFile.FieldType))
abbrev mX11_is : MI := (yX11_is, cX11_is, 2, (Option.some Jvm.ClassFile.FieldType.int))
abbrev mX11_isLetter : MI := (yX11_isLetter, cX11_isLetter, 2, (Option.some Jvm.ClassFile.FieldType.boolean))
abbrev mX11_isMember : MI := (yX11_isMember, cX11_isMember, 2, (Option.some Jvm.ClassFile.FieldType.boolean))
abbrev mX11_isPlace : MI := (yX11_isPlace, cX11_isPlace, 1, (Option.some Jvm.ClassFile.FieldType.boolean))
abbrev mX11_isSlipDay : MI := (yX11_isSlipDay, cX11_isSlipDay, 1, (Option.some Jvm.ClassFile.FieldType.boolean))
abbrev mX11_letter : MI := (yX11_letter, cX11_letter, 4, (Option.some Jvm.ClassFile.FieldType.int))
abbrev mX11_look : MI := (yX11_look, cX11_look, 3, (Option.some Jvm.ClassFile.FieldType.int))
abbrev mX11_may : MI := (yX11_may, cX11_may, 2, (Option.some Jvm.ClassFile.FieldType.int))
abbrev mX11_member : MI := (yX11_member, cX11_member, 3, (Option.some Jvm.ClassFile.FieldType.int))
abbrev mX11_mix : MI := (yX11_mix, cX11_mix, 4, (Option.some Jvm.ClassFile.FieldType.long))
abbrev mX11_mixSlips : MI := (yX11_mixSlips, cX11_mixSlips, 6, (Option.some Jvm.ClassFile.FieldType.long))
abbrev mX11_moves : MI := (yX11_moves, cX11_moves, 4, (Option.some Jvm.ClassFile.FieldType.int))
abbrev mX11_nextX : MI := (yX11_nextX, cX11_nextX, 2, (Option.some Jvm.ClassFile.FieldType.long))
abbrev mX11_note : MI := (yX11_note, cX11_note, 4, (Option.some Jvm.ClassFile.FieldType.int))
abbrev mX11_now : MI := (yX11_now, cX11_now, 2, (Option.some Jvm.ClassFile.FieldType.int))
abbrev mX11_of : MI := (yX11_of, cX11_of, 4, (Option.some Jvm.ClassFile.FieldType.int))
abbrev mX11_part : MI := (yX11_part, cX11_part, 2, (Option.some Jvm.ClassFile.FieldType.long))
abbrev mX11_pay : MI := (yX11_pay, cX11_pay, 2, (Option.some Jvm.ClassFile.FieldType.int))
abbrev mX11_penny : MI := (yX11_penny, cX11_penny, 3, (Option.some Jvm.ClassFile.FieldType.int))
abbrev mX11_read : MI := (yX11_read, cX11_read, 2, (Option.some Jvm.ClassFile.FieldType.int))
abbrev mX11_refuseBad : MI := (yX11_refuseBad, cX11_refuseBad, 1, (Option.some Jvm.ClassFile.FieldType.int))
abbrev mX11_refuseFull : MI := (yX11_refuseFull, cX11_refuseFull, 1, (Option.some Jvm.ClassFile.FieldType.int))
abbrev mX11_refuseNo : MI := (yX11_refuseNo, cX11_refuseNo, 1, (Option.some Jvm.ClassFile.FieldType.int))
abbrev mX11_refuseOtherBad : MI := (yX11_refuseOtherBad, cX11_refuseOtherBad, 1, (Option.some Jvm.ClassFile.FieldType.int))
abbrev mX11_sell : MI := (yX11_sell, cX11_sell, 4, (Option.some Jvm.ClassFile.FieldType.int))
abbrev mX11_sessions : MI := (yX11_sessions, cX11_sessions, 8, (Option.some Jvm.ClassFile.FieldType.int))
abbrev mX11_setFraction : MI := (yX11_setFraction, cX11_setFraction, 7, (Option.none : Option Jvm.ClassFile.FieldType))
abbrev mX11_stand : MI := (yX11_stand, cX11_stand, 4, (Option.some Jvm.ClassFile.FieldType.int))
abbrev mX11_status : MI := (yX11_status, cX11_status, 2, (Option.some Jvm.ClassFile.FieldType.int))
abbrev mX11_type : MI := (yX11_type, cX11_type, 2, (Option.some Jvm.ClassFile.FieldType.int))
abbrev mX11_undo : MI := (yX11_undo, cX11_undo, 1, (Option.some Jvm.ClassFile.FieldType.int))
abbrev mX11_where : MI := (yX11_where, cX11_where, 7, (Option.some Jvm.ClassFile.FieldType.int))
abbrev mX11_within : MI := (yX11_within, cX11_within, 3, (Option.some Jvm.ClassFile.FieldType.boolean))
abbrev mX12_about : MI := (yX12_about, cX12_about, 3, (Option.some Jvm.ClassFile.FieldType.int))
abbrev mX12_all : MI := (yX12_all, cX12_all, 6, (Option.some Jvm.ClassFile.FieldType.int))
abbrev mX12_areTrue : MI := (yX12_areTrue, cX12_areTrue, 7, (Option.some Jvm.ClassFile.FieldType.boolean))
abbrev mX12_bad : MI := (yX12_bad, cX12_bad, 2, (Option.some Jvm.ClassFile.FieldType.int))
abbrev mX12_bearsAs : MI := (yX12_bearsAs, cX12_bearsAs, 1, (Option.some Jvm.ClassFile.FieldType.int))
abbrev mX12_begin : MI := (yX12_begin, cX12_begin, 2, (Option.none : Option Jvm.ClassFile.FieldType))
abbrev mX12_bits : MI := (yX12_bits, cX12_bits, 3, (Option.some Jvm.ClassFile.FieldType.int))
abbrev mX12_canBeAt : MI := (yX12_canBeAt, cX12_canBeAt, 8, (Option.some Jvm.ClassFile.FieldType.boolean))
abbrev mX12_clear : MI := (yX12_clear, cX12_clear, 2, (Option.some Jvm.ClassFile.FieldType.int))
abbrev mX12_codes : MI := (yX12_codes, cX12_codes, 3, (Option.some Jvm.ClassFile.FieldType.int))
abbrev mX12_count : MI := (yX12_count, cX12_count, 2, (Option.some Jvm.ClassFile.FieldType.int))
abbrev mX12_counted : MI := (yX12_counted, cX12_counted, 2, (Option.some Jvm.ClassFile.FieldType.int))
abbrev mX12_cover : MI := (yX12_cover, cX12_cover, 5, (Option.some Jvm.ClassFile.FieldType.int))
abbrev mX12_coversAs : MI := (yX12_coversAs, cX12_coversAs, 3, (Option.some Jvm.ClassFile.FieldType.int))
abbrev mX12_day : MI := (yX12_day, cX12_day, 1, (Option.some Jvm.ClassFile.FieldType.int))
abbrev mX12_digest : MI := (yX12_digest, cX12_digest, 4, (Option.some Jvm.ClassFile.FieldType.long))
abbrev mX12_due : MI := (yX12_due, cX12_due, 3, (Option.some Jvm.ClassFile.FieldType.int))
abbrev mX12_fewest : MI := (yX12_fewest, cX12_fewest, 6, (Option.some Jvm.ClassFile.FieldType.int))
abbrev mX12_forged : MI := (yX12_forged, cX12_forged, 7, (Option.some Jvm.ClassFile.FieldType.int))
abbrev mX12_forget : MI := (yX12_forget, cX12_forget, 3, (Option.some Jvm.ClassFile.FieldType.int))
abbrev mX12_found : MI := (yX12_found, cX12_found, 4, (Option.some Jvm.ClassFile.FieldType.int))
abbrev mX12_fraction : MI := (yX12_fraction, cX12_fraction, 11, (Option.none : Option Jvm.ClassFile.FieldType))
abbrev mX12_frank : MI := (yX12_frank, cX12_frank, 3, (Option.some Jvm.ClassFile.FieldType.int))
abbrev mX12_from : MI := (yX12_from, cX12_from, 3, (Option.some Jvm.ClassFile.FieldType.int))
abbrev mX12_full : MI := (yX12_full, cX12_full, 1, (Option.some Jvm.ClassFile.FieldType.int))
abbrev mX12_get : MI := (yX12_get, cX12_get, 3, (Option.some Jvm.ClassFile.FieldType.int))
abbrev mX12_goBehind : MI := (yX12_goBehind, cX12_goBehind, 1, (Option.none : Option Jvm.ClassFile.FieldType))
abbrev mX12_goDay : MI := (yX12_goDay, cX12_goDay, 2, (Option.none : Option Jvm.ClassFile.FieldType))
abbrev mX12_goFrank : MI := (yX12_goFrank, cX12_goFrank, 3, (Option.some Jvm.ClassFile.FieldType.int))
abbrev mX12_has : MI := (yX12_has, cX12_has, 2, (Option.some Jvm.ClassFile.FieldType.boolean))
abbrev mX12_house : MI := (yX12_house, cX12_house, 2, (Option.some Jvm.ClassFile.FieldType.int))
abbrev mX12_image : MI := (yX12_image, cX12_image, 3, (Option.some Jvm.ClassFile.FieldType.int))
abbrev mX12_in : MI := (yX12_in, cX12_in, 6, (Option.some Jvm.ClassFile.FieldType.boolean))
abbrev mX12_init : MI := (yX12_init, cX12_init, 1, (Option.none : Option Jvm.ClassFile.FieldType))
abbrev mX12_is : MI := (yX12_is, cX12_is, 7, (Option.some Jvm.ClassFile.FieldType.int))
abbrev mX12_isCoverOf : MI := (yX12_isCoverOf, cX12_isCoverOf, 4, (Option.some Jvm.ClassFile.FieldType.boolean))
abbrev mX12_isFigure : MI := (yX12_isFigure, cX12_isFigure, 1, (Option.some Jvm.ClassFile.FieldType.boolean))
abbrev mX12_isLetter : MI := (yX12_isLetter, cX12_isLetter, 2, (Option.some Jvm.ClassFile.FieldType.boolean))
abbrev mX12_isMember : MI := (yX12_isMember, cX12_isMember, 2, (Option.some Jvm.ClassFile.FieldType.boolean))
abbrev mX12_isPlace : MI := (yX12_isPlace, cX12_isPlace, 1, (Option.some Jvm.ClassFile.FieldType.boolean))
abbrev mX12_isSmall : MI := (yX12_isSmall, cX12_isSmall, 1, (Option.some Jvm.ClassFile.FieldType.boolean))
abbrev mX12_keep : MI := (yX12_keep, cX12_keep, 2, (Option.none : Option Jvm.ClassFile.FieldType))
abbrev mX12_layCovers : MI := (yX12_layCovers, cX12_layCovers, 2, (Option.none : Option Jvm.ClassFile.FieldType))
abbrev mX12_layLetter : MI := (yX12_layLetter, cX12_layLetter, 5, (Option.none : Option Jvm.ClassFile.FieldType))
abbrev mX12_layMember : MI := (yX12_layMember, cX12_layMember, 4, (Option.none : Option Jvm.ClassFile.FieldType))
abbrev mX12_letter : MI := (yX12_letter, cX12_letter, 4, (Option.some Jvm.ClassFile.FieldType.int))
abbrev mX12_letters : MI := (yX12_letters, cX12_letters, 1, (Option.some Jvm.ClassFile.FieldType.int))
abbrev mX12_lies : MI := (yX12_lies, cX12_lies, 2, (Option.some Jvm.ClassFile.FieldType.boolean))
abbrev mX12_look : MI := (yX12_look, cX12_look, 9, (Option.some Jvm.ClassFile.FieldType.int))
abbrev mX12_lookAt : MI := (yX12_lookAt, cX12_lookAt, 5, (Option.none : Option Jvm.ClassFile.FieldType))
abbrev mX12_manyLie : MI := (yX12_manyLie, cX12_manyLie, 3, (Option.some Jvm.ClassFile.FieldType.int))
abbrev mX12_may : MI := (yX12_may, cX12_may, 4, (Option.some Jvm.ClassFile.FieldType.int))
abbrev mX12_mayFrank : MI := (yX12_mayFrank, cX12_mayFrank, 6, (Option.some Jvm.ClassFile.FieldType.boolean))
abbrev mX12_member : MI := (yX12_member, cX12_member, 3, (Option.some Jvm.ClassFile.FieldType.int))
abbrev mX12_members : MI := (yX12_members, cX12_members, 1, (Option.some Jvm.ClassFile.FieldType.int))
abbrev mX12_miles : MI := (yX12_miles, cX12_miles, 2, (Option.some Jvm.ClassFile.FieldType.int))
abbrev mX12_moves : MI := (yX12_moves, cX12_moves, 4, (Option.some Jvm.ClassFile.FieldType.int))
abbrev mX12_no : MI := (yX12_no, cX12_no, 1, (Option.some Jvm.ClassFile.FieldType.int))
abbrev mX12_note : MI := (yX12_note, cX12_note, 5, (Option.some Jvm.ClassFile.FieldType.int))
abbrev mX12_now : MI := (yX12_now, cX12_now, 2, (Option.some Jvm.ClassFile.FieldType.int))
abbrev mX12_of : MI := (yX12_of, cX12_of, 4, (Option.some Jvm.ClassFile.FieldType.int))
abbrev mX12_part : MI := (yX12_part, cX12_part, 2, (Option.some Jvm.ClassFile.FieldType.long))
abbrev mX12_pay : MI := (yX12_pay, cX12_pay, 2, (Option.some Jvm.ClassFile.FieldType.int))
abbrev mX12_penny : MI := (yX12_penny, cX12_penny, 4, (Option.some Jvm.ClassFile.FieldType.int))
abbrev mX12_postage : MI := (yX12_postage, cX12_postage, 2, (Option.some Jvm.ClassFile.FieldType.int))
abbrev mX12_postageOf : MI := (yX12_postageOf, cX12_postageOf, 3, (Option.some Jvm.ClassFile.FieldType.int))
abbrev mX12_reachAs : MI := (yX12_reachAs, cX12_reachAs, 1, (Option.some Jvm.ClassFile.FieldType.int))
abbrev mX12_read : MI := (yX12_read, cX12_read, 3, (Option.some Jvm.ClassFile.FieldType.int))
abbrev mX12_savedBy : MI := (yX12_savedBy, cX12_savedBy, 7, (Option.some Jvm.ClassFile.FieldType.int))
abbrev mX12_sell : MI := (yX12_sell, cX12_sell, 8, (Option.some Jvm.ClassFile.FieldType.int))
abbrev mX12_sessions : MI := (yX12_sessions, cX12_sessions, 9, (Option.some Jvm.ClassFile.FieldType.int))
abbrev mX12_spells : MI := (yX12_spells, cX12_spells, 10, (Option.some Jvm.ClassFile.FieldType.boolean))
abbrev mX12_stand : MI := (yX12_stand, cX12_stand, 7, (Option.some Jvm.ClassFile.FieldType.int))
abbrev mX12_status : MI := (yX12_status, cX12_status, 2, (Option.some Jvm.ClassFile.FieldType.int))
abbrev mX12_sums : MI := (yX12_sums, cX12_sums, 8, (Option.some Jvm.ClassFile.FieldType.long))
abbrev mX12_takes : MI := (yX12_takes, cX12_takes, 4, (Option.some Jvm.ClassFile.FieldType.boolean))
abbrev mX12_takesFrank : MI := (yX12_takesFrank, cX12_takesFrank, 1, (Option.some Jvm.ClassFile.FieldType.boolean))
abbrev mX12_takesItem : MI := (yX12_takesItem, cX12_takesItem, 1, (Option.some Jvm.ClassFile.FieldType.boolean))
abbrev mX12_takesLetter : MI := (yX12_takesLetter, cX12_takesLetter, 1, (Option.some Jvm.ClassFile.FieldType.boolean))
abbrev mX12_takesMember : MI := (yX12_takesMember, cX12_takesMember, 1, (Option.some Jvm.ClassFile.FieldType.boolean))
abbrev mX12_type : MI := (yX12_type, cX12_type, 2, (Option.some Jvm.ClassFile.FieldType.int))
abbrev mX12_undo : MI := (yX12_undo, cX12_undo, 2, (Option.some Jvm.ClassFile.FieldType.int))
abbrev mX12_where : MI := (yX12_where, cX12_where, 7, (Option.some Jvm.ClassFile.FieldType.int))
abbrev mX12_worthAt : MI := (yX12_worthAt, cX12_worthAt, 7, (Option.some Jvm.ClassFile.FieldType.int))
abbrev mX1_addLetter : MI := (yX1_addLetter, cX1_addLetter, 4, (Option.some Jvm.ClassFile.FieldType.int))
abbrev mX1_addMember : MI := (yX1_addMember, cX1_addMember, 3, (Option.some Jvm.ClassFile.FieldType.int))
abbrev mX1_coversLeft : MI := (yX1_coversLeft, cX1_coversLeft, 2, (Option.some Jvm.ClassFile.FieldType.int))
abbrev mX1_howManyLie : MI := (yX1_howManyLie, cX1_howManyLie, 3, (Option.some Jvm.ClassFile.FieldType.int))
abbrev mX1_init : MI := (yX1_init, cX1_init, 2, (Option.none : Option Jvm.ClassFile.FieldType))
abbrev mX1_kindAt : MI := (yX1_kindAt, cX1_kindAt, 2, (Option.some (Jvm.ClassFile.FieldType.object "SignedOutside$Plain")))
abbrev mX1_lies : MI := (yX1_lies, cX1_lies, 2, (Option.some Jvm.ClassFile.FieldType.boolean))
abbrev mX1_makeEmpty : MI := (yX1_makeEmpty, cX1_makeEmpty, 1, (Option.none : Option Jvm.ClassFile.FieldType))
abbrev mX1_mayFrank : MI := (yX1_mayFrank, cX1_mayFrank, 3, (Option.some Jvm.ClassFile.FieldType.boolean))
abbrev mX1_passDay : MI := (yX1_passDay, cX1_passDay, 1, (Option.none : Option Jvm.ClassFile.FieldType))
abbrev mX1_postage : MI := (yX1_postage, cX1_postage, 2, (Option.some Jvm.ClassFile.FieldType.int))
abbrev mX1_postageDue : MI := (yX1_postageDue, cX1_postageDue, 3, (Option.some Jvm.ClassFile.FieldType.int))
abbrev mX1_postageFranked : MI := (yX1_postageFranked, cX1_postageFranked, 3, (Option.some Jvm.ClassFile.FieldType.int))
abbrev mX1_postageOfEvery : MI := (yX1_postageOfEvery, cX1_postageOfEvery, 3, (Option.some Jvm.ClassFile.FieldType.int))
abbrev mX1_settle : MI := (yX1_settle, cX1_settle, 2, (Option.none : Option Jvm.ClassFile.FieldType))
abbrev mX1_sign : MI := (yX1_sign, cX1_sign, 3, (Option.none : Option Jvm.ClassFile.FieldType))
abbrev mX1_suits : MI := (yX1_suits, cX1_suits, 5, (Option.some Jvm.ClassFile.FieldType.boolean))
abbrev mX1_takeOver : MI := (yX1_takeOver, cX1_takeOver, 2, (Option.none : Option Jvm.ClassFile.FieldType))
abbrev mX1_weightOfEvery : MI := (yX1_weightOfEvery, cX1_weightOfEvery, 3, (Option.some Jvm.ClassFile.FieldType.int))
abbrev mX1_whoMayFrank : MI := (yX1_whoMayFrank, cX1_whoMayFrank, 4, (Option.some Jvm.ClassFile.FieldType.int))
abbrev mX2_bears : MI := (yX2_bears, cX2_bears, 1, (Option.some Jvm.ClassFile.FieldType.int))
abbrev mX2_init : MI := (yX2_init, cX2_init, 1, (Option.none : Option Jvm.ClassFile.FieldType))
abbrev mX3_bestPlace : MI := (yX3_bestPlace, cX3_bestPlace, 7, (Option.some Jvm.ClassFile.FieldType.int))
abbrev mX3_gain : MI := (yX3_gain, cX3_gain, 3, (Option.some Jvm.ClassFile.FieldType.int))
abbrev mX3_init : MI := (yX3_init, cX3_init, 1, (Option.none : Option Jvm.ClassFile.FieldType))
abbrev mX3_pairsThatRest : MI := (yX3_pairsThatRest, cX3_pairsThatRest, 12, (Option.some Jvm.ClassFile.FieldType.int))
abbrev mX3_place : MI := (yX3_place, cX3_place, 5, (Option.none : Option Jvm.ClassFile.FieldType))
abbrev mX3_solve : MI := (yX3_solve, cX3_solve, 5, (Option.some Jvm.ClassFile.FieldType.int))
abbrev mX3_sortByPostage : MI := (yX3_sortByPostage, cX3_sortByPostage, 4, (Option.none : Option Jvm.ClassFile.FieldType))
abbrev mX3_worthAt : MI := (yX3_worthAt, cX3_worthAt, 9, (Option.some Jvm.ClassFile.FieldType.int))
abbrev mX4_giveBack : MI := (yX4_giveBack, cX4_giveBack, 4, (Option.some Jvm.ClassFile.FieldType.boolean))
abbrev mX4_init : MI := (yX4_init, cX4_init, 1, (Option.none : Option Jvm.ClassFile.FieldType))
abbrev mX4_keep : MI := (yX4_keep, cX4_keep, 4, (Option.none : Option Jvm.ClassFile.FieldType))
abbrev mX4_makeEmpty : MI := (yX4_makeEmpty, cX4_makeEmpty, 1, (Option.none : Option Jvm.ClassFile.FieldType))
abbrev mX4_takeOver : MI := (yX4_takeOver, cX4_takeOver, 2, (Option.none : Option Jvm.ClassFile.FieldType))
abbrev mX5_bears : MI := (yX5_bears, cX5_bears, 1, (Option.some Jvm.ClassFile.FieldType.int))
abbrev mX5_init : MI := (yX5_init, cX5_init, 1, (Option.none : Option Jvm.ClassFile.FieldType))
abbrev mX5_reach : MI := (yX5_reach, cX5_reach, 1, (Option.some Jvm.ClassFile.FieldType.int))
abbrev mX5_signs : MI := (yX5_signs, cX5_signs, 2, (Option.some Jvm.ClassFile.FieldType.int))
abbrev mX6_append : MI := (yX6_append, cX6_append, 2, (Option.some Jvm.ClassFile.FieldType.boolean))
abbrev mX6_init : MI := (yX6_init, cX6_init, 1, (Option.none : Option Jvm.ClassFile.FieldType))
abbrev mX6_isFigure : MI := (yX6_isFigure, cX6_isFigure, 2, (Option.some Jvm.ClassFile.FieldType.boolean))
abbrev mX6_isLower : MI := (yX6_isLower, cX6_isLower, 2, (Option.some Jvm.ClassFile.FieldType.boolean))
abbrev mX6_isWord : MI := (yX6_isWord, cX6_isWord, 3, (Option.some Jvm.ClassFile.FieldType.boolean))
abbrev mX6_nextToken : MI := (yX6_nextToken, cX6_nextToken, 1, (Option.none : Option Jvm.ClassFile.FieldType))
abbrev mX6_readFrank : MI := (yX6_readFrank, cX6_readFrank, 3, (Option.some Jvm.ClassFile.FieldType.boolean))
abbrev mX6_readInto : MI := (yX6_readInto, cX6_readInto, 5, (Option.some Jvm.ClassFile.FieldType.int))
abbrev mX6_readLetter : MI := (yX6_readLetter, cX6_readLetter, 4, (Option.some Jvm.ClassFile.FieldType.boolean))
abbrev mX6_readMember : MI := (yX6_readMember, cX6_readMember, 3, (Option.some Jvm.ClassFile.FieldType.boolean))
abbrev mX6_readNumber : MI := (yX6_readNumber, cX6_readNumber, 1, (Option.none : Option Jvm.ClassFile.FieldType))
abbrev mX6_readWord : MI := (yX6_readWord, cX6_readWord, 1, (Option.none : Option Jvm.ClassFile.FieldType))
abbrev mX6_stops : MI := (yX6_stops, cX6_stops, 1, (Option.some Jvm.ClassFile.FieldType.boolean))
abbrev mX6_takesNumber : MI := (yX6_takesNumber, cX6_takesNumber, 3, (Option.some Jvm.ClassFile.FieldType.boolean))
abbrev mX7_init : MI := (yX7_init, cX7_init, 1, (Option.none : Option Jvm.ClassFile.FieldType))
abbrev mX7_signs : MI := (yX7_signs, cX7_signs, 2, (Option.some Jvm.ClassFile.FieldType.int))
abbrev mX8_add : MI := (yX8_add, cX8_add, 4, (Option.some Jvm.ClassFile.FieldType.boolean))
abbrev mX8_agrees : MI := (yX8_agrees, cX8_agrees, 4, (Option.some Jvm.ClassFile.FieldType.boolean))
abbrev mX8_canBeTrue : MI := (yX8_canBeTrue, cX8_canBeTrue, 6, (Option.some Jvm.ClassFile.FieldType.boolean))
abbrev mX8_fewestFalse : MI := (yX8_fewestFalse, cX8_fewestFalse, 7, (Option.some Jvm.ClassFile.FieldType.int))
abbrev mX8_highest : MI := (yX8_highest, cX8_highest, 5, (Option.some Jvm.ClassFile.FieldType.int))
abbrev mX8_init : MI := (yX8_init, cX8_init, 1, (Option.none : Option Jvm.ClassFile.FieldType))
abbrev mX8_kindsNoted : MI := (yX8_kindsNoted, cX8_kindsNoted, 5, (Option.some Jvm.ClassFile.FieldType.int))
abbrev mX8_lowest : MI := (yX8_lowest, cX8_lowest, 5, (Option.some Jvm.ClassFile.FieldType.int))
abbrev mX8_nextPlace : MI := (yX8_nextPlace, cX8_nextPlace, 11, (Option.some Jvm.ClassFile.FieldType.int))
abbrev mX8_onDay : MI := (yX8_onDay, cX8_onDay, 5, (Option.some Jvm.ClassFile.FieldType.int))
abbrev mX8_ownedBy : MI := (yX8_ownedBy, cX8_ownedBy, 4, (Option.some Jvm.ClassFile.FieldType.int))
abbrev mX8_placesFor : MI := (yX8_placesFor, cX8_placesFor, 3, (Option.some Jvm.ClassFile.FieldType.int))
abbrev mX8_takeOver : MI := (yX8_takeOver, cX8_takeOver, 2, (Option.none : Option Jvm.ClassFile.FieldType))
abbrev mX9_init : MI := (yX9_init, cX9_init, 1, (Option.none : Option Jvm.ClassFile.FieldType))
abbrev mX9_reach : MI := (yX9_reach, cX9_reach, 1, (Option.some Jvm.ClassFile.FieldType.int))
abbrev mX9_signs : MI := (yX9_signs, cX9_signs, 2, (Option.some Jvm.ClassFile.FieldType.int))
theorem lkV_mk {own : String} {idx n : Nat} {M : MI} (h1 : Cond.methodLink own idx M.1 ∈ WALL) (h2 : Cond.instanceMethod M.1 ∈ WALL) (h3 : Cond.selects M.1.cls M.1 M.1 ∈ WALL) (h4 : Cond.initialized M.1.cls ∈ WALL) (h5 : Cond.code M.1 M.2.1 M.2.2.1 M.2.2.2 ∈ WALL) (h6 : M.1.cls ≠ "java/lang/invoke/MethodHandle" ∧ M.1.cls ≠ "java/lang/invoke/VarHandle" ∧ (parseMethodDescriptor M.1.desc).map (fun d => d.parameters.length) = some n) : lkV own idx M n := by
  refine ⟨?_, h5, rfl, h6⟩
  intro w hw
  simp only [wsV, List.append_nil, List.mem_cons, List.not_mem_nil, or_false] at hw
  rcases hw with rfl | rfl | rfl | rfl
  · exact h1
  · exact h2
  · exact h3
  · exact h4
abbrev WG (l : Launch) (G : va_G) (ct : Nat → ClassId) (sk sv : Nat → Nat) (p : Program) (e : Env) (R : Room) (s : State) (m : MethodId) (args : Array Value) (below : List Frame) (meth : Method) (c : Code) (A : Nat → Prop) (B : Option Value → va_W → Prop) (H : Heap) (locs : List Loc) (g : JFrame) : Prop := W p l e R s m args below meth c H locs 0 0 (MQ below (POST (l, G, ct, sk, sv) A B) args s 0 0 A) g
theorem WG_eq {l : Launch} {G : va_G} {ct : Nat → ClassId} {sk sv : Nat → Nat} {p : Program} {e : Env} {R : Room} {s : State} {m : MethodId} {args : Array Value} {below : List Frame} {meth : Method} {c : Code} {A : Nat → Prop} {B : Option Value → va_W → Prop} {H : Heap} {locs : List Loc} {g g2 : JFrame} (h : g = g2) (k : WG l G ct sk sv p e R s m args below meth c A B H locs g2) : WG l G ct sk sv p e R s m args below meth c A B H locs g := h ▸ k
noncomputable def bc {α : Type} (c : Prop) (x y : Option α) : Option α := @ite _ c (Classical.propDecidable c) x y
theorem bc_t {α : Type} {c : Prop} {x y : Option α} {r : α} (h : bc c x y = some r) (hc : c) : x = some r := by unfold bc at h; rw [if_pos hc] at h; exact h
theorem bc_f {α : Type} {c : Prop} {x y : Option α} {r : α} (h : bc c x y = some r) (hc : ¬ c) : y = some r := by unfold bc at h; rw [if_neg hc] at h; exact h
theorem bc_T {α : Type} {c : Prop} {x y : Option α} (hc : c) : bc c x y = x := by unfold bc; rw [if_pos hc]
theorem bc_F {α : Type} {c : Prop} {x y : Option α} (hc : ¬ c) : bc c x y = y := by unfold bc; rw [if_neg hc]
def bl {α β : Type} (x : α) (k : α → Option β) : Option β := k x
theorem bl_e {α β : Type} {x : α} {k : α → Option β} {r : β} (h : bl x k = some r) : ∃ a, x = a ∧ k a = some r := ⟨x, rfl, h⟩
theorem bl_i {α β : Type} {x a : α} {k : α → Option β} {r : β} (h : bl x k = some r) (e : a = x) : k a = some r := by rw [e]; exact h
theorem lp_inl {σ ρ : Type} {body : σ → Option (σ ⊕ ρ)} {n : Nat} {r : ρ} {q : σ ⊕ ρ} {s' : σ} (hor : (∃ s', q = .inl s' ∧ lp body n s' = some r) ∨ q = .inr r) (hf : some (Sum.inl s' : σ ⊕ ρ) = some q) : lp body n s' = some r := by
  have e := Option.some.inj hf
  subst e
  rcases hor with ⟨s2, h1, h2⟩ | h1
  · cases h1; exact h2
  · cases h1
theorem lp_inr {σ ρ : Type} {body : σ → Option (σ ⊕ ρ)} {n : Nat} {r x : ρ} {q : σ ⊕ ρ} (hor : (∃ s', q = .inl s' ∧ lp body n s' = some r) ∨ q = .inr r) (hf : some (Sum.inr x : σ ⊕ ρ) = some q) : x = r := by
  have e := Option.some.inj hf
  subst e
  rcases hor with ⟨s2, h1, h2⟩ | h1
  · cases h1
  · cases h1; rfl
def cpOK (sp dp n : Int32) (n0 n1 : Nat) : Prop := ¬ sp < 0 ∧ ¬ dp < 0 ∧ ¬ n < 0 ∧ sp.toNatClampNeg + n.toNatClampNeg ≤ n0 ∧ dp.toNatClampNeg + n.toNatClampNeg ≤ n1
theorem vp_two {i : Int32} (h : vp_in i 2) (h0 : ¬ i = 0) : i = 1 := by
  obtain ⟨j, hj, e⟩ := vp_in_of h (by decide)
  have : j = 0 ∨ j = 1 := by omega
  rcases this with rfl | rfl
  · exact absurd e h0
  · exact e
def bd2 {T0 T1 β : Type} (x : Option (T0 × T1)) (k : T0 → T1 → Option β) : Option β := match x with
  | none => none
  | some q => k q.1 q.2
theorem bd2_e {T0 T1 β : Type} {x : Option (T0 × T1)} {k : T0 → T1 → Option β} {r : β} (h : bd2 x k = some r) : ∃ (a0 : T0) (a1 : T1), x = some (a0, a1) ∧ k a0 a1 = some r := by
  cases x with
  | none => cases h
  | some q => exact ⟨q.1, q.2, rfl, h⟩
theorem inj2 {T0 T1 : Type} {a0 : T0} {a1 : T1} {b0 : T0} {b1 : T1} (h : (a0, a1) = (b0, b1)) : a0 = b0 ∧ a1 = b1 := by
  cases h
  exact ⟨rfl, rfl⟩
def bd3 {T0 T1 T2 β : Type} (x : Option (T0 × T1 × T2)) (k : T0 → T1 → T2 → Option β) : Option β := match x with
  | none => none
  | some q => k q.1 q.2.1 q.2.2
theorem bd3_e {T0 T1 T2 β : Type} {x : Option (T0 × T1 × T2)} {k : T0 → T1 → T2 → Option β} {r : β} (h : bd3 x k = some r) : ∃ (a0 : T0) (a1 : T1) (a2 : T2), x = some (a0, a1, a2) ∧ k a0 a1 a2 = some r := by
  cases x with
  | none => cases h
  | some q => exact ⟨q.1, q.2.1, q.2.2, rfl, h⟩
theorem inj3 {T0 T1 T2 : Type} {a0 : T0} {a1 : T1} {a2 : T2} {b0 : T0} {b1 : T1} {b2 : T2} (h : (a0, a1, a2) = (b0, b1, b2)) : a0 = b0 ∧ a1 = b1 ∧ a2 = b2 := by
  cases h
  exact ⟨rfl, rfl, rfl⟩
def bd4 {T0 T1 T2 T3 β : Type} (x : Option (T0 × T1 × T2 × T3)) (k : T0 → T1 → T2 → T3 → Option β) : Option β := match x with
  | none => none
  | some q => k q.1 q.2.1 q.2.2.1 q.2.2.2
theorem bd4_e {T0 T1 T2 T3 β : Type} {x : Option (T0 × T1 × T2 × T3)} {k : T0 → T1 → T2 → T3 → Option β} {r : β} (h : bd4 x k = some r) : ∃ (a0 : T0) (a1 : T1) (a2 : T2) (a3 : T3), x = some (a0, a1, a2, a3) ∧ k a0 a1 a2 a3 = some r := by
  cases x with
  | none => cases h
  | some q => exact ⟨q.1, q.2.1, q.2.2.1, q.2.2.2, rfl, h⟩
theorem inj4 {T0 T1 T2 T3 : Type} {a0 : T0} {a1 : T1} {a2 : T2} {a3 : T3} {b0 : T0} {b1 : T1} {b2 : T2} {b3 : T3} (h : (a0, a1, a2, a3) = (b0, b1, b2, b3)) : a0 = b0 ∧ a1 = b1 ∧ a2 = b2 ∧ a3 = b3 := by
  cases h
  exact ⟨rfl, rfl, rfl, rfl⟩
def bd5 {T0 T1 T2 T3 T4 β : Type} (x : Option (T0 × T1 × T2 × T3 × T4)) (k : T0 → T1 → T2 → T3 → T4 → Option β) : Option β := match x with
  | none => none
  | some q => k q.1 q.2.1 q.2.2.1 q.2.2.2.1 q.2.2.2.2
theorem bd5_e {T0 T1 T2 T3 T4 β : Type} {x : Option (T0 × T1 × T2 × T3 × T4)} {k : T0 → T1 → T2 → T3 → T4 → Option β} {r : β} (h : bd5 x k = some r) : ∃ (a0 : T0) (a1 : T1) (a2 : T2) (a3 : T3) (a4 : T4), x = some (a0, a1, a2, a3, a4) ∧ k a0 a1 a2 a3 a4 = some r := by
  cases x with
  | none => cases h
  | some q => exact ⟨q.1, q.2.1, q.2.2.1, q.2.2.2.1, q.2.2.2.2, rfl, h⟩
theorem inj5 {T0 T1 T2 T3 T4 : Type} {a0 : T0} {a1 : T1} {a2 : T2} {a3 : T3} {a4 : T4} {b0 : T0} {b1 : T1} {b2 : T2} {b3 : T3} {b4 : T4} (h : (a0, a1, a2, a3, a4) = (b0, b1, b2, b3, b4)) : a0 = b0 ∧ a1 = b1 ∧ a2 = b2 ∧ a3 = b3 ∧ a4 = b4 := by
  cases h
  exact ⟨rfl, rfl, rfl, rfl, rfl⟩
def bd6 {T0 T1 T2 T3 T4 T5 β : Type} (x : Option (T0 × T1 × T2 × T3 × T4 × T5)) (k : T0 → T1 → T2 → T3 → T4 → T5 → Option β) : Option β := match x with
  | none => none
  | some q => k q.1 q.2.1 q.2.2.1 q.2.2.2.1 q.2.2.2.2.1 q.2.2.2.2.2
theorem bd6_e {T0 T1 T2 T3 T4 T5 β : Type} {x : Option (T0 × T1 × T2 × T3 × T4 × T5)} {k : T0 → T1 → T2 → T3 → T4 → T5 → Option β} {r : β} (h : bd6 x k = some r) : ∃ (a0 : T0) (a1 : T1) (a2 : T2) (a3 : T3) (a4 : T4) (a5 : T5), x = some (a0, a1, a2, a3, a4, a5) ∧ k a0 a1 a2 a3 a4 a5 = some r := by
  cases x with
  | none => cases h
  | some q => exact ⟨q.1, q.2.1, q.2.2.1, q.2.2.2.1, q.2.2.2.2.1, q.2.2.2.2.2, rfl, h⟩
theorem inj6 {T0 T1 T2 T3 T4 T5 : Type} {a0 : T0} {a1 : T1} {a2 : T2} {a3 : T3} {a4 : T4} {a5 : T5} {b0 : T0} {b1 : T1} {b2 : T2} {b3 : T3} {b4 : T4} {b5 : T5} (h : (a0, a1, a2, a3, a4, a5) = (b0, b1, b2, b3, b4, b5)) : a0 = b0 ∧ a1 = b1 ∧ a2 = b2 ∧ a3 = b3 ∧ a4 = b4 ∧ a5 = b5 := by
  cases h
  exact ⟨rfl, rfl, rfl, rfl, rfl, rfl⟩
def bd7 {T0 T1 T2 T3 T4 T5 T6 β : Type} (x : Option (T0 × T1 × T2 × T3 × T4 × T5 × T6)) (k : T0 → T1 → T2 → T3 → T4 → T5 → T6 → Option β) : Option β := match x with
  | none => none
  | some q => k q.1 q.2.1 q.2.2.1 q.2.2.2.1 q.2.2.2.2.1 q.2.2.2.2.2.1 q.2.2.2.2.2.2
theorem bd7_e {T0 T1 T2 T3 T4 T5 T6 β : Type} {x : Option (T0 × T1 × T2 × T3 × T4 × T5 × T6)} {k : T0 → T1 → T2 → T3 → T4 → T5 → T6 → Option β} {r : β} (h : bd7 x k = some r) : ∃ (a0 : T0) (a1 : T1) (a2 : T2) (a3 : T3) (a4 : T4) (a5 : T5) (a6 : T6), x = some (a0, a1, a2, a3, a4, a5, a6) ∧ k a0 a1 a2 a3 a4 a5 a6 = some r := by
  cases x with
  | none => cases h
  | some q => exact ⟨q.1, q.2.1, q.2.2.1, q.2.2.2.1, q.2.2.2.2.1, q.2.2.2.2.2.1, q.2.2.2.2.2.2, rfl, h⟩
theorem inj7 {T0 T1 T2 T3 T4 T5 T6 : Type} {a0 : T0} {a1 : T1} {a2 : T2} {a3 : T3} {a4 : T4} {a5 : T5} {a6 : T6} {b0 : T0} {b1 : T1} {b2 : T2} {b3 : T3} {b4 : T4} {b5 : T5} {b6 : T6} (h : (a0, a1, a2, a3, a4, a5, a6) = (b0, b1, b2, b3, b4, b5, b6)) : a0 = b0 ∧ a1 = b1 ∧ a2 = b2 ∧ a3 = b3 ∧ a4 = b4 ∧ a5 = b5 ∧ a6 = b6 := by
  cases h
  exact ⟨rfl, rfl, rfl, rfl, rfl, rfl, rfl⟩
def bd8 {T0 T1 T2 T3 T4 T5 T6 T7 β : Type} (x : Option (T0 × T1 × T2 × T3 × T4 × T5 × T6 × T7)) (k : T0 → T1 → T2 → T3 → T4 → T5 → T6 → T7 → Option β) : Option β := match x with
  | none => none
  | some q => k q.1 q.2.1 q.2.2.1 q.2.2.2.1 q.2.2.2.2.1 q.2.2.2.2.2.1 q.2.2.2.2.2.2.1 q.2.2.2.2.2.2.2
theorem bd8_e {T0 T1 T2 T3 T4 T5 T6 T7 β : Type} {x : Option (T0 × T1 × T2 × T3 × T4 × T5 × T6 × T7)} {k : T0 → T1 → T2 → T3 → T4 → T5 → T6 → T7 → Option β} {r : β} (h : bd8 x k = some r) : ∃ (a0 : T0) (a1 : T1) (a2 : T2) (a3 : T3) (a4 : T4) (a5 : T5) (a6 : T6) (a7 : T7), x = some (a0, a1, a2, a3, a4, a5, a6, a7) ∧ k a0 a1 a2 a3 a4 a5 a6 a7 = some r := by
  cases x with
  | none => cases h
  | some q => exact ⟨q.1, q.2.1, q.2.2.1, q.2.2.2.1, q.2.2.2.2.1, q.2.2.2.2.2.1, q.2.2.2.2.2.2.1, q.2.2.2.2.2.2.2, rfl, h⟩
theorem inj8 {T0 T1 T2 T3 T4 T5 T6 T7 : Type} {a0 : T0} {a1 : T1} {a2 : T2} {a3 : T3} {a4 : T4} {a5 : T5} {a6 : T6} {a7 : T7} {b0 : T0} {b1 : T1} {b2 : T2} {b3 : T3} {b4 : T4} {b5 : T5} {b6 : T6} {b7 : T7} (h : (a0, a1, a2, a3, a4, a5, a6, a7) = (b0, b1, b2, b3, b4, b5, b6, b7)) : a0 = b0 ∧ a1 = b1 ∧ a2 = b2 ∧ a3 = b3 ∧ a4 = b4 ∧ a5 = b5 ∧ a6 = b6 ∧ a7 = b7 := by
  cases h
  exact ⟨rfl, rfl, rfl, rfl, rfl, rfl, rfl, rfl⟩
def bd9 {T0 T1 T2 T3 T4 T5 T6 T7 T8 β : Type} (x : Option (T0 × T1 × T2 × T3 × T4 × T5 × T6 × T7 × T8)) (k : T0 → T1 → T2 → T3 → T4 → T5 → T6 → T7 → T8 → Option β) : Option β := match x with
  | none => none
  | some q => k q.1 q.2.1 q.2.2.1 q.2.2.2.1 q.2.2.2.2.1 q.2.2.2.2.2.1 q.2.2.2.2.2.2.1 q.2.2.2.2.2.2.2.1 q.2.2.2.2.2.2.2.2
theorem bd9_e {T0 T1 T2 T3 T4 T5 T6 T7 T8 β : Type} {x : Option (T0 × T1 × T2 × T3 × T4 × T5 × T6 × T7 × T8)} {k : T0 → T1 → T2 → T3 → T4 → T5 → T6 → T7 → T8 → Option β} {r : β} (h : bd9 x k = some r) : ∃ (a0 : T0) (a1 : T1) (a2 : T2) (a3 : T3) (a4 : T4) (a5 : T5) (a6 : T6) (a7 : T7) (a8 : T8), x = some (a0, a1, a2, a3, a4, a5, a6, a7, a8) ∧ k a0 a1 a2 a3 a4 a5 a6 a7 a8 = some r := by
  cases x with
  | none => cases h
  | some q => exact ⟨q.1, q.2.1, q.2.2.1, q.2.2.2.1, q.2.2.2.2.1, q.2.2.2.2.2.1, q.2.2.2.2.2.2.1, q.2.2.2.2.2.2.2.1, q.2.2.2.2.2.2.2.2, rfl, h⟩
theorem inj9 {T0 T1 T2 T3 T4 T5 T6 T7 T8 : Type} {a0 : T0} {a1 : T1} {a2 : T2} {a3 : T3} {a4 : T4} {a5 : T5} {a6 : T6} {a7 : T7} {a8 : T8} {b0 : T0} {b1 : T1} {b2 : T2} {b3 : T3} {b4 : T4} {b5 : T5} {b6 : T6} {b7 : T7} {b8 : T8} (h : (a0, a1, a2, a3, a4, a5, a6, a7, a8) = (b0, b1, b2, b3, b4, b5, b6, b7, b8)) : a0 = b0 ∧ a1 = b1 ∧ a2 = b2 ∧ a3 = b3 ∧ a4 = b4 ∧ a5 = b5 ∧ a6 = b6 ∧ a7 = b7 ∧ a8 = b8 := by
  cases h
  exact ⟨rfl, rfl, rfl, rfl, rfl, rfl, rfl, rfl, rfl⟩
def bd10 {T0 T1 T2 T3 T4 T5 T6 T7 T8 T9 β : Type} (x : Option (T0 × T1 × T2 × T3 × T4 × T5 × T6 × T7 × T8 × T9)) (k : T0 → T1 → T2 → T3 → T4 → T5 → T6 → T7 → T8 → T9 → Option β) : Option β := match x with
  | none => none
  | some q => k q.1 q.2.1 q.2.2.1 q.2.2.2.1 q.2.2.2.2.1 q.2.2.2.2.2.1 q.2.2.2.2.2.2.1 q.2.2.2.2.2.2.2.1 q.2.2.2.2.2.2.2.2.1 q.2.2.2.2.2.2.2.2.2
theorem bd10_e {T0 T1 T2 T3 T4 T5 T6 T7 T8 T9 β : Type} {x : Option (T0 × T1 × T2 × T3 × T4 × T5 × T6 × T7 × T8 × T9)} {k : T0 → T1 → T2 → T3 → T4 → T5 → T6 → T7 → T8 → T9 → Option β} {r : β} (h : bd10 x k = some r) : ∃ (a0 : T0) (a1 : T1) (a2 : T2) (a3 : T3) (a4 : T4) (a5 : T5) (a6 : T6) (a7 : T7) (a8 : T8) (a9 : T9), x = some (a0, a1, a2, a3, a4, a5, a6, a7, a8, a9) ∧ k a0 a1 a2 a3 a4 a5 a6 a7 a8 a9 = some r := by
  cases x with
  | none => cases h
  | some q => exact ⟨q.1, q.2.1, q.2.2.1, q.2.2.2.1, q.2.2.2.2.1, q.2.2.2.2.2.1, q.2.2.2.2.2.2.1, q.2.2.2.2.2.2.2.1, q.2.2.2.2.2.2.2.2.1, q.2.2.2.2.2.2.2.2.2, rfl, h⟩
theorem inj10 {T0 T1 T2 T3 T4 T5 T6 T7 T8 T9 : Type} {a0 : T0} {a1 : T1} {a2 : T2} {a3 : T3} {a4 : T4} {a5 : T5} {a6 : T6} {a7 : T7} {a8 : T8} {a9 : T9} {b0 : T0} {b1 : T1} {b2 : T2} {b3 : T3} {b4 : T4} {b5 : T5} {b6 : T6} {b7 : T7} {b8 : T8} {b9 : T9} (h : (a0, a1, a2, a3, a4, a5, a6, a7, a8, a9) = (b0, b1, b2, b3, b4, b5, b6, b7, b8, b9)) : a0 = b0 ∧ a1 = b1 ∧ a2 = b2 ∧ a3 = b3 ∧ a4 = b4 ∧ a5 = b5 ∧ a6 = b6 ∧ a7 = b7 ∧ a8 = b8 ∧ a9 = b9 := by
  cases h
  exact ⟨rfl, rfl, rfl, rfl, rfl, rfl, rfl, rfl, rfl, rfl⟩
def bd11 {T0 T1 T2 T3 T4 T5 T6 T7 T8 T9 T10 β : Type} (x : Option (T0 × T1 × T2 × T3 × T4 × T5 × T6 × T7 × T8 × T9 × T10)) (k : T0 → T1 → T2 → T3 → T4 → T5 → T6 → T7 → T8 → T9 → T10 → Option β) : Option β := match x with
  | none => none
  | some q => k q.1 q.2.1 q.2.2.1 q.2.2.2.1 q.2.2.2.2.1 q.2.2.2.2.2.1 q.2.2.2.2.2.2.1 q.2.2.2.2.2.2.2.1 q.2.2.2.2.2.2.2.2.1 q.2.2.2.2.2.2.2.2.2.1 q.2.2.2.2.2.2.2.2.2.2
theorem bd11_e {T0 T1 T2 T3 T4 T5 T6 T7 T8 T9 T10 β : Type} {x : Option (T0 × T1 × T2 × T3 × T4 × T5 × T6 × T7 × T8 × T9 × T10)} {k : T0 → T1 → T2 → T3 → T4 → T5 → T6 → T7 → T8 → T9 → T10 → Option β} {r : β} (h : bd11 x k = some r) : ∃ (a0 : T0) (a1 : T1) (a2 : T2) (a3 : T3) (a4 : T4) (a5 : T5) (a6 : T6) (a7 : T7) (a8 : T8) (a9 : T9) (a10 : T10), x = some (a0, a1, a2, a3, a4, a5, a6, a7, a8, a9, a10) ∧ k a0 a1 a2 a3 a4 a5 a6 a7 a8 a9 a10 = some r := by
  cases x with
  | none => cases h
  | some q => exact ⟨q.1, q.2.1, q.2.2.1, q.2.2.2.1, q.2.2.2.2.1, q.2.2.2.2.2.1, q.2.2.2.2.2.2.1, q.2.2.2.2.2.2.2.1, q.2.2.2.2.2.2.2.2.1, q.2.2.2.2.2.2.2.2.2.1, q.2.2.2.2.2.2.2.2.2.2, rfl, h⟩
theorem inj11 {T0 T1 T2 T3 T4 T5 T6 T7 T8 T9 T10 : Type} {a0 : T0} {a1 : T1} {a2 : T2} {a3 : T3} {a4 : T4} {a5 : T5} {a6 : T6} {a7 : T7} {a8 : T8} {a9 : T9} {a10 : T10} {b0 : T0} {b1 : T1} {b2 : T2} {b3 : T3} {b4 : T4} {b5 : T5} {b6 : T6} {b7 : T7} {b8 : T8} {b9 : T9} {b10 : T10} (h : (a0, a1, a2, a3, a4, a5, a6, a7, a8, a9, a10) = (b0, b1, b2, b3, b4, b5, b6, b7, b8, b9, b10)) : a0 = b0 ∧ a1 = b1 ∧ a2 = b2 ∧ a3 = b3 ∧ a4 = b4 ∧ a5 = b5 ∧ a6 = b6 ∧ a7 = b7 ∧ a8 = b8 ∧ a9 = b9 ∧ a10 = b10 := by
  cases h
  exact ⟨rfl, rfl, rfl, rfl, rfl, rfl, rfl, rfl, rfl, rfl, rfl⟩
def bd12 {T0 T1 T2 T3 T4 T5 T6 T7 T8 T9 T10 T11 β : Type} (x : Option (T0 × T1 × T2 × T3 × T4 × T5 × T6 × T7 × T8 × T9 × T10 × T11)) (k : T0 → T1 → T2 → T3 → T4 → T5 → T6 → T7 → T8 → T9 → T10 → T11 → Option β) : Option β := match x with
  | none => none
  | some q => k q.1 q.2.1 q.2.2.1 q.2.2.2.1 q.2.2.2.2.1 q.2.2.2.2.2.1 q.2.2.2.2.2.2.1 q.2.2.2.2.2.2.2.1 q.2.2.2.2.2.2.2.2.1 q.2.2.2.2.2.2.2.2.2.1 q.2.2.2.2.2.2.2.2.2.2.1 q.2.2.2.2.2.2.2.2.2.2.2
theorem bd12_e {T0 T1 T2 T3 T4 T5 T6 T7 T8 T9 T10 T11 β : Type} {x : Option (T0 × T1 × T2 × T3 × T4 × T5 × T6 × T7 × T8 × T9 × T10 × T11)} {k : T0 → T1 → T2 → T3 → T4 → T5 → T6 → T7 → T8 → T9 → T10 → T11 → Option β} {r : β} (h : bd12 x k = some r) : ∃ (a0 : T0) (a1 : T1) (a2 : T2) (a3 : T3) (a4 : T4) (a5 : T5) (a6 : T6) (a7 : T7) (a8 : T8) (a9 : T9) (a10 : T10) (a11 : T11), x = some (a0, a1, a2, a3, a4, a5, a6, a7, a8, a9, a10, a11) ∧ k a0 a1 a2 a3 a4 a5 a6 a7 a8 a9 a10 a11 = some r := by
  cases x with
  | none => cases h
  | some q => exact ⟨q.1, q.2.1, q.2.2.1, q.2.2.2.1, q.2.2.2.2.1, q.2.2.2.2.2.1, q.2.2.2.2.2.2.1, q.2.2.2.2.2.2.2.1, q.2.2.2.2.2.2.2.2.1, q.2.2.2.2.2.2.2.2.2.1, q.2.2.2.2.2.2.2.2.2.2.1, q.2.2.2.2.2.2.2.2.2.2.2, rfl, h⟩
theorem inj12 {T0 T1 T2 T3 T4 T5 T6 T7 T8 T9 T10 T11 : Type} {a0 : T0} {a1 : T1} {a2 : T2} {a3 : T3} {a4 : T4} {a5 : T5} {a6 : T6} {a7 : T7} {a8 : T8} {a9 : T9} {a10 : T10} {a11 : T11} {b0 : T0} {b1 : T1} {b2 : T2} {b3 : T3} {b4 : T4} {b5 : T5} {b6 : T6} {b7 : T7} {b8 : T8} {b9 : T9} {b10 : T10} {b11 : T11} (h : (a0, a1, a2, a3, a4, a5, a6, a7, a8, a9, a10, a11) = (b0, b1, b2, b3, b4, b5, b6, b7, b8, b9, b10, b11)) : a0 = b0 ∧ a1 = b1 ∧ a2 = b2 ∧ a3 = b3 ∧ a4 = b4 ∧ a5 = b5 ∧ a6 = b6 ∧ a7 = b7 ∧ a8 = b8 ∧ a9 = b9 ∧ a10 = b10 ∧ a11 = b11 := by
  cases h
  exact ⟨rfl, rfl, rfl, rfl, rfl, rfl, rfl, rfl, rfl, rfl, rfl, rfl⟩
def bs0 { ρ : Type} (x : Option ((Unit) ⊕ ρ)) (k : Unit → Option ρ) : Option ρ := match x with
  | none => none
  | some (.inl q) => k q
  | some (.inr r) => some r
theorem bs0_e { ρ : Type} {x : Option ((Unit) ⊕ ρ)} {k : Unit → Option ρ} {r : ρ} (h : bs0 x k = some r) : ∃ z, x = some z ∧ (match z with | .inl q => k q | .inr r => some r) = some r := by
  cases x with
  | none => cases h
  | some z => cases z with
    | inl q => exact ⟨_, rfl, h⟩
    | inr q => exact ⟨_, rfl, h⟩
def bs1 {T0 ρ : Type} (x : Option ((T0) ⊕ ρ)) (k : T0 → Option ρ) : Option ρ := match x with
  | none => none
  | some (.inl q) => k q
  | some (.inr r) => some r
theorem bs1_e {T0 ρ : Type} {x : Option ((T0) ⊕ ρ)} {k : T0 → Option ρ} {r : ρ} (h : bs1 x k = some r) : ∃ z, x = some z ∧ (match z with | .inl q => k q | .inr r => some r) = some r := by
  cases x with
  | none => cases h
  | some z => cases z with
    | inl q => exact ⟨_, rfl, h⟩
    | inr q => exact ⟨_, rfl, h⟩
def bs2 {T0 T1 ρ : Type} (x : Option ((T0 × T1) ⊕ ρ)) (k : T0 → T1 → Option ρ) : Option ρ := match x with
  | none => none
  | some (.inl q) => k q.1 q.2
  | some (.inr r) => some r
theorem bs2_e {T0 T1 ρ : Type} {x : Option ((T0 × T1) ⊕ ρ)} {k : T0 → T1 → Option ρ} {r : ρ} (h : bs2 x k = some r) : ∃ z, x = some z ∧ (match z with | .inl q => k q.1 q.2 | .inr r => some r) = some r := by
  cases x with
  | none => cases h
  | some z => cases z with
    | inl q => exact ⟨_, rfl, h⟩
    | inr q => exact ⟨_, rfl, h⟩
def bs3 {T0 T1 T2 ρ : Type} (x : Option ((T0 × T1 × T2) ⊕ ρ)) (k : T0 → T1 → T2 → Option ρ) : Option ρ := match x with
  | none => none
  | some (.inl q) => k q.1 q.2.1 q.2.2
  | some (.inr r) => some r
theorem bs3_e {T0 T1 T2 ρ : Type} {x : Option ((T0 × T1 × T2) ⊕ ρ)} {k : T0 → T1 → T2 → Option ρ} {r : ρ} (h : bs3 x k = some r) : ∃ z, x = some z ∧ (match z with | .inl q => k q.1 q.2.1 q.2.2 | .inr r => some r) = some r := by
  cases x with
  | none => cases h
  | some z => cases z with
    | inl q => exact ⟨_, rfl, h⟩
    | inr q => exact ⟨_, rfl, h⟩
def bs4 {T0 T1 T2 T3 ρ : Type} (x : Option ((T0 × T1 × T2 × T3) ⊕ ρ)) (k : T0 → T1 → T2 → T3 → Option ρ) : Option ρ := match x with
  | none => none
  | some (.inl q) => k q.1 q.2.1 q.2.2.1 q.2.2.2
  | some (.inr r) => some r
theorem bs4_e {T0 T1 T2 T3 ρ : Type} {x : Option ((T0 × T1 × T2 × T3) ⊕ ρ)} {k : T0 → T1 → T2 → T3 → Option ρ} {r : ρ} (h : bs4 x k = some r) : ∃ z, x = some z ∧ (match z with | .inl q => k q.1 q.2.1 q.2.2.1 q.2.2.2 | .inr r => some r) = some r := by
  cases x with
  | none => cases h
  | some z => cases z with
    | inl q => exact ⟨_, rfl, h⟩
    | inr q => exact ⟨_, rfl, h⟩
section MIDX
variable {p : Program} {l : Launch} {e : Env} {R : Room} {s : State} {m : MethodId} {args : Array Value} {below : List Frame} {meth : Method} {c : Code} {H : Heap} {locs : List Loc} {cells slots : Nat} {Q : State → Prop}
variable {pc : Nat} {ls : Array Slot} {rest st0 : List Value} {a : Array Value} {A : Nat → Prop} {H0 : Heap} {mc ms : Nat} {G : va_G} {ct : Nat → ClassId} {sk sv : Nat → Nat} {cc : ByteArray} {w w' : va_W} {B : Option Value → va_W → Prop}
theorem end_l {v : Int64} (hx : p.tables.exec = Jvm.exec) (hb : c.code = cc) (hr : meth.sig.returnType = some .long) (hlocks : meth.locks = false) (hK : va_K G classes (TYS ct) s) (hP : va_P G classes w' H) (hD : va_D A w') (hS : va_S A s.heap H locs) (hdg : decode cc pc = .ok (.lreturn, 1)) (hB : B (some (.long v)) w') : W p l e R s m args below meth c H locs cells slots (MQ below (POST (l, G, ct, sk, sv) A B) args s cells slots A) (F0 m pc ls [.long v]) :=
  W.lret (v := v) hx hb hr (fun t ht hW => ⟨⟨_, w', rfl, hB, by rw [ht]; exact hP, va_K.moved hW.alike hK, hD⟩, hS.F ht⟩) hS.2.2 hdg hlocks
theorem end_a {v : Nat} {n : String} (hx : p.tables.exec = Jvm.exec) (hb : c.code = cc) (hr : meth.sig.returnType = some (.object n)) (hlocks : meth.locks = false) (hK : va_K G classes (TYS ct) s) (hP : va_P G classes w' H) (hD : va_D A w') (hS : va_S A s.heap H locs) (hdg : decode cc pc = .ok (.areturn, 1)) (hB : B (some (.ref v)) w') : W p l e R s m args below meth c H locs cells slots (MQ below (POST (l, G, ct, sk, sv) A B) args s cells slots A) (F0 m pc ls [.ref v]) :=
  W.aret (v := .ref v) hx hb hr (Or.inl ⟨_, rfl⟩) (Or.inr ⟨_, rfl⟩) (fun t ht hW => ⟨⟨_, w', rfl, hB, by rw [ht]; exact hP, va_K.moved hW.alike hK, hD⟩, hS.F ht⟩) hS.2.2 hdg hlocks
end MIDX
