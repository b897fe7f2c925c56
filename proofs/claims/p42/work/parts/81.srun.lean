section
/-! ===== the methods ===== -/
def m_J0_coder_7d493 : vMt := (yJ0_coder_7d493, cJ0_coder_7d493, 1, (some .byte), vt_J0_coder_7d493, 0, (0, 0), (0, 0))
def m_J0_length_8abf5 : vMt := (yJ0_length_8abf5, cJ0_length_8abf5, 1, (some .int), vt_J0_length_8abf5, 0, (1, 20), (0, 0))
def m_J0_isLatin1_aae02 : vMt := (yJ0_isLatin1_aae02, cJ0_isLatin1_aae02, 1, (some .boolean), vt_J0_isLatin1_aae02, 0, (0, 0), (0, 0))
def m_J3_checkIndex_8e157 : vMt := (yJ3_checkIndex_8e157, cJ3_checkIndex_8e157, 3, (some .int), vt_J3_checkIndex_8e157, 0, (0, 0), (0, 0))
def m_J0_checkIndex_df160 : vMt := (yJ0_checkIndex_df160, cJ0_checkIndex_df160, 2, none, vt_J0_checkIndex_df160, 0, (1, 22), (0, 0))
def m_J1_charAt_3b067 : vMt := (yJ1_charAt_3b067, cJ1_charAt_3b067, 2, (some .char), vt_J1_charAt_3b067, 0, (2, 43), (0, 0))
def m_J2_length_9d52b : vMt := (yJ2_length_9d52b, cJ2_length_9d52b, 1, (some .int), vt_J2_length_9d52b, 0, (0, 0), (0, 0))
def m_J2_checkIndex_2214a : vMt := (yJ2_checkIndex_2214a, cJ2_checkIndex_2214a, 2, none, vt_J2_checkIndex_2214a, 0, (2, 43), (0, 0))
def m_J2_getChar_3b067 : vMt := (yJ2_getChar_3b067, cJ2_getChar_3b067, 2, (some .char), vt_J2_getChar_3b067, 0, (1, 20), (0, 0))
def m_J2_charAt_3b067 : vMt := (yJ2_charAt_3b067, cJ2_charAt_3b067, 2, (some .char), vt_J2_charAt_3b067, 0, (3, 64), (0, 0))
def m_J0_charAt_5068e : vMt := (yJ0_charAt_5068e, cJ0_charAt_5068e, 2, (some .char), vt_J0_charAt_5068e, 0, (4, 85), (0, 0))
def m_X6_joined : vMt := (yX6_joined, cX6_joined, 3, (some .long), vt_X6_joined, 0, (0, 0), (0, 0))
def m_X6_init : vMt := (yX6_init, cX6_init, 3, none, vt_X6_init, 0, (5, 106), (2, 965))
def m_X9_init : vMt := (yX9_init, cX9_init, 1, none, vt_X9_init, 0, (1, 20), (12, 114))
def m_X10_init : vMt := (yX10_init, cX10_init, 1, none, vt_X10_init, 0, (1, 20), (0, 0))
def m_X8_init : vMt := (yX8_init, cX8_init, 1, none, vt_X8_init, 0, (1, 20), (8, 77))
def m_X7_init : vMt := (yX7_init, cX7_init, 1, none, vt_X7_init, 0, (1, 20), (5, 180))
def m_X4_init : vMt := (yX4_init, cX4_init, 1, none, vt_X4_init, 0, (1, 20), (4, 160))
def m_X5_init : vMt := (yX5_init, cX5_init, 2, none, vt_X5_init, 0, (2, 40), (73, 696))
def m_X3_init : vMt := (yX3_init, cX3_init, 1, none, vt_X3_init, 0, (1, 20), (8, 802))
def m_X2_init : vMt := (yX2_init, cX2_init, 1, none, vt_X2_init, 0, (1, 20), (6, 34))
def m_X0_init : vMt := (yX0_init, cX0_init, 1, none, vt_X0_init, 0, (1, 20), (0, 0))
def m_X1_init : vMt := (yX1_init, cX1_init, 1, none, vt_X1_init, 0, (2, 40), (28, 411))
def m_X11_init : vMt := (yX11_init, cX11_init, 2, none, vt_X11_init, 0, (6, 128), (219, 4380))
def m_X12_init : vMt := (yX12_init, cX12_init, 1, none, vt_X12_init, 0, (1, 20), (27, 3135))
def m_X11_putNumber : vMt := (yX11_putNumber, cX11_putNumber, 3, none, vt_X11_putNumber, 0, (0, 0), (0, 0))
def m_X11_feed : vMt := (yX11_feed, cX11_feed, 6, (some .int), vt_X11_feed, 0, (1, 22), (0, 0))
def m_X12_four : vMt := (yX12_four, cX12_four, 3, none, vt_X12_four, 0, (0, 0), (0, 0))
def m_X12_feed : vMt := (yX12_feed, cX12_feed, 6, (some .int), vt_X12_feed, 0, (1, 22), (0, 0))
def m_X11_end : vMt := (yX11_end, cX11_end, 2, (some .boolean), vt_X11_end, 0, (0, 0), (0, 0))
def m_X12_end : vMt := (yX12_end, cX12_end, 2, (some .boolean), vt_X12_end, 0, (0, 0), (0, 0))
def m_J9_min_7cf53 : vMt := (yJ9_min_7cf53, cJ9_min_7cf53, 2, (some .int), vt_J9_min_7cf53, 0, (0, 0), (0, 0))
def m_X6_begin : vMt := (yX6_begin, cX6_begin, 3, none, vt_X6_begin, 0, (1, 21), (0, 0))
def m_X11_takeTape : vMt := (yX11_takeTape, cX11_takeTape, 2, none, vt_X11_takeTape, 0, (2, 43), (0, 0))
def m_X9_clear : vMt := (yX9_clear, cX9_clear, 2, none, vt_X9_clear, 0, (0, 0), (0, 0))
def m_X6_findKeyword : vMt := (yX6_findKeyword, cX6_findKeyword, 2, none, vt_X6_findKeyword, 0, (0, 0), (0, 0))
def m_X6_readRun : vMt := (yX6_readRun, cX6_readRun, 4, none, vt_X6_readRun, 0, (1, 22), (0, 0))
def m_X6_advance : vMt := (yX6_advance, cX6_advance, 4, none, vt_X6_advance, 0, (2, 45), (0, 0))
def m_X9_findClashes : vMt := (yX9_findClashes, cX9_findClashes, 3, none, vt_X9_findClashes, 0, (0, 0), (0, 0))
def m_X6_fail : vMt := (yX6_fail, cX6_fail, 2, (some .boolean), vt_X6_fail, 0, (0, 0), (0, 0))
def m_X6_isName : vMt := (yX6_isName, cX6_isName, 1, (some .boolean), vt_X6_isName, 0, (0, 0), (0, 0))
def m_X9_find : vMt := (yX9_find, cX9_find, 4, (some .int), vt_X9_find, 0, (0, 0), (0, 0))
def m_X9_name : vMt := (yX9_name, cX9_name, 5, none, vt_X9_name, 0, (0, 0), (0, 0))
def m_X10_readNewName : vMt := (yX10_readNewName, cX10_readNewName, 5, (some .boolean), vt_X10_readNewName, 0, (3, 68), (0, 0))
def m_X6_endsLine : vMt := (yX6_endsLine, cX6_endsLine, 1, (some .boolean), vt_X6_endsLine, 0, (1, 21), (0, 0))
def m_X10_readSort : vMt := (yX10_readSort, cX10_readSort, 4, (some .boolean), vt_X10_readSort, 0, (4, 92), (0, 0))
def m_X6_readName : vMt := (yX6_readName, cX6_readName, 4, (some .boolean), vt_X6_readName, 0, (3, 68), (0, 0))
def m_X6_nextEndsLine : vMt := (yX6_nextEndsLine, cX6_nextEndsLine, 1, (some .boolean), vt_X6_nextEndsLine, 0, (3, 68), (0, 0))
def m_X10_readTalks : vMt := (yX10_readTalks, cX10_readTalks, 5, (some .boolean), vt_X10_readTalks, 0, (4, 91), (0, 0))
def m_X6_readNumber : vMt := (yX6_readNumber, cX6_readNumber, 3, (some .boolean), vt_X6_readNumber, 0, (3, 68), (0, 0))
def m_X10_readPerson : vMt := (yX10_readPerson, cX10_readPerson, 4, (some .boolean), vt_X10_readPerson, 0, (4, 92), (0, 0))
def m_X10_readPorter : vMt := (yX10_readPorter, cX10_readPorter, 4, (some .boolean), vt_X10_readPorter, 0, (4, 92), (0, 0))
def m_X10_readBars : vMt := (yX10_readBars, cX10_readBars, 5, (some .boolean), vt_X10_readBars, 0, (4, 91), (0, 0))
def m_X10_readPain : vMt := (yX10_readPain, cX10_readPain, 4, (some .boolean), vt_X10_readPain, 0, (4, 92), (0, 0))
def m_X10_readHarm : vMt := (yX10_readHarm, cX10_readHarm, 3, (some .boolean), vt_X10_readHarm, 0, (4, 90), (0, 0))
def m_X10_readLine : vMt := (yX10_readLine, cX10_readLine, 3, (some .boolean), vt_X10_readLine, 0, (5, 115), (0, 0))
def m_X10_read : vMt := (yX10_read, cX10_read, 4, (some .int), vt_X10_read, 0, (6, 137), (0, 0))
def m_X8_begin : vMt := (yX8_begin, cX8_begin, 3, none, vt_X8_begin, 0, (0, 0), (0, 0))
def m_X7_forget : vMt := (yX7_forget, cX7_forget, 1, none, vt_X7_forget, 0, (0, 0), (0, 0))
def m_X5_forget : vMt := (yX5_forget, cX5_forget, 1, none, vt_X5_forget, 0, (0, 0), (0, 0))
def m_X11_town : vMt := (yX11_town, cX11_town, 3, (some .int), vt_X11_town, 0, (7, 160), (0, 0))
def m_X12_taken : vMt := (yX12_taken, cX12_taken, 2, none, vt_X12_taken, 0, (0, 0), (0, 0))
def m_X12_peek : vMt := (yX12_peek, cX12_peek, 1, (some .int), vt_X12_peek, 0, (0, 0), (0, 0))
def m_X12_isSmall : vMt := (yX12_isSmall, cX12_isSmall, 1, (some .boolean), vt_X12_isSmall, 0, (0, 0), (0, 0))
def m_X12_isDigit : vMt := (yX12_isDigit, cX12_isDigit, 1, (some .boolean), vt_X12_isDigit, 0, (0, 0), (0, 0))
def m_X12_next : vMt := (yX12_next, cX12_next, 4, none, vt_X12_next, 0, (1, 20), (0, 0))
def m_X12_isWord : vMt := (yX12_isWord, cX12_isWord, 3, (some .boolean), vt_X12_isWord, 0, (0, 0), (0, 0))
def m_X12_bad : vMt := (yX12_bad, cX12_bad, 2, (some .boolean), vt_X12_bad, 0, (0, 0), (0, 0))
def m_X12_isName : vMt := (yX12_isName, cX12_isName, 3, (some .boolean), vt_X12_isName, 0, (0, 0), (0, 0))
def m_X12_find : vMt := (yX12_find, cX12_find, 4, (some .int), vt_X12_find, 0, (0, 0), (0, 0))
def m_X12_fresh : vMt := (yX12_fresh, cX12_fresh, 2, (some .boolean), vt_X12_fresh, 0, (2, 43), (0, 0))
def m_X12_looksAt : vMt := (yX12_looksAt, cX12_looksAt, 3, (some .boolean), vt_X12_looksAt, 0, (1, 23), (0, 0))
def m_X12_takesName : vMt := (yX12_takesName, cX12_takesName, 3, (some .boolean), vt_X12_takesName, 0, (2, 45), (0, 0))
def m_X12_bitOf : vMt := (yX12_bitOf, cX12_bitOf, 2, (some .boolean), vt_X12_bitOf, 0, (0, 0), (0, 0))
def m_X12_isIn : vMt := (yX12_isIn, cX12_isIn, 3, (some .boolean), vt_X12_isIn, 0, (0, 0), (0, 0))
def m_X12_takes : vMt := (yX12_takes, cX12_takes, 3, (some .boolean), vt_X12_takes, 0, (2, 43), (0, 0))
def m_X12_puts : vMt := (yX12_puts, cX12_puts, 4, (some .boolean), vt_X12_puts, 0, (3, 65), (0, 0))
def m_X12_readPain : vMt := (yX12_readPain, cX12_readPain, 2, (some .boolean), vt_X12_readPain, 0, (4, 88), (0, 0))
def m_X12_line : vMt := (yX12_line, cX12_line, 2, (some .boolean), vt_X12_line, 0, (5, 109), (0, 0))
def m_X12_isSign : vMt := (yX12_isSign, cX12_isSign, 2, (some .boolean), vt_X12_isSign, 0, (0, 0), (0, 0))
def m_X12_sign : vMt := (yX12_sign, cX12_sign, 2, (some .boolean), vt_X12_sign, 0, (2, 43), (0, 0))
def m_X12_town : vMt := (yX12_town, cX12_town, 2, (some .int), vt_X12_town, 0, (6, 130), (0, 0))
def m_X11_fault : vMt := (yX11_fault, cX11_fault, 1, (some .int), vt_X11_fault, 0, (0, 0), (0, 0))
def m_X12_fault : vMt := (yX12_fault, cX12_fault, 1, (some .int), vt_X12_fault, 0, (0, 0), (0, 0))
def m_X12_isPain : vMt := (yX12_isPain, cX12_isPain, 2, (some .boolean), vt_X12_isPain, 0, (1, 22), (0, 0))
def m_X12_throwsIf : vMt := (yX12_throwsIf, cX12_throwsIf, 2, (some .boolean), vt_X12_throwsIf, 0, (0, 0), (0, 0))
def m_X12_pain : vMt := (yX12_pain, cX12_pain, 3, (some .int), vt_X12_pain, 0, (2, 43), (0, 0))
def m_X11_isPerson : vMt := (yX11_isPerson, cX11_isPerson, 2, (some .boolean), vt_X11_isPerson, 0, (0, 0), (0, 0))
def m_X8_painsOf : vMt := (yX8_painsOf, cX8_painsOf, 5, (some .int), vt_X8_painsOf, 0, (0, 0), (0, 0))
def m_X8_painsAt : vMt := (yX8_painsAt, cX8_painsAt, 5, (some .int), vt_X8_painsAt, 0, (0, 0), (0, 0))
def m_X8_weightAt : vMt := (yX8_weightAt, cX8_weightAt, 5, (some .int), vt_X8_weightAt, 0, (0, 0), (0, 0))
def m_X11_person : vMt := (yX11_person, cX11_person, 3, (some .int), vt_X11_person, 0, (1, 24), (0, 0))
def m_X12_isPerson : vMt := (yX12_isPerson, cX12_isPerson, 2, (some .boolean), vt_X12_isPerson, 0, (1, 22), (0, 0))
def m_X12_isOver : vMt := (yX12_isOver, cX12_isOver, 2, (some .boolean), vt_X12_isOver, 0, (0, 0), (0, 0))
def m_X12_painsAt : vMt := (yX12_painsAt, cX12_painsAt, 4, (some .int), vt_X12_painsAt, 0, (0, 0), (0, 0))
def m_X12_weightOf : vMt := (yX12_weightOf, cX12_weightOf, 4, (some .int), vt_X12_weightOf, 0, (1, 21), (0, 0))
def m_X12_person : vMt := (yX12_person, cX12_person, 5, (some .int), vt_X12_person, 0, (2, 44), (0, 0))
def m_X12_isPorter : vMt := (yX12_isPorter, cX12_isPorter, 2, (some .boolean), vt_X12_isPorter, 0, (1, 22), (0, 0))
def m_X12_hasLearnt : vMt := (yX12_hasLearnt, cX12_hasLearnt, 3, (some .boolean), vt_X12_hasLearnt, 0, (0, 0), (0, 0))
def m_X12_heaves : vMt := (yX12_heaves, cX12_heaves, 4, (some .int), vt_X12_heaves, 0, (1, 22), (0, 0))
def m_X12_heavesAll : vMt := (yX12_heavesAll, cX12_heavesAll, 5, (some .int), vt_X12_heavesAll, 0, (2, 45), (0, 0))
def m_X12_porter : vMt := (yX12_porter, cX12_porter, 6, (some .int), vt_X12_porter, 0, (3, 69), (0, 0))
def m_X11_sort : vMt := (yX11_sort, cX11_sort, 3, (some .int), vt_X11_sort, 0, (0, 0), (0, 0))
def m_X12_sort : vMt := (yX12_sort, cX12_sort, 3, (some .int), vt_X12_sort, 0, (1, 22), (0, 0))
def m_X8_painless : vMt := (yX8_painless, cX8_painless, 4, (some .int), vt_X8_painless, 0, (1, 24), (0, 0))
def m_X11_sum : vMt := (yX11_sum, cX11_sum, 4, (some .int), vt_X11_sum, 0, (0, 0), (0, 0))
def m_X8_isCarried : vMt := (yX8_isCarried, cX8_isCarried, 2, (some .boolean), vt_X8_isCarried, 0, (0, 0), (0, 0))
def m_X8_carriedNow : vMt := (yX8_carriedNow, cX8_carriedNow, 4, (some .int), vt_X8_carriedNow, 0, (1, 21), (0, 0))
def m_X11_now : vMt := (yX11_now, cX11_now, 2, (some .int), vt_X11_now, 0, (2, 47), (0, 0))
def m_X12_freeSet : vMt := (yX12_freeSet, cX12_freeSet, 3, (some .int), vt_X12_freeSet, 0, (1, 23), (0, 0))
def m_X12_sum : vMt := (yX12_sum, cX12_sum, 4, (some .int), vt_X12_sum, 0, (0, 0), (0, 0))
def m_X12_isCarried : vMt := (yX12_isCarried, cX12_isCarried, 2, (some .boolean), vt_X12_isCarried, 0, (1, 22), (0, 0))
def m_X12_carriedSet : vMt := (yX12_carriedSet, cX12_carriedSet, 3, (some .int), vt_X12_carriedSet, 0, (2, 43), (0, 0))
def m_X12_now : vMt := (yX12_now, cX12_now, 2, (some .int), vt_X12_now, 0, (3, 65), (0, 0))
def m_X11_isPorter : vMt := (yX11_isPorter, cX11_isPorter, 2, (some .boolean), vt_X11_isPorter, 0, (0, 0), (0, 0))
def m_X11_isPain : vMt := (yX11_isPain, cX11_isPain, 2, (some .boolean), vt_X11_isPain, 0, (0, 0), (0, 0))
def m_X9_isForbidden : vMt := (yX9_isForbidden, cX9_isForbidden, 3, (some .boolean), vt_X9_isForbidden, 0, (0, 0), (0, 0))
def m_X8_heaveOf : vMt := (yX8_heaveOf, cX8_heaveOf, 7, (some .int), vt_X8_heaveOf, 0, (0, 0), (0, 0))
def m_X8_whyNotCarry : vMt := (yX8_whyNotCarry, cX8_whyNotCarry, 5, (some .int), vt_X8_whyNotCarry, 0, (1, 26), (0, 0))
def m_X8_whyNotFetch : vMt := (yX8_whyNotFetch, cX8_whyNotFetch, 5, (some .int), vt_X8_whyNotFetch, 0, (2, 50), (0, 0))
def m_X8_copyFrom : vMt := (yX8_copyFrom, cX8_copyFrom, 2, none, vt_X8_copyFrom, 0, (1, 26), (0, 0))
def m_X5_keep : vMt := (yX5_keep, cX5_keep, 2, none, vt_X5_keep, 0, (2, 47), (0, 0))
def m_X8_give : vMt := (yX8_give, cX8_give, 3, none, vt_X8_give, 0, (0, 0), (0, 0))
def m_X11_fetch : vMt := (yX11_fetch, cX11_fetch, 4, (some .int), vt_X11_fetch, 0, (3, 74), (0, 0))
def m_X12_cant : vMt := (yX12_cant, cX12_cant, 6, (some .int), vt_X12_cant, 0, (3, 69), (0, 0))
def m_X12_cantNow : vMt := (yX12_cantNow, cX12_cantNow, 3, (some .int), vt_X12_cantNow, 0, (4, 94), (0, 0))
def m_X12_whyFetch : vMt := (yX12_whyFetch, cX12_whyFetch, 4, (some .int), vt_X12_whyFetch, 0, (5, 116), (0, 0))
def m_X12_keep : vMt := (yX12_keep, cX12_keep, 2, none, vt_X12_keep, 0, (0, 0), (0, 0))
def m_X12_fetch : vMt := (yX12_fetch, cX12_fetch, 4, (some .int), vt_X12_fetch, 0, (6, 139), (0, 0))
def m_X8_whyNotHand : vMt := (yX8_whyNotHand, cX8_whyNotHand, 5, (some .int), vt_X8_whyNotHand, 0, (2, 50), (0, 0))
def m_X11_hand : vMt := (yX11_hand, cX11_hand, 5, (some .int), vt_X11_hand, 0, (3, 74), (0, 0))
def m_X12_whyHand : vMt := (yX12_whyHand, cX12_whyHand, 4, (some .int), vt_X12_whyHand, 0, (5, 116), (0, 0))
def m_X12_hand : vMt := (yX12_hand, cX12_hand, 5, (some .int), vt_X12_hand, 0, (6, 139), (0, 0))
def m_X8_whyNotDrop : vMt := (yX8_whyNotDrop, cX8_whyNotDrop, 3, (some .int), vt_X8_whyNotDrop, 0, (0, 0), (0, 0))
def m_X8_letFall : vMt := (yX8_letFall, cX8_letFall, 2, none, vt_X8_letFall, 0, (0, 0), (0, 0))
def m_X11_drop : vMt := (yX11_drop, cX11_drop, 4, (some .int), vt_X11_drop, 0, (3, 68), (0, 0))
def m_X12_whyDrop : vMt := (yX12_whyDrop, cX12_whyDrop, 3, (some .int), vt_X12_whyDrop, 0, (0, 0), (0, 0))
def m_X12_drops : vMt := (yX12_drops, cX12_drops, 2, none, vt_X12_drops, 0, (0, 0), (0, 0))
def m_X12_drop : vMt := (yX12_drop, cX12_drop, 3, (some .int), vt_X12_drop, 0, (2, 43), (0, 0))
def m_X8_whyNotHome : vMt := (yX8_whyNotHome, cX8_whyNotHome, 3, (some .int), vt_X8_whyNotHome, 0, (0, 0), (0, 0))
def m_X11_home : vMt := (yX11_home, cX11_home, 3, (some .int), vt_X11_home, 0, (3, 68), (0, 0))
def m_X12_whyHome : vMt := (yX12_whyHome, cX12_whyHome, 2, (some .int), vt_X12_whyHome, 0, (1, 21), (0, 0))
def m_X12_home : vMt := (yX12_home, cX12_home, 2, (some .int), vt_X12_home, 0, (2, 43), (0, 0))
def m_X8_payPorters : vMt := (yX8_payPorters, cX8_payPorters, 5, none, vt_X8_payPorters, 0, (1, 21), (0, 0))
def m_X8_isFirstOfSort : vMt := (yX8_isFirstOfSort, cX8_isFirstOfSort, 4, (some .boolean), vt_X8_isFirstOfSort, 0, (0, 0), (0, 0))
def m_X8_practise : vMt := (yX8_practise, cX8_practise, 3, none, vt_X8_practise, 0, (1, 23), (0, 0))
def m_X8_wearOff : vMt := (yX8_wearOff, cX8_wearOff, 4, (some .boolean), vt_X8_wearOff, 0, (0, 0), (0, 0))
def m_X8_fallOnSomebody : vMt := (yX8_fallOnSomebody, cX8_fallOnSomebody, 3, none, vt_X8_fallOnSomebody, 0, (0, 0), (0, 0))
def m_X8_passHours : vMt := (yX8_passHours, cX8_passHours, 6, (some .int), vt_X8_passHours, 0, (2, 45), (0, 0))
def m_X11_hours : vMt := (yX11_hours, cX11_hours, 2, (some .int), vt_X11_hours, 0, (3, 70), (0, 0))
def m_X12_pays : vMt := (yX12_pays, cX12_pays, 4, none, vt_X12_pays, 0, (0, 0), (0, 0))
def m_X12_lesser : vMt := (yX12_lesser, cX12_lesser, 2, (some .int), vt_X12_lesser, 0, (0, 0), (0, 0))
def m_X12_learns : vMt := (yX12_learns, cX12_learns, 4, none, vt_X12_learns, 0, (1, 21), (0, 0))
def m_X12_hour : vMt := (yX12_hour, cX12_hour, 2, none, vt_X12_hour, 0, (2, 44), (0, 0))
def m_X12_goesOn : vMt := (yX12_goesOn, cX12_goesOn, 3, (some .int), vt_X12_goesOn, 0, (3, 65), (0, 0))
def m_X12_hours : vMt := (yX12_hours, cX12_hours, 2, (some .int), vt_X12_hours, 0, (4, 87), (0, 0))
def m_X5_bringBack : vMt := (yX5_bringBack, cX5_bringBack, 2, (some .int), vt_X5_bringBack, 0, (2, 47), (0, 0))
def m_X11_undo : vMt := (yX11_undo, cX11_undo, 1, (some .int), vt_X11_undo, 0, (3, 68), (0, 0))
def m_X12_undo : vMt := (yX12_undo, cX12_undo, 2, (some .int), vt_X12_undo, 0, (0, 0), (0, 0))
def m_X11_can : vMt := (yX11_can, cX11_can, 3, (some .int), vt_X11_can, 0, (2, 50), (0, 0))
def m_X12_can : vMt := (yX12_can, cX12_can, 3, (some .int), vt_X12_can, 0, (5, 116), (0, 0))
def m_X11_isAmong : vMt := (yX11_isAmong, cX11_isAmong, 2, (some .boolean), vt_X11_isAmong, 0, (0, 0), (0, 0))
def m_X3_gather : vMt := (yX3_gather, cX3_gather, 5, none, vt_X3_gather, 0, (0, 0), (0, 0))
def m_X3_findKeys : vMt := (yX3_findKeys, cX3_findKeys, 16, none, vt_X3_findKeys, 0, (1, 26), (0, 0))
def m_J9_min_f86c9 : vMt := (yJ9_min_f86c9, cJ9_min_f86c9, 4, (some .long), vt_J9_min_f86c9, 0, (0, 0), (0, 0))
def m_X3_addPorter : vMt := (yX3_addPorter, cX3_addPorter, 8, none, vt_X3_addPorter, 0, (1, 23), (0, 0))
def m_X3_leastCost : vMt := (yX3_leastCost, cX3_leastCost, 5, (some .int), vt_X3_leastCost, 0, (2, 61), (0, 0))
def m_X3_freeing : vMt := (yX3_freeing, cX3_freeing, 7, (some .int), vt_X3_freeing, 0, (3, 85), (0, 0))
def m_X3_tell : vMt := (yX3_tell, cX3_tell, 4, none, vt_X3_tell, 0, (0, 0), (0, 0))
def m_X11_free : vMt := (yX11_free, cX11_free, 4, (some .int), vt_X11_free, 0, (4, 111), (0, 0))
def m_X12_lists : vMt := (yX12_lists, cX12_lists, 3, none, vt_X12_lists, 0, (1, 21), (0, 0))
def m_X12_bits : vMt := (yX12_bits, cX12_bits, 3, (some .int), vt_X12_bits, 0, (0, 0), (0, 0))
def m_X12_costTo : vMt := (yX12_costTo, cX12_costTo, 5, (some .int), vt_X12_costTo, 0, (1, 22), (0, 0))
def m_X12_assigns : vMt := (yX12_assigns, cX12_assigns, 6, (some .int), vt_X12_assigns, 0, (4, 94), (0, 0))
def m_X12_tells : vMt := (yX12_tells, cX12_tells, 3, none, vt_X12_tells, 0, (0, 0), (0, 0))
def m_X12_free : vMt := (yX12_free, cX12_free, 5, (some .int), vt_X12_free, 0, (5, 119), (0, 0))
def m_X11_by : vMt := (yX11_by, cX11_by, 2, (some .int), vt_X11_by, 0, (1, 21), (0, 0))
def m_X12_by : vMt := (yX12_by, cX12_by, 2, (some .int), vt_X12_by, 0, (1, 22), (0, 0))
def m_X3_fewestFor : vMt := (yX3_fewestFor, cX3_fewestFor, 5, (some .int), vt_X3_fewestFor, 0, (3, 85), (0, 0))
def m_X11_fewest : vMt := (yX11_fewest, cX11_fewest, 3, (some .int), vt_X11_fewest, 0, (4, 109), (0, 0))
def m_X12_fewest : vMt := (yX12_fewest, cX12_fewest, 3, (some .int), vt_X12_fewest, 0, (5, 119), (0, 0))
def m_X11_load : vMt := (yX11_load, cX11_load, 2, (some .int), vt_X11_load, 0, (1, 21), (0, 0))
def m_X12_load : vMt := (yX12_load, cX12_load, 2, (some .int), vt_X12_load, 0, (1, 22), (0, 0))
def m_J6_bitCount_0f7a4 : vMt := (yJ6_bitCount_0f7a4, cJ6_bitCount_0f7a4, 1, (some .int), vt_J6_bitCount_0f7a4, 0, (0, 0), (0, 0))
def m_X2_findLost : vMt := (yX2_findLost, cX2_findLost, 3, none, vt_X2_findLost, 0, (0, 0), (0, 0))
def m_X2_layDown : vMt := (yX2_layDown, cX2_layDown, 6, none, vt_X2_layDown, 0, (0, 0), (0, 0))
def m_X2_bearsThat : vMt := (yX2_bearsThat, cX2_bearsThat, 3, (some .boolean), vt_X2_bearsThat, 0, (0, 0), (0, 0))
def m_X2_noteWay : vMt := (yX2_noteWay, cX2_noteWay, 2, none, vt_X2_noteWay, 0, (0, 0), (0, 0))
def m_X2_countWays : vMt := (yX2_countWays, cX2_countWays, 5, (some .int), vt_X2_countWays, 0, (1, 25), (0, 0))
def m_X2_waysBy : vMt := (yX2_waysBy, cX2_waysBy, 6, (some .int), vt_X2_waysBy, 0, (2, 49), (0, 0))
def m_X11_limps : vMt := (yX11_limps, cX11_limps, 2, (some .int), vt_X11_limps, 0, (3, 74), (0, 0))
def m_X12_octet : vMt := (yX12_octet, cX12_octet, 2, (some .int), vt_X12_octet, 0, (0, 0), (0, 0))
def m_X12_limpsBy : vMt := (yX12_limpsBy, cX12_limpsBy, 5, (some .boolean), vt_X12_limpsBy, 0, (2, 44), (0, 0))
def m_X12_tellsLimps : vMt := (yX12_tellsLimps, cX12_tellsLimps, 5, none, vt_X12_tellsLimps, 0, (1, 22), (0, 0))
def m_X12_limps : vMt := (yX12_limps, cX12_limps, 7, (some .int), vt_X12_limps, 0, (3, 68), (0, 0))
def m_X2_sureHolder : vMt := (yX2_sureHolder, cX2_sureHolder, 3, (some .int), vt_X2_sureHolder, 0, (0, 0), (0, 0))
def m_X11_surely : vMt := (yX11_surely, cX11_surely, 2, (some .int), vt_X11_surely, 0, (1, 22), (0, 0))
def m_X12_surely : vMt := (yX12_surely, cX12_surely, 2, (some .int), vt_X12_surely, 0, (1, 22), (0, 0))
def m_X2_bestQuestion : vMt := (yX2_bestQuestion, cX2_bestQuestion, 5, (some .int), vt_X2_bestQuestion, 0, (1, 20), (0, 0))
def m_X11_ask : vMt := (yX11_ask, cX11_ask, 1, (some .int), vt_X11_ask, 0, (2, 44), (0, 0))
def m_X12_ask : vMt := (yX12_ask, cX12_ask, 1, (some .int), vt_X12_ask, 0, (0, 0), (0, 0))
def m_X11_share : vMt := (yX11_share, cX11_share, 9, (some .int), vt_X11_share, 0, (1, 23), (0, 0))
def m_X12_share : vMt := (yX12_share, cX12_share, 8, (some .int), vt_X12_share, 0, (2, 43), (0, 0))
def m_X3_cheapestFor : vMt := (yX3_cheapestFor, cX3_cheapestFor, 6, (some .int), vt_X3_cheapestFor, 0, (1, 22), (0, 0))
def m_X3_shareByFees : vMt := (yX3_shareByFees, cX3_shareByFees, 6, none, vt_X3_shareByFees, 0, (2, 47), (0, 0))
def m_J9_max_7cf53 : vMt := (yJ9_max_7cf53, cJ9_max_7cf53, 2, (some .int), vt_J9_max_7cf53, 0, (0, 0), (0, 0))
def m_X3_changeFees : vMt := (yX3_changeFees, cX3_changeFees, 6, (some .boolean), vt_X3_changeFees, 0, (1, 21), (0, 0))
def m_X3_settleFees : vMt := (yX3_settleFees, cX3_settleFees, 6, (some .int), vt_X3_settleFees, 0, (3, 72), (0, 0))
def m_X11_rest : vMt := (yX11_rest, cX11_rest, 1, (some .int), vt_X11_rest, 0, (4, 97), (0, 0))
def m_X12_goesTo : vMt := (yX12_goesTo, cX12_goesTo, 6, (some .int), vt_X12_goesTo, 0, (2, 44), (0, 0))
def m_X12_greater : vMt := (yX12_greater, cX12_greater, 2, (some .int), vt_X12_greater, 0, (0, 0), (0, 0))
def m_X12_round : vMt := (yX12_round, cX12_round, 4, (some .boolean), vt_X12_round, 0, (3, 69), (0, 0))
def m_X12_rest : vMt := (yX12_rest, cX12_rest, 3, (some .int), vt_X12_rest, 0, (4, 92), (0, 0))
def m_X11_fee : vMt := (yX11_fee, cX11_fee, 2, (some .int), vt_X11_fee, 0, (1, 21), (0, 0))
def m_X12_fee : vMt := (yX12_fee, cX12_fee, 2, (some .int), vt_X12_fee, 0, (1, 22), (0, 0))
def m_X12_part : vMt := (yX12_part, cX12_part, 6, (some .int), vt_X12_part, 0, (0, 0), (0, 0))
def m_X12_unharmed : vMt := (yX12_unharmed, cX12_unharmed, 6, (some .int), vt_X12_unharmed, 0, (1, 25), (0, 0))
def m_X11_ease : vMt := (yX11_ease, cX11_ease, 3, (some .int), vt_X11_ease, 0, (3, 70), (0, 0))
def m_X12_tries : vMt := (yX12_tries, cX12_tries, 2, none, vt_X12_tries, 0, (0, 0), (0, 0))
def m_X12_back : vMt := (yX12_back, cX12_back, 2, none, vt_X12_back, 0, (0, 0), (0, 0))
def m_X12_ease : vMt := (yX12_ease, cX12_ease, 3, (some .int), vt_X12_ease, 0, (3, 65), (0, 0))
def m_X11_later : vMt := (yX11_later, cX11_later, 3, (some .int), vt_X11_later, 0, (3, 70), (0, 0))
def m_X12_later : vMt := (yX12_later, cX12_later, 4, (some .int), vt_X12_later, 0, (4, 87), (0, 0))
def m_X11_lasts : vMt := (yX11_lasts, cX11_lasts, 3, (some .int), vt_X11_lasts, 0, (3, 70), (0, 0))
def m_X12_lasts : vMt := (yX12_lasts, cX12_lasts, 5, (some .int), vt_X12_lasts, 0, (3, 65), (0, 0))
def m_X11_cheapest : vMt := (yX11_cheapest, cX11_cheapest, 4, (some .int), vt_X11_cheapest, 0, (2, 50), (0, 0))
def m_X12_cheapest : vMt := (yX12_cheapest, cX12_cheapest, 4, (some .int), vt_X12_cheapest, 0, (5, 116), (0, 0))
def m_X11_isCarriable : vMt := (yX11_isCarriable, cX11_isCarriable, 3, (some .boolean), vt_X11_isCarriable, 0, (2, 50), (0, 0))
def m_X11_hopeless : vMt := (yX11_hopeless, cX11_hopeless, 3, (some .int), vt_X11_hopeless, 0, (3, 72), (0, 0))
def m_X12_hopeless : vMt := (yX12_hopeless, cX12_hopeless, 5, (some .int), vt_X12_hopeless, 0, (5, 116), (0, 0))
def m_X0_draw : vMt := (yX0_draw, cX0_draw, 2, (some .int), vt_X0_draw, 0, (0, 0), (0, 0))
def m_X0_act : vMt := (yX0_act, cX0_act, 7, none, vt_X0_act, 0, (3, 74), (0, 0))
def m_X0_live : vMt := (yX0_live, cX0_live, 7, (some .int), vt_X0_live, 0, (4, 100), (0, 0))
def m_X11_drawn : vMt := (yX11_drawn, cX11_drawn, 3, (some .int), vt_X11_drawn, 0, (5, 126), (0, 0))
def m_X12_draw : vMt := (yX12_draw, cX12_draw, 2, (some .int), vt_X12_draw, 0, (0, 0), (0, 0))
def m_X12_drawsPorter : vMt := (yX12_drawsPorter, cX12_drawsPorter, 5, none, vt_X12_drawsPorter, 0, (6, 139), (0, 0))
def m_X12_draws : vMt := (yX12_draws, cX12_draws, 5, (some .int), vt_X12_draws, 0, (7, 163), (0, 0))
def m_X12_drawn : vMt := (yX12_drawn, cX12_drawn, 3, (some .int), vt_X12_drawn, 0, (8, 187), (0, 0))
def m_X11_odds : vMt := (yX11_odds, cX11_odds, 6, (some .int), vt_X11_odds, 0, (5, 126), (0, 0))
def m_X12_odds : vMt := (yX12_odds, cX12_odds, 6, (some .int), vt_X12_odds, 0, (8, 187), (0, 0))
def m_X4_readHour : vMt := (yX4_readHour, cX4_readHour, 2, (some .boolean), vt_X4_readHour, 0, (4, 90), (0, 0))
def m_X4_readHome : vMt := (yX4_readHome, cX4_readHome, 3, (some .boolean), vt_X4_readHome, 0, (4, 88), (0, 0))
def m_X4_readDeed : vMt := (yX4_readDeed, cX4_readDeed, 5, (some .boolean), vt_X4_readDeed, 0, (4, 91), (0, 0))
def m_X4_readLine : vMt := (yX4_readLine, cX4_readLine, 7, (some .boolean), vt_X4_readLine, 0, (5, 115), (0, 0))
def m_X4_read : vMt := (yX4_read, cX4_read, 4, (some .boolean), vt_X4_read, 0, (6, 141), (0, 0))
def m_X4_liveHanding : vMt := (yX4_liveHanding, cX4_liveHanding, 5, (some .int), vt_X4_liveHanding, 0, (3, 74), (0, 0))
def m_X4_liveLine : vMt := (yX4_liveLine, cX4_liveLine, 6, (some .int), vt_X4_liveLine, 0, (4, 98), (0, 0))
def m_X4_goodLines : vMt := (yX4_goodLines, cX4_goodLines, 4, (some .int), vt_X4_goodLines, 0, (5, 123), (0, 0))
def m_X11_log : vMt := (yX11_log, cX11_log, 4, (some .int), vt_X11_log, 0, (7, 164), (0, 0))
def m_X12_logLine : vMt := (yX12_logLine, cX12_logLine, 5, (some .boolean), vt_X12_logLine, 0, (3, 67), (0, 0))
def m_X12_does : vMt := (yX12_does, cX12_does, 6, (some .int), vt_X12_does, 0, (6, 139), (0, 0))
def m_X12_log : vMt := (yX12_log, cX12_log, 5, (some .int), vt_X12_log, 0, (7, 164), (0, 0))
def m_X11_logged : vMt := (yX11_logged, cX11_logged, 2, (some .int), vt_X11_logged, 0, (0, 0), (0, 0))
def m_X12_logged : vMt := (yX12_logged, cX12_logged, 2, (some .int), vt_X12_logged, 0, (1, 22), (0, 0))
def m_X7_putOpen : vMt := (yX7_putOpen, cX7_putOpen, 2, none, vt_X7_putOpen, 0, (0, 0), (0, 0))
def m_X7_step : vMt := (yX7_step, cX7_step, 4, (some .boolean), vt_X7_step, 0, (0, 0), (0, 0))
def m_X7_readPlain : vMt := (yX7_readPlain, cX7_readPlain, 5, (some .boolean), vt_X7_readPlain, 0, (4, 91), (0, 0))
def m_X7_closeNots : vMt := (yX7_closeNots, cX7_closeNots, 1, none, vt_X7_closeNots, 0, (1, 23), (0, 0))
def m_X7_readOne : vMt := (yX7_readOne, cX7_readOne, 3, (some .boolean), vt_X7_readOne, 0, (5, 115), (0, 0))
def m_X7_closeJoins : vMt := (yX7_closeJoins, cX7_closeJoins, 2, none, vt_X7_closeJoins, 0, (1, 23), (0, 0))
def m_X7_readBetween : vMt := (yX7_readBetween, cX7_readBetween, 2, (some .boolean), vt_X7_readBetween, 0, (2, 44), (0, 0))
def m_X7_read : vMt := (yX7_read, cX7_read, 4, (some .boolean), vt_X7_read, 0, (6, 137), (0, 0))
def m_X11_sentence : vMt := (yX11_sentence, cX11_sentence, 2, (some .int), vt_X11_sentence, 0, (7, 160), (0, 0))
def m_X12_code : vMt := (yX12_code, cX12_code, 4, none, vt_X12_code, 0, (0, 0), (0, 0))
def m_X12_nots : vMt := (yX12_nots, cX12_nots, 1, none, vt_X12_nots, 0, (1, 23), (0, 0))
def m_X12_joins : vMt := (yX12_joins, cX12_joins, 2, none, vt_X12_joins, 0, (1, 23), (0, 0))
def m_X12_behind : vMt := (yX12_behind, cX12_behind, 1, (some .boolean), vt_X12_behind, 0, (2, 44), (0, 0))
def m_X12_leafOf : vMt := (yX12_leafOf, cX12_leafOf, 1, (some .int), vt_X12_leafOf, 0, (1, 22), (0, 0))
def m_X12_looksAtBoth : vMt := (yX12_looksAtBoth, cX12_looksAtBoth, 1, (some .boolean), vt_X12_looksAtBoth, 0, (1, 23), (0, 0))
def m_X12_operand : vMt := (yX12_operand, cX12_operand, 5, (some .boolean), vt_X12_operand, 0, (2, 45), (0, 0))
def m_X12_sentence : vMt := (yX12_sentence, cX12_sentence, 3, (some .int), vt_X12_sentence, 0, (3, 69), (0, 0))
def m_X7_compares : vMt := (yX7_compares, cX7_compares, 3, (some .boolean), vt_X7_compares, 0, (0, 0), (0, 0))
def m_X7_holds : vMt := (yX7_holds, cX7_holds, 5, (some .boolean), vt_X7_holds, 0, (1, 22), (0, 0))
def m_X7_plainSet : vMt := (yX7_plainSet, cX7_plainSet, 6, (some .int), vt_X7_plainSet, 0, (2, 46), (0, 0))
def m_X7_saidOf : vMt := (yX7_saidOf, cX7_saidOf, 5, (some .int), vt_X7_saidOf, 0, (3, 71), (0, 0))
def m_X11_said : vMt := (yX11_said, cX11_said, 5, (some .int), vt_X11_said, 0, (4, 95), (0, 0))
def m_X12_isLeaf : vMt := (yX12_isLeaf, cX12_isLeaf, 6, (some .boolean), vt_X12_isLeaf, 0, (2, 43), (0, 0))
def m_X12_isSaid : vMt := (yX12_isSaid, cX12_isSaid, 5, (some .boolean), vt_X12_isSaid, 0, (3, 68), (0, 0))
def m_X12_said : vMt := (yX12_said, cX12_said, 4, (some .int), vt_X12_said, 0, (4, 92), (0, 0))
def m_X9_copyFrom : vMt := (yX9_copyFrom, cX9_copyFrom, 2, none, vt_X9_copyFrom, 0, (1, 26), (0, 0))
def m_X7_copyFrom : vMt := (yX7_copyFrom, cX7_copyFrom, 2, none, vt_X7_copyFrom, 0, (1, 26), (0, 0))
def m_X11_image : vMt := (yX11_image, cX11_image, 2, (some .boolean), vt_X11_image, 0, (2, 47), (0, 0))
def m_X12_image : vMt := (yX12_image, cX12_image, 3, (some .boolean), vt_X12_image, 0, (1, 22), (0, 0))
def m_X11_restore : vMt := (yX11_restore, cX11_restore, 2, (some .boolean), vt_X11_restore, 0, (2, 47), (0, 0))
def m_X12_restore : vMt := (yX12_restore, cX12_restore, 3, (some .boolean), vt_X12_restore, 0, (1, 22), (0, 0))
def m_X11_count : vMt := (yX11_count, cX11_count, 2, (some .int), vt_X11_count, 0, (0, 0), (0, 0))
def m_X12_count : vMt := (yX12_count, cX12_count, 2, (some .int), vt_X12_count, 0, (1, 22), (0, 0))
def m_X11_pain : vMt := (yX11_pain, cX11_pain, 3, (some .int), vt_X11_pain, 0, (6, 81), (0, 0))
def m_X8_learntBy : vMt := (yX8_learntBy, cX8_learntBy, 5, (some .int), vt_X8_learntBy, 0, (0, 0), (0, 0))
def m_X11_porter : vMt := (yX11_porter, cX11_porter, 3, (some .int), vt_X11_porter, 0, (6, 81), (0, 0))
def m_X11_unharmed : vMt := (yX11_unharmed, cX11_unharmed, 8, (some .int), vt_X11_unharmed, 0, (6, 81), (0, 0))
def vms : List vMt := [m_J0_coder_7d493, m_J0_length_8abf5, m_J0_isLatin1_aae02, m_J3_checkIndex_8e157, m_J0_checkIndex_df160, m_J1_charAt_3b067, m_J2_length_9d52b, m_J2_checkIndex_2214a, m_J2_getChar_3b067, m_J2_charAt_3b067, m_J0_charAt_5068e, m_X6_joined, m_X6_init, m_X9_init, m_X10_init, m_X8_init, m_X7_init, m_X4_init, m_X5_init, m_X3_init, m_X2_init, m_X0_init, m_X1_init, m_X11_init, m_X12_init, m_X11_putNumber, m_X11_feed, m_X12_four, m_X12_feed, m_X11_end, m_X12_end, m_J9_min_7cf53, m_X6_begin, m_X11_takeTape, m_X9_clear, m_X6_findKeyword, m_X6_readRun, m_X6_advance, m_X9_findClashes, m_X6_fail, m_X6_isName, m_X9_find, m_X9_name, m_X10_readNewName, m_X6_endsLine, m_X10_readSort, m_X6_readName, m_X6_nextEndsLine, m_X10_readTalks, m_X6_readNumber, m_X10_readPerson, m_X10_readPorter, m_X10_readBars, m_X10_readPain, m_X10_readHarm, m_X10_readLine, m_X10_read, m_X8_begin, m_X7_forget, m_X5_forget, m_X11_town, m_X12_taken, m_X12_peek, m_X12_isSmall, m_X12_isDigit, m_X12_next, m_X12_isWord, m_X12_bad, m_X12_isName, m_X12_find, m_X12_fresh, m_X12_looksAt, m_X12_takesName, m_X12_bitOf, m_X12_isIn, m_X12_takes, m_X12_puts, m_X12_readPain, m_X12_line, m_X12_isSign, m_X12_sign, m_X12_town, m_X11_fault, m_X12_fault, m_X12_isPain, m_X12_throwsIf, m_X12_pain, m_X11_isPerson, m_X8_painsOf, m_X8_painsAt, m_X8_weightAt, m_X11_person, m_X12_isPerson, m_X12_isOver, m_X12_painsAt, m_X12_weightOf, m_X12_person, m_X12_isPorter, m_X12_hasLearnt, m_X12_heaves, m_X12_heavesAll, m_X12_porter, m_X11_sort, m_X12_sort, m_X8_painless, m_X11_sum, m_X8_isCarried, m_X8_carriedNow, m_X11_now, m_X12_freeSet, m_X12_sum, m_X12_isCarried, m_X12_carriedSet, m_X12_now, m_X11_isPorter, m_X11_isPain, m_X9_isForbidden, m_X8_heaveOf, m_X8_whyNotCarry, m_X8_whyNotFetch, m_X8_copyFrom, m_X5_keep, m_X8_give, m_X11_fetch, m_X12_cant, m_X12_cantNow, m_X12_whyFetch, m_X12_keep, m_X12_fetch, m_X8_whyNotHand, m_X11_hand, m_X12_whyHand, m_X12_hand, m_X8_whyNotDrop, m_X8_letFall, m_X11_drop, m_X12_whyDrop, m_X12_drops, m_X12_drop, m_X8_whyNotHome, m_X11_home, m_X12_whyHome, m_X12_home, m_X8_payPorters, m_X8_isFirstOfSort, m_X8_practise, m_X8_wearOff, m_X8_fallOnSomebody, m_X8_passHours, m_X11_hours, m_X12_pays, m_X12_lesser, m_X12_learns, m_X12_hour, m_X12_goesOn, m_X12_hours, m_X5_bringBack, m_X11_undo, m_X12_undo, m_X11_can, m_X12_can, m_X11_isAmong, m_X3_gather, m_X3_findKeys, m_J9_min_f86c9, m_X3_addPorter, m_X3_leastCost, m_X3_freeing, m_X3_tell, m_X11_free, m_X12_lists, m_X12_bits, m_X12_costTo, m_X12_assigns, m_X12_tells, m_X12_free, m_X11_by, m_X12_by, m_X3_fewestFor, m_X11_fewest, m_X12_fewest, m_X11_load, m_X12_load, m_J6_bitCount_0f7a4, m_X2_findLost, m_X2_layDown, m_X2_bearsThat, m_X2_noteWay, m_X2_countWays, m_X2_waysBy, m_X11_limps, m_X12_octet, m_X12_limpsBy, m_X12_tellsLimps, m_X12_limps, m_X2_sureHolder, m_X11_surely, m_X12_surely, m_X2_bestQuestion, m_X11_ask, m_X12_ask, m_X11_share, m_X12_share, m_X3_cheapestFor, m_X3_shareByFees, m_J9_max_7cf53, m_X3_changeFees, m_X3_settleFees, m_X11_rest, m_X12_goesTo, m_X12_greater, m_X12_round, m_X12_rest, m_X11_fee, m_X12_fee, m_X12_part, m_X12_unharmed, m_X11_ease, m_X12_tries, m_X12_back, m_X12_ease, m_X11_later, m_X12_later, m_X11_lasts, m_X12_lasts, m_X11_cheapest, m_X12_cheapest, m_X11_isCarriable, m_X11_hopeless, m_X12_hopeless, m_X0_draw, m_X0_act, m_X0_live, m_X11_drawn, m_X12_draw, m_X12_drawsPorter, m_X12_draws, m_X12_drawn, m_X11_odds, m_X12_odds, m_X4_readHour, m_X4_readHome, m_X4_readDeed, m_X4_readLine, m_X4_read, m_X4_liveHanding, m_X4_liveLine, m_X4_goodLines, m_X11_log, m_X12_logLine, m_X12_does, m_X12_log, m_X11_logged, m_X12_logged, m_X7_putOpen, m_X7_step, m_X7_readPlain, m_X7_closeNots, m_X7_readOne, m_X7_closeJoins, m_X7_readBetween, m_X7_read, m_X11_sentence, m_X12_code, m_X12_nots, m_X12_joins, m_X12_behind, m_X12_leafOf, m_X12_looksAtBoth, m_X12_operand, m_X12_sentence, m_X7_compares, m_X7_holds, m_X7_plainSet, m_X7_saidOf, m_X11_said, m_X12_isLeaf, m_X12_isSaid, m_X12_said, m_X9_copyFrom, m_X7_copyFrom, m_X11_image, m_X12_image, m_X11_restore, m_X12_restore, m_X11_count, m_X12_count, m_X11_pain, m_X8_learntBy, m_X11_porter, m_X11_unharmed]
def vkinds : List Nat := [1, 1, 1, 0, 0, 0, 0, 0, 0, 0, 1, 0, 2, 2, 2, 2, 2, 2, 2, 2, 2, 2, 2, 2, 2, 1, 1, 1, 1, 1, 1, 0, 1, 1, 1, 1, 1, 1, 1, 1, 1, 1, 1, 1, 1, 1, 1, 1, 1, 1, 1, 1, 1, 1, 1, 1, 1, 1, 1, 1, 1, 1, 1, 0, 0, 1, 1, 1, 1, 1, 1, 1, 1, 0, 0, 1, 1, 1, 1, 1, 1, 1, 1, 1, 1, 1, 1, 1, 1, 1, 1, 1, 1, 1, 1, 1, 1, 1, 1, 1, 1, 1, 1, 1, 1, 0, 1, 1, 1, 1, 1, 1, 1, 1, 1, 1, 1, 1, 1, 1, 1, 1, 1, 1, 1, 1, 1, 1, 1, 1, 1, 1, 1, 1, 1, 1, 1, 1, 1, 1, 1, 1, 1, 1, 1, 1, 1, 1, 1, 1, 1, 0, 1, 1, 1, 1, 1, 1, 1, 1, 1, 0, 1, 1, 0, 1, 1, 1, 1, 1, 1, 0, 1, 1, 1, 1, 1, 1, 1, 1, 1, 1, 1, 0, 1, 1, 1, 1, 1, 1, 1, 1, 1, 1, 1, 1, 1, 1, 1, 1, 1, 1, 1, 1, 1, 0, 1, 1, 1, 1, 0, 1, 1, 1, 1, 0, 1, 1, 1, 1, 1, 1, 1, 1, 1, 1, 1, 1, 1, 1, 1, 1, 1, 1, 1, 1, 1, 1, 1, 1, 1, 1, 1, 1, 1, 1, 1, 1, 1, 1, 1, 1, 1, 1, 1, 1, 1, 1, 1, 1, 1, 1, 1, 1, 1, 1, 1, 1, 1, 1, 1, 1, 1, 1, 1, 1, 1, 1, 1, 1, 1, 1, 1, 1, 1, 1, 1, 1, 1, 1, 1]
def vdf : List (List vAV) := [[.inl 0], [vNl, vNl, vNl, .inl 0], [vNl, .inl 0, vNl, vNl, vNl, vNl, vNl], [vNl, .inl 0, vNl, vNl, .inl 0, vNl, vNl, vNl, vNl, vNl, .inl 0], [vNl, vNl, vNl, vNl, .inl 0, .inl 0], [vNl, .inl 0, .inl 0], [vNl, vNl, .inl 0, .inl 0, .inl 0, .inl 0, .inl 0, .inl 0, .inl 0, .inr (.inr (.inl 0)), .inl 0, .inl 0, .inl 0], [.inl 0, .inl 0, .inl 0, vNl, vNl, vNl, vNl, .inl 0, .inl 0, .inl 0, .inl 0, vNl], [.inl 0, vNl, vNl, vNl, vNl, vNl, vNl, vNl, vNl], [.inl 0, .inl 0, .inl 0, .inl 0, .inl 0, .inl 0, vNl, vNl, vNl, vNl, vNl, vNl, vNl, vNl, vNl, vNl, vNl, vNl, .inl 0], [.inl 0, .inl 0, .inl 0], [vNl, .inl 0, vNl, vNl, vNl, vNl, vNl, vNl, vNl, vNl, vNl, vNl, vNl, vNl, vNl, vNl, vNl, vNl, vNl], [.inl 0, vNl, .inl 0, .inl 0, .inl 0, .inl 0, vNl, vNl, vNl, vNl, vNl, .inl 0, .inl 0, .inl 0, .inl 0, .inl 0, .inl 0, .inr (.inr (.inl 0)), .inl 0, .inl 0, .inl 0, .inl 0, .inl 0, vNl, vNl, .inl 0, vNl, vNl, vNl, vNl, .inl 0, .inl 0, vNl, vNl, .inl 0, .inl 0, vNl, vNl, .inl 0, .inl 0, vNl, vNl, vNl, vNl, vNl, .inl 0, .inl 0, .inl 0, vNl, .inl 0, vNl, .inl 0, .inl 0, .inl 0, .inl 0, .inl 0, vNl, vNl, vNl, vNl]]
def vlk_RX11 : List (Nat × Cond) := [(3, .methodLink RX11 3 objectInit), (9, .classLink RX11 9 RX6), (11, .methodLink RX11 11 yX6_init), (12, .fieldLink RX11 12 "PainPorters" "reader" "LPainPorters$Reader;"), (16, .classLink RX11 16 RX9), (19, .fieldLink RX11 19 "PainPorters" "here" "LPainPorters$Town;"), (23, .fieldLink RX11 23 "PainPorters" "spareTown" "LPainPorters$Town;"), (26, .classLink RX11 26 RX10), (29, .fieldLink RX11 29 "PainPorters" "townReader" "LPainPorters$TownReader;"), (33, .classLink RX11 33 RX8), (36, .fieldLink RX11 36 "PainPorters" "state" "LPainPorters$State;"), (40, .fieldLink RX11 40 "PainPorters" "asIf" "LPainPorters$State;"), (43, .classLink RX11 43 RX7), (46, .fieldLink RX11 46 "PainPorters" "saying" "LPainPorters$Sentence;"), (50, .fieldLink RX11 50 "PainPorters" "spareSaying" "LPainPorters$Sentence;"), (53, .classLink RX11 53 RX4), (56, .fieldLink RX11 56 "PainPorters" "judged" "LPainPorters$Log;"), (60, .fieldLink RX11 60 "PainPorters" "judgement" "[I"), (64, .classLink RX11 64 RX5), (66, .methodLink RX11 66 yX5_init), (67, .fieldLink RX11 67 "PainPorters" "past" "LPainPorters$Past;"), (71, .classLink RX11 71 RX1), (73, .fieldLink RX11 73 "PainPorters" "kept" "[LPainPorters$Kept;"), (77, .classLink RX11 77 RX3), (80, .fieldLink RX11 80 "PainPorters" "loads" "LPainPorters$Loads;"), (84, .fieldLink RX11 84 "PainPorters" "byFree" "[I"), (87, .fieldLink RX11 87 "PainPorters" "byFewest" "[I"), (90, .fieldLink RX11 90 "PainPorters" "feesAtRest" "[I"), (93, .classLink RX11 93 RX2), (96, .fieldLink RX11 96 "PainPorters" "limping" "LPainPorters$Limps;"), (100, .classLink RX11 100 RX0), (103, .fieldLink RX11 103 "PainPorters" "draws" "LPainPorters$Draws;"), (108, .fieldLink RX11 108 "PainPorters" "bytes" "I"), (112, .methodLink RX11 112 yX11_putNumber), (116, .fieldLink RX11 116 "PainPorters$Reader" "tape" "[B"), (120, .methodLink RX11 120 yX6_begin), (124, .methodLink RX11 124 yX11_takeTape), (127, .methodLink RX11 127 yX10_read), (131, .fieldLink RX11 131 "PainPorters$Reader" "faultPlace" "I"), (134, .methodLink RX11 134 yX8_begin), (137, .methodLink RX11 137 yX7_forget), (140, .methodLink RX11 140 yX5_forget), (141, .fieldLink RX11 141 "PainPorters$Reader" "fault" "I"), (144, .methodLink RX11 144 yX11_isPain), (150, .methodLink RX11 150 ⟨"java/util/NoSuchElementException", "<init>", "()V"⟩), (151, .fieldLink RX11 151 "PainPorters$Town" "owner" "[I"), (154, .fieldLink RX11 154 "PainPorters$Town" "sortOf" "[I"), (157, .fieldLink RX11 157 "PainPorters$Town" "weight" "[I"), (160, .fieldLink RX11 160 "PainPorters$State" "left" "[I"), (163, .fieldLink RX11 163 "PainPorters$State" "where" "[I"), (166, .fieldLink RX11 166 "PainPorters$State" "drops" "[I"), (169, .fieldLink RX11 169 "PainPorters$State" "paidFor" "[I"), (172, .methodLink RX11 172 yX11_isPerson), (175, .fieldLink RX11 175 "PainPorters$State" "coin" "[I"), (178, .methodLink RX11 178 yX8_painsOf), (182, .methodLink RX11 182 yX8_painsAt), (185, .methodLink RX11 185 yX8_weightAt), (188, .fieldLink RX11 188 "PainPorters$State" "paid" "[I"), (191, .methodLink RX11 191 yX11_isPorter), (194, .fieldLink RX11 194 "PainPorters$Town" "strength" "[I"), (197, .fieldLink RX11 197 "PainPorters$Town" "fees" "[I"), (200, .methodLink RX11 200 yX8_heaveOf), (204, .fieldLink RX11 204 "PainPorters$State" "earned" "[I"), (207, .methodLink RX11 207 yX8_learntBy), (210, .fieldLink RX11 210 "PainPorters$Town" "bars" "[I"), (213, .fieldLink RX11 213 "PainPorters$Town" "sorts" "I"), (216, .fieldLink RX11 216 "PainPorters$Town" "fixed" "I"), (219, .fieldLink RX11 219 "PainPorters$Town" "talks" "[I"), (222, .fieldLink RX11 222 "PainPorters$State" "hour" "I"), (225, .methodLink RX11 225 yX8_painless), (229, .fieldLink RX11 229 "PainPorters$Town" "persons" "I"), (232, .methodLink RX11 232 yX11_sum), (236, .fieldLink RX11 236 "PainPorters$Town" "porters" "I"), (239, .methodLink RX11 239 yX8_carriedNow), (242, .methodLink RX11 242 yX8_whyNotFetch), (245, .methodLink RX11 245 yX5_keep), (249, .methodLink RX11 249 yX8_give), (252, .methodLink RX11 252 yX8_whyNotHand), (256, .methodLink RX11 256 yX8_whyNotDrop), (260, .methodLink RX11 260 yX8_letFall), (263, .methodLink RX11 263 yX8_whyNotHome), (266, .methodLink RX11 266 yX8_passHours), (269, .methodLink RX11 269 yX5_bringBack), (273, .methodLink RX11 273 yX8_whyNotCarry), (276, .methodLink RX11 276 yX11_isAmong), (280, .methodLink RX11 280 yX3_freeing), (284, .methodLink RX11 284 yX3_tell), (288, .fieldLink RX11 288 "PainPorters$Town" "pains" "I"), (291, .methodLink RX11 291 yX3_fewestFor), (295, .methodLink RX11 295 yX2_waysBy), (299, .methodLink RX11 299 yX2_sureHolder), (303, .methodLink RX11 303 yX2_bestQuestion), (307, .methodLink RX11 307 yX3_settleFees), (311, .fieldLink RX11 311 "PainPorters$Town" "harm" "I"), (314, .methodLink RX11 314 yX8_copyFrom), (317, .methodLink RX11 317 yX8_isCarried), (320, .methodLink RX11 320 yX11_isCarriable), (323, .methodLink RX11 323 yX0_live), (326, .methodLink RX11 326 yX4_read), (329, .methodLink RX11 329 yX4_goodLines), (333, .fieldLink RX11 333 "PainPorters$Log" "why" "I"), (336, .methodLink RX11 336 yX7_read), (337, .fieldLink RX11 337 "PainPorters$Sentence" "ones" "I"), (340, .fieldLink RX11 340 "PainPorters$Sentence" "told" "Z"), (344, .methodLink RX11 344 yX7_saidOf), (347, .methodLink RX11 347 yJ6_bitCount_0f7a4), (352, .fieldLink RX11 352 "PainPorters$Kept" "town" "LPainPorters$Town;"), (355, .methodLink RX11 355 yX9_copyFrom), (357, .fieldLink RX11 357 "PainPorters$Kept" "state" "LPainPorters$State;"), (358, .fieldLink RX11 358 "PainPorters$Kept" "saying" "LPainPorters$Sentence;"), (359, .methodLink RX11 359 yX7_copyFrom), (362, .fieldLink RX11 362 "PainPorters$Kept" "full" "Z")]
def vlk_RX0 : List (Nat × Cond) := [(3, .methodLink RX0 3 objectInit), (9, .fieldLink RX0 9 "PainPorters$Draws" "x" "I"), (15, .constant RX0 15 (1103515245)), (16, .fieldLink RX0 16 "PainPorters$State" "hour" "I"), (21, .fieldLink RX0 21 "PainPorters$Town" "porters" "I"), (26, .methodLink RX0 26 yX0_act), (30, .methodLink RX0 30 yX8_passHours), (34, .methodLink RX0 34 yX0_draw), (38, .fieldLink RX0 38 "PainPorters$Town" "pains" "I"), (41, .methodLink RX0 41 yX8_whyNotFetch), (45, .methodLink RX0 45 yX8_give), (49, .methodLink RX0 49 yX8_whyNotDrop), (53, .methodLink RX0 53 yX8_letFall), (57, .methodLink RX0 57 yX8_whyNotHand)]
def vlk_RX1 : List (Nat × Cond) := [(1, .methodLink RX1 1 objectInit), (7, .classLink RX1 7 RX9), (10, .fieldLink RX1 10 "PainPorters$Kept" "town" "LPainPorters$Town;"), (16, .classLink RX1 16 RX8), (19, .fieldLink RX1 19 "PainPorters$Kept" "state" "LPainPorters$State;"), (23, .classLink RX1 23 RX7), (26, .fieldLink RX1 26 "PainPorters$Kept" "saying" "LPainPorters$Sentence;")]
def vlk_RX2 : List (Nat × Cond) := [(3, .methodLink RX2 3 objectInit), (9, .fieldLink RX2 9 "PainPorters$Limps" "lost" "[I"), (15, .fieldLink RX2 15 "PainPorters$Limps" "unknown" "[I"), (18, .fieldLink RX2 18 "PainPorters$Limps" "laid" "[I"), (21, .fieldLink RX2 21 "PainPorters$Limps" "chosen" "[I"), (24, .fieldLink RX2 24 "PainPorters$Limps" "seen" "[I"), (27, .fieldLink RX2 27 "PainPorters$Limps" "holders" "[I"), (30, .methodLink RX2 30 yX8_painsAt), (36, .methodLink RX2 36 yJ6_bitCount_0f7a4), (42, .fieldLink RX2 42 "PainPorters$Town" "persons" "I"), (48, .methodLink RX2 48 yX2_findLost), (52, .methodLink RX2 52 yX8_weightAt), (55, .methodLink RX2 55 yX2_countWays), (59, .methodLink RX2 59 arraycopyName), (65, .fieldLink RX2 65 "PainPorters$Limps" "lostCount" "I"), (68, .methodLink RX2 68 yX2_layDown), (72, .methodLink RX2 72 yX2_bearsThat), (76, .methodLink RX2 76 yX2_noteWay), (79, .fieldLink RX2 79 "PainPorters$Town" "weight" "[I")]
def vlk_RX3 : List (Nat × Cond) := [(5, .methodLink RX3 5 objectInit), (11, .fieldLink RX3 11 "PainPorters$Loads" "pains" "[I"), (15, .fieldLink RX3 15 "PainPorters$Loads" "clashes" "[I"), (18, .fieldLink RX3 18 "PainPorters$Loads" "paidHours" "[I"), (21, .fieldLink RX3 21 "PainPorters$Loads" "has" "[I"), (24, .fieldLink RX3 24 "PainPorters$Loads" "borne" "[I"), (27, .fieldLink RX3 27 "PainPorters$Loads" "heaved" "[I"), (30, .fieldLink RX3 30 "PainPorters$Loads" "keys" "[J"), (34, .fieldLink RX3 34 "PainPorters$Loads" "least" "[J"), (37, .fieldLink RX3 37 "PainPorters$Town" "persons" "I"), (43, .methodLink RX3 43 yX8_painsAt), (49, .methodLink RX3 49 yX3_gather), (53, .fieldLink RX3 53 "PainPorters$Loads" "countsPorters" "Z"), (57, .fieldLink RX3 57 "PainPorters$Loads" "count" "I"), (60, .fieldLink RX3 60 "PainPorters$State" "left" "[I"), (63, .methodLink RX3 63 yJ9_min_7cf53), (69, .fieldLink RX3 69 "PainPorters$Town" "porters" "I"), (72, .methodLink RX3 72 yX8_heaveOf), (76, .methodLink RX3 76 yX3_leastCost), (80, .fieldLink RX3 80 "PainPorters$Town" "pains" "I"), (82, .fieldLink RX3 82 "PainPorters$Town" "clash" "[I"), (85, .constantLong RX3 85 (-1)), (87, .methodLink RX3 87 yX3_findKeys), (91, .methodLink RX3 91 yX3_addPorter), (95, .constantLong RX3 95 (390625)), (97, .fieldLink RX3 97 "PainPorters$Loads" "code" "I"), (100, .constant RX3 100 (78125)), (101, .methodLink RX3 101 yX9_isForbidden), (105, .fieldLink RX3 105 "PainPorters$Town" "fees" "[I"), (108, .fieldLink RX3 108 "PainPorters$Town" "strength" "[I"), (111, .methodLink RX3 111 yJ9_min_f86c9), (114, .methodLink RX3 114 yX3_shareByFees), (118, .methodLink RX3 118 yX3_changeFees), (122, .fieldLink RX3 122 "PainPorters$State" "where" "[I"), (125, .methodLink RX3 125 yX3_cheapestFor), (129, .fieldLink RX3 129 "PainPorters$Town" "weight" "[I"), (132, .methodLink RX3 132 yJ9_max_7cf53)]
def vlk_RX4 : List (Nat × Cond) := [(3, .methodLink RX4 3 objectInit), (9, .fieldLink RX4 9 "PainPorters$Log" "acts" "[I"), (15, .fieldLink RX4 15 "PainPorters$Log" "doers" "[I"), (18, .fieldLink RX4 18 "PainPorters$Log" "pains" "[I"), (21, .fieldLink RX4 21 "PainPorters$Log" "extras" "[I"), (24, .fieldLink RX4 24 "PainPorters$Log" "lines" "I"), (28, .methodLink RX4 28 yX6_advance), (33, .fieldLink RX4 33 "PainPorters$Reader" "kind" "I"), (36, .methodLink RX4 36 yX4_readLine), (40, .methodLink RX4 40 yX6_fail), (44, .fieldLink RX4 44 "PainPorters$Reader" "keyword" "I"), (47, .methodLink RX4 47 yX6_isName), (51, .fieldLink RX4 51 "PainPorters$Reader" "word" "J"), (55, .methodLink RX4 55 yX9_find), (61, .methodLink RX4 61 yX4_readHour), (65, .methodLink RX4 65 yX4_readHome), (69, .methodLink RX4 69 yX4_readDeed), (73, .methodLink RX4 73 yX6_readNumber), (77, .fieldLink RX4 77 "PainPorters$Reader" "number" "I"), (80, .methodLink RX4 80 yX6_nextEndsLine), (83, .methodLink RX4 83 yX6_readName), (87, .fieldLink RX4 87 "PainPorters$Log" "why" "I"), (90, .methodLink RX4 90 yX4_liveLine), (94, .methodLink RX4 94 yX8_whyNotFetch), (100, .methodLink RX4 100 yX8_give), (104, .methodLink RX4 104 yX4_liveHanding), (107, .methodLink RX4 107 yX8_whyNotDrop), (111, .methodLink RX4 111 yX8_letFall), (115, .methodLink RX4 115 yX8_whyNotHome), (119, .fieldLink RX4 119 "PainPorters$Town" "owner" "[I"), (122, .fieldLink RX4 122 "PainPorters$State" "hour" "I"), (125, .methodLink RX4 125 yX8_passHours), (128, .methodLink RX4 128 yX8_whyNotHand)]
def vlk_RX5 : List (Nat × Cond) := [(3, .methodLink RX5 3 objectInit), (9, .classLink RX5 9 RX8), (11, .fieldLink RX5 11 "PainPorters$Past" "before" "[LPainPorters$State;"), (18, .fieldLink RX5 18 "PainPorters$Past" "size" "I"), (22, .fieldLink RX5 22 "PainPorters$Past" "next" "I"), (25, .methodLink RX5 25 yX8_copyFrom), (29, .methodLink RX5 29 yJ9_min_7cf53)]
def vlk_RX6 : List (Nat × Cond) := [(3, .methodLink RX6 3 objectInit), (9, .fieldLink RX6 9 "PainPorters$Reader" "tape" "[B"), (15, .fieldLink RX6 15 "PainPorters$Reader" "keywords" "[J"), (21, .methodLink RX6 21 yJ0_length_8abf5), (27, .methodLink RX6 27 yJ0_charAt_5068e), (31, .methodLink RX6 31 yX6_joined), (35, .constantLong RX6 35 (32)), (37, .methodLink RX6 37 yJ9_min_7cf53), (43, .fieldLink RX6 43 "PainPorters$Reader" "length" "I"), (46, .fieldLink RX6 46 "PainPorters$Reader" "most" "I"), (49, .fieldLink RX6 49 "PainPorters$Reader" "next" "I"), (52, .fieldLink RX6 52 "PainPorters$Reader" "fault" "I"), (55, .fieldLink RX6 55 "PainPorters$Reader" "faultPlace" "I"), (58, .fieldLink RX6 58 "PainPorters$Reader" "place" "I"), (61, .fieldLink RX6 61 "PainPorters$Reader" "keyword" "I"), (64, .fieldLink RX6 64 "PainPorters$Reader" "kind" "I"), (67, .methodLink RX6 67 yX6_readRun), (70, .fieldLink RX6 70 "PainPorters$Reader" "word" "J"), (74, .fieldLink RX6 74 "PainPorters$Reader" "number" "I"), (77, .methodLink RX6 77 yX6_findKeyword), (80, .methodLink RX6 80 yX6_advance), (83, .methodLink RX6 83 yX6_isName), (87, .methodLink RX6 87 yX6_fail), (91, .methodLink RX6 91 yX9_find), (97, .fieldLink RX6 97 "PainPorters$Reader" "kindOfName" "I"), (100, .methodLink RX6 100 yX6_endsLine)]
def vlk_RX7 : List (Nat × Cond) := [(3, .methodLink RX7 3 objectInit), (11, .fieldLink RX7 11 "PainPorters$Sentence" "ops" "[I"), (15, .fieldLink RX7 15 "PainPorters$Sentence" "signs" "[I"), (18, .fieldLink RX7 18 "PainPorters$Sentence" "args" "[I"), (21, .fieldLink RX7 21 "PainPorters$Sentence" "open" "[I"), (24, .fieldLink RX7 24 "PainPorters$Sentence" "sets" "[I"), (27, .fieldLink RX7 27 "PainPorters$Sentence" "told" "Z"), (31, .fieldLink RX7 31 "PainPorters$Sentence" "ones" "I"), (35, .fieldLink RX7 35 "PainPorters$Sentence" "steps" "I"), (38, .methodLink RX7 38 arraycopyName), (44, .methodLink RX7 44 yX7_forget), (47, .fieldLink RX7 47 "PainPorters$Sentence" "openCount" "I"), (50, .fieldLink RX7 50 "PainPorters$Sentence" "brackets" "I"), (53, .fieldLink RX7 53 "PainPorters$Sentence" "within" "I"), (56, .fieldLink RX7 56 "PainPorters$Sentence" "wantsOne" "Z"), (59, .methodLink RX7 59 yX6_advance), (64, .methodLink RX7 64 yX7_readOne), (68, .fieldLink RX7 68 "PainPorters$Reader" "kind" "I"), (71, .methodLink RX7 71 yX7_closeJoins), (75, .methodLink RX7 75 yX7_readBetween), (79, .methodLink RX7 79 yX6_fail), (83, .fieldLink RX7 83 "PainPorters$Reader" "keyword" "I"), (86, .methodLink RX7 86 yX7_putOpen), (89, .methodLink RX7 89 yX7_readPlain), (92, .methodLink RX7 92 yX7_closeNots), (95, .methodLink RX7 95 yX7_step), (99, .methodLink RX7 99 yX6_readName), (103, .fieldLink RX7 103 "PainPorters$Reader" "number" "I"), (106, .fieldLink RX7 106 "PainPorters$Reader" "kindOfName" "I"), (109, .methodLink RX7 109 yX6_readNumber), (113, .methodLink RX7 113 yJ9_max_7cf53), (119, .methodLink RX7 119 yX7_plainSet), (123, .fieldLink RX7 123 "PainPorters$Town" "pains" "I"), (128, .methodLink RX7 128 yX7_holds), (132, .methodLink RX7 132 yX8_isCarried), (137, .fieldLink RX7 137 "PainPorters$State" "where" "[I"), (140, .fieldLink RX7 140 "PainPorters$Town" "owner" "[I"), (143, .fieldLink RX7 143 "PainPorters$Town" "sortOf" "[I"), (146, .fieldLink RX7 146 "PainPorters$Town" "weight" "[I"), (149, .methodLink RX7 149 yX7_compares), (152, .fieldLink RX7 152 "PainPorters$State" "left" "[I")]
def vlk_RX8 : List (Nat × Cond) := [(3, .methodLink RX8 3 objectInit), (9, .fieldLink RX8 9 "PainPorters$State" "coin" "[I"), (15, .fieldLink RX8 15 "PainPorters$State" "paid" "[I"), (18, .fieldLink RX8 18 "PainPorters$State" "earned" "[I"), (21, .fieldLink RX8 21 "PainPorters$State" "practice" "[I"), (24, .fieldLink RX8 24 "PainPorters$State" "left" "[I"), (27, .fieldLink RX8 27 "PainPorters$State" "where" "[I"), (30, .fieldLink RX8 30 "PainPorters$State" "drops" "[I"), (33, .fieldLink RX8 33 "PainPorters$State" "paidFor" "[I"), (36, .fieldLink RX8 36 "PainPorters$State" "hour" "I"), (40, .fieldLink RX8 40 "PainPorters$Town" "coins" "[I"), (45, .fieldLink RX8 45 "PainPorters$Town" "lasting" "[I"), (48, .fieldLink RX8 48 "PainPorters$Town" "owner" "[I"), (51, .methodLink RX8 51 arraycopyName), (57, .fieldLink RX8 57 "PainPorters$Town" "pains" "I"), (60, .methodLink RX8 60 yX8_isCarried), (64, .fieldLink RX8 64 "PainPorters$Town" "weight" "[I"), (67, .fieldLink RX8 67 "PainPorters$Town" "persons" "I"), (70, .methodLink RX8 70 yX8_painsAt), (74, .fieldLink RX8 74 "PainPorters$Town" "sorts" "I"), (77, .fieldLink RX8 77 "PainPorters$Town" "sortOf" "[I"), (80, .methodLink RX8 80 yX9_isForbidden), (84, .fieldLink RX8 84 "PainPorters$Town" "clash" "[I"), (87, .methodLink RX8 87 yX8_heaveOf), (91, .fieldLink RX8 91 "PainPorters$Town" "strength" "[I"), (94, .methodLink RX8 94 yX8_whyNotCarry), (97, .fieldLink RX8 97 "PainPorters$Town" "fees" "[I"), (100, .methodLink RX8 100 yJ9_min_7cf53), (106, .methodLink RX8 106 yX8_payPorters), (110, .methodLink RX8 110 yX8_practise), (113, .methodLink RX8 113 yX8_wearOff), (117, .methodLink RX8 117 yX8_fallOnSomebody), (120, .methodLink RX8 120 yX8_isFirstOfSort)]
def vlk_RX9 : List (Nat × Cond) := [(3, .methodLink RX9 3 objectInit), (9, .fieldLink RX9 9 "PainPorters$Town" "harm" "I"), (15, .fieldLink RX9 15 "PainPorters$Town" "talks" "[I"), (19, .fieldLink RX9 19 "PainPorters$Town" "coins" "[I"), (22, .fieldLink RX9 22 "PainPorters$Town" "strength" "[I"), (25, .fieldLink RX9 25 "PainPorters$Town" "fees" "[I"), (28, .fieldLink RX9 28 "PainPorters$Town" "bars" "[I"), (31, .fieldLink RX9 31 "PainPorters$Town" "owner" "[I"), (34, .fieldLink RX9 34 "PainPorters$Town" "sortOf" "[I"), (37, .fieldLink RX9 37 "PainPorters$Town" "weight" "[I"), (40, .fieldLink RX9 40 "PainPorters$Town" "lasting" "[I"), (43, .fieldLink RX9 43 "PainPorters$Town" "clash" "[I"), (46, .fieldLink RX9 46 "PainPorters$Town" "names" "[J"), (50, .fieldLink RX9 50 "PainPorters$Town" "named" "[I"), (53, .fieldLink RX9 53 "PainPorters$Town" "sorts" "I"), (56, .fieldLink RX9 56 "PainPorters$Town" "persons" "I"), (59, .fieldLink RX9 59 "PainPorters$Town" "porters" "I"), (62, .fieldLink RX9 62 "PainPorters$Town" "pains" "I"), (65, .fieldLink RX9 65 "PainPorters$Town" "fixed" "I"), (68, .fieldLink RX9 68 "PainPorters$Town" "nameCount" "I"), (71, .methodLink RX9 71 arraycopyName)]
def vlk_RX10 : List (Nat × Cond) := [(3, .methodLink RX10 3 objectInit), (9, .methodLink RX10 9 yX9_clear), (14, .fieldLink RX10 14 "PainPorters$TownReader" "talksTold" "I"), (20, .fieldLink RX10 20 "PainPorters$TownReader" "barsTold" "I"), (23, .fieldLink RX10 23 "PainPorters$TownReader" "harmTold" "Z"), (27, .methodLink RX10 27 yX6_advance), (32, .fieldLink RX10 32 "PainPorters$Reader" "kind" "I"), (35, .methodLink RX10 35 yX9_findClashes), (38, .methodLink RX10 38 yX10_readLine), (42, .methodLink RX10 42 yX6_fail), (46, .fieldLink RX10 46 "PainPorters$Reader" "keyword" "I"), (49, .methodLink RX10 49 yX10_readSort), (52, .methodLink RX10 52 yX10_readTalks), (55, .methodLink RX10 55 yX10_readPerson), (58, .methodLink RX10 58 yX10_readPorter), (61, .methodLink RX10 61 yX10_readBars), (64, .methodLink RX10 64 yX10_readPain), (67, .methodLink RX10 67 yX10_readHarm), (70, .methodLink RX10 70 yX6_isName), (74, .fieldLink RX10 74 "PainPorters$Reader" "word" "J"), (78, .methodLink RX10 78 yX9_find), (82, .methodLink RX10 82 yX9_name), (86, .fieldLink RX10 86 "PainPorters$Town" "sorts" "I"), (89, .methodLink RX10 89 yX10_readNewName), (93, .fieldLink RX10 93 "PainPorters$Town" "fixed" "I"), (96, .methodLink RX10 96 yX6_endsLine), (99, .methodLink RX10 99 yX6_readName), (103, .fieldLink RX10 103 "PainPorters$Reader" "number" "I"), (106, .fieldLink RX10 106 "PainPorters$Town" "talks" "[I"), (110, .methodLink RX10 110 yX6_nextEndsLine), (113, .fieldLink RX10 113 "PainPorters$Town" "persons" "I"), (116, .methodLink RX10 116 yX6_readNumber), (120, .fieldLink RX10 120 "PainPorters$Town" "coins" "[I"), (123, .fieldLink RX10 123 "PainPorters$Town" "porters" "I"), (126, .fieldLink RX10 126 "PainPorters$Town" "strength" "[I"), (129, .fieldLink RX10 129 "PainPorters$Town" "fees" "[I"), (132, .fieldLink RX10 132 "PainPorters$Town" "bars" "[I"), (135, .fieldLink RX10 135 "PainPorters$Town" "pains" "I"), (138, .fieldLink RX10 138 "PainPorters$Town" "owner" "[I"), (141, .fieldLink RX10 141 "PainPorters$Town" "sortOf" "[I"), (144, .fieldLink RX10 144 "PainPorters$Town" "weight" "[I"), (147, .fieldLink RX10 147 "PainPorters$Town" "lasting" "[I"), (150, .fieldLink RX10 150 "PainPorters$Town" "harm" "I")]
def vlk_RL : List (Nat × Cond) := [(8, .classLink RL 8 RX11), (21, .methodLink RL 21 yX11_init), (22, .classLink RL 22 RX12), (24, .methodLink RL 24 yX12_init), (25, .methodLink RL 25 yX11_feed), (29, .methodLink RL 29 yX12_feed), (30, .methodLink RL 30 yX11_end), (34, .methodLink RL 34 yX12_end), (35, .methodLink RL 35 yX11_town), (39, .methodLink RL 39 yX12_town), (40, .methodLink RL 40 yX11_fault), (43, .methodLink RL 43 yX12_fault), (44, .methodLink RL 44 yL_pain), (49, .methodLink RL 49 yX12_pain), (50, .methodLink RL 50 yX11_person), (53, .methodLink RL 53 yX12_person), (54, .methodLink RL 54 yL_porter), (56, .methodLink RL 56 yX12_porter), (57, .methodLink RL 57 yX11_sort), (60, .methodLink RL 60 yX12_sort), (61, .methodLink RL 61 yX11_now), (65, .methodLink RL 65 yX12_now), (66, .methodLink RL 66 yX11_fetch), (69, .methodLink RL 69 yX12_fetch), (70, .methodLink RL 70 yX11_hand), (74, .methodLink RL 74 yX12_hand), (75, .methodLink RL 75 yX11_drop), (78, .methodLink RL 78 yX12_drop), (79, .methodLink RL 79 yX11_home), (82, .methodLink RL 82 yX12_home), (83, .methodLink RL 83 yX11_hours), (86, .methodLink RL 86 yX12_hours), (87, .methodLink RL 87 yX11_undo), (90, .methodLink RL 90 yX12_undo), (91, .methodLink RL 91 yX11_can), (94, .methodLink RL 94 yX12_can), (95, .methodLink RL 95 yX11_free), (98, .methodLink RL 98 yX12_free), (99, .methodLink RL 99 yX11_by), (102, .methodLink RL 102 yX12_by), (103, .methodLink RL 103 yX11_fewest), (106, .methodLink RL 106 yX12_fewest), (107, .methodLink RL 107 yX11_load), (110, .methodLink RL 110 yX12_load), (111, .methodLink RL 111 yX11_limps), (114, .methodLink RL 114 yX12_limps), (115, .methodLink RL 115 yX11_surely), (118, .methodLink RL 118 yX12_surely), (119, .methodLink RL 119 yX11_ask), (122, .methodLink RL 122 yX12_ask), (123, .methodLink RL 123 yX11_share), (126, .methodLink RL 126 yX12_share), (127, .methodLink RL 127 yX11_rest), (130, .methodLink RL 130 yX12_rest), (131, .methodLink RL 131 yX11_fee), (134, .methodLink RL 134 yX12_fee), (135, .methodLink RL 135 yL_unharmed), (137, .methodLink RL 137 yX12_unharmed), (138, .methodLink RL 138 yX11_ease), (141, .methodLink RL 141 yX12_ease), (142, .methodLink RL 142 yX11_later), (145, .methodLink RL 145 yX12_later), (146, .methodLink RL 146 yX11_lasts), (149, .methodLink RL 149 yX12_lasts), (150, .methodLink RL 150 yX11_cheapest), (153, .methodLink RL 153 yX12_cheapest), (154, .methodLink RL 154 yX11_hopeless), (157, .methodLink RL 157 yX12_hopeless), (158, .methodLink RL 158 yX11_drawn), (161, .methodLink RL 161 yX12_drawn), (162, .methodLink RL 162 yX11_odds), (165, .methodLink RL 165 yX12_odds), (166, .methodLink RL 166 yX11_log), (169, .methodLink RL 169 yX12_log), (170, .methodLink RL 170 yX11_logged), (173, .methodLink RL 173 yX12_logged), (174, .methodLink RL 174 yX11_sentence), (177, .methodLink RL 177 yX12_sentence), (178, .methodLink RL 178 yX11_said), (181, .methodLink RL 181 yX12_said), (182, .methodLink RL 182 yX11_image), (185, .methodLink RL 185 yX12_image), (186, .methodLink RL 186 yX11_restore), (189, .methodLink RL 189 yX12_restore), (190, .methodLink RL 190 yX11_count), (193, .methodLink RL 193 yX12_count)]
def vlk_RX12 : List (Nat × Cond) := [(1, .fieldLink RX12 1 "PainPortersModel" "thrown" "I"), (7, .fieldLink RX12 7 "PainPortersModel" "length" "I"), (10, .methodLink RX12 10 yX12_four), (14, .fieldLink RX12 14 "PainPortersModel" "tape" "[B"), (18, .fieldLink RX12 18 "PainPortersModel" "size" "I"), (21, .fieldLink RX12 21 "PainPortersModel" "p" "I"), (24, .fieldLink RX12 24 "PainPortersModel" "limit" "I"), (27, .methodLink RX12 27 objectInit), (33, .fieldLink RX12 33 "PainPortersModel" "s" "[I"), (37, .fieldLink RX12 37 "PainPortersModel" "h" "[I"), (40, .fieldLink RX12 40 "PainPortersModel" "read" "[I"), (43, .fieldLink RX12 43 "PainPortersModel" "names" "[J"), (47, .fieldLink RX12 47 "PainPortersModel" "reserved" "[J"), (50, .fieldLink RX12 50 "PainPortersModel" "undone" "[I"), (53, .fieldLink RX12 53 "PainPortersModel" "before" "[I"), (56, .fieldLink RX12 56 "PainPortersModel" "list" "[I"), (59, .fieldLink RX12 59 "PainPortersModel" "given" "[I"), (62, .fieldLink RX12 62 "PainPortersModel" "loads" "[I"), (65, .fieldLink RX12 65 "PainPortersModel" "bestRow" "[I"), (68, .fieldLink RX12 68 "PainPortersModel" "byRow" "[I"), (71, .fieldLink RX12 71 "PainPortersModel" "loadRow" "[I"), (74, .fieldLink RX12 74 "PainPortersModel" "byMany" "I"), (77, .fieldLink RX12 77 "PainPortersModel" "loadMany" "I"), (80, .fieldLink RX12 80 "PainPortersModel" "bears" "[I"), (83, .fieldLink RX12 83 "PainPortersModel" "where" "[I"), (86, .fieldLink RX12 86 "PainPortersModel" "limpMany" "I"), (89, .fieldLink RX12 89 "PainPortersModel" "parts" "[I"), (92, .fieldLink RX12 92 "PainPortersModel" "rests" "[I"), (95, .fieldLink RX12 95 "PainPortersModel" "fees" "[I"), (98, .fieldLink RX12 98 "PainPortersModel" "asks" "[I"), (101, .fieldLink RX12 101 "PainPortersModel" "has" "[I"), (104, .fieldLink RX12 104 "PainPortersModel" "feeMany" "I"), (107, .fieldLink RX12 107 "PainPortersModel" "loggedAt" "[I"), (110, .fieldLink RX12 110 "PainPortersModel" "stack" "[I"), (113, .fieldLink RX12 113 "PainPortersModel" "truths" "[Z"), (117, .fieldLink RX12 117 "PainPortersModel" "kept" "[I"), (120, .fieldLink RX12 120 "PainPortersModel" "namesKept" "[J"), (123, .fieldLink RX12 123 "PainPortersModel" "areKept" "[Z"), (126, .constantLong RX12 126 (1936683636)), (128, .constantLong RX12 128 (439856162148)), (130, .constantLong RX12 130 (499850701683)), (132, .constantLong RX12 132 (123581014175598)), (134, .constantLong RX12 134 (123623963911538)), (136, .constantLong RX12 136 (1650553459)), (138, .constantLong RX12 138 (1885432174)), (140, .constantLong RX12 140 (1751216749)), (142, .constantLong RX12 142 (28821998182884723)), (144, .constantLong RX12 144 (431416635507)), (146, .constantLong RX12 146 (448311223411)), (148, .constantLong RX12 148 (1752132965)), (150, .constantLong RX12 150 (1752135026)), (152, .constantLong RX12 152 (28530)), (154, .constantLong RX12 154 (6385252)), (156, .constantLong RX12 156 (7237492)), (158, .constantLong RX12 158 (27973166868030820)), (160, .constantLong RX12 160 (1819243380)), (162, .constantLong RX12 162 (1870030194)), (164, .constantLong RX12 164 (28518)), (166, .constantLong RX12 166 (2003399784)), (168, .constantLong RX12 168 (26995)), (170, .constantLong RX12 170 (131277443786868)), (172, .constantLong RX12 172 (1818584692)), (174, .constantLong RX12 174 (121450625394034)), (176, .methodLink RX12 176 yX12_peek), (180, .fieldLink RX12 180 "PainPortersModel" "at" "I"), (183, .fieldLink RX12 183 "PainPortersModel" "span" "I"), (186, .fieldLink RX12 186 "PainPortersModel" "token" "I"), (189, .methodLink RX12 189 yX12_isSmall), (193, .methodLink RX12 193 yX12_isDigit), (196, .fieldLink RX12 196 "PainPortersModel" "number" "I"), (199, .fieldLink RX12 199 "PainPortersModel" "word" "J"), (203, .fieldLink RX12 203 "PainPortersModel" "fault" "I"), (206, .fieldLink RX12 206 "PainPortersModel" "faultAt" "I"), (209, .methodLink RX12 209 yX12_isSign), (212, .methodLink RX12 212 yX12_bad), (215, .methodLink RX12 215 yX12_next), (218, .methodLink RX12 218 yX12_isIn), (222, .fieldLink RX12 222 "PainPortersModel" "got" "I"), (225, .methodLink RX12 225 yX12_takes), (229, .methodLink RX12 229 yX12_isName), (233, .methodLink RX12 233 yX12_find), (237, .methodLink RX12 237 yX12_looksAt), (240, .methodLink RX12 240 yX12_isWord), (244, .methodLink RX12 244 yX12_fresh), (247, .fieldLink RX12 247 "PainPortersModel" "talks" "I"), (250, .methodLink RX12 250 yX12_takesName), (253, .methodLink RX12 253 yX12_bitOf), (256, .methodLink RX12 256 yX12_puts), (259, .fieldLink RX12 259 "PainPortersModel" "bars" "I"), (262, .methodLink RX12 262 yX12_readPain), (265, .fieldLink RX12 265 "PainPortersModel" "hasHarm" "Z"), (269, .methodLink RX12 269 yX12_taken), (272, .fieldLink RX12 272 "PainPortersModel" "lines" "I"), (275, .methodLink RX12 275 yX12_line), (278, .methodLink RX12 278 yX12_sign), (281, .fieldLink RX12 281 "PainPortersModel" "undoMany" "I"), (284, .methodLink RX12 284 yX12_isCarried), (287, .methodLink RX12 287 yX12_hasLearnt), (290, .methodLink RX12 290 yX12_heaves), (293, .methodLink RX12 293 yX12_heavesAll), (296, .methodLink RX12 296 yX12_painsAt), (300, .methodLink RX12 300 yX12_cant), (304, .methodLink RX12 304 yX12_isPain), (307, .methodLink RX12 307 yX12_throwsIf), (311, .methodLink RX12 311 yX12_isPerson), (314, .methodLink RX12 314 yX12_isOver), (317, .methodLink RX12 317 yX12_weightOf), (320, .methodLink RX12 320 yX12_isPorter), (323, .methodLink RX12 323 yX12_freeSet), (326, .methodLink RX12 326 yX12_sum), (329, .methodLink RX12 329 yX12_carriedSet), (332, .methodLink RX12 332 yX12_cantNow), (335, .methodLink RX12 335 yX12_lesser), (338, .methodLink RX12 338 yX12_pays), (341, .methodLink RX12 341 yX12_learns), (344, .methodLink RX12 344 yX12_hour), (347, .methodLink RX12 347 yX12_whyFetch), (350, .methodLink RX12 350 yX12_keep), (353, .methodLink RX12 353 yX12_whyHand), (356, .methodLink RX12 356 yX12_whyDrop), (359, .methodLink RX12 359 yX12_drops), (362, .methodLink RX12 362 yX12_whyHome), (365, .methodLink RX12 365 yX12_goesOn), (368, .fieldLink RX12 368 "PainPortersModel" "many" "I"), (371, .fieldLink RX12 371 "PainPortersModel" "hoursFor" "I"), (374, .methodLink RX12 374 yX12_bits), (377, .constant RX12 377 (1000000)), (378, .methodLink RX12 378 yX12_costTo), (381, .methodLink RX12 381 yX12_lists), (384, .methodLink RX12 384 yX12_assigns), (387, .methodLink RX12 387 yX12_tells), (391, .methodLink RX12 391 yX12_octet), (394, .methodLink RX12 394 yX12_limpsBy), (397, .methodLink RX12 397 yX12_tellsLimps), (400, .fieldLink RX12 400 "PainPortersModel" "askPain" "I"), (403, .methodLink RX12 403 yX12_goesTo), (406, .methodLink RX12 406 yX12_greater), (409, .methodLink RX12 409 yX12_round), (412, .methodLink RX12 412 yX12_part), (415, .methodLink RX12 415 yX12_tries), (418, .methodLink RX12 418 yX12_back), (421, .fieldLink RX12 421 "PainPortersModel" "seed" "I"), (424, .constant RX12 424 (1103515245)), (425, .methodLink RX12 425 yX12_draw), (428, .methodLink RX12 428 yX12_drawsPorter), (431, .methodLink RX12 431 yX12_draws), (434, .fieldLink RX12 434 "PainPortersModel" "told" "I"), (437, .methodLink RX12 437 yX12_logLine), (440, .methodLink RX12 440 yX12_does), (444, .fieldLink RX12 444 "PainPortersModel" "hasLogged" "Z"), (447, .fieldLink RX12 447 "PainPortersModel" "codes" "I"), (450, .fieldLink RX12 450 "PainPortersModel" "top" "I"), (453, .methodLink RX12 453 yX12_code), (457, .fieldLink RX12 457 "PainPortersModel" "deep" "I"), (460, .methodLink RX12 460 yX12_leafOf), (463, .fieldLink RX12 463 "PainPortersModel" "ones" "I"), (466, .fieldLink RX12 466 "PainPortersModel" "isWhole" "Z"), (469, .methodLink RX12 469 yX12_looksAtBoth), (472, .methodLink RX12 472 yX12_nots), (475, .methodLink RX12 475 yX12_joins), (478, .methodLink RX12 478 yX12_behind), (481, .methodLink RX12 481 yX12_operand), (484, .methodLink RX12 484 yX12_isLeaf), (488, .methodLink RX12 488 yX12_isSaid)]
def vlk_RJ6 : List (Nat × Cond) := [(265, .constant RJ6 265 (1431655765)), (266, .constant RJ6 266 (858993459)), (267, .constant RJ6 267 (252645135))]
def vlk_RJ0 : List (Nat × Cond) := [(9, .fieldLink RJ0 9 "java/lang/String" "value" "[B"), (15, .fieldLink RJ0 15 "java/lang/String" "coder" "B"), (38, .fieldLink RJ0 38 "java/lang/String" "COMPACT_STRINGS" "Z"), (335, .methodLink RJ0 335 yJ0_coder_7d493), (492, .methodLink RJ0 492 yJ0_isLatin1_aae02), (495, .methodLink RJ0 495 yJ1_charAt_3b067), (498, .methodLink RJ0 498 yJ2_charAt_3b067), (1053, .fieldLink RJ0 1053 "jdk/internal/util/Preconditions" "SIOOBE_FORMATTER" "Ljava/util/function/BiFunction;"), (1059, .methodLink RJ0 1059 yJ3_checkIndex_8e157)]
def vlk_RJ1 : List (Nat × Cond) := [(9, .methodLink RJ1 9 yJ0_checkIndex_df160)]
def vlk_RJ2 : List (Nat × Cond) := [(48, .methodLink RJ2 48 yJ2_length_9d52b), (67, .methodLink RJ2 67 yJ2_checkIndex_2214a), (71, .methodLink RJ2 71 yJ2_getChar_3b067), (414, .methodLink RJ2 414 yJ0_checkIndex_df160)]
end
section
/-! ===== sets of ints by their numbers from 0 on (x + 2^31), as lists of bounds ===== -/
abbrev sSet : Type := List (Nat × Nat)
def sIn (S : sSet) (x : Nat) : Prop := ∃ q ∈ S, q.1 ≤ x ∧ x ≤ q.2
def sM : Nat := 4294967296
/-- an int's number from 0 on, and back -/
def sBi (u : Nat) : Nat := (u + 2147483648) % 4294967296
theorem sBi_lt (u : Nat) : sBi u < 4294967296 := Nat.mod_lt _ (by decide)
theorem sBi_bi {u : Nat} (h : u < 4294967296) : sBi (sBi u) = u := by unfold sBi; omega
theorem sBi_inj {u w : Nat} (hu : u < 4294967296) (hw : w < 4294967296) (h : sBi u = sBi w) : u = w := by unfold sBi at h; omega
def sFull : sSet := [(0, 4294967295)]
theorem sIn_full {x : Nat} (h : x < 4294967296) : sIn sFull x := ⟨_, List.mem_cons_self, Nat.zero_le _, by show x ≤ 4294967295; omega⟩
theorem sIn_one {a b x : Nat} (h1 : a ≤ x) (h2 : x ≤ b) : sIn [(a, b)] x := ⟨_, List.mem_cons_self, h1, h2⟩
theorem sIn_cons {q : Nat × Nat} {S : sSet} {x : Nat} : sIn (q :: S) x ↔ (q.1 ≤ x ∧ x ≤ q.2) ∨ sIn S x := by
  constructor
  · rintro ⟨r, hr, h⟩
    rcases List.mem_cons.mp hr with e | e
    · rw [e] at h; exact Or.inl h
    · exact Or.inr ⟨r, e, h⟩
  · rintro (h | ⟨r, hr, h⟩)
    · exact ⟨q, List.mem_cons_self, h⟩
    · exact ⟨r, List.mem_cons_of_mem _ hr, h⟩
theorem sIn_nil {x : Nat} : ¬ sIn [] x := by rintro ⟨q, h, -⟩; cases h
/-- the least and the greatest bound -/
def sLo : sSet → Nat
  | [] => 4294967295
  | q :: S => bif Nat.ble q.1 (sLo S) then q.1 else sLo S
def sHi : sSet → Nat
  | [] => 0
  | q :: S => bif Nat.ble (sHi S) q.2 then q.2 else sHi S
theorem sLo_le : ∀ (S : sSet) (x : Nat), sIn S x → sLo S ≤ x
  | [], x, h => (sIn_nil h).elim
  | q :: S, x, h => by
    unfold sLo
    cases hb : Nat.ble q.1 (sLo S) with
    | true =>
      rw [cond_true]
      rcases sIn_cons.mp h with h | h
      · exact h.1
      · exact Nat.le_trans (Nat.le_of_ble_eq_true hb) (sLo_le S x h)
    | false =>
      rw [cond_false]
      rcases sIn_cons.mp h with h | h
      · have h2 : ¬ q.1 ≤ sLo S := fun h3 => by rw [Nat.ble_eq_true_of_le h3] at hb; cases hb
        omega
      · exact sLo_le S x h
theorem sHi_ge : ∀ (S : sSet) (x : Nat), sIn S x → x ≤ sHi S
  | [], x, h => (sIn_nil h).elim
  | q :: S, x, h => by
    unfold sHi
    cases hb : Nat.ble (sHi S) q.2 with
    | true =>
      rw [cond_true]
      rcases sIn_cons.mp h with h | h
      · exact h.2
      · exact Nat.le_trans (sHi_ge S x h) (Nat.le_of_ble_eq_true hb)
    | false =>
      rw [cond_false]
      rcases sIn_cons.mp h with h | h
      · have h2 : ¬ sHi S ≤ q.2 := fun h3 => by rw [Nat.ble_eq_true_of_le h3] at hb; cases hb
        omega
      · exact sHi_ge S x h
/-- moved by a number, round the end -/
noncomputable def sShf (S : sSet) (c : Nat) : sSet := match S with
  | [] => []
  | q :: S => match sShf S c with
    | R => vF ((q.1 + c) % 4294967296) (fun a => vF ((q.2 + c) % 4294967296) (fun b => bif Nat.ble a b && Nat.blt q.2 4294967296 then (a, b) :: R else sFull))
theorem sShf_ok : ∀ (S : sSet) (c x : Nat), sIn S x → sIn (sShf S c) ((x + c) % 4294967296)
  | [], c, x, h => (sIn_nil h).elim
  | q :: S, c, x, h => by
    have ih := sShf_ok S c x
    unfold sShf
    simp only [vF_eq]
    cases hb : (Nat.ble ((q.1 + c) % 4294967296) ((q.2 + c) % 4294967296) && Nat.blt q.2 4294967296) with
    | true =>
      rw [cond_true]
      rw [Bool.and_eq_true] at hb
      have hq2 : q.2 < 4294967296 := Nat.blt_eq.mp hb.2
      have hb := Nat.le_of_ble_eq_true hb.1
      rcases sIn_cons.mp h with h | h
      · exact sIn_cons.mpr (Or.inl ⟨by show (q.1 + c) % 4294967296 ≤ _; omega, by show _ ≤ (q.2 + c) % 4294967296; omega⟩)
      · exact sIn_cons.mpr (Or.inr (ih h))
    | false =>
      rw [cond_false]
      exact sIn_full (Nat.mod_lt _ (by decide))
/-- what lies in both -/
def sCap1 (q : Nat × Nat) : sSet → sSet
  | [] => []
  | r :: S => bif Nat.ble q.1 r.2 && Nat.ble r.1 q.2 then ((bif Nat.ble q.1 r.1 then r.1 else q.1), (bif Nat.ble q.2 r.2 then q.2 else r.2)) :: sCap1 q S else sCap1 q S
def sCap : sSet → sSet → sSet
  | [], _ => []
  | q :: S, T => sCap1 q T ++ sCap S T
theorem sCap1_ok (q : Nat × Nat) : ∀ (S : sSet) (x : Nat), q.1 ≤ x → x ≤ q.2 → sIn S x → sIn (sCap1 q S) x
  | [], x, _, _, h => (sIn_nil h).elim
  | r :: S, x, h1, h2, h => by
    unfold sCap1
    rcases sIn_cons.mp h with h | h
    · have e : (Nat.ble q.1 r.2 && Nat.ble r.1 q.2) = true := by
        rw [Bool.and_eq_true]
        exact ⟨Nat.ble_eq_true_of_le (by omega), Nat.ble_eq_true_of_le (by omega)⟩
      rw [e, cond_true]
      refine sIn_cons.mpr (Or.inl ⟨?_, ?_⟩)
      · show (bif Nat.ble q.1 r.1 then r.1 else q.1) ≤ x
        cases Nat.ble q.1 r.1
        · exact h1
        · exact h.1
      · show x ≤ (bif Nat.ble q.2 r.2 then q.2 else r.2)
        cases Nat.ble q.2 r.2
        · exact h.2
        · exact h2
    · have ih := sCap1_ok q S x h1 h2 h
      cases (Nat.ble q.1 r.2 && Nat.ble r.1 q.2) with
      | true => rw [cond_true]; exact sIn_cons.mpr (Or.inr ih)
      | false => rw [cond_false]; exact ih
theorem sIn_app {S T : sSet} {x : Nat} : sIn (S ++ T) x ↔ sIn S x ∨ sIn T x := by
  constructor
  · rintro ⟨q, hq, h⟩
    rcases List.mem_append.mp hq with e | e
    · exact Or.inl ⟨q, e, h⟩
    · exact Or.inr ⟨q, e, h⟩
  · rintro (⟨q, hq, h⟩ | ⟨q, hq, h⟩)
    · exact ⟨q, List.mem_append_left _ hq, h⟩
    · exact ⟨q, List.mem_append_right _ hq, h⟩
theorem sCap_ok : ∀ (S T : sSet) (x : Nat), sIn S x → sIn T x → sIn (sCap S T) x
  | [], T, x, h, _ => (sIn_nil h).elim
  | q :: S, T, x, h, hT => by
    unfold sCap
    rcases sIn_cons.mp h with h | h
    · exact sIn_app.mpr (Or.inl (sCap1_ok q T x h.1 h.2 hT))
    · exact sIn_app.mpr (Or.inr (sCap_ok S T x h hT))
/-- without one number -/
def sDel (v : Nat) : sSet → sSet
  | [] => []
  | q :: S => bif Nat.ble q.1 v && Nat.ble v q.2 then (bif Nat.blt q.1 v then [(q.1, v - 1)] else []) ++ ((bif Nat.blt v q.2 then [(v + 1, q.2)] else []) ++ sDel v S) else q :: sDel v S
theorem sDel_ok (v : Nat) : ∀ (S : sSet) (x : Nat), x ≠ v → sIn S x → sIn (sDel v S) x
  | [], x, _, h => (sIn_nil h).elim
  | q :: S, x, hx, h => by
    unfold sDel
    cases hb : (Nat.ble q.1 v && Nat.ble v q.2) with
    | false =>
      rw [cond_false]
      rcases sIn_cons.mp h with h | h
      · exact sIn_cons.mpr (Or.inl h)
      · exact sIn_cons.mpr (Or.inr (sDel_ok v S x hx h))
    | true =>
      rw [cond_true]
      rcases sIn_cons.mp h with h | h
      · by_cases hlt : x < v
        · refine sIn_app.mpr (Or.inl ?_)
          have e : Nat.blt q.1 v = true := Nat.blt_eq.mpr (by omega)
          rw [e]
          exact sIn_one h.1 (by omega)
        · refine sIn_app.mpr (Or.inr (sIn_app.mpr (Or.inl ?_)))
          have e : Nat.blt v q.2 = true := Nat.blt_eq.mpr (by omega)
          rw [e]
          exact sIn_one (by omega) h.2
      · exact sIn_app.mpr (Or.inr (sIn_app.mpr (Or.inr (sDel_ok v S x hx h))))
/-- every number of one lies in the other -/
def sSub1 (q : Nat × Nat) : sSet → Bool
  | [] => false
  | r :: S => (Nat.ble r.1 q.1 && Nat.ble q.2 r.2) || sSub1 q S
def sSub : sSet → sSet → Bool
  | [], _ => true
  | q :: S, T => sSub1 q T && sSub S T
theorem sSub1_ok (q : Nat × Nat) : ∀ (S : sSet) (x : Nat), sSub1 q S = true → q.1 ≤ x → x ≤ q.2 → sIn S x
  | [], x, h, _, _ => by cases h
  | r :: S, x, h, h1, h2 => by
    unfold sSub1 at h
    rw [Bool.or_eq_true] at h
    rcases h with h | h
    · rw [Bool.and_eq_true] at h
      have a := Nat.le_of_ble_eq_true h.1
      have b := Nat.le_of_ble_eq_true h.2
      exact sIn_cons.mpr (Or.inl ⟨by omega, by omega⟩)
    · exact sIn_cons.mpr (Or.inr (sSub1_ok q S x h h1 h2))
theorem sSub_ok : ∀ (S T : sSet) (x : Nat), sSub S T = true → sIn S x → sIn T x
  | [], T, x, _, h => (sIn_nil h).elim
  | q :: S, T, x, h, hx => by
    unfold sSub at h
    rw [Bool.and_eq_true] at h
    rcases sIn_cons.mp hx with hx | hx
    · exact sSub1_ok q T x h.1 hx.1 hx.2
    · exact sSub_ok S T x h.2 hx
def sMem (x : Nat) : sSet → Bool
  | [] => false
  | q :: S => (Nat.ble q.1 x && Nat.ble x q.2) || sMem x S
theorem sMem_of : ∀ (S : sSet) (x : Nat), sIn S x → sMem x S = true
  | [], x, h => (sIn_nil h).elim
  | q :: S, x, h => by
    unfold sMem
    rcases sIn_cons.mp h with h | h
    · rw [Nat.ble_eq_true_of_le h.1, Nat.ble_eq_true_of_le h.2]; rfl
    · rw [sMem_of S x h, Bool.or_true]
end
section
/-! ===== symbols: what a state of the machine says of a state in which all is known ===== -/
/-- a cell: a value, or a set in which it lies -/
abbrev sC : Type := vAV ⊕ sSet
/-- an object: its kind, runs of cells, and what is known at an index that is a symbol -/
abbrev sOb : Type := Nat × List (Nat × sC) × List ((Nat × Nat) × vAV)
abbrev sHp : Type := List (Nat × sOb)
/-- how many symbols there are, the sets in which they lie, and rows (f, d, j): f + d ≤ j -/
abbrev sG : Type := Nat × List (Nat × sSet) × List (Nat × Nat × Nat)
/-- a symbol's number from 0 on, a number added: the int -/
def sUn (r c : Nat) : Nat := (r + c + 2147483648) % 4294967296
theorem sUn_lt (r c : Nat) : sUn r c < 4294967296 := Nat.mod_lt _ (by decide)
theorem sBi_un (r c : Nat) : sBi (sUn r c) = (r + c) % 4294967296 := by unfold sBi sUn; omega
theorem sUn_bi {u : Nat} (hu : u < 4294967296) : sUn (sBi u) 0 = u := by unfold sBi sUn; omega
/-- a value of the machine and what it stands for: its second kind is a symbol and a number that is added, 4 of the last kind some long -/
def sV (ρ : List Nat) : vAV → vAV → Prop
  | .inl u, v => u < 4294967296 ∧ v = .inl u
  | .inr (.inl q), v => ∃ r, ρ[q.1]? = some r ∧ v = .inl (sUn r q.2)
  | .inr (.inr (.inl u)), v => u < 18446744073709551616 ∧ v = .inr (.inr (.inl u))
  | .inr (.inr (.inr (.inl o))), v => v = .inr (.inr (.inr (.inl o)))
  | .inr (.inr (.inr (.inr 4))), v => ∃ u, u < 18446744073709551616 ∧ v = .inr (.inr (.inl u))
  | .inr (.inr (.inr (.inr z))), v => v = .inr (.inr (.inr (.inr z)))
theorem sV_app {ρ : List Nat} (xs : List Nat) {a v : vAV} (h : sV ρ a v) : sV (ρ ++ xs) a v := by
  unfold sV at h ⊢
  split at h
  · exact h
  · obtain ⟨r, h1, h2⟩ := h
    refine ⟨r, ?_, h2⟩
    rw [List.getElem?_append_left (List.getElem?_eq_some_iff.mp h1).1]
    exact h1
  · exact h
  · exact h
  · exact h
  · exact h
def sCr (ρ : List Nat) : sC → vAV → Prop
  | .inl a, v => sV ρ a v
  | .inr S, v => ∃ u, u < 4294967296 ∧ sIn S (sBi u) ∧ v = .inl u
theorem sCr_app {ρ : List Nat} (xs : List Nat) {c : sC} {v : vAV} (h : sCr ρ c v) : sCr (ρ ++ xs) c v := by
  rcases c with a | S
  · exact sV_app xs h
  · exact h
/-- the cell at an index, and how many there are -/
def sRd : List (Nat × sC) → Nat → Option sC
  | [], _ => none
  | q :: rs, i => bif Nat.blt i q.1 then some q.2 else sRd rs (i - q.1)
def sLen : List (Nat × sC) → Nat
  | [] => 0
  | q :: rs => q.1 + sLen rs
/-- runs of cells, and the cells -/
def sRr (ρ : List Nat) (rs : List (Nat × sC)) (cs : List vAV) : Prop := cs.length = sLen rs ∧ ∀ (i : Nat) (c : sC) (v : vAV), sRd rs i = some c → cs[i]? = some v → sCr ρ c v
theorem sRr_app {ρ : List Nat} (xs : List Nat) {rs : List (Nat × sC)} {cs : List vAV} (h : sRr ρ rs cs) : sRr (ρ ++ xs) rs cs := ⟨h.1, fun i c v h1 h2 => sCr_app xs (h.2 i c v h1 h2)⟩
/-- the index that a symbol and a number name: not below 0, so its number from 0 on is 2^31 more -/
def sIx (ρ : List Nat) (q : Nat × Nat) (i : Nat) : Prop := ∃ r, ρ[q.1]? = some r ∧ (r + q.2) % 4294967296 = i + 2147483648
def sOr (ρ : List Nat) (o : sOb) (ob : vOb) : Prop := ob.1 = o.1 ∧ sRr ρ o.2.1 ob.2 ∧ ∀ e ∈ o.2.2, ∃ i v, sIx ρ e.1 i ∧ ob.2[i]? = some v ∧ sV ρ e.2 v
theorem sIx_app {ρ : List Nat} (xs : List Nat) {q : Nat × Nat} {i : Nat} (h : sIx ρ q i) : sIx (ρ ++ xs) q i := by
  obtain ⟨r, h1, h2⟩ := h
  refine ⟨r, ?_, h2⟩
  rw [List.getElem?_append_left (List.getElem?_eq_some_iff.mp h1).1]
  exact h1
theorem sOr_app {ρ : List Nat} (xs : List Nat) {o : sOb} {ob : vOb} (h : sOr ρ o ob) : sOr (ρ ++ xs) o ob :=
  ⟨h.1, sRr_app xs h.2.1, fun e he => by
    obtain ⟨i, v, h1, h2, h3⟩ := h.2.2 e he
    exact ⟨i, v, sIx_app xs h1, h2, sV_app xs h3⟩⟩
def sHr (ρ : List Nat) (h : sHp) (hp : List vOb) : Prop := ∀ e ∈ h, ∃ ob, hp[e.1]? = some ob ∧ sOr ρ e.2 ob
theorem sHr_app {ρ : List Nat} (xs : List Nat) {h : sHp} {hp : List vOb} (hh : sHr ρ h hp) : sHr (ρ ++ xs) h hp := fun e he => by
  obtain ⟨ob, h1, h2⟩ := hh e he
  exact ⟨ob, h1, sOr_app xs h2⟩
def sTr (ρ : List Nat) : List vAV → List vAV → Prop
  | [], [] => True
  | a :: as, v :: vs => sV ρ a v ∧ sTr ρ as vs
  | [], _ :: _ => False
  | _ :: _, [] => False
theorem sTr_app {ρ : List Nat} (xs : List Nat) : ∀ {as vs : List vAV}, sTr ρ as vs → sTr (ρ ++ xs) as vs
  | [], [], _ => trivial
  | _ :: _, _ :: _, h => ⟨sV_app xs h.1, sTr_app xs h.2⟩
  | [], _ :: _, h => h.elim
  | _ :: _, [], h => h.elim
def sLr (ρ : List Nat) : vLs → vLs → Prop
  | [], [] => True
  | a :: as, v :: vs => (∀ x, a = some x → ∃ y, v = some y ∧ sV ρ x y) ∧ sLr ρ as vs
  | [], _ :: _ => False
  | _ :: _, [] => False
theorem sLr_app {ρ : List Nat} (xs : List Nat) : ∀ {as vs : vLs}, sLr ρ as vs → sLr (ρ ++ xs) as vs
  | [], [], _ => trivial
  | _ :: _, _ :: _, h => ⟨fun x hx => by obtain ⟨y, h1, h2⟩ := h.1 x hx; exact ⟨y, h1, sV_app xs h2⟩, sLr_app xs h.2⟩
  | [], _ :: _, h => h.elim
  | _ :: _, [], h => h.elim
def sGr (ρ : List Nat) (G : sG) : Prop := ρ.length = G.1 ∧ (∀ e ∈ G.2.1, ∃ r, ρ[e.1]? = some r ∧ r < 4294967296 ∧ sIn e.2 r) ∧ (∀ t ∈ G.2.2, ∃ a b, ρ[t.1]? = some a ∧ ρ[t.2.2]? = some b ∧ a + t.2.1 ≤ b)
/-- the set of a symbol -/
def sFind (j : Nat) : List (Nat × sSet) → Option sSet
  | [] => none
  | e :: es => bif Nat.beq e.1 j then some e.2 else sFind j es
theorem sFind_mem {j : Nat} : ∀ {es : List (Nat × sSet)} {S : sSet}, sFind j es = some S → (j, S) ∈ es
  | [], _, h => by cases h
  | e :: es, S, h => by
    unfold sFind at h
    cases hb : Nat.beq e.1 j with
    | true =>
      rw [hb, cond_true] at h
      have e1 := Nat.eq_of_beq_eq_true hb
      have e2 := Option.some.inj h
      rw [← e1, ← e2]
      exact List.mem_cons_self
    | false =>
      rw [hb, cond_false] at h
      exact List.mem_cons_of_mem _ (sFind_mem h)
noncomputable def sSetOf (G : sG) (a : vAV) : Option sSet := match a with
  | .inl u => vF ((u + 2147483648) % 4294967296) (fun r => some [(r, r)])
  | .inr (.inl q) => match sFind q.1 G.2.1 with
    | some S => some (sShf S q.2)
    | none => none
  | _ => none
theorem sSetOf_ok {ρ : List Nat} {G : sG} {a v : vAV} {S : sSet} (hG : sGr ρ G) (hv : sV ρ a v) (h : sSetOf G a = some S) : ∃ u, u < 4294967296 ∧ v = .inl u ∧ sIn S (sBi u) := by
  unfold sSetOf at h
  split at h
  · next u =>
    rw [vF_eq] at h
    have h := Option.some.inj h
    subst h
    exact ⟨u, hv.1, hv.2, sIn_one (Nat.le_refl _) (Nat.le_refl _)⟩
  · next q =>
    split at h
    · next S0 hf =>
      have h := Option.some.inj h
      subst h
      obtain ⟨r, h1, h2⟩ := hv
      obtain ⟨r', h3, h4, h5⟩ := hG.2.1 _ (sFind_mem hf)
      rw [h1] at h3
      cases h3
      refine ⟨_, sUn_lt _ _, h2, ?_⟩
      rw [sBi_un]
      exact sShf_ok _ _ _ h5
    · cases h
  · cases h
/-- a value lies in a set, too: none if that can't be -/
noncomputable def sRef (G : sG) (a : vAV) (S : sSet) : Option sG := match a with
  | .inl u => bif sMem ((u + 2147483648) % 4294967296) S then some G else none
  | .inr (.inl q) => match sFind q.1 G.2.1 with
    | some S0 => match sCap S0 (sShf S (4294967296 - q.2 % 4294967296)) with
      | [] => none
      | x :: R => some (G.1, (q.1, x :: R) :: G.2.1, G.2.2)
    | none => some G
  | _ => some G
theorem sRef_ok {ρ : List Nat} {G : sG} {a : vAV} {u : Nat} {S : sSet} (hG : sGr ρ G) (hv : sV ρ a (.inl u)) (hS : sIn S (sBi u)) : ∃ G', sRef G a S = some G' ∧ sGr ρ G' := by
  unfold sRef
  split
  · next u' =>
    have e := Sum.inl.inj hv.2
    subst e
    have h := sMem_of S _ hS
    unfold sBi at h
    rw [h]
    exact ⟨G, rfl, hG⟩
  · next q =>
    split
    · next S0 hf =>
      obtain ⟨r, h1, h2⟩ := hv
      obtain ⟨r', h3, h4, h5⟩ := hG.2.1 _ (sFind_mem hf)
      rw [h1] at h3
      cases h3
      have e := Sum.inl.inj h2
      have h6 : sIn (sCap S0 (sShf S (4294967296 - q.2 % 4294967296))) r := by
        refine sCap_ok _ _ _ h5 ?_
        have h7 := sShf_ok S (4294967296 - q.2 % 4294967296) _ hS
        have e2 : (sBi u + (4294967296 - q.2 % 4294967296)) % 4294967296 = r := by rw [e, sBi_un]; omega
        rw [e2] at h7
        exact h7
      split
      · next h8 => rw [h8] at h6; exact (sIn_nil h6).elim
      · next x R h8 =>
        rw [h8] at h6
        refine ⟨_, rfl, hG.1, fun e1 he => ?_, hG.2.2⟩
        rcases List.mem_cons.mp he with he | he
        · rw [he]; exact ⟨r, h1, h4, h6⟩
        · exact hG.2.1 e1 he
    · exact ⟨G, rfl, hG⟩
  · exact ⟨G, rfl, hG⟩
/-- a new symbol -/
def sNew (G : sG) (S : sSet) : sG := (G.1 + 1, (G.1, S) :: G.2.1, G.2.2)
theorem sGr_new {ρ : List Nat} {G : sG} {S : sSet} {x : Nat} (hG : sGr ρ G) (hx : x < 4294967296) (hS : sIn S x) : sGr (ρ ++ [x]) (sNew G S) := by
  have hl : ∀ (j r : Nat), ρ[j]? = some r → (ρ ++ [x])[j]? = some r := fun j r h => by
    rw [List.getElem?_append_left (List.getElem?_eq_some_iff.mp h).1]; exact h
  refine ⟨by simp [sNew, hG.1], fun e he => ?_, fun t ht => ?_⟩
  · rcases List.mem_cons.mp he with he | he
    · rw [he]
      refine ⟨x, ?_, hx, hS⟩
      show (ρ ++ [x])[G.1]? = some x
      rw [← hG.1]
      simp
    · obtain ⟨r, h1, h2, h3⟩ := hG.2.1 e he
      exact ⟨r, hl _ _ h1, h2, h3⟩
  · obtain ⟨a, b, h1, h2, h3⟩ := hG.2.2 t ht
    exact ⟨a, b, hl _ _ h1, hl _ _ h2, h3⟩
theorem sV_sym {ρ : List Nat} {j c r : Nat} {v : vAV} (h1 : ρ[j]? = some r) (h2 : v = .inl (sUn r c)) : sV ρ (.inr (.inl (j, c))) v := ⟨r, h1, h2⟩
theorem sV_new {ρ : List Nat} {G : sG} (hG : sGr ρ G) {u : Nat} (hu : u < 4294967296) : sV (ρ ++ [sBi u]) (.inr (.inl (G.1, 0))) (.inl u) := by
  have h1 : (ρ ++ [sBi u])[G.1]? = some (sBi u) := by
    rw [← hG.1]
    exact List.getElem?_concat_length
  exact sV_sym h1 (congrArg Sum.inl (sUn_bi hu).symm)
end
section
/-! ===== what sets say of sums, products and bits ===== -/
noncomputable def sAddS (a b c d : Nat) : sSet := bif Nat.ble 2147483648 (a + c) && Nat.blt (b + d) 6442450944 then vF (a + c - 2147483648) (fun x => vF (b + d - 2147483648) (fun y => [(x, y)])) else sFull
theorem sAddS_ok {a b c d u w : Nat} (hu : u < 4294967296) (hw : w < 4294967296) (h1 : a ≤ sBi u) (h2 : sBi u ≤ b) (h3 : c ≤ sBi w) (h4 : sBi w ≤ d) : sIn (sAddS a b c d) (sBi (vAdd u w)) := by
  unfold sAddS
  cases hb : (Nat.ble 2147483648 (a + c) && Nat.blt (b + d) 6442450944) with
  | false => exact sIn_full (sBi_lt _)
  | true =>
    rw [cond_true, vF_eq, vF_eq]
    rw [Bool.and_eq_true] at hb
    have e1 := Nat.le_of_ble_eq_true hb.1
    have e2 := Nat.blt_eq.mp hb.2
    unfold sBi at *
    unfold vAdd
    exact sIn_one (by omega) (by omega)
noncomputable def sSubS (a b c d : Nat) : sSet := bif Nat.ble d (a + 2147483648) && Nat.blt (b + 2147483648) (c + 4294967296) then vF (a + 2147483648 - d) (fun x => vF (b + 2147483648 - c) (fun y => [(x, y)])) else sFull
theorem sSubS_ok {a b c d u w : Nat} (hu : u < 4294967296) (hw : w < 4294967296) (h1 : a ≤ sBi u) (h2 : sBi u ≤ b) (h3 : c ≤ sBi w) (h4 : sBi w ≤ d) : sIn (sSubS a b c d) (sBi (vSub u w)) := by
  unfold sSubS
  cases hb : (Nat.ble d (a + 2147483648) && Nat.blt (b + 2147483648) (c + 4294967296)) with
  | false => exact sIn_full (sBi_lt _)
  | true =>
    rw [cond_true, vF_eq, vF_eq]
    rw [Bool.and_eq_true] at hb
    have e1 := Nat.le_of_ble_eq_true hb.1
    have e2 := Nat.blt_eq.mp hb.2
    unfold sBi at *
    unfold vSub
    exact sIn_one (by omega) (by omega)
/-- numbers that aren't negative -/
theorem sBi_pos {u : Nat} (hu : u < 4294967296) (h : 2147483648 ≤ sBi u) : u < 2147483648 ∧ sBi u = u + 2147483648 := by unfold sBi at *; omega
theorem sBi_of {u : Nat} (hu : u < 2147483648) : sBi u = u + 2147483648 := by unfold sBi; omega
noncomputable def sMulS (a b c d : Nat) : sSet := bif (Nat.ble 2147483648 a && Nat.ble 2147483648 c) && Nat.blt ((b - 2147483648) * (d - 2147483648)) 2147483648 then vF ((a - 2147483648) * (c - 2147483648) + 2147483648) (fun x => vF ((b - 2147483648) * (d - 2147483648) + 2147483648) (fun y => [(x, y)])) else sFull
theorem sMulS_ok {a b c d u w : Nat} (hu : u < 4294967296) (hw : w < 4294967296) (h1 : a ≤ sBi u) (h2 : sBi u ≤ b) (h3 : c ≤ sBi w) (h4 : sBi w ≤ d) : sIn (sMulS a b c d) (sBi (vMul u w)) := by
  unfold sMulS
  cases hb : ((Nat.ble 2147483648 a && Nat.ble 2147483648 c) && Nat.blt ((b - 2147483648) * (d - 2147483648)) 2147483648) with
  | false => exact sIn_full (sBi_lt _)
  | true =>
    rw [cond_true, vF_eq, vF_eq]
    rw [Bool.and_eq_true, Bool.and_eq_true] at hb
    have e1 := Nat.le_of_ble_eq_true hb.1.1
    have e2 := Nat.le_of_ble_eq_true hb.1.2
    have e3 := Nat.blt_eq.mp hb.2
    obtain ⟨p1, p2⟩ := sBi_pos hu (by omega)
    obtain ⟨p3, p4⟩ := sBi_pos hw (by omega)
    have m1 : (a - 2147483648) * (c - 2147483648) ≤ u * w := Nat.mul_le_mul (by omega) (by omega)
    have m2 : u * w ≤ (b - 2147483648) * (d - 2147483648) := Nat.mul_le_mul (by omega) (by omega)
    have e4 : vMul u w = u * w := by unfold vMul; exact Nat.mod_eq_of_lt (by omega)
    rw [e4, sBi_of (by omega)]
    exact sIn_one (by omega) (by omega)
noncomputable def sAndS (a b c d : Nat) : sSet := bif Nat.ble 2147483648 a then (bif Nat.ble 2147483648 c then (bif Nat.ble b d then [(2147483648, b)] else [(2147483648, d)]) else [(2147483648, b)]) else bif Nat.ble 2147483648 c then [(2147483648, d)] else sFull
theorem sAndS_ok {a b c d u w : Nat} (hu : u < 4294967296) (hw : w < 4294967296) (h1 : a ≤ sBi u) (h2 : sBi u ≤ b) (h3 : c ≤ sBi w) (h4 : sBi w ≤ d) : Nat.land u w < 4294967296 ∧ sIn (sAndS a b c d) (sBi (Nat.land u w)) := by
  have l1 : Nat.land u w ≤ u := Nat.and_le_left
  have l2 : Nat.land u w ≤ w := Nat.and_le_right
  refine ⟨by omega, ?_⟩
  unfold sAndS
  cases ha : Nat.ble 2147483648 a with
  | true =>
    have e1 := Nat.le_of_ble_eq_true ha
    obtain ⟨p1, p2⟩ := sBi_pos hu (by omega)
    have e3 : sBi (Nat.land u w) = Nat.land u w + 2147483648 := sBi_of (by omega)
    rw [cond_true]
    cases hc : Nat.ble 2147483648 c with
    | true =>
      have e2 := Nat.le_of_ble_eq_true hc
      obtain ⟨p3, p4⟩ := sBi_pos hw (by omega)
      rw [cond_true]
      cases Nat.ble b d with
      | true => rw [cond_true]; exact sIn_one (by omega) (by omega)
      | false => rw [cond_false]; exact sIn_one (by omega) (by omega)
    | false => rw [cond_false]; exact sIn_one (by omega) (by omega)
  | false =>
    rw [cond_false]
    cases hc : Nat.ble 2147483648 c with
    | true =>
      have e2 := Nat.le_of_ble_eq_true hc
      obtain ⟨p3, p4⟩ := sBi_pos hw (by omega)
      have e3 : sBi (Nat.land u w) = Nat.land u w + 2147483648 := sBi_of (by omega)
      rw [cond_true]
      exact sIn_one (by omega) (by omega)
    | false => exact sIn_full (sBi_lt _)
/-- a power of 2 above both -/
noncomputable def sP2 (x : Nat) : Nat → Nat → Nat
  | 0, _ => 31
  | n + 1, k => bif Nat.blt x (2 ^ k) then k else sP2 x n (k + 1)
theorem sP2_ok (x : Nat) : ∀ n k : Nat, k + n = 31 → x < 2147483648 → x < 2 ^ (sP2 x n k) ∧ sP2 x n k ≤ 31
  | 0, k, _, hx => ⟨hx, Nat.le_refl _⟩
  | n + 1, k, hk, hx => by
    unfold sP2
    cases hb : Nat.blt x (2 ^ k) with
    | true => rw [cond_true]; exact ⟨Nat.blt_eq.mp hb, by omega⟩
    | false => rw [cond_false]; exact sP2_ok x n (k + 1) (by omega) hx
noncomputable def sOrS (a b c d : Nat) : sSet := bif (Nat.ble 2147483648 a && Nat.ble 2147483648 c) && (Nat.blt b 4294967296 && Nat.blt d 4294967296) then vF (2 ^ sP2 (bif Nat.ble b d then d - 2147483648 else b - 2147483648) 31 0 + 2147483647) (fun y => [(2147483648, y)]) else sFull
theorem sOrS_ok {a b c d u w : Nat} (hu : u < 4294967296) (hw : w < 4294967296) (h1 : a ≤ sBi u) (h2 : sBi u ≤ b) (h3 : c ≤ sBi w) (h4 : sBi w ≤ d) : (Nat.lor u w < 4294967296 ∧ sIn (sOrS a b c d) (sBi (Nat.lor u w))) ∧ (Nat.xor u w < 4294967296 ∧ sIn (sOrS a b c d) (sBi (Nat.xor u w))) := by
  have o1 : Nat.lor u w < 2 ^ 32 := Nat.or_lt_two_pow hu hw
  have x1 : Nat.xor u w < 2 ^ 32 := Nat.xor_lt_two_pow hu hw
  unfold sOrS
  cases hb : ((Nat.ble 2147483648 a && Nat.ble 2147483648 c) && (Nat.blt b 4294967296 && Nat.blt d 4294967296)) with
  | false => exact ⟨⟨o1, sIn_full (sBi_lt _)⟩, ⟨x1, sIn_full (sBi_lt _)⟩⟩
  | true =>
    rw [cond_true, vF_eq]
    rw [Bool.and_eq_true, Bool.and_eq_true, Bool.and_eq_true] at hb
    have e1 := Nat.le_of_ble_eq_true hb.1.1
    have e2 := Nat.le_of_ble_eq_true hb.1.2
    have e3 := Nat.blt_eq.mp hb.2.1
    have e4 := Nat.blt_eq.mp hb.2.2
    obtain ⟨p1, p2⟩ := sBi_pos hu (by omega)
    obtain ⟨p3, p4⟩ := sBi_pos hw (by omega)
    have hm : ∃ m, (bif Nat.ble b d then d - 2147483648 else b - 2147483648) = m ∧ u ≤ m ∧ w ≤ m ∧ m < 2147483648 := by
      refine ⟨_, rfl, ?_⟩
      cases hbd : Nat.ble b d with
      | true =>
        have := Nat.le_of_ble_eq_true hbd
        rw [cond_true]
        omega
      | false =>
        have h9 : ¬ b ≤ d := fun h3 => by rw [Nat.ble_eq_true_of_le h3] at hbd; cases hbd
        rw [cond_false]
        omega
    obtain ⟨m, hm0, hm1, hm2, hm3⟩ := hm
    rw [hm0]
    obtain ⟨q1, q2⟩ := sP2_ok m 31 0 rfl hm3
    generalize sP2 m 31 0 = k at q1 q2
    have o2 : Nat.lor u w < 2 ^ k := Nat.or_lt_two_pow (by omega) (by omega)
    have x2 : Nat.xor u w < 2 ^ k := Nat.xor_lt_two_pow (by omega) (by omega)
    have hk : 2 ^ k ≤ 2 ^ 31 := Nat.pow_le_pow_right (by decide) q2
    have hk2 : (2 : Nat) ^ 31 = 2147483648 := by decide
    rw [sBi_of (by omega), sBi_of (by omega)]
    exact ⟨⟨o1, sIn_one (by omega) (by omega)⟩, ⟨x1, sIn_one (by omega) (by omega)⟩⟩
noncomputable def sIorS (a b c d : Nat) : sSet := bif (Nat.ble 2147483648 a && Nat.ble 2147483648 c) && (Nat.blt b 4294967296 && Nat.blt d 4294967296) then vF (2 ^ sP2 (bif Nat.ble b d then d - 2147483648 else b - 2147483648) 31 0 + 2147483647) (fun y => bif Nat.ble a c then [(c, y)] else [(a, y)]) else sFull
theorem sIorS_ok {a b c d u w : Nat} (hu : u < 4294967296) (hw : w < 4294967296) (h1 : a ≤ sBi u) (h2 : sBi u ≤ b) (h3 : c ≤ sBi w) (h4 : sBi w ≤ d) : Nat.lor u w < 4294967296 ∧ sIn (sIorS a b c d) (sBi (Nat.lor u w)) := by
  obtain ⟨o1, o2⟩ := (sOrS_ok hu hw h1 h2 h3 h4).1
  refine ⟨o1, ?_⟩
  unfold sOrS at o2
  unfold sIorS
  cases hb : ((Nat.ble 2147483648 a && Nat.ble 2147483648 c) && (Nat.blt b 4294967296 && Nat.blt d 4294967296)) with
  | false => exact sIn_full (sBi_lt _)
  | true =>
    rw [hb, cond_true, vF_eq] at o2
    rw [cond_true, vF_eq]
    generalize 2 ^ sP2 (bif Nat.ble b d then d - 2147483648 else b - 2147483648) 31 0 + 2147483647 = y at o2
    rw [Bool.and_eq_true, Bool.and_eq_true, Bool.and_eq_true] at hb
    have e1 := Nat.le_of_ble_eq_true hb.1.1
    have e2 := Nat.le_of_ble_eq_true hb.1.2
    obtain ⟨p1, p2⟩ := sBi_pos hu (by omega)
    obtain ⟨p3, p4⟩ := sBi_pos hw (by omega)
    have l1 : u ≤ Nat.lor u w := Nat.left_le_or
    have l2 : w ≤ Nat.lor u w := Nat.right_le_or
    have hlt : Nat.lor u w < 2 ^ 31 := Nat.or_lt_two_pow (by omega) (by omega)
    have hk2 : (2 : Nat) ^ 31 = 2147483648 := by decide
    rw [sBi_of (by omega)] at o2 ⊢
    have hy : Nat.lor u w + 2147483648 ≤ y := by
      rcases sIn_cons.mp o2 with h | h
      · exact h.2
      · exact (sIn_nil h).elim
    cases Nat.ble a c with
    | true => exact sIn_one (by omega) hy
    | false => exact sIn_one (by omega) hy
noncomputable def sShlS (a b c d : Nat) : sSet := bif (Nat.ble 2147483648 a && Nat.ble 2147483648 c) && (Nat.blt d 2147483680 && Nat.blt ((b - 2147483648) * 2 ^ (d - 2147483648)) 2147483648) then vF ((a - 2147483648) * 2 ^ (c - 2147483648) + 2147483648) (fun x => vF ((b - 2147483648) * 2 ^ (d - 2147483648) + 2147483648) (fun y => [(x, y)])) else sFull
theorem sShlS_ok {a b c d u w : Nat} (hu : u < 4294967296) (hw : w < 4294967296) (h1 : a ≤ sBi u) (h2 : sBi u ≤ b) (h3 : c ≤ sBi w) (h4 : sBi w ≤ d) : sIn (sShlS a b c d) (sBi (vShl u w)) := by
  unfold sShlS
  cases hb : ((Nat.ble 2147483648 a && Nat.ble 2147483648 c) && (Nat.blt d 2147483680 && Nat.blt ((b - 2147483648) * 2 ^ (d - 2147483648)) 2147483648)) with
  | false => exact sIn_full (sBi_lt _)
  | true =>
    rw [cond_true, vF_eq, vF_eq]
    rw [Bool.and_eq_true, Bool.and_eq_true, Bool.and_eq_true] at hb
    have e1 := Nat.le_of_ble_eq_true hb.1.1
    have e2 := Nat.le_of_ble_eq_true hb.1.2
    have e3 := Nat.blt_eq.mp hb.2.1
    have e4 := Nat.blt_eq.mp hb.2.2
    obtain ⟨p1, p2⟩ := sBi_pos hu (by omega)
    obtain ⟨p3, p4⟩ := sBi_pos hw (by omega)
    have ew : w % 32 = w := Nat.mod_eq_of_lt (by omega)
    have k1 : 2 ^ (c - 2147483648) ≤ 2 ^ w := Nat.pow_le_pow_right (by decide) (by omega)
    have k2 : 2 ^ w ≤ 2 ^ (d - 2147483648) := Nat.pow_le_pow_right (by decide) (by omega)
    have m1 : (a - 2147483648) * 2 ^ (c - 2147483648) ≤ u * 2 ^ w := Nat.mul_le_mul (by omega) k1
    have m2 : u * 2 ^ w ≤ (b - 2147483648) * 2 ^ (d - 2147483648) := Nat.mul_le_mul (by omega) k2
    have e5 : vShl u w = u * 2 ^ w := by unfold vShl; rw [ew]; exact Nat.mod_eq_of_lt (by omega)
    rw [e5, sBi_of (by omega)]
    exact sIn_one (by omega) (by omega)
noncomputable def sUshS (a b c d : Nat) : sSet := bif Nat.ble 2147483648 a then [(2147483648, b)] else bif (Nat.ble 2147483649 c && Nat.beq c d) && Nat.blt c 2147483680 then vF (4294967295 / 2 ^ (c - 2147483648) + 2147483648) (fun y => [(2147483648, y)]) else sFull
theorem sUshS_ok {a b c d u w : Nat} (hu : u < 4294967296) (hw : w < 4294967296) (h1 : a ≤ sBi u) (h2 : sBi u ≤ b) (h3 : c ≤ sBi w) (h4 : sBi w ≤ d) : vUsh u w < 4294967296 ∧ sIn (sUshS a b c d) (sBi (vUsh u w)) := by
  have l1 : vUsh u w ≤ u := Nat.div_le_self _ _
  refine ⟨by omega, ?_⟩
  unfold sUshS
  cases ha : Nat.ble 2147483648 a with
  | true =>
    have e1 := Nat.le_of_ble_eq_true ha
    obtain ⟨p1, p2⟩ := sBi_pos hu (by omega)
    rw [cond_true, sBi_of (by omega)]
    exact sIn_one (by omega) (by omega)
  | false =>
    rw [cond_false]
    cases hb : ((Nat.ble 2147483649 c && Nat.beq c d) && Nat.blt c 2147483680) with
    | false => exact sIn_full (sBi_lt _)
    | true =>
      rw [Bool.and_eq_true, Bool.and_eq_true] at hb
      have e1 := Nat.le_of_ble_eq_true hb.1.1
      have e2 := Nat.eq_of_beq_eq_true hb.1.2
      have e3 := Nat.blt_eq.mp hb.2
      obtain ⟨p3, p4⟩ := sBi_pos hw (by omega)
      rw [cond_true, vF_eq]
      have ew : w % 32 = c - 2147483648 := by omega
      have e5 : vUsh u w = u / 2 ^ (c - 2147483648) := by unfold vUsh; rw [ew]
      have e6 : u / 2 ^ (c - 2147483648) ≤ 4294967295 / 2 ^ (c - 2147483648) := Nat.div_le_div_right (by omega)
      have e7 : 2 ^ 1 ≤ 2 ^ (c - 2147483648) := Nat.pow_le_pow_right (by decide) (by omega)
      have e8 : u / 2 ^ (c - 2147483648) ≤ u / 2 := by
        refine Nat.div_le_div_left (by omega) (by decide)
      rw [e5, sBi_of (by omega)]
      exact sIn_one (by omega) (by omega)
end
section
/-! ===== signed division, remainder and shift, as the JVM has them ===== -/
theorem kn_bi (x : Int32) : (sBi x.toBitVec.toNat : Int) = x.toInt + 2147483648 := by
  have h : x.toInt = x.toBitVec.toInt := rfl
  have h1 := x.toBitVec.isLt
  rw [h, BitVec.toInt_eq_toNat_cond]
  unfold sBi
  split <;> omega
theorem kn_nI {u : Nat} (hu : u < 4294967296) : (nI u).toBitVec.toNat = u := by
  show (BitVec.ofNat 32 u).toNat = u
  rw [BitVec.toNat_ofNat]
  exact Nat.mod_eq_of_lt hu
theorem kDiv_pos {u w : Nat} (hu : u < 2147483648) (hw : 0 < w) (hw2 : w < 2147483648) : kDiv u w = u / w := by
  unfold kDiv
  rw [pk_div hu hw hw2]
  exact kn_nI (Nat.lt_of_le_of_lt (Nat.div_le_self _ _) (by omega))
theorem kRem_pos {u w : Nat} (hu : u < 2147483648) (hw : 0 < w) (hw2 : w < 2147483648) : kRem u w = u % w := by
  unfold kRem
  rw [pk_rem hu hw hw2]
  exact kn_nI (Nat.lt_of_le_of_lt (Nat.mod_le _ _) (by omega))
theorem kRem_int (x y : Int32) (h : 0 < y.toInt) : (x - x / y * y).toInt = x.toInt.tmod y.toInt := by
  rw [Int32.toInt_sub, Int32.toInt_mul, Int32.toInt_div, Int.sub_bmod_bmod]
  have e : ((x.toInt - (x.toInt.tdiv y.toInt).bmod (2 ^ 32) * y.toInt).bmod (2 ^ 32)) = (x.toInt - x.toInt.tdiv y.toInt * y.toInt).bmod (2 ^ 32) := by
    rw [← Int.sub_bmod_bmod, Int.bmod_mul_bmod, Int.sub_bmod_bmod]
  rw [e]
  have e2 : x.toInt - x.toInt.tdiv y.toInt * y.toInt = x.toInt.tmod y.toInt := by
    rw [Int.tmod_def, Int.mul_comm]
  rw [e2]
  have a1 := Int.tmod_lt_of_pos x.toInt h
  have a2 := Int.lt_tmod_of_pos x.toInt h
  have a3 := Int32.toInt_lt y
  refine Int.bmod_eq_of_le_mul_two ?_ ?_ <;> omega
theorem kRem_any {u w : Nat} (hw : 0 < w) (hw2 : w < 2147483648) : 2147483648 < sBi (kRem u w) + w ∧ sBi (kRem u w) < 2147483648 + w := by
  have e1 := kn_bi (nI u - nI u / nI w * nI w)
  have e2 : (nI w).toInt = (w : Int) := by
    have h := kn_bi (nI w)
    rw [kn_nI (by omega), sBi_of hw2] at h
    omega
  have e3 := kRem_int (nI u) (nI w) (by omega)
  have e4 := Int.tmod_lt_of_pos (nI u).toInt (b := (nI w).toInt) (by omega)
  have e5 := Int.lt_tmod_of_pos (nI u).toInt (b := (nI w).toInt) (by omega)
  unfold kRem
  omega
theorem kI2b_in (u : Nat) : 2147483520 ≤ sBi (kI2b u) ∧ sBi (kI2b u) ≤ 2147483775 := by
  have e1 := kn_bi (nI u).toInt8.toInt32
  have e2 : (nI u).toInt8.toInt32.toInt = (nI u).toInt8.toInt := Int8.toInt_toInt32 _
  have e3 := Int8.le_toInt (nI u).toInt8
  have e4 := Int8.toInt_lt (nI u).toInt8
  unfold kI2b
  omega
end
section
/-! ===== one row for all that takes two ints ===== -/
theorem sAll_lt (u w : Nat) : vAdd u w < 4294967296 ∧ vSub u w < 4294967296 ∧ vMul u w < 4294967296 ∧ vShl u w < 4294967296 ∧ kShr u w < 4294967296 ∧ kDiv u w < 4294967296 ∧ kRem u w < 4294967296 :=
  ⟨Nat.mod_lt _ (by decide), Nat.mod_lt _ (by decide), Nat.mod_lt _ (by decide), Nat.mod_lt _ (by decide), kn_lt _, kn_lt _, kn_lt _⟩
noncomputable def sShrS (a b : Nat) : sSet := bif Nat.ble 2147483648 a then [(2147483648, b)] else sFull
theorem kShr_pos {u w : Nat} (hu : u < 2147483648) (hw : w < 4294967296) : kShr u w = u / 2 ^ (w % 32) := by
  unfold kShr
  have hk : ((nI w &&& 31).toBitVec.smod 32).toNat = w % 32 := by
    have e : nI w &&& 31 = nI (w % 32) := by
      have h := pk_and (nI w) (m := 31) 5 (by decide)
      rw [kn_nI hw] at h
      exact h
    rw [e]
    have h2 : ∀ n : Fin 32, ((nI n.val).toBitVec.smod 32).toNat = n.val := by decide
    exact h2 ⟨w % 32, Nat.mod_lt _ (by decide)⟩
  rw [pk_shrN hu _ (w % 32) hk]
  exact kn_nI (Nat.lt_of_le_of_lt (Nat.div_le_self _ _) (by omega))
theorem sShrS_ok {a b u w : Nat} (hu : u < 4294967296) (hw : w < 4294967296) (h1 : a ≤ sBi u) (h2 : sBi u ≤ b) : sIn (sShrS a b) (sBi (kShr u w)) := by
  unfold sShrS
  cases ha : Nat.ble 2147483648 a with
  | false => exact sIn_full (sBi_lt _)
  | true =>
    have e1 := Nat.le_of_ble_eq_true ha
    obtain ⟨p1, p2⟩ := sBi_pos hu (by omega)
    have l1 : u / 2 ^ (w % 32) ≤ u := Nat.div_le_self _ _
    rw [cond_true, kShr_pos p1 hw]
    generalize u / 2 ^ (w % 32) = z at l1
    rw [sBi_of (by omega)]
    exact sIn_one (by omega) (by omega)
noncomputable def sDivS (a b c d : Nat) : sSet := bif (Nat.ble 2147483648 a && Nat.blt 2147483648 c) && Nat.blt d 4294967296 then vF ((a - 2147483648) / (d - 2147483648) + 2147483648) (fun x => vF ((b - 2147483648) / (c - 2147483648) + 2147483648) (fun y => [(x, y)])) else sFull
theorem sDivS_ok {a b c d u w : Nat} (hu : u < 4294967296) (hw : w < 4294967296) (h1 : a ≤ sBi u) (h2 : sBi u ≤ b) (h3 : c ≤ sBi w) (h4 : sBi w ≤ d) : sIn (sDivS a b c d) (sBi (kDiv u w)) := by
  unfold sDivS
  cases hb : ((Nat.ble 2147483648 a && Nat.blt 2147483648 c) && Nat.blt d 4294967296) with
  | false => exact sIn_full (sBi_lt _)
  | true =>
    rw [cond_true, vF_eq, vF_eq]
    rw [Bool.and_eq_true, Bool.and_eq_true] at hb
    have e1 := Nat.le_of_ble_eq_true hb.1.1
    have e2 := Nat.blt_eq.mp hb.1.2
    have e3 := Nat.blt_eq.mp hb.2
    obtain ⟨p1, p2⟩ := sBi_pos hu (by omega)
    obtain ⟨p3, p4⟩ := sBi_pos hw (by omega)
    have l1 : u / w ≤ u := Nat.div_le_self _ _
    rw [kDiv_pos p1 (by omega) p3, sBi_of (by omega)]
    have m1 : (a - 2147483648) / (d - 2147483648) ≤ u / w := Nat.div_le_div (by omega) (by omega) (by omega)
    have m2 : u / w ≤ (b - 2147483648) / (c - 2147483648) := Nat.div_le_div (by omega) (by omega) (by omega)
    exact sIn_one (by omega) (by omega)
noncomputable def sRemS (a b c d : Nat) : sSet := bif Nat.blt 2147483648 c && Nat.blt d 4294967296 then (bif Nat.ble 2147483648 a then (bif Nat.ble b (d - 1) then [(2147483648, b)] else vF (d - 1) (fun y => [(2147483648, y)])) else vF (4294967297 - d) (fun x => vF (d - 1) (fun y => [(x, y)]))) else sFull
theorem sRemS_ok {a b c d u w : Nat} (hu : u < 4294967296) (hw : w < 4294967296) (h1 : a ≤ sBi u) (h2 : sBi u ≤ b) (h3 : c ≤ sBi w) (h4 : sBi w ≤ d) : sIn (sRemS a b c d) (sBi (kRem u w)) := by
  unfold sRemS
  cases hb : (Nat.blt 2147483648 c && Nat.blt d 4294967296) with
  | false => exact sIn_full (sBi_lt _)
  | true =>
    rw [cond_true]
    rw [Bool.and_eq_true] at hb
    have e2 := Nat.blt_eq.mp hb.1
    have e3 := Nat.blt_eq.mp hb.2
    obtain ⟨p3, p4⟩ := sBi_pos hw (by omega)
    cases ha : Nat.ble 2147483648 a with
    | true =>
      have e1 := Nat.le_of_ble_eq_true ha
      obtain ⟨p1, p2⟩ := sBi_pos hu (by omega)
      have l1 : u % w ≤ u := Nat.mod_le _ _
      have l2 : u % w < w := Nat.mod_lt _ (by omega)
      rw [cond_true, kRem_pos p1 (by omega) p3, sBi_of (by omega)]
      cases Nat.ble b (d - 1) with
      | true => rw [cond_true]; exact sIn_one (by omega) (by omega)
      | false => rw [cond_false, vF_eq]; exact sIn_one (by omega) (by omega)
    | false =>
      rw [cond_false, vF_eq, vF_eq]
      have h9 := kRem_any (u := u) (w := w) (by omega) p3
      exact sIn_one (by omega) (by omega)
/-- the known int -/
noncomputable def sKop (op u w : Nat) : Nat := match op with
  | 0 => vAdd u w
  | 1 => vSub u w
  | 2 => vMul u w
  | 3 => Nat.land u w
  | 4 => Nat.lor u w
  | 5 => Nat.xor u w
  | 6 => vShl u w
  | 7 => vUsh u w
  | 8 => kShr u w
  | 9 => kDiv u w
  | _ => kRem u w
noncomputable def sOpS (op a b c d : Nat) : sSet := match op with
  | 0 => sAddS a b c d
  | 1 => sSubS a b c d
  | 2 => sMulS a b c d
  | 3 => sAndS a b c d
  | 4 => sIorS a b c d
  | 5 => sOrS a b c d
  | 6 => sShlS a b c d
  | 7 => sUshS a b c d
  | 8 => sShrS a b
  | 9 => sDivS a b c d
  | _ => sRemS a b c d
theorem sOpS_ok (op : Nat) {a b c d u w : Nat} (hu : u < 4294967296) (hw : w < 4294967296) (h1 : a ≤ sBi u) (h2 : sBi u ≤ b) (h3 : c ≤ sBi w) (h4 : sBi w ≤ d) : sKop op u w < 4294967296 ∧ sIn (sOpS op a b c d) (sBi (sKop op u w)) := by
  have hl := sAll_lt u w
  unfold sKop sOpS
  split
  · exact ⟨hl.1, sAddS_ok hu hw h1 h2 h3 h4⟩
  · exact ⟨hl.2.1, sSubS_ok hu hw h1 h2 h3 h4⟩
  · exact ⟨hl.2.2.1, sMulS_ok hu hw h1 h2 h3 h4⟩
  · exact sAndS_ok hu hw h1 h2 h3 h4
  · exact sIorS_ok hu hw h1 h2 h3 h4
  · exact (sOrS_ok hu hw h1 h2 h3 h4).2
  · exact ⟨hl.2.2.2.1, sShlS_ok hu hw h1 h2 h3 h4⟩
  · exact sUshS_ok hu hw h1 h2 h3 h4
  · exact ⟨hl.2.2.2.2.1, sShrS_ok hu hw h1 h2⟩
  · exact ⟨hl.2.2.2.2.2.1, sDivS_ok hu hw h1 h2 h3 h4⟩
  · exact ⟨hl.2.2.2.2.2.2, sRemS_ok hu hw h1 h2 h3 h4⟩
/-- a value in a set, as a new symbol (or the one number that is in it) -/
noncomputable def sMk (G : sG) (S : sSet) : sG × vAV := match S with
  | [q] => bif Nat.beq q.1 q.2 && Nat.blt q.1 4294967296 then vF ((q.1 + 2147483648) % 4294967296) (fun r => (G, .inl r)) else (sNew G S, .inr (.inl (G.1, 0)))
  | _ => (sNew G S, .inr (.inl (G.1, 0)))
theorem sMk_ok {ρ : List Nat} {G : sG} {S : sSet} {u : Nat} (hG : sGr ρ G) (hu : u < 4294967296) (hS : sIn S (sBi u)) : ∃ xs, sGr (ρ ++ xs) (sMk G S).1 ∧ sV (ρ ++ xs) (sMk G S).2 (.inl u) := by
  have hnew : sGr (ρ ++ [sBi u]) (sNew G S) ∧ sV (ρ ++ [sBi u]) (.inr (.inl (G.1, 0))) (.inl u) := ⟨sGr_new hG (sBi_lt u) hS, sV_new hG hu⟩
  unfold sMk
  split
  · next q =>
    cases hb : (Nat.beq q.1 q.2 && Nat.blt q.1 4294967296) with
    | true =>
      rw [cond_true, vF_eq]
      rw [Bool.and_eq_true] at hb
      have e1 := Nat.eq_of_beq_eq_true hb.1
      have e2 : sBi u = q.1 := by
        rcases sIn_cons.mp hS with h | h
        · omega
        · exact (sIn_nil h).elim
      refine ⟨[], ?_, ?_⟩
      · rw [List.append_nil]; exact hG
      · have e3 : (q.1 + 2147483648) % 4294967296 = u := by
          rw [← e2]
          exact sBi_bi hu
        exact ⟨Nat.mod_lt _ (by decide), by rw [e3]⟩
    | false => exact ⟨_, hnew⟩
  · exact ⟨_, hnew⟩
end
section
/-! ===== two ints, one of them or both symbols ===== -/
theorem sIn_lohi {S : sSet} {x : Nat} (h : sIn S x) : sLo S ≤ x ∧ x ≤ sHi S := ⟨sLo_le S x h, sHi_ge S x h⟩
noncomputable def sFa (G : sG) (n : Nat) (z : vAV) (Z : sSet) : List (Nat × Nat × Nat) := match z with
  | .inr (.inl (j, c)) => bif Nat.ble 2147483648 (sLo Z) then (match sFind j G.2.1 with
    | some S => bif Nat.beq c 0 then [(n, 0, j)] else bif Nat.beq c 4294967295 && Nat.ble 1 (sLo S) then [(n, 1, j)] else []
    | none => []) else []
  | _ => []
/-- what is known of a new symbol besides its set: it isn't greater than, or less than, an older one -/
noncomputable def sFct (op : Nat) (G : sG) (x y v : vAV) (X Y : sSet) : List (Nat × Nat × Nat) := match v with
  | .inr (.inl (n, 0)) => bif Nat.beq op 3 then sFa G n x X ++ sFa G n y Y else bif Nat.beq op 10 then (match y with
      | .inr (.inl (j, 0)) => bif Nat.ble 2147483648 (sLo X) && Nat.blt 2147483648 (sLo Y) then (match sFind j G.2.1 with
        | some _ => [(n, 1, j)]
        | none => []) else []
      | _ => []) else []
  | _ => []
noncomputable def sGen (op : Nat) (G : sG) (x y : vAV) : Option (List (sG × vAV)) := match sSetOf G x, sSetOf G y with
  | some X, some Y => bif Nat.ble 9 op && sMem 2147483648 Y then none else match sMk G (sOpS op (sLo X) (sHi X) (sLo Y) (sHi Y)) with
    | (G', v) => some [((G'.1, G'.2.1, sFct op G x y v X Y ++ G'.2.2), v)]
  | _, _ => none
/-- a quotient or a remainder by a known number, a piece of the set at a time -/
noncomputable def sDR (op : Nat) (G : sG) (q : Nat × Nat) (w : Nat) : sSet → List (sG × vAV)
  | [] => []
  | i :: X => match sRef G (.inr (.inl q)) [i] with
    | none => sDR op G q w X
    | some G' => bif Nat.ble 2147483648 i.1 && Nat.beq ((i.1 - 2147483648) / w) ((i.2 - 2147483648) / w) then
        (bif Nat.beq op 9 then vF ((i.1 - 2147483648) / w) (fun r => (G', .inl r) :: sDR op G q w X)
         else vF ((q.2 + (4294967296 - (i.1 - 2147483648) / w * w % 4294967296)) % 4294967296) (fun c => (G', .inr (.inl (q.1, c))) :: sDR op G q w X))
      else sMk G' (sOpS op i.1 i.2 (w + 2147483648) (w + 2147483648)) :: sDR op G q w X
noncomputable def sBin (op : Nat) (G : sG) (x y : vAV) : Option (List (sG × vAV)) := match x, y with
  | .inl u, .inl w => bif Nat.ble op 7 then vF (sKop op u w) (fun r => some [(G, .inl r)]) else bif Nat.beq op 8 && Nat.blt u 2147483648 then vF (u / 2 ^ (w % 32)) (fun r => some [(G, .inl r)]) else bif Nat.blt u 2147483648 && (Nat.blt 0 w && Nat.blt w 2147483648) then
      (bif Nat.beq op 9 then vF (u / w) (fun r => some [(G, .inl r)]) else bif Nat.beq op 10 then vF (u % w) (fun r => some [(G, .inl r)]) else sGen op G x y) else sGen op G x y
  | .inr (.inl q), .inl w => bif Nat.beq op 0 then vF ((q.2 + w) % 4294967296) (fun c => some [(G, .inr (.inl (q.1, c)))])
      else bif Nat.beq op 1 then vF ((q.2 + (4294967296 - w)) % 4294967296) (fun c => some [(G, .inr (.inl (q.1, c)))])
      else bif (Nat.beq op 9 || Nat.beq op 10) && (Nat.blt 0 w && Nat.blt w 2147483648) then (match sSetOf G x with
        | some X => some (sDR op G q w X)
        | none => none)
      else sGen op G x y
  | .inl u, .inr (.inl q) => bif Nat.beq op 0 then vF ((q.2 + u) % 4294967296) (fun c => some [(G, .inr (.inl (q.1, c)))]) else sGen op G x y
  | _, _ => sGen op G x y
/-- what a row of two ints comes to -/
def sBr (ρ : List Nat) (L : List (sG × vAV)) (r : Nat) : Prop := ∃ e ∈ L, ∃ xs, sGr (ρ ++ xs) e.1 ∧ sV (ρ ++ xs) e.2 (.inl r)
theorem sGr_fct {ρ : List Nat} {G : sG} {F : List (Nat × Nat × Nat)} (hG : sGr ρ G) (hF : ∀ t ∈ F, ∃ a b, ρ[t.1]? = some a ∧ ρ[t.2.2]? = some b ∧ a + t.2.1 ≤ b) : sGr ρ (G.1, G.2.1, F ++ G.2.2) :=
  ⟨hG.1, hG.2.1, fun t ht => by
    rcases List.mem_append.mp ht with h | h
    · exact hF t h
    · exact hG.2.2 t h⟩
/-- a symbol's number -/
theorem sV_num {ρ : List Nat} {j c u : Nat} (h : sV ρ (.inr (.inl (j, c))) (.inl u)) : ∃ r, ρ[j]? = some r ∧ sBi u = (r + c) % 4294967296 := by
  obtain ⟨r, h1, h2⟩ := h
  have e := Sum.inl.inj h2
  rw [e]
  exact ⟨r, h1, sBi_un r c⟩
theorem sFa_ok {ρ : List Nat} {G : sG} {n a r rn : Nat} {z : vAV} {Z : sSet} (hG : sGr ρ G) (hu : a < 4294967296) (hx : sV ρ z (.inl a)) (hX : sIn Z (sBi a)) (l1 : r ≤ a) {ρ' : List Nat} (n5 : sBi r = rn) (n1 : ρ'[n]? = some rn) (hp : ∀ j r : Nat, ρ[j]? = some r → ρ'[j]? = some r) : ∀ t ∈ sFa G n z Z, ∃ a b, ρ'[t.1]? = some a ∧ ρ'[t.2.2]? = some b ∧ a + t.2.1 ≤ b := by
  intro t ht
  unfold sFa at ht
  split at ht
  · next j c =>
    cases hb : Nat.ble 2147483648 (sLo Z) with
    | false => rw [hb] at ht; cases ht
    | true =>
      rw [hb, cond_true] at ht
      have b1 := Nat.le_of_ble_eq_true hb
      have b2 := (sIn_lohi hX).1
      obtain ⟨p1, p2⟩ := sBi_pos hu (by omega)
      obtain ⟨rj, j1, j2⟩ := sV_num hx
      rw [sBi_of (by omega)] at n5
      split at ht
      · next S hf =>
        obtain ⟨r', h1, h2, h4⟩ := hG.2.1 _ (sFind_mem hf)
        have h1 : ρ[j]? = some r' := h1
        rw [j1] at h1
        cases h1
        cases hc : Nat.beq c 0 with
        | true =>
          have ec := Nat.eq_of_beq_eq_true hc
          rw [hc, cond_true] at ht
          have et := List.mem_singleton.mp ht
          rw [et]
          refine ⟨rn, rj, n1, hp _ _ j1, ?_⟩
          show rn + 0 ≤ rj
          omega
        | false =>
          rw [hc, cond_false] at ht
          cases hd : (Nat.beq c 4294967295 && Nat.ble 1 (sLo S)) with
          | false => rw [hd] at ht; cases ht
          | true =>
            rw [hd, cond_true] at ht
            rw [Bool.and_eq_true] at hd
            have d1 := Nat.eq_of_beq_eq_true hd.1
            have d2 := Nat.le_of_ble_eq_true hd.2
            have d3 := (sIn_lohi h4).1
            have et := List.mem_singleton.mp ht
            rw [et]
            refine ⟨rn, rj, n1, hp _ _ j1, ?_⟩
            show rn + 1 ≤ rj
            have d4 : sLo S ≤ rj := d3
            omega
      · cases ht
  · cases ht
theorem sFct_ok {ρ : List Nat} {G : sG} {op u w : Nat} {x y v : vAV} {X Y : sSet} (hG : sGr ρ G) (hu : u < 4294967296) (hw : w < 4294967296) (hx : sV ρ x (.inl u)) (hy : sV ρ y (.inl w)) (hX : sIn X (sBi u)) (hY : sIn Y (sBi w)) {ρ' : List Nat} (hp : ∀ j r : Nat, ρ[j]? = some r → ρ'[j]? = some r) (hr : ∀ n c r : Nat, v = .inr (.inl (n, c)) → ρ'[n]? = some r → r < 4294967296) (hv : sV ρ' v (.inl (sKop op u w))) :
    ∀ t ∈ sFct op G x y v X Y, ∃ a b, ρ'[t.1]? = some a ∧ ρ'[t.2.2]? = some b ∧ a + t.2.1 ≤ b := by
  intro t ht
  unfold sFct at ht
  split at ht
  · next n =>
    obtain ⟨rn, n1, n2⟩ := sV_num hv
    have n3 := hr n 0 rn rfl n1
    have n4 : sBi (sKop op u w) = rn := by rw [n2]; omega
    cases h3 : Nat.beq op 3 with
    | true =>
      have e3 := Nat.eq_of_beq_eq_true h3
      subst e3
      rw [h3, cond_true] at ht
      have n5 : sBi (Nat.land u w) = rn := n4
      rcases List.mem_append.mp ht with ht | ht
      · exact sFa_ok hG hu hx hX Nat.and_le_left n5 n1 hp t ht
      · exact sFa_ok hG hw hy hY Nat.and_le_right n5 n1 hp t ht
    | false =>
      rw [h3, cond_false] at ht
      cases h10 : Nat.beq op 10 with
      | false => rw [h10] at ht; cases ht
      | true =>
        have e10 := Nat.eq_of_beq_eq_true h10
        subst e10
        rw [h10, cond_true] at ht
        split at ht
        · next j =>
          cases hb : (Nat.ble 2147483648 (sLo X) && Nat.blt 2147483648 (sLo Y)) with
          | false => rw [hb] at ht; cases ht
          | true =>
            rw [hb, cond_true] at ht
            rw [Bool.and_eq_true] at hb
            have b1 := Nat.le_of_ble_eq_true hb.1
            have b2 := Nat.blt_eq.mp hb.2
            have b3 := (sIn_lohi hX).1
            have b4 := (sIn_lohi hY).1
            obtain ⟨p1, p2⟩ := sBi_pos hu (by omega)
            obtain ⟨p3, p4⟩ := sBi_pos hw (by omega)
            obtain ⟨rj, j1, j2⟩ := sV_num hy
            split at ht
            · next S hf =>
              obtain ⟨r', h1, h2, h4⟩ := hG.2.1 _ (sFind_mem hf)
              have h1 : ρ[j]? = some r' := h1
              rw [j1] at h1
              cases h1
              have n5 : sBi (kRem u w) = rn := n4
              have l2 : u % w < w := Nat.mod_lt _ (by omega)
              rw [kRem_pos p1 (by omega) p3, sBi_of (by omega)] at n5
              have et := List.mem_singleton.mp ht
              rw [et]
              refine ⟨rn, rj, n1, hp _ _ j1, ?_⟩
              show rn + 1 ≤ rj
              omega
            · cases ht
        · cases ht
  · cases ht
end
section
theorem sMk_sym {G : sG} {S : sSet} {n c : Nat} (h : (sMk G S).2 = .inr (.inl (n, c))) : n = G.1 ∧ (sMk G S).1 = sNew G S := by
  unfold sMk at h ⊢
  split at h
  · next q =>
    cases hb : (Nat.beq q.1 q.2 && Nat.blt q.1 4294967296) with
    | true =>
      rw [hb, cond_true, vF_eq] at h
      cases h
    | false =>
      rw [hb, cond_false] at h
      have e := Sum.inl.inj (Sum.inr.inj h)
      exact ⟨(congrArg Prod.fst e).symm, rfl⟩
  · have e := Sum.inl.inj (Sum.inr.inj h)
    refine ⟨(congrArg Prod.fst e).symm, rfl⟩
theorem sApp_get {ρ : List Nat} (xs : List Nat) {j r : Nat} (h : ρ[j]? = some r) : (ρ ++ xs)[j]? = some r := by
  rw [List.getElem?_append_left (List.getElem?_eq_some_iff.mp h).1]; exact h
theorem sGen_ok {ρ : List Nat} {G : sG} {op u w : Nat} {x y : vAV} {L : List (sG × vAV)} (hG : sGr ρ G) (hx : sV ρ x (.inl u)) (hy : sV ρ y (.inl w)) (h : sGen op G x y = some L) : (9 ≤ op → w ≠ 0) ∧ sBr ρ L (sKop op u w) := by
  unfold sGen at h
  split at h
  · next X Y hX hY =>
    obtain ⟨u', hu, eu, iu⟩ := sSetOf_ok hG hx hX
    obtain ⟨w', hw, ew, iw⟩ := sSetOf_ok hG hy hY
    cases eu
    cases ew
    cases hb : (Nat.ble 9 op && sMem 2147483648 Y) with
    | true => rw [hb] at h; cases h
    | false =>
      rw [hb, cond_false] at h
      have h := Option.some.inj h
      subst h
      refine ⟨fun h9 h0 => ?_, ?_⟩
      · subst h0
        have := sMem_of Y _ iw
        rw [show sBi 0 = 2147483648 from rfl] at this
        rw [Nat.ble_eq_true_of_le h9, this] at hb
        cases hb
      · obtain ⟨k1, k2⟩ := sOpS_ok op hu hw (sIn_lohi iu).1 (sIn_lohi iu).2 (sIn_lohi iw).1 (sIn_lohi iw).2
        obtain ⟨xs, m1, m2⟩ := sMk_ok hG k1 k2
        refine ⟨_, List.mem_cons_self, xs, sGr_fct m1 (sFct_ok hG hu hw hx hy iu iw (fun j r h => sApp_get xs h) (fun n c r e h1 => ?_) m2), m2⟩
        obtain ⟨e1, e2⟩ := sMk_sym e
        have m1b := m1
        rw [e2] at m1b
        obtain ⟨r', q1, q2, -⟩ := m1b.2.1 _ List.mem_cons_self
        rw [e1] at h1
        rw [h1] at q1
        cases q1
        exact q2
  · cases h
theorem sDR_ok {ρ : List Nat} {G : sG} {op u w : Nat} {q : Nat × Nat} (hG : sGr ρ G) (hx : sV ρ (.inr (.inl q)) (.inl u)) (hu : u < 4294967296) (hw0 : 0 < w) (hw : w < 2147483648) (hop : op = 9 ∨ op = 10) : ∀ X : sSet, sIn X (sBi u) → sBr ρ (sDR op G q w X) (sKop op u w)
  | [], h => (sIn_nil h).elim
  | i :: X, h => by
    have ih := sDR_ok hG hx hu hw0 hw hop X
    have hmem : ∀ {e : sG × vAV} {L : List (sG × vAV)}, sBr ρ L (sKop op u w) → sBr ρ (e :: L) (sKop op u w) := fun ⟨e1, h1, h2⟩ => ⟨e1, List.mem_cons_of_mem _ h1, h2⟩
    unfold sDR
    rcases sIn_cons.mp h with h | h
    · obtain ⟨G', hG1, hG2⟩ := sRef_ok hG hx (S := [i]) (sIn_one h.1 h.2)
      rw [hG1]
      dsimp only
      cases hb : (Nat.ble 2147483648 i.1 && Nat.beq ((i.1 - 2147483648) / w) ((i.2 - 2147483648) / w)) with
      | true =>
        rw [cond_true]
        rw [Bool.and_eq_true] at hb
        have b1 := Nat.le_of_ble_eq_true hb.1
        have b2 := Nat.eq_of_beq_eq_true hb.2
        obtain ⟨p1, p2⟩ := sBi_pos hu (by omega)
        have d1 : (i.1 - 2147483648) / w ≤ u / w := Nat.div_le_div_right (by omega)
        have d2 : u / w ≤ (i.2 - 2147483648) / w := Nat.div_le_div_right (by omega)
        have d3 : u / w = (i.1 - 2147483648) / w := by omega
        rcases hop with rfl | rfl
        · rw [show Nat.beq 9 9 = true from rfl, cond_true, vF_eq]
          refine ⟨_, List.mem_cons_self, [], ?_, ?_⟩
          · rw [List.append_nil]; exact hG2
          · have e : sKop 9 u w = (i.1 - 2147483648) / w := by
              show kDiv u w = _
              rw [kDiv_pos p1 hw0 hw, d3]
            have l1 : u / w ≤ u := Nat.div_le_self _ _
            rw [e]
            exact ⟨by omega, rfl⟩
        · rw [show Nat.beq 10 9 = false from rfl, cond_false, vF_eq]
          refine ⟨_, List.mem_cons_self, [], ?_, ?_⟩
          · rw [List.append_nil]; exact hG2
          · have e : sKop 10 u w = u - (i.1 - 2147483648) / w * w := by
              show kRem u w = _
              rw [kRem_pos p1 hw0 hw, ← d3]
              have := Nat.div_add_mod' u w
              omega
            have l2 : u / w * w ≤ u := Nat.div_mul_le_self u w
            rw [d3] at l2
            rw [e, List.append_nil]
            obtain ⟨r, h1, h2⟩ := hx
            have e2 := Sum.inl.inj h2
            refine sV_sym h1 (congrArg Sum.inl ?_)
            generalize (i.1 - 2147483648) / w * w = z at l2
            unfold sUn at e2 ⊢
            omega
      | false =>
        rw [cond_false]
        have ew : sBi w = w + 2147483648 := sBi_of hw
        obtain ⟨k1, k2⟩ := sOpS_ok op hu (show w < 4294967296 by omega) h.1 h.2 (Nat.le_of_eq ew.symm) (Nat.le_of_eq ew)
        obtain ⟨xs, m1, m2⟩ := sMk_ok hG2 k1 k2
        exact ⟨_, List.mem_cons_self, xs, m1, m2⟩
    · split
      · exact ih h
      · next G' _ =>
        cases (Nat.ble 2147483648 i.1 && Nat.beq ((i.1 - 2147483648) / w) ((i.2 - 2147483648) / w)) with
        | true =>
          rw [cond_true]
          cases Nat.beq op 9 with
          | true => rw [cond_true, vF_eq]; exact hmem (ih h)
          | false => rw [cond_false, vF_eq]; exact hmem (ih h)
        | false => rw [cond_false]; exact hmem (ih h)
theorem sBin_ok {ρ : List Nat} {G : sG} {op u w : Nat} {x y : vAV} {L : List (sG × vAV)} (hop : op ≤ 10) (hG : sGr ρ G) (hx : sV ρ x (.inl u)) (hy : sV ρ y (.inl w)) (h : sBin op G x y = some L) : (9 ≤ op → w ≠ 0) ∧ sBr ρ L (sKop op u w) := by
  have hone : ∀ {v : vAV}, sV ρ v (.inl (sKop op u w)) → sBr ρ [(G, v)] (sKop op u w) := fun {v} hv => ⟨_, List.mem_cons_self, [], by rw [List.append_nil]; exact hG, by rw [List.append_nil]; exact hv⟩
  unfold sBin at h
  split at h
  · next u' w' =>
    obtain ⟨hu, eu⟩ := hx
    obtain ⟨hw, ew⟩ := hy
    cases eu
    cases ew
    cases h7 : Nat.ble op 7 with
    | true =>
      have e7 := Nat.le_of_ble_eq_true h7
      rw [h7, cond_true, vF_eq] at h
      have h := Option.some.inj h
      subst h
      exact ⟨fun h9 => by omega, hone ⟨(sOpS_ok op hu hw (Nat.le_refl _) (Nat.le_refl _) (Nat.le_refl _) (Nat.le_refl _)).1, rfl⟩⟩
    | false =>
      rw [h7, cond_false] at h
      cases h8 : (Nat.beq op 8 && Nat.blt u 2147483648) with
      | true =>
        rw [h8, cond_true, vF_eq] at h
        rw [Bool.and_eq_true] at h8
        have e8 := Nat.eq_of_beq_eq_true h8.1
        have b8 := Nat.blt_eq.mp h8.2
        subst e8
        have h := Option.some.inj h
        subst h
        refine ⟨fun h9 => by omega, hone ?_⟩
        have e : sKop 8 u w = u / 2 ^ (w % 32) := kShr_pos b8 hw
        have l1 : u / 2 ^ (w % 32) ≤ u := Nat.div_le_self _ _
        rw [e]
        exact ⟨Nat.lt_of_le_of_lt l1 hu, rfl⟩
      | false =>
      rw [h8, cond_false] at h
      cases hb : (Nat.blt u 2147483648 && (Nat.blt 0 w && Nat.blt w 2147483648)) with
      | false => rw [hb, cond_false] at h; exact sGen_ok hG (x := .inl u) (y := .inl w) ⟨hu, rfl⟩ ⟨hw, rfl⟩ h
      | true =>
        rw [hb, cond_true] at h
        rw [Bool.and_eq_true, Bool.and_eq_true] at hb
        have b1 := Nat.blt_eq.mp hb.1
        have b2 := Nat.blt_eq.mp hb.2.1
        have b3 := Nat.blt_eq.mp hb.2.2
        cases h9 : Nat.beq op 9 with
        | true =>
          have e9 := Nat.eq_of_beq_eq_true h9
          subst e9
          rw [h9, cond_true, vF_eq] at h
          have h := Option.some.inj h
          subst h
          refine ⟨fun _ => by omega, hone ?_⟩
          have e : sKop 9 u w = u / w := kDiv_pos b1 b2 b3
          have l1 : u / w ≤ u := Nat.div_le_self _ _
          rw [e]
          exact ⟨by omega, rfl⟩
        | false =>
          rw [h9, cond_false] at h
          cases h10 : Nat.beq op 10 with
          | true =>
            have e10 := Nat.eq_of_beq_eq_true h10
            subst e10
            rw [h10, cond_true, vF_eq] at h
            have h := Option.some.inj h
            subst h
            refine ⟨fun _ => by omega, hone ?_⟩
            have e : sKop 10 u w = u % w := kRem_pos b1 b2 b3
            have l1 : u % w ≤ u := Nat.mod_le _ _
            rw [e]
            exact ⟨by omega, rfl⟩
          | false => rw [h10, cond_false] at h; exact sGen_ok hG (x := .inl u) (y := .inl w) ⟨hu, rfl⟩ ⟨hw, rfl⟩ h
  · next q w' =>
    obtain ⟨hw, ew⟩ := hy
    cases ew
    cases h0 : Nat.beq op 0 with
    | true =>
      have e0 := Nat.eq_of_beq_eq_true h0
      subst e0
      rw [h0, cond_true, vF_eq] at h
      have h := Option.some.inj h
      subst h
      refine ⟨fun h9 => by omega, hone ?_⟩
      obtain ⟨r, h1, h2⟩ := hx
      have e2 := Sum.inl.inj h2
      refine sV_sym h1 (congrArg Sum.inl ?_)
      show vAdd u w = _
      unfold vAdd
      unfold sUn at e2 ⊢
      omega
    | false =>
      rw [h0, cond_false] at h
      cases h1' : Nat.beq op 1 with
      | true =>
        have e0 := Nat.eq_of_beq_eq_true h1'
        subst e0
        rw [h1', cond_true, vF_eq] at h
        have h := Option.some.inj h
        subst h
        refine ⟨fun h9 => by omega, hone ?_⟩
        obtain ⟨r, h1, h2⟩ := hx
        have e2 := Sum.inl.inj h2
        refine sV_sym h1 (congrArg Sum.inl ?_)
        show vSub u w = _
        unfold vSub
        unfold sUn at e2 ⊢
        omega
      | false =>
        rw [h1', cond_false] at h
        cases hb : ((Nat.beq op 9 || Nat.beq op 10) && (Nat.blt 0 w && Nat.blt w 2147483648)) with
        | false => rw [hb, cond_false] at h; exact sGen_ok hG hx (y := .inl w) ⟨hw, rfl⟩ h
        | true =>
          rw [hb, cond_true] at h
          rw [Bool.and_eq_true, Bool.and_eq_true, Bool.or_eq_true] at hb
          have b2 := Nat.blt_eq.mp hb.2.1
          have b3 := Nat.blt_eq.mp hb.2.2
          have hop2 : op = 9 ∨ op = 10 := by
            rcases hb.1 with h | h
            · exact Or.inl (Nat.eq_of_beq_eq_true h)
            · exact Or.inr (Nat.eq_of_beq_eq_true h)
          split at h
          · next X hX =>
            have h := Option.some.inj h
            subst h
            obtain ⟨u', hu, eu, iu⟩ := sSetOf_ok hG hx hX
            cases eu
            exact ⟨fun _ => by omega, sDR_ok hG hx hu b2 b3 hop2 X iu⟩
          · cases h
  · next u' q =>
    obtain ⟨hu, eu⟩ := hx
    cases eu
    cases h0 : Nat.beq op 0 with
    | true =>
      have e0 := Nat.eq_of_beq_eq_true h0
      subst e0
      rw [h0, cond_true, vF_eq] at h
      have h := Option.some.inj h
      subst h
      refine ⟨fun h9 => by omega, hone ?_⟩
      obtain ⟨r, h1, h2⟩ := hy
      have e2 := Sum.inl.inj h2
      refine sV_sym h1 (congrArg Sum.inl ?_)
      show vAdd u w = _
      unfold vAdd
      unfold sUn at e2 ⊢
      omega
    | false => rw [h0, cond_false] at h; exact sGen_ok hG (x := .inl u) ⟨hu, rfl⟩ hy h
  · exact sGen_ok hG hx hy h
end
section
/-! ===== comparisons: what is known on either side ===== -/
noncomputable def sLtG (G : sG) (x y : vAV) : Option (Option sG × Option sG) := match sSetOf G x, sSetOf G y with
  | some X, some Y => bif Nat.blt (sHi X) (sLo Y) then some (some G, none) else bif Nat.ble (sHi Y) (sLo X) then some (none, some G) else
      some ((match sRef G x [(sLo X, sHi Y - 1)] with
        | some G1 => sRef G1 y [(sLo X + 1, sHi Y)]
        | none => none), (match sRef G x [(sLo Y, sHi X)] with
        | some G1 => sRef G1 y [(sLo Y, sHi X)]
        | none => none))
  | _, _ => none
theorem sLtG_ok {ρ : List Nat} {G : sG} {x y : vAV} {u w : Nat} {T F : Option sG} (hG : sGr ρ G) (hx : sV ρ x (.inl u)) (hy : sV ρ y (.inl w)) (h : sLtG G x y = some (T, F)) : (sBi u < sBi w → ∃ G', T = some G' ∧ sGr ρ G') ∧ (¬ sBi u < sBi w → ∃ G', F = some G' ∧ sGr ρ G') := by
  unfold sLtG at h
  split at h
  · next X Y hX hY =>
    obtain ⟨u', hu, eu, iu⟩ := sSetOf_ok hG hx hX
    obtain ⟨w', hw, ew, iw⟩ := sSetOf_ok hG hy hY
    cases eu
    cases ew
    have b1 := sIn_lohi iu
    have b2 := sIn_lohi iw
    have l1 := sBi_lt u
    have l2 := sBi_lt w
    cases c1 : Nat.blt (sHi X) (sLo Y) with
    | true =>
      rw [c1, cond_true] at h
      have e1 := Nat.blt_eq.mp c1
      cases h
      exact ⟨fun _ => ⟨G, rfl, hG⟩, fun hn => absurd (by omega) hn⟩
    | false =>
      rw [c1, cond_false] at h
      cases c2 : Nat.ble (sHi Y) (sLo X) with
      | true =>
        rw [c2, cond_true] at h
        have e2 := Nat.le_of_ble_eq_true c2
        cases h
        exact ⟨fun hn => absurd hn (by omega), fun _ => ⟨G, rfl, hG⟩⟩
      | false =>
        rw [c2, cond_false] at h
        cases h
        refine ⟨fun hlt => ?_, fun hlt => ?_⟩
        · obtain ⟨G1, g1, g2⟩ := sRef_ok hG hx (S := [(sLo X, sHi Y - 1)]) (sIn_one (by omega) (by omega))
          obtain ⟨G2, g3, g4⟩ := sRef_ok g2 hy (S := [(sLo X + 1, sHi Y)]) (sIn_one (by omega) (by omega))
          rw [g1]
          exact ⟨G2, g3, g4⟩
        · obtain ⟨G1, g1, g2⟩ := sRef_ok hG hx (S := [(sLo Y, sHi X)]) (sIn_one (by omega) (by omega))
          obtain ⟨G2, g3, g4⟩ := sRef_ok g2 hy (S := [(sLo Y, sHi X)]) (sIn_one (by omega) (by omega))
          rw [g1]
          exact ⟨G2, g3, g4⟩
  · cases h
noncomputable def sEqG (G : sG) (x y : vAV) : Option (Option sG × Option sG) := match sSetOf G x, sSetOf G y with
  | some X, some Y => match sCap X Y with
    | [] => some (none, some G)
    | q :: R => bif (Nat.beq (sLo X) (sHi X) && Nat.beq (sLo Y) (sHi Y)) && Nat.beq (sLo X) (sLo Y) then some (some G, none) else
      some ((match sRef G x (q :: R) with
        | some G1 => sRef G1 y (q :: R)
        | none => none), (bif Nat.beq (sLo Y) (sHi Y) then sRef G x (sDel (sLo Y) X) else bif Nat.beq (sLo X) (sHi X) then sRef G y (sDel (sLo X) Y) else some G))
  | _, _ => none
theorem sEqG_ok {ρ : List Nat} {G : sG} {x y : vAV} {u w : Nat} {T F : Option sG} (hG : sGr ρ G) (hx : sV ρ x (.inl u)) (hy : sV ρ y (.inl w)) (h : sEqG G x y = some (T, F)) : (sBi u = sBi w → ∃ G', T = some G' ∧ sGr ρ G') ∧ (¬ sBi u = sBi w → ∃ G', F = some G' ∧ sGr ρ G') := by
  unfold sEqG at h
  split at h
  · next X Y hX hY =>
    obtain ⟨u', hu, eu, iu⟩ := sSetOf_ok hG hx hX
    obtain ⟨w', hw, ew, iw⟩ := sSetOf_ok hG hy hY
    cases eu
    cases ew
    have b1 := sIn_lohi iu
    have b2 := sIn_lohi iw
    split at h
    · next hc =>
      cases h
      refine ⟨fun he => ?_, fun _ => ⟨G, rfl, hG⟩⟩
      have := sCap_ok X Y _ iu (by rw [he]; exact iw)
      rw [hc] at this
      exact (sIn_nil this).elim
    · next q R hc =>
      cases c1 : ((Nat.beq (sLo X) (sHi X) && Nat.beq (sLo Y) (sHi Y)) && Nat.beq (sLo X) (sLo Y)) with
      | true =>
        rw [c1, cond_true] at h
        cases h
        rw [Bool.and_eq_true, Bool.and_eq_true] at c1
        have e1 := Nat.eq_of_beq_eq_true c1.1.1
        have e2 := Nat.eq_of_beq_eq_true c1.1.2
        have e3 := Nat.eq_of_beq_eq_true c1.2
        exact ⟨fun _ => ⟨G, rfl, hG⟩, fun hn => absurd (by omega) hn⟩
      | false =>
        rw [c1, cond_false] at h
        cases h
        refine ⟨fun he => ?_, fun hn => ?_⟩
        · have i3 := sCap_ok X Y _ iu (by rw [he]; exact iw)
          rw [hc] at i3
          have i4 : sIn (q :: R) (sBi w) := by rw [← he]; exact i3
          obtain ⟨G1, g1, g2⟩ := sRef_ok hG hx i3
          obtain ⟨G2, g3, g4⟩ := sRef_ok g2 hy i4
          rw [g1]
          exact ⟨G2, g3, g4⟩
        · cases c2 : Nat.beq (sLo Y) (sHi Y) with
          | true =>
            rw [cond_true]
            have e2 := Nat.eq_of_beq_eq_true c2
            exact sRef_ok hG hx (sDel_ok _ _ _ (by omega) iu)
          | false =>
            rw [cond_false]
            cases c3 : Nat.beq (sLo X) (sHi X) with
            | true =>
              rw [cond_true]
              have e3 := Nat.eq_of_beq_eq_true c3
              exact sRef_ok hG hy (sDel_ok _ _ _ (by omega) iw)
            | false => exact ⟨G, rfl, hG⟩
  · cases h
end
section
/-! ===== runs of cells ===== -/
theorem sRd_lt : ∀ {rs : List (Nat × sC)} {i : Nat} {c : sC}, sRd rs i = some c → i < sLen rs
  | [], _, _, h => by cases h
  | q :: rs, i, c, h => by
    unfold sRd at h
    unfold sLen
    cases hb : Nat.blt i q.1 with
    | true => have := Nat.blt_eq.mp hb; omega
    | false =>
      rw [hb, cond_false] at h
      have h1 := sRd_lt h
      have h2 : ¬ i < q.1 := fun h3 => by rw [Nat.blt_eq.mpr h3] at hb; cases hb
      omega
theorem sRd_ex : ∀ {rs : List (Nat × sC)} {i : Nat}, i < sLen rs → ∃ c, sRd rs i = some c
  | [], i, h => by unfold sLen at h; omega
  | q :: rs, i, h => by
    unfold sLen at h
    unfold sRd
    cases hb : Nat.blt i q.1 with
    | true => exact ⟨_, rfl⟩
    | false =>
      rw [cond_false]
      have h2 : ¬ i < q.1 := fun h3 => by rw [Nat.blt_eq.mpr h3] at hb; cases hb
      exact sRd_ex (by omega)
def sWr : List (Nat × sC) → Nat → sC → List (Nat × sC)
  | [], _, _ => []
  | q :: rs, i, c => bif Nat.blt i q.1 then (bif Nat.beq q.1 1 then (1, c) :: rs else (i, q.2) :: (1, c) :: (q.1 - (i + 1), q.2) :: rs) else q :: sWr rs (i - q.1) c
theorem sLen_wr : ∀ (rs : List (Nat × sC)) (i : Nat) (c : sC), sLen (sWr rs i c) = sLen rs
  | [], _, _ => rfl
  | q :: rs, i, c => by
    unfold sWr
    cases hb : Nat.blt i q.1 with
    | true =>
      have hi := Nat.blt_eq.mp hb
      rw [cond_true]
      cases h1 : Nat.beq q.1 1 with
      | true =>
        have e := Nat.eq_of_beq_eq_true h1
        rw [cond_true]
        show 1 + sLen rs = q.1 + sLen rs
        omega
      | false =>
        rw [cond_false]
        show i + (1 + (q.1 - (i + 1) + sLen rs)) = q.1 + sLen rs
        omega
    | false =>
      rw [cond_false]
      show q.1 + sLen (sWr rs (i - q.1) c) = q.1 + sLen rs
      rw [sLen_wr rs]
theorem sRd_cons (q : Nat × sC) (rs : List (Nat × sC)) (j : Nat) : sRd (q :: rs) j = if j < q.1 then some q.2 else sRd rs (j - q.1) := by
  show (bif Nat.blt j q.1 then some q.2 else sRd rs (j - q.1)) = _
  by_cases h : j < q.1
  · rw [Nat.blt_eq.mpr h, if_pos h, cond_true]
  · have e : Nat.blt j q.1 = false := by
      cases hb : Nat.blt j q.1 with
      | false => rfl
      | true => exact absurd (Nat.blt_eq.mp hb) h
    rw [e, if_neg h, cond_false]
theorem sRd_wr : ∀ (rs : List (Nat × sC)) (i j : Nat) (c : sC), i < sLen rs → sRd (sWr rs i c) j = if j = i then some c else sRd rs j
  | [], i, _, _, h => by unfold sLen at h; omega
  | q :: rs, i, j, c, h => by
    have hl : i < q.1 + sLen rs := h
    unfold sWr
    cases hb : Nat.blt i q.1 with
    | true =>
      have hi := Nat.blt_eq.mp hb
      rw [cond_true]
      cases h1 : Nat.beq q.1 1 with
      | true =>
        have e := Nat.eq_of_beq_eq_true h1
        rw [cond_true, sRd_cons, sRd_cons]
        by_cases hj : j = i
        · rw [if_pos hj, if_pos (show j < ((1, c) : Nat × sC).1 by show j < 1; omega)]
        · rw [if_neg hj, if_neg (show ¬ j < ((1, c) : Nat × sC).1 by show ¬ j < 1; omega), if_neg (by omega)]
          show sRd rs (j - 1) = sRd rs (j - q.1)
          rw [e]
      | false =>
        rw [cond_false, sRd_cons, sRd_cons, sRd_cons, sRd_cons]
        dsimp only
        by_cases hj : j = i
        · rw [if_pos hj, if_neg (by omega), if_pos (by omega)]
        · rw [if_neg hj]
          by_cases h2 : j < i
          · rw [if_pos h2, if_pos (by omega)]
          · rw [if_neg h2, if_neg (by omega)]
            by_cases h3 : j < q.1
            · rw [if_pos (by omega), if_pos h3]
            · rw [if_neg (by omega), if_neg h3]
              congr 1
              omega
    | false =>
      have hi : ¬ i < q.1 := fun h3 => by rw [Nat.blt_eq.mpr h3] at hb; cases hb
      rw [cond_false, sRd_cons, sRd_cons, sRd_wr rs (i - q.1) (j - q.1) c (by omega)]
      by_cases h2 : j < q.1
      · rw [if_pos h2, if_pos h2, if_neg (by omega)]
      · rw [if_neg h2, if_neg h2]
        by_cases hj : j = i
        · rw [if_pos (by omega), if_pos hj]
        · rw [if_neg (by omega), if_neg hj]
theorem sRr_get {ρ : List Nat} {rs : List (Nat × sC)} {cs : List vAV} (h : sRr ρ rs cs) {i : Nat} {c : sC} (hc : sRd rs i = some c) : ∃ v, cs[i]? = some v ∧ sCr ρ c v := by
  have hl : i < cs.length := by rw [h.1]; exact sRd_lt hc
  exact ⟨cs[i], List.getElem?_eq_getElem hl, h.2 i c _ hc (List.getElem?_eq_getElem hl)⟩
/-- another cell there -/
theorem sRr_set {ρ : List Nat} {rs : List (Nat × sC)} {cs : List vAV} (h : sRr ρ rs cs) {i : Nat} {c : sC} {v : vAV} (hi : i < sLen rs) (hc : sCr ρ c v) : sRr ρ (sWr rs i c) (cs.set i v) := by
  refine ⟨by rw [List.length_set, sLen_wr]; exact h.1, fun j c' v' h1 h2 => ?_⟩
  rw [sRd_wr rs i j c hi] at h1
  by_cases hj : j = i
  · subst hj
    rw [if_pos rfl] at h1
    cases h1
    rw [List.getElem?_set_self (by rw [h.1]; exact hi)] at h2
    cases h2
    exact hc
  · rw [if_neg hj] at h1
    rw [List.getElem?_set_ne (fun e => hj e.symm)] at h2
    exact h.2 j c' v' h1 h2
/-- the same cell, told otherwise -/
theorem sRr_tell {ρ : List Nat} {rs : List (Nat × sC)} {cs : List vAV} (h : sRr ρ rs cs) {i : Nat} {c : sC} {v : vAV} (hi : i < sLen rs) (hv : cs[i]? = some v) (hc : sCr ρ c v) : sRr ρ (sWr rs i c) cs := by
  refine ⟨by rw [sLen_wr]; exact h.1, fun j c' v' h1 h2 => ?_⟩
  rw [sRd_wr rs i j c hi] at h1
  by_cases hj : j = i
  · subst hj
    rw [if_pos rfl] at h1
    cases h1
    rw [hv] at h2
    cases h2
    exact hc
  · rw [if_neg hj] at h1
    exact h.2 j c' v' h1 h2
/-- the cells of the runs that meet a range -/
def sRg : List (Nat × sC) → Nat → Nat → List sC
  | [], _, _ => []
  | q :: rs, lo, hi => (bif Nat.blt lo q.1 then [q.2] else []) ++ (bif Nat.ble q.1 hi then sRg rs (lo - q.1) (hi - q.1) else [])
theorem sRg_mem : ∀ {rs : List (Nat × sC)} {lo hi i : Nat} {c : sC}, lo ≤ i → i ≤ hi → sRd rs i = some c → c ∈ sRg rs lo hi
  | [], _, _, _, _, _, _, h => by cases h
  | q :: rs, lo, hi, i, c, h1, h2, h => by
    rw [sRd_cons] at h
    unfold sRg
    by_cases hq : i < q.1
    · rw [if_pos hq] at h
      cases h
      rw [Nat.blt_eq.mpr (show lo < q.1 by omega)]
      exact List.mem_append_left _ List.mem_cons_self
    · rw [if_neg hq] at h
      rw [Nat.ble_eq_true_of_le (show q.1 ≤ hi by omega)]
      exact List.mem_append_right _ (sRg_mem (by omega) (by omega) h)
end
section
/-! ===== objects by their places; what has changed ===== -/
def sGo : sHp → Nat → Option sOb
  | [], _ => none
  | e :: h, k => bif Nat.beq e.1 k then some e.2 else sGo h k
theorem sGo_mem : ∀ {h : sHp} {k : Nat} {o : sOb}, sGo h k = some o → (k, o) ∈ h
  | [], _, _, h => by cases h
  | e :: h, k, o, hh => by
    unfold sGo at hh
    cases hb : Nat.beq e.1 k with
    | true =>
      rw [hb, cond_true] at hh
      have e1 := Nat.eq_of_beq_eq_true hb
      have e2 := Option.some.inj hh
      rw [← e1, ← e2]
      exact List.mem_cons_self
    | false => rw [hb, cond_false] at hh; exact List.mem_cons_of_mem _ (sGo_mem hh)
theorem sHr_get {ρ : List Nat} {h : sHp} {hp : List vOb} (hh : sHr ρ h hp) {k : Nat} {o : sOb} (ho : sGo h k = some o) : ∃ ob, hp[k]? = some ob ∧ sOr ρ o ob := hh _ (sGo_mem ho)
def sPo : sHp → Nat → sOb → sHp
  | [], _, _ => []
  | e :: h, k, o => bif Nat.beq e.1 k then (k, o) :: sPo h k o else e :: sPo h k o
theorem sPo_mem : ∀ {h : sHp} {k : Nat} {o : sOb} {e : Nat × sOb}, e ∈ sPo h k o → e = (k, o) ∨ (e ∈ h ∧ e.1 ≠ k)
  | [], _, _, _, h => by cases h
  | e0 :: h, k, o, e, hh => by
    unfold sPo at hh
    cases hb : Nat.beq e0.1 k with
    | true =>
      rw [hb, cond_true] at hh
      rcases List.mem_cons.mp hh with h1 | h1
      · exact Or.inl h1
      · exact (sPo_mem h1).imp id (fun q => ⟨List.mem_cons_of_mem _ q.1, q.2⟩)
    | false =>
      rw [hb, cond_false] at hh
      rcases List.mem_cons.mp hh with h1 | h1
      · subst h1
        exact Or.inr ⟨List.mem_cons_self, fun e1 => by rw [e1] at hb; simp at hb⟩
      · exact (sPo_mem h1).imp id (fun q => ⟨List.mem_cons_of_mem _ q.1, q.2⟩)
theorem sHr_tell {ρ : List Nat} {h : sHp} {hp : List vOb} (hh : sHr ρ h hp) {k : Nat} {o : sOb} {ob : vOb} (hk : hp[k]? = some ob) (ho : sOr ρ o ob) : sHr ρ (sPo h k o) hp := fun e he => by
  rcases sPo_mem he with h1 | ⟨h1, -⟩
  · rw [h1]; exact ⟨ob, hk, ho⟩
  · exact hh e h1
theorem sHr_set {ρ : List Nat} {h : sHp} {hp : List vOb} (hh : sHr ρ h hp) {k : Nat} {o : sOb} {ob : vOb} (hk : k < hp.length) (ho : sOr ρ o ob) : sHr ρ (sPo h k o) (hp.set k ob) := fun e he => by
  rcases sPo_mem he with h1 | ⟨h1, h2⟩
  · rw [h1]; exact ⟨ob, List.getElem?_set_self hk, ho⟩
  · obtain ⟨ob', q1, q2⟩ := hh e h1
    exact ⟨ob', by rw [List.getElem?_set_ne (fun e1 => h2 e1.symm)]; exact q1, q2⟩
/-- the cells that may change: rows (place, from, to) -/
abbrev sMd : Type := List (Nat × Nat × Nat)
def sMin (md : sMd) (k i : Nat) : Prop := ∃ e ∈ md, e.1 = k ∧ e.2.1 ≤ i ∧ i ≤ e.2.2
def sMc (md : sMd) (k lo hi : Nat) : Bool := match md with
  | [] => false
  | e :: md => (Nat.beq e.1 k && (Nat.ble e.2.1 lo && Nat.ble hi e.2.2)) || sMc md k lo hi
theorem sMc_ok : ∀ {md : sMd} {k lo hi i : Nat}, sMc md k lo hi = true → lo ≤ i → i ≤ hi → sMin md k i
  | [], _, _, _, _, h, _, _ => by cases h
  | e :: md, k, lo, hi, i, h, h1, h2 => by
    unfold sMc at h
    rw [Bool.or_eq_true] at h
    rcases h with h | h
    · rw [Bool.and_eq_true, Bool.and_eq_true] at h
      have a := Nat.eq_of_beq_eq_true h.1
      have b := Nat.le_of_ble_eq_true h.2.1
      have c := Nat.le_of_ble_eq_true h.2.2
      exact ⟨e, List.mem_cons_self, a, by omega, by omega⟩
    · obtain ⟨e', q1, q2⟩ := sMc_ok h h1 h2
      exact ⟨e', List.mem_cons_of_mem _ q1, q2⟩
/-- all but those cells are as they were -/
def sFr (md : sMd) (hp0 hp : List vOb) : Prop := hp.length = hp0.length ∧ ∀ (k : Nat) (o0 : vOb), hp0[k]? = some o0 → ∃ o, hp[k]? = some o ∧ o.1 = o0.1 ∧ o.2.length = o0.2.length ∧ ∀ i, ¬ sMin md k i → o.2[i]? = o0.2[i]?
theorem sFr.rf (md : sMd) (hp : List vOb) : sFr md hp hp := ⟨rfl, fun k o0 h => ⟨o0, h, rfl, rfl, fun _ _ => rfl⟩⟩
theorem sFr.tr {md : sMd} {h0 h1 h2 : List vOb} (a : sFr md h0 h1) (b : sFr md h1 h2) : sFr md h0 h2 := ⟨b.1.trans a.1, fun k o0 h => by
  obtain ⟨o1, q1, q2, q3, q4⟩ := a.2 k o0 h
  obtain ⟨o2, r1, r2, r3, r4⟩ := b.2 k o1 q1
  exact ⟨o2, r1, r2.trans q2, r3.trans q3, fun i hi => (r4 i hi).trans (q4 i hi)⟩⟩
theorem sFr.mono {md md' : sMd} {h0 h1 : List vOb} (hm : ∀ k i, sMin md k i → sMin md' k i) (a : sFr md h0 h1) : sFr md' h0 h1 := ⟨a.1, fun k o0 h => by
  obtain ⟨o1, q1, q2, q3, q4⟩ := a.2 k o0 h
  exact ⟨o1, q1, q2, q3, fun i hi => q4 i (fun h => hi (hm k i h))⟩⟩
theorem sFr_set {md : sMd} {hp : List vOb} {k i : Nat} {o : vOb} {v : vAV} (hk : hp[k]? = some o) (hm : sMin md k i) : sFr md hp (hp.set k (o.1, o.2.set i v)) := by
  refine ⟨by simp, fun j o0 h => ?_⟩
  by_cases hj : k = j
  · subst hj
    rw [hk] at h
    cases h
    exact ⟨_, List.getElem?_set_self (List.getElem?_eq_some_iff.mp hk).1, rfl, by simp, fun i' hi' => List.getElem?_set_ne (fun e => hi' (by rw [← e]; exact hm))⟩
  · exact ⟨o0, by rw [List.getElem?_set_ne hj]; exact h, rfl, rfl, fun _ _ => rfl⟩
/-- what is said of a symbol's index -/
noncomputable def sIdx (G : sG) (a : vAV) : Option (Nat × Nat) := match sSetOf G a with
  | some S => bif Nat.ble 2147483648 (sLo S) && Nat.blt (sHi S) 2147549184 then vF (sLo S - 2147483648) (fun x => vF (sHi S - 2147483648) (fun y => some (x, y))) else none
  | none => none
theorem sIdx_ok {ρ : List Nat} {G : sG} {a v : vAV} {lo hi : Nat} (hG : sGr ρ G) (hv : sV ρ a v) (h : sIdx G a = some (lo, hi)) : ∃ u, u < 65536 ∧ v = .inl u ∧ lo ≤ u ∧ u ≤ hi := by
  unfold sIdx at h
  split at h
  · next S hS =>
    obtain ⟨u, hu, e, i⟩ := sSetOf_ok hG hv hS
    cases hb : (Nat.ble 2147483648 (sLo S) && Nat.blt (sHi S) 2147549184) with
    | false => rw [hb] at h; cases h
    | true =>
      rw [hb, cond_true, vF_eq, vF_eq] at h
      obtain ⟨e1, e2⟩ := Prod.mk.inj (Option.some.inj h)
      rw [Bool.and_eq_true] at hb
      have b1 := Nat.le_of_ble_eq_true hb.1
      have b2 := Nat.blt_eq.mp hb.2
      have b3 := sIn_lohi i
      obtain ⟨p1, p2⟩ := sBi_pos hu (by omega)
      exact ⟨u, by omega, e, by omega, by omega⟩
  · cases h
theorem sIx_of {ρ : List Nat} {q : Nat × Nat} {u : Nat} (h : sV ρ (.inr (.inl q)) (.inl u)) (hu : u < 65536) : sIx ρ q u := by
  obtain ⟨r, h1, h2⟩ := sV_num (j := q.1) (c := q.2) h
  refine ⟨r, h1, ?_⟩
  rw [← h2, sBi_of (by omega)]
theorem sIx_inj {ρ : List Nat} {q : Nat × Nat} {i j : Nat} (h1 : sIx ρ q i) (h2 : sIx ρ q j) : i = j := by
  obtain ⟨r, a, b⟩ := h1
  obtain ⟨r', c, d⟩ := h2
  rw [a] at c
  cases c
  omega
end
section
/-! ===== states, and reading ===== -/
def sR (md : sMd) (hp0 : List vOb) (ρ : List Nat) (ls : vLs) (st : List vAV) (h : sHp) (G : sG) (kl : vLs) (ks : List vAV) (hp : List vOb) : Prop := sLr ρ ls kl ∧ sTr ρ st ks ∧ sHr ρ h hp ∧ sGr ρ G ∧ sFr md hp0 hp
abbrev sSt : Type := Nat × vLs × List vAV × sHp × sG
/-- one of these states is what the machine comes to -/
def sOut (md : sMd) (hp0 : List vOb) (ρ : List Nat) (L : List sSt) (r : vR) : Prop := ∃ pc kl ks hp, r = some (pc, kl, ks, hp) ∧ ∃ σ ∈ L, σ.1 = pc ∧ ∃ xs, sR md hp0 (ρ ++ xs) σ.2.1 σ.2.2.1 σ.2.2.2.1 σ.2.2.2.2 kl ks hp
theorem sOut_one {md : sMd} {hp0 : List vOb} {ρ : List Nat} {L : List sSt} {r : vR} {pc : Nat} {ls : vLs} {st : List vAV} {h : sHp} {G : sG} {kl : vLs} {ks : List vAV} {hp : List vOb} (xs : List Nat) (hL : (pc, ls, st, h, G) ∈ L) (hr : r = some (pc, kl, ks, hp)) (hR : sR md hp0 (ρ ++ xs) ls st h G kl ks hp) : sOut md hp0 ρ L r := ⟨pc, kl, ks, hp, hr, _, hL, rfl, xs, hR⟩
theorem sR_app {md : sMd} {hp0 : List vOb} {ρ : List Nat} (xs : List Nat) {ls : vLs} {st : List vAV} {h : sHp} {G : sG} {kl : vLs} {ks : List vAV} {hp : List vOb} (hl : sLr ρ ls kl) (ht : sTr ρ st ks) (hh : sHr ρ h hp) (hf : sFr md hp0 hp) (hG : sGr (ρ ++ xs) G) : sR md hp0 (ρ ++ xs) ls st h G kl ks hp := ⟨sLr_app xs hl, sTr_app xs ht, sHr_app xs hh, hG, hf⟩
/-- a symbol that can be one number alone -/
noncomputable def sSimp (G : sG) (a : vAV) : vAV := match a with
  | .inr (.inl q) => match sFind q.1 G.2.1 with
    | some [p] => bif Nat.beq p.1 p.2 then vF ((p.1 + q.2 + 2147483648) % 4294967296) (fun u => .inl u) else a
    | _ => a
  | _ => a
theorem sSimp_ok {ρ : List Nat} {G : sG} {a v : vAV} (hG : sGr ρ G) (h : sV ρ a v) : sV ρ (sSimp G a) v := by
  unfold sSimp
  split
  · next q =>
    split
    · next p hf =>
      cases hb : Nat.beq p.1 p.2 with
      | false => exact h
      | true =>
        rw [cond_true, vF_eq]
        have e := Nat.eq_of_beq_eq_true hb
        obtain ⟨r, h1, h2⟩ := h
        obtain ⟨r', h3, h4, h5⟩ := hG.2.1 _ (sFind_mem hf)
        have h3 : ρ[q.1]? = some r' := h3
        rw [h1] at h3
        cases h3
        have h6 : r = p.1 := by
          rcases sIn_cons.mp h5 with h | h
          · omega
          · exact (sIn_nil h).elim
        refine ⟨Nat.mod_lt _ (by decide), ?_⟩
        rw [h2, h6]
        rfl
    · exact h
  · exact h
/-- the cell at a known index -/
noncomputable def sReadK (h : sHp) (G : sG) (k i : Nat) (o : sOb) : Option (sHp × sG × vAV) := match sRd o.2.1 i with
  | some (.inl a) => some (h, G, sSimp G a)
  | some (.inr S) => match sMk G S with
    | (G', v) => some (sPo h k (o.1, sWr o.2.1 i (.inl v), o.2.2), G', v)
  | none => none
theorem sReadK_ok {ρ : List Nat} {h h' : sHp} {G G' : sG} {k i : Nat} {o : sOb} {v : vAV} {hp : List vOb} {ob : vOb} (hh : sHr ρ h hp) (hG : sGr ρ G) (hk : hp[k]? = some ob) (ho : sOr ρ o ob) (he : sReadK h G k i o = some (h', G', v)) : ∃ xs w, ob.2[i]? = some w ∧ sHr (ρ ++ xs) h' hp ∧ sGr (ρ ++ xs) G' ∧ sV (ρ ++ xs) v w := by
  unfold sReadK at he
  split at he
  · next a hr =>
    cases he
    obtain ⟨w, h1, h2⟩ := sRr_get ho.2.1 hr
    refine ⟨[], w, h1, ?_⟩
    rw [List.append_nil]
    exact ⟨hh, hG, sSimp_ok hG h2⟩
  · next S hr =>
    obtain ⟨w, h1, u, hu, hS, rfl⟩ := sRr_get ho.2.1 hr
    obtain ⟨xs, m1, m2⟩ := sMk_ok hG hu hS
    cases he
    refine ⟨xs, _, h1, ?_, m1, m2⟩
    refine sHr_tell (sHr_app xs hh) hk ?_
    have ho2 := sOr_app xs ho
    exact ⟨ho2.1, sRr_tell ho2.2.1 (sRd_lt hr) h1 m2, ho2.2.2⟩
  · cases he
noncomputable def sGf (a b t pc : Nat) (ls : vLs) (st : List vAV) (h : sHp) (G : sG) : Option (List sSt) := match st with
  | .inr (.inr (.inr (.inl (some k)))) :: st' => match sGo h k with
    | some o => bif Nat.beq o.1 (8 * a) && Nat.blt t 7 then match sReadK h G k b o with
      | some (h', G', v) => some [(pc, ls, v :: st', h', G')]
      | none => none
      else none
    | none => none
  | _ => none
theorem sGf_ok {md : sMd} {hp0 : List vOb} {ρ : List Nat} {a b t pc : Nat} {ls : vLs} {st : List vAV} {h : sHp} {G : sG} {kl : vLs} {ks : List vAV} {hp : List vOb} {L : List sSt} (hR : sR md hp0 ρ ls st h G kl ks hp) (he : sGf a b t pc ls st h G = some L) : sOut md hp0 ρ L (vGf a b t pc kl ks hp) := by
  obtain ⟨hl, ht, hh, hG, hf⟩ := hR
  unfold sGf at he
  split at he
  · next k st' =>
    match ks, ht with
    | kv :: ks', ht =>
      obtain ⟨hv, ht⟩ := ht
      have hv : kv = .inr (.inr (.inr (.inl (some k)))) := hv
      subst hv
      split at he
      · next o ho =>
        obtain ⟨ob, h1, h2⟩ := sHr_get hh ho
        cases hb : (Nat.beq o.1 (8 * a) && Nat.blt t 7) with
        | false => rw [hb] at he; cases he
        | true =>
          rw [hb, cond_true] at he
          split at he
          · next h' G' v hr =>
            cases he
            obtain ⟨xs, w, r1, r2, r3, r4⟩ := sReadK_ok hh hG h1 h2 hr
            refine sOut_one xs List.mem_cons_self (kl := kl) (ks := w :: ks') (hp := hp) ?_ ⟨sLr_app xs hl, ⟨r4, sTr_app xs ht⟩, r2, r3, hf⟩
            unfold vGf
            simp only [vNth_eq, h1, h2.1, hb, cond_true, r1]
          · cases he
      · cases he
  · cases he
/-- all sets of some cells -/
noncomputable def sUni (G : sG) : List sC → Option sSet
  | [] => some []
  | .inr S :: cs => match sUni G cs with
    | some T => some (S ++ T)
    | none => none
  | .inl a :: cs => match sSetOf G a, sUni G cs with
    | some S, some T => some (S ++ T)
    | _, _ => none
theorem sUni_ok {ρ : List Nat} {G : sG} (hG : sGr ρ G) : ∀ {cs : List sC} {S : sSet} {c : sC} {v : vAV}, sUni G cs = some S → c ∈ cs → sCr ρ c v → ∃ u, u < 4294967296 ∧ v = .inl u ∧ sIn S (sBi u)
  | [], _, _, _, _, h, _ => by cases h
  | .inr S0 :: cs, S, c, v, h, hc, hv => by
    unfold sUni at h
    split at h
    · next T hT =>
      cases h
      rcases List.mem_cons.mp hc with e | e
      · subst e
        obtain ⟨u, q1, q2, q3⟩ := hv
        exact ⟨u, q1, q3, sIn_app.mpr (Or.inl q2)⟩
      · obtain ⟨u, q1, q2, q3⟩ := sUni_ok hG hT e hv
        exact ⟨u, q1, q2, sIn_app.mpr (Or.inr q3)⟩
    · cases h
  | .inl a :: cs, S, c, v, h, hc, hv => by
    unfold sUni at h
    split at h
    · next S1 T hS1 hT =>
      cases h
      rcases List.mem_cons.mp hc with e | e
      · subst e
        obtain ⟨u, q1, q2, q3⟩ := sSetOf_ok hG hv hS1
        exact ⟨u, q1, q2, sIn_app.mpr (Or.inl q3)⟩
      · obtain ⟨u, q1, q2, q3⟩ := sUni_ok hG hT e hv
        exact ⟨u, q1, q2, sIn_app.mpr (Or.inr q3)⟩
    · cases h
/-- all of them longs -/
def sLng (c : sC) : Bool := match c with
  | .inl (.inr (.inr (.inl _))) => true
  | .inl (.inr (.inr (.inr (.inr 4)))) => true
  | _ => false
theorem sLng_ok {ρ : List Nat} {c : sC} {v : vAV} (h : sLng c = true) (hv : sCr ρ c v) : ∃ u, u < 18446744073709551616 ∧ v = .inr (.inr (.inl u)) := by
  unfold sLng at h
  split at h
  · exact ⟨_, hv.1, hv.2⟩
  · exact hv
  · cases h
def sCfd (q : Nat × Nat) : List ((Nat × Nat) × vAV) → Option vAV
  | [] => none
  | e :: es => bif Nat.beq e.1.1 q.1 && Nat.beq e.1.2 q.2 then some e.2 else sCfd q es
theorem sCfd_mem {q : Nat × Nat} : ∀ {es : List ((Nat × Nat) × vAV)} {v : vAV}, sCfd q es = some v → (q, v) ∈ es
  | [], _, h => by cases h
  | e :: es, v, h => by
    unfold sCfd at h
    cases hb : (Nat.beq e.1.1 q.1 && Nat.beq e.1.2 q.2) with
    | true =>
      rw [hb, cond_true] at h
      rw [Bool.and_eq_true] at hb
      have e1 := Nat.eq_of_beq_eq_true hb.1
      have e2 := Nat.eq_of_beq_eq_true hb.2
      have e3 := Option.some.inj h
      have e4 : e = (q, v) := Prod.ext (Prod.ext e1 e2) e3
      rw [e4]
      exact List.mem_cons_self
    | false => rw [hb, cond_false] at h; exact List.mem_cons_of_mem _ (sCfd_mem h)
end
section
/-! ===== arrays: loads ===== -/
/-- an index by its numbers, one after the other -/
noncomputable def sPt (h : sHp) (G : sG) (k : Nat) (o : sOb) (q : Nat × Nat) (pc : Nat) (ls : vLs) (st : List vAV) : Nat → Nat → Option (List sSt)
  | 0, _ => some []
  | n + 1, i => match sPt h G k o q pc ls st n (i + 1) with
    | none => none
    | some R => match sRef G (.inr (.inl q)) [(i + 2147483648, i + 2147483648)] with
      | none => some R
      | some G' => match sReadK h G' k i o with
        | some (h2, G2, v) => some ((pc, ls, v :: st, h2, G2) :: R)
        | none => none
/-- an index run by run -/
noncomputable def sPr (h : sHp) (G : sG) (k : Nat) (o : sOb) (q : Nat × Nat) (pc : Nat) (ls : vLs) (st : List vAV) : List (Nat × sC) → Nat → Option (List sSt)
  | [], _ => some []
  | r :: rs, p => match sPr h G k o q pc ls st rs (p + r.1) with
    | none => none
    | some R => bif Nat.beq r.1 0 then some R else (match sRef G (.inr (.inl q)) [(p + 2147483648, p + r.1 + 2147483647)] with
      | none => some R
      | some G' => (match r.2 with
        | .inr S => (match sMk G' S with
          | (G2, v) => some ((pc, ls, v :: st, sPo h k (o.1, o.2.1, (q, v) :: o.2.2), G2) :: R))
        | .inl a => some ((pc, ls, sSimp G' a :: st, h, G') :: R)))
def sSets : List sC → Bool
  | [] => true
  | .inr _ :: cs => sSets cs
  | .inl _ :: _ => false
def sTwo : List sC → Bool
  | _ :: _ :: _ => true
  | _ => false
noncomputable def sAld (kd1 kd2 pc : Nat) (ls : vLs) (st : List vAV) (h : sHp) (G : sG) : Option (List sSt) := match st with
  | idx :: .inr (.inr (.inr (.inl (some k)))) :: st' => match sGo h k with
    | some o => bif Nat.beq (o.1 % 8) kd1 || Nat.beq (o.1 % 8) kd2 then (match sSimp G idx with
      | .inl u => bif Nat.blt u 65536 then (match sReadK h G k u o with
        | some (h', G', v) => some [(pc, ls, v :: st', h', G')]
        | none => none) else none
      | .inr (.inl q) => (match sCfd q o.2.2 with
        | some v => (match sIdx G (.inr (.inl q)) with
          | some _ => some [(pc, ls, sSimp G v :: st', h, G)]
          | none => none)
        | none => (match sIdx G (.inr (.inl q)) with
          | some (lo, hi) => bif Nat.blt hi (sLen o.2.1) then
              (bif Nat.beq kd1 5 then sPt h G k o q pc ls st' (hi + 1 - lo) lo
               else bif Nat.beq kd1 4 then (bif (sRg o.2.1 lo hi).all sLng then some [(pc, ls, .inr (.inr (.inr (.inr 4))) :: st', h, G)] else none)
               else bif sTwo (sRg o.2.1 lo hi) && sSets (sRg o.2.1 lo hi) then sPr h G k o q pc ls st' o.2.1 0
               else (match sUni G (sRg o.2.1 lo hi) with
                 | some S => (match sMk G S with
                   | (G', v) => some [(pc, ls, v :: st', sPo h k (o.1, o.2.1, (q, v) :: o.2.2), G')])
                 | none => none)) else none
          | none => none))
      | _ => none) else none
    | none => none
  | _ => none
theorem vAld_eq {kd1 kd2 pc : Nat} {sc : List vAV} {tx : List Nat} {ls : vLs} {st : List vAV} {hp : List vOb} {k u : Nat} {ob : vOb} {w : vAV} (hk : hp[k]? = some ob) (hd : (Nat.beq (ob.1 % 8) kd1 || Nat.beq (ob.1 % 8) kd2) = true) (hu : u < 65536) (hw : ob.2[u]? = some w) : vAld kd1 kd2 pc sc tx ls (.inl u :: .inr (.inr (.inr (.inl (some k)))) :: st) hp = some (pc, ls, w :: st, hp) := by
  unfold vAld
  simp only [vNth_eq, hk, hd, Nat.blt_eq.mpr hu, hw, Bool.and_self, cond_true]
section SLD
variable {md : sMd} {hp0 : List vOb} {ρ : List Nat} {ls : vLs} {st : List vAV} {h : sHp} {G : sG} {kl : vLs} {ks : List vAV} {hp : List vOb} {L : List sSt}
theorem sPt_ok {k : Nat} {o : sOb} {q : Nat × Nat} {pc u : Nat} {ob : vOb} {kd1 kd2 : Nat} {sc : List vAV} {tx : List Nat} (hl : sLr ρ ls kl) (ht : sTr ρ st ks) (hh : sHr ρ h hp) (hG : sGr ρ G) (hf : sFr md hp0 hp) (hk : hp[k]? = some ob) (ho : sOr ρ o ob) (hd : (Nat.beq (ob.1 % 8) kd1 || Nat.beq (ob.1 % 8) kd2) = true) (hv : sV ρ (.inr (.inl q)) (.inl u)) (hu : u < 65536) :
    ∀ (n i : Nat) (L : List sSt), sPt h G k o q pc ls st n i = some L → i ≤ u → u < i + n → sOut md hp0 ρ L (vAld kd1 kd2 pc sc tx kl (.inl u :: .inr (.inr (.inr (.inl (some k)))) :: ks) hp)
  | 0, i, L, _, h1, h2 => by omega
  | n + 1, i, L, he, h1, h2 => by
    unfold sPt at he
    split at he
    · cases he
    · next R hr =>
      by_cases hi : i = u
      · subst hi
        obtain ⟨G', g1, g2⟩ := sRef_ok hG hv (S := [(i + 2147483648, i + 2147483648)]) (by rw [sBi_of (by omega)]; exact sIn_one (Nat.le_refl _) (Nat.le_refl _))
        rw [g1] at he
        dsimp only at he
        split at he
        · next h3 G3 v hrd =>
          cases he
          obtain ⟨xs, w, r1, r2, r3, r4⟩ := sReadK_ok hh g2 hk ho hrd
          exact sOut_one xs List.mem_cons_self (vAld_eq hk hd hu r1) ⟨sLr_app xs hl, ⟨r4, sTr_app xs ht⟩, r2, r3, hf⟩
        · cases he
      · have ih := sPt_ok (sc := sc) (tx := tx) hl ht hh hG hf hk ho hd hv hu n (i + 1) R hr (by omega) (by omega)
        split at he
        · cases he; exact ih
        · split at he
          · cases he
            obtain ⟨a1, a2, a3, a4, a5, σ, a6, a7⟩ := ih
            exact ⟨a1, a2, a3, a4, a5, σ, List.mem_cons_of_mem _ a6, a7⟩
          · cases he
theorem sPr_ok {k : Nat} {o : sOb} {q : Nat × Nat} {pc u : Nat} {ob : vOb} {w : vAV} {kd1 kd2 : Nat} {sc : List vAV} {tx : List Nat} (hl : sLr ρ ls kl) (ht : sTr ρ st ks) (hh : sHr ρ h hp) (hG : sGr ρ G) (hf : sFr md hp0 hp) (hk : hp[k]? = some ob) (ho : sOr ρ o ob) (hd : (Nat.beq (ob.1 % 8) kd1 || Nat.beq (ob.1 % 8) kd2) = true) (hv : sV ρ (.inr (.inl q)) (.inl u)) (hu : u < 65536) (hw : ob.2[u]? = some w) :
    ∀ (rs : List (Nat × sC)) (p : Nat) (c : sC) (L : List sSt), sPr h G k o q pc ls st rs p = some L → p ≤ u → sRd rs (u - p) = some c → sCr ρ c w → sOut md hp0 ρ L (vAld kd1 kd2 pc sc tx kl (.inl u :: .inr (.inr (.inr (.inl (some k)))) :: ks) hp)
  | [], p, c, L, _, _, hr, _ => by cases hr
  | r :: rs, p, c, L, he, h1, hr, hc => by
    unfold sPr at he
    split at he
    · cases he
    · next R hR =>
      rw [sRd_cons] at hr
      by_cases hi : u - p < r.1
      · rw [if_pos hi] at hr
        have hr := Option.some.inj hr
        have hz : Nat.beq r.1 0 = false := by
          cases hb : Nat.beq r.1 0 with
          | false => rfl
          | true => have := Nat.eq_of_beq_eq_true hb; omega
        rw [hz, cond_false] at he
        obtain ⟨G', g1, g2⟩ := sRef_ok hG hv (S := [(p + 2147483648, p + r.1 + 2147483647)]) (by rw [sBi_of (by omega)]; exact sIn_one (by omega) (by omega))
        rw [g1] at he
        dsimp only at he
        rw [hr] at he
        split at he
        · next S =>
          have he := Option.some.inj he
          obtain ⟨x, x1, x3, rfl⟩ := hc
          obtain ⟨xs, m1, m2⟩ := sMk_ok g2 x1 x3
          subst he
          refine sOut_one xs List.mem_cons_self (vAld_eq hk hd hu hw) ⟨sLr_app xs hl, ⟨m2, sTr_app xs ht⟩, ?_, m1, hf⟩
          refine sHr_tell (sHr_app xs hh) hk ?_
          have ho2 := sOr_app xs ho
          refine ⟨ho2.1, ho2.2.1, fun e he => ?_⟩
          rcases List.mem_cons.mp he with e1 | e1
          · rw [e1]
            exact ⟨u, _, sIx_app xs (sIx_of hv hu), hw, m2⟩
          · exact ho2.2.2 e e1
        · next a =>
          have he := Option.some.inj he
          subst he
          refine sOut_one [] List.mem_cons_self (vAld_eq hk hd hu hw) ?_
          rw [List.append_nil]
          exact ⟨hl, ⟨sSimp_ok g2 hc, ht⟩, hh, g2, hf⟩
      · rw [if_neg hi] at hr
        have e : u - p - r.1 = u - (p + r.1) := by omega
        rw [e] at hr
        have ih := sPr_ok (sc := sc) (tx := tx) hl ht hh hG hf hk ho hd hv hu hw rs (p + r.1) c R hR (by omega) hr hc
        have more : ∀ σ, sOut md hp0 ρ (σ :: R) (vAld kd1 kd2 pc sc tx kl (.inl u :: .inr (.inr (.inr (.inl (some k)))) :: ks) hp) := fun σ => by
          obtain ⟨a1, a2, a3, a4, a5, σ', a6, a7⟩ := ih
          exact ⟨a1, a2, a3, a4, a5, σ', List.mem_cons_of_mem _ a6, a7⟩
        cases hz : Nat.beq r.1 0 with
        | true => rw [hz, cond_true] at he; cases he; exact ih
        | false =>
          rw [hz, cond_false] at he
          split at he
          · cases he; exact ih
          · split at he
            · have he := Option.some.inj he; subst he; exact more _
            · have he := Option.some.inj he; subst he; exact more _
theorem sAld_ok {kd1 kd2 pc : Nat} {sc : List vAV} {tx : List Nat} (hR : sR md hp0 ρ ls st h G kl ks hp) (he : sAld kd1 kd2 pc ls st h G = some L) : sOut md hp0 ρ L (vAld kd1 kd2 pc sc tx kl ks hp) := by
  obtain ⟨hl, ht, hh, hG, hf⟩ := hR
  unfold sAld at he
  split at he
  · next idx k st' =>
    match ks, ht with
    | [_], ht => exact ht.2.elim
    | ki :: kv :: ks', ht =>
      obtain ⟨hi, hv, ht⟩ := ht
      have hv : kv = .inr (.inr (.inr (.inl (some k)))) := hv
      subst hv
      split at he
      · next o ho =>
        obtain ⟨ob, h1, h2⟩ := sHr_get hh ho
        cases hb : (Nat.beq (o.1 % 8) kd1 || Nat.beq (o.1 % 8) kd2) with
        | false => rw [hb] at he; cases he
        | true =>
          rw [hb, cond_true] at he
          have hd : (Nat.beq (ob.1 % 8) kd1 || Nat.beq (ob.1 % 8) kd2) = true := by rw [h2.1]; exact hb
          have hi := sSimp_ok hG hi
          split at he
          · next u hs =>
            rw [hs] at hi
            obtain ⟨-, rfl⟩ := hi
            cases hu : Nat.blt u 65536 with
            | false => rw [hu] at he; cases he
            | true =>
              rw [hu, cond_true] at he
              have hu := Nat.blt_eq.mp hu
              split at he
              · next h' G' v hr =>
                cases he
                obtain ⟨xs, w, r1, r2, r3, r4⟩ := sReadK_ok hh hG h1 h2 hr
                exact sOut_one xs List.mem_cons_self (vAld_eq h1 hd hu r1) ⟨sLr_app xs hl, ⟨r4, sTr_app xs ht⟩, r2, r3, hf⟩
              · cases he
          · next q hs =>
            rw [hs] at hi
            split at he
            · next v hc =>
              split at he
              case h_2 => cases he
              next lh hix =>
              cases he
              obtain ⟨i, w, c1, c2, c3⟩ := h2.2.2 _ (sCfd_mem hc)
              obtain ⟨u, c5, rfl, -, -⟩ := sIdx_ok (lo := lh.1) (hi := lh.2) hG hi hix
              have c6 : u = i := sIx_inj (sIx_of hi c5) c1
              subst c6
              refine sOut_one [] List.mem_cons_self (vAld_eq h1 hd c5 c2) ?_
              rw [List.append_nil]
              exact ⟨hl, ⟨sSimp_ok hG c3, ht⟩, hh, hG, hf⟩
            · split at he
              · next lo hi' hix =>
                obtain ⟨u, u1, rfl, u2, u3⟩ := sIdx_ok hG hi hix
                cases hlen : Nat.blt hi' (sLen o.2.1) with
                | false => rw [hlen] at he; cases he
                | true =>
                  rw [hlen, cond_true] at he
                  have hlen := Nat.blt_eq.mp hlen
                  obtain ⟨c, hc⟩ := sRd_ex (rs := o.2.1) (i := u) (by omega)
                  obtain ⟨w, w1, w2⟩ := sRr_get h2.2.1 hc
                  have hm := sRg_mem u2 u3 hc
                  cases h5 : Nat.beq kd1 5 with
                  | true =>
                    rw [h5, cond_true] at he
                    exact sPt_ok hl ht hh hG hf h1 h2 hd hi u1 _ _ _ he u2 (by omega)
                  | false =>
                    rw [h5, cond_false] at he
                    cases h4 : Nat.beq kd1 4 with
                    | true =>
                      rw [h4, cond_true] at he
                      cases hal : (sRg o.2.1 lo hi').all sLng with
                      | false => rw [hal] at he; cases he
                      | true =>
                        rw [hal, cond_true] at he
                        cases he
                        obtain ⟨x, x1, rfl⟩ := sLng_ok (List.all_eq_true.mp hal c hm) w2
                        refine sOut_one [] List.mem_cons_self (vAld_eq h1 hd u1 w1) ?_
                        rw [List.append_nil]
                        exact ⟨hl, ⟨⟨x, x1, rfl⟩, ht⟩, hh, hG, hf⟩
                    | false =>
                      rw [h4, cond_false] at he
                      cases h6 : (sTwo (sRg o.2.1 lo hi') && sSets (sRg o.2.1 lo hi')) with
                      | true =>
                        rw [h6, cond_true] at he
                        exact sPr_ok hl ht hh hG hf h1 h2 hd hi u1 w1 _ 0 c _ he (Nat.zero_le _) hc w2
                      | false =>
                      rw [h6, cond_false] at he
                      split at he
                      · next S hS =>
                        cases he
                        obtain ⟨x, x1, rfl, x3⟩ := sUni_ok hG hS hm w2
                        obtain ⟨xs, m1, m2⟩ := sMk_ok hG x1 x3
                        refine sOut_one xs List.mem_cons_self (vAld_eq h1 hd u1 w1) ⟨sLr_app xs hl, ⟨m2, sTr_app xs ht⟩, ?_, m1, hf⟩
                        refine sHr_tell (sHr_app xs hh) h1 ?_
                        have ho2 := sOr_app xs h2
                        refine ⟨ho2.1, ho2.2.1, fun e he => ?_⟩
                        rcases List.mem_cons.mp he with e1 | e1
                        · rw [e1]
                          exact ⟨u, _, sIx_app xs (sIx_of hi u1), w1, m2⟩
                        · exact ho2.2.2 e e1
                      · cases he
              · cases he
          · cases he
      · cases he
  · cases he
end SLD
end
section
/-! ===== stores ===== -/
noncomputable def sFit (t : Nat) (G : sG) (v : vAV) : Bool := match t with
  | 0 => (match sSetOf G v with
    | some _ => true
    | none => false)
  | 1 => (match sSetOf G v with
    | some S => sSub S [(2147483648, 2147483649)]
    | none => false)
  | 2 => sLng (.inl v)
  | 3 => (match v with
    | .inr (.inr (.inr (.inl _))) => true
    | _ => false)
  | _ => false
theorem sBit {u : Nat} {S : sSet} (hu : u < 4294967296) (h : sIn S (sBi u)) (hs : sSub S [(2147483648, 2147483649)] = true) : u ≤ 1 := by
  rcases sIn_cons.mp (sSub_ok _ _ _ hs h) with h1 | h1
  · have h2 : 2147483648 ≤ sBi u := h1.1
    have h3 : sBi u ≤ 2147483649 := h1.2
    have := sBi_pos hu h2
    omega
  · exact (sIn_nil h1).elim
theorem sFit_ok {ρ : List Nat} {G : sG} {t : Nat} {v w : vAV} (hG : sGr ρ G) (hv : sV ρ v w) (h : sFit t G v = true) : vFit t w = true := by
  unfold sFit at h
  split at h
  · split at h
    · next S hS =>
      obtain ⟨u, -, rfl, -⟩ := sSetOf_ok hG hv hS
      rfl
    · cases h
  · split at h
    · next S hS =>
      obtain ⟨u, hu, rfl, i⟩ := sSetOf_ok hG hv hS
      exact Nat.ble_eq_true_of_le (sBit hu i h)
    · cases h
  · obtain ⟨u, -, rfl⟩ := sLng_ok (c := .inl v) h hv
    rfl
  · split at h
    · next o =>
      have hv : w = .inr (.inr (.inr (.inl o))) := hv
      subst hv
      cases o <;> rfl
    · cases h
  · cases h
noncomputable def sPf (md : sMd) (a b t pc : Nat) (ls : vLs) (st : List vAV) (h : sHp) (G : sG) : Option (List sSt) := match st with
  | v :: .inr (.inr (.inr (.inl (some k)))) :: st' => match sGo h k with
    | some o => bif ((Nat.beq o.1 (8 * a) && sFit t G v) && (Nat.blt b (sLen o.2.1) && sMc md k b b)) then some [(pc, ls, st', sPo h k (o.1, sWr o.2.1 b (.inl v), []), G)] else none
    | none => none
  | _ => none
section SST
variable {md : sMd} {hp0 : List vOb} {ρ : List Nat} {ls : vLs} {st : List vAV} {h : sHp} {G : sG} {kl : vLs} {ks : List vAV} {hp : List vOb} {L : List sSt}
theorem sPf_ok {a b t pc : Nat} (hR : sR md hp0 ρ ls st h G kl ks hp) (he : sPf md a b t pc ls st h G = some L) : sOut md hp0 ρ L (vPf a b t pc kl ks hp) := by
  obtain ⟨hl, ht, hh, hG, hf⟩ := hR
  unfold sPf at he
  split at he
  · next v k st' =>
    match ks, ht with
    | [_], ht => exact ht.2.elim
    | kv :: kr :: ks', ht =>
      obtain ⟨hv, hr, ht⟩ := ht
      have hr : kr = .inr (.inr (.inr (.inl (some k)))) := hr
      subst hr
      split at he
      · next o ho =>
        obtain ⟨ob, h1, h2⟩ := sHr_get hh ho
        cases hb : ((Nat.beq o.1 (8 * a) && sFit t G v) && (Nat.blt b (sLen o.2.1) && sMc md k b b)) with
        | false => rw [hb] at he; cases he
        | true =>
          rw [hb, cond_true] at he
          cases he
          rw [Bool.and_eq_true, Bool.and_eq_true, Bool.and_eq_true] at hb
          obtain ⟨⟨b1, b2⟩, b3, b4⟩ := hb
          have b3 := Nat.blt_eq.mp b3
          have b5 := sFit_ok hG hv b2
          have b6 : b < ob.2.length := by rw [h2.2.1.1]; exact b3
          refine sOut_one [] List.mem_cons_self (kl := kl) (ks := ks') (hp := hp.set k (ob.1, ob.2.set b kv)) ?_ ?_
          · unfold vPf
            simp only [vNth_eq, h1, h2.1, b1, b5, Bool.and_self, cond_true, List.getElem?_eq_getElem b6]
          · rw [List.append_nil]
            refine ⟨hl, ht, sHr_set hh (List.getElem?_eq_some_iff.mp h1).1 ⟨h2.1, sRr_set h2.2.1 b3 hv, fun e he => by cases he⟩, hG, hf.tr (sFr_set h1 (sMc_ok b4 (Nat.le_refl _) (Nat.le_refl _)))⟩
      · cases he
  · cases he
noncomputable def sNar (G : sG) (kd : Nat) (v : vAV) : Option (sG × vAV) := match kd with
  | 1 => (match sSetOf G v with
    | some _ => some (G, v)
    | none => none)
  | 2 => (match sSetOf G v with
    | some _ => some (sMk G [(2147483520, 2147483775)])
    | none => none)
  | 3 => (match sSetOf G v with
    | some S => bif sSub S [(2147483648, 2147483649)] then some (G, v) else none
    | none => none)
  | 4 => bif sLng (.inl v) then some (G, v) else none
  | _ => none
theorem kNarB_eq (u : Nat) : kNarB u = kI2b u := rfl
theorem sNar_ok {kd : Nat} {v v' w : vAV} {G' : sG} (hG : sGr ρ G) (hv : sV ρ v w) (h : sNar G kd v = some (G', v')) : ∃ xs w', vNar kd w = some w' ∧ sGr (ρ ++ xs) G' ∧ sV (ρ ++ xs) v' w' := by
  unfold sNar at h
  split at h
  · split at h
    · next S hS =>
      cases h
      obtain ⟨u, hu, rfl, -⟩ := sSetOf_ok hG hv hS
      exact ⟨[], _, rfl, by rw [List.append_nil]; exact hG, by rw [List.append_nil]; exact hv⟩
    · cases h
  · split at h
    · next S hS =>
      have h := Option.some.inj h
      obtain ⟨u, hu, rfl, -⟩ := sSetOf_ok hG hv hS
      have hb := kI2b_in u
      obtain ⟨xs, m1, m2⟩ := sMk_ok (S := [(2147483520, 2147483775)]) hG (kn_lt ((nI u).toInt8.toInt32)) (sIn_one hb.1 hb.2)
      rw [h] at m1 m2
      exact ⟨xs, .inl (kNarB u), rfl, m1, m2⟩
    · cases h
  · split at h
    · next S hS =>
      cases hb : sSub S [(2147483648, 2147483649)] with
      | false => rw [hb] at h; cases h
      | true =>
        rw [hb, cond_true] at h
        cases h
        obtain ⟨u, hu, rfl, i⟩ := sSetOf_ok hG hv hS
        refine ⟨[], .inl u, ?_, by rw [List.append_nil]; exact hG, by rw [List.append_nil]; exact hv⟩
        show (bif Nat.ble u 1 then some (Sum.inl u) else none) = _
        rw [Nat.ble_eq_true_of_le (sBit hu i hb)]
        rfl
    · cases h
  · cases hb : sLng (.inl v) with
    | false => rw [hb] at h; cases h
    | true =>
      rw [hb, cond_true] at h
      cases h
      obtain ⟨u, hu, rfl⟩ := sLng_ok hb hv
      exact ⟨[], _, rfl, by rw [List.append_nil]; exact hG, by rw [List.append_nil]; exact hv⟩
  · cases h
/-- can any cell of a run hold it, told as before -/
noncomputable def sHld (G : sG) (v : vAV) (c : sC) : Bool := match c with
  | .inr S => (match sSetOf G v with
    | some V => sSub V S
    | none => false)
  | .inl (.inr (.inr (.inr (.inr 4)))) => sLng (.inl v)
  | _ => false
theorem sHld_ok {v w : vAV} {c : sC} (hG : sGr ρ G) (hv : sV ρ v w) (h : sHld G v c = true) : sCr ρ c w := by
  unfold sHld at h
  split at h
  · next S =>
    split at h
    · next V hV =>
      obtain ⟨u, hu, rfl, i⟩ := sSetOf_ok hG hv hV
      exact ⟨u, hu, sSub_ok _ _ _ h i, rfl⟩
    · cases h
  · exact sLng_ok (c := .inl v) h hv
  · cases h
noncomputable def sAst (md : sMd) (kd1 kd2 pc : Nat) (ls : vLs) (st : List vAV) (h : sHp) (G : sG) : Option (List sSt) := match st with
  | v :: idx :: .inr (.inr (.inr (.inl (some k)))) :: st' => match sGo h k with
    | some o => bif Nat.beq (o.1 % 8) kd1 || Nat.beq (o.1 % 8) kd2 then (match sNar G (o.1 % 8) v with
      | some (G', v') => (match sSimp G' idx with
        | .inl u => bif Nat.blt u 65536 && (Nat.blt u (sLen o.2.1) && sMc md k u u) then some [(pc, ls, st', sPo h k (o.1, sWr o.2.1 u (.inl v'), []), G')] else none
        | .inr (.inl q) => (match sIdx G' (.inr (.inl q)) with
          | some (lo, hi) => bif Nat.blt hi (sLen o.2.1) && (sMc md k lo hi && (sRg o.2.1 lo hi).all (sHld G' v')) then some [(pc, ls, st', sPo h k (o.1, o.2.1, [(q, v')]), G')] else none
          | none => none)
        | _ => none)
      | none => none) else none
    | none => none
  | _ => none
theorem vAst_eq {kd1 kd2 pc : Nat} {ls : vLs} {st : List vAV} {k u : Nat} {ob : vOb} {w w' : vAV} (hk : hp[k]? = some ob) (hd : (Nat.beq (ob.1 % 8) kd1 || Nat.beq (ob.1 % 8) kd2) = true) (hu : u < 65536) (hlen : u < ob.2.length) (hn : vNar (ob.1 % 8) w = some w') : vAst kd1 kd2 pc ls (w :: .inl u :: .inr (.inr (.inr (.inl (some k)))) :: st) hp = some (pc, ls, st, hp.set k (ob.1, ob.2.set u w')) := by
  unfold vAst
  simp only [vNth_eq, hk, hd, Nat.blt_eq.mpr hu, List.getElem?_eq_getElem hlen, hn, Bool.and_self, cond_true]
theorem sAst_ok {kd1 kd2 pc : Nat} (hR : sR md hp0 ρ ls st h G kl ks hp) (he : sAst md kd1 kd2 pc ls st h G = some L) : sOut md hp0 ρ L (vAst kd1 kd2 pc kl ks hp) := by
  obtain ⟨hl, ht, hh, hG, hf⟩ := hR
  unfold sAst at he
  split at he
  · next v idx k st' =>
    match ks, ht with
    | [_], ht => exact ht.2.elim
    | [_, _], ht => exact ht.2.2.elim
    | kv :: ki :: kr :: ks', ht =>
      obtain ⟨hv, hi, hr, ht⟩ := ht
      have hr : kr = .inr (.inr (.inr (.inl (some k)))) := hr
      subst hr
      split at he
      · next o ho =>
        obtain ⟨ob, h1, h2⟩ := sHr_get hh ho
        have hkl := (List.getElem?_eq_some_iff.mp h1).1
        cases hb : (Nat.beq (o.1 % 8) kd1 || Nat.beq (o.1 % 8) kd2) with
        | false => rw [hb] at he; cases he
        | true =>
          rw [hb, cond_true] at he
          have hd : (Nat.beq (ob.1 % 8) kd1 || Nat.beq (ob.1 % 8) kd2) = true := by rw [h2.1]; exact hb
          split at he
          · next G' v' hn =>
            obtain ⟨xs, w', n1, n2, n3⟩ := sNar_ok hG hv hn
            rw [← h2.1] at n1
            have hi := sSimp_ok n2 (sV_app xs hi)
            have ho2 := sOr_app xs h2
            split at he
            · next u hs =>
              rw [hs] at hi
              obtain ⟨-, rfl⟩ := hi
              cases hc : (Nat.blt u 65536 && (Nat.blt u (sLen o.2.1) && sMc md k u u)) with
              | false => rw [hc] at he; cases he
              | true =>
                rw [hc, cond_true] at he
                cases he
                rw [Bool.and_eq_true, Bool.and_eq_true] at hc
                have c1 := Nat.blt_eq.mp hc.1
                have c2 := Nat.blt_eq.mp hc.2.1
                exact sOut_one xs List.mem_cons_self (vAst_eq h1 hd c1 (by rw [h2.2.1.1]; exact c2) n1) ⟨sLr_app xs hl, sTr_app xs ht, sHr_set (sHr_app xs hh) hkl ⟨h2.1, sRr_set ho2.2.1 c2 n3, fun e he => by cases he⟩, n2, hf.tr (sFr_set h1 (sMc_ok hc.2.2 (Nat.le_refl _) (Nat.le_refl _)))⟩
            · next q hs =>
              rw [hs] at hi
              split at he
              · next lo hi' hix =>
                obtain ⟨u, u1, rfl, u2, u3⟩ := sIdx_ok n2 hi hix
                cases hc : (Nat.blt hi' (sLen o.2.1) && (sMc md k lo hi' && (sRg o.2.1 lo hi').all (sHld G' v'))) with
                | false => rw [hc] at he; cases he
                | true =>
                  rw [hc, cond_true] at he
                  cases he
                  rw [Bool.and_eq_true, Bool.and_eq_true] at hc
                  have c1 := Nat.blt_eq.mp hc.1
                  have c2 : u < sLen o.2.1 := by omega
                  refine sOut_one xs List.mem_cons_self (vAst_eq h1 hd u1 (by rw [h2.2.1.1]; exact c2) n1) ⟨sLr_app xs hl, sTr_app xs ht, sHr_set (sHr_app xs hh) hkl ⟨h2.1, ⟨by rw [List.length_set]; exact h2.2.1.1, fun j c x hj hx => ?_⟩, fun e he => ?_⟩, n2, hf.tr (sFr_set h1 (sMc_ok hc.2.1 u2 u3))⟩
                  · by_cases e1 : u = j
                    · subst e1
                      rw [List.getElem?_set_self (by rw [h2.2.1.1]; exact c2)] at hx
                      cases hx
                      exact sHld_ok n2 n3 (List.all_eq_true.mp hc.2.2 c (sRg_mem u2 u3 hj))
                    · rw [List.getElem?_set_ne e1] at hx
                      exact ho2.2.1.2 j c x hj hx
                  · have e1 := List.mem_singleton.mp he
                    rw [e1]
                    exact ⟨u, w', sIx_of hi u1, List.getElem?_set_self (by rw [h2.2.1.1]; exact c2), n3⟩
              · cases he
            · cases he
          · cases he
      · cases he
  · cases he
end SST
end
section
/-! ===== locals and the stack ===== -/
def sKd (a : vAV) : Nat := match a with
  | .inr (.inr (.inr (.inr 4))) => 1
  | a => vKd a
theorem sKd_ok {ρ : List Nat} {a v : vAV} (h : sV ρ a v) : vKd v = sKd a := by
  rcases a with u | q | u | o | z
  · obtain ⟨-, rfl⟩ := h; rfl
  · obtain ⟨r, -, rfl⟩ := h; rfl
  · obtain ⟨-, rfl⟩ := h; rfl
  · have h : v = .inr (.inr (.inr (.inl o))) := h
    subst h; rfl
  · by_cases h4 : z = 4
    · subst h4
      obtain ⟨u, -, rfl⟩ := h
      rfl
    · have h : v = .inr (.inr (.inr (.inr z))) := by
        unfold sV at h
        split at h
        · next h1 => cases h1
        · next h1 => cases h1
        · next h1 => cases h1
        · next h1 => cases h1
        · next h1 => cases h1; exact absurd rfl h4
        · next h1 => cases h1; exact h
      subst h
      unfold sKd
      split
      · next h1 => cases h1; exact absurd rfl h4
      · rfl
theorem sLr_len {ρ : List Nat} : ∀ {ls kl : vLs}, sLr ρ ls kl → kl.length = ls.length
  | [], [], _ => rfl
  | _ :: _, _ :: _, h => by simp [sLr_len h.2]
  | [], _ :: _, h => h.elim
  | _ :: _, [], h => h.elim
theorem sLr_get {ρ : List Nat} : ∀ {ls kl : vLs}, sLr ρ ls kl → ∀ (j : Nat) (x : vAV), ls[j]? = some (some x) → ∃ y, kl[j]? = some (some y) ∧ sV ρ x y
  | [], [], _, j, x, h => by simp at h
  | a :: as, v :: vs, hl, 0, x, h => by
    have h : a = some x := by simpa using h
    obtain ⟨y, h1, h2⟩ := hl.1 x h
    exact ⟨y, by simp [h1], h2⟩
  | a :: as, v :: vs, hl, j + 1, x, h => by
    obtain ⟨y, h1, h2⟩ := sLr_get hl.2 j x (by simpa using h)
    exact ⟨y, by simpa using h1, h2⟩
  | [], _ :: _, h, _, _, _ => h.elim
  | _ :: _, [], h, _, _, _ => h.elim
theorem sLr_of {ρ : List Nat} : ∀ {ls kl : vLs}, kl.length = ls.length → (∀ (j : Nat) (x : vAV), ls[j]? = some (some x) → ∃ y, kl[j]? = some (some y) ∧ sV ρ x y) → sLr ρ ls kl
  | [], [], _, _ => trivial
  | a :: as, v :: vs, hl, h => ⟨fun x hx => by
      obtain ⟨y, h1, h2⟩ := h 0 x (by simp [hx])
      exact ⟨y, by simpa using h1, h2⟩, sLr_of (by simpa using hl) (fun j x hx => by
      obtain ⟨y, h1, h2⟩ := h (j + 1) x (by simpa using hx)
      exact ⟨y, by simpa using h1, h2⟩)⟩
  | [], _ :: _, hl, _ => by simp at hl
  | _ :: _, [], hl, _ => by simp at hl
def sSet1 (ls : vLs) (a : Nat) (v : vAV) : vLs := match a with
  | 0 => ls.set 0 (some v)
  | a' + 1 => match ls.getD a' none with
    | some x => bif Nat.beq (sKd x) 1 then (ls.set a' none).set (a' + 1) (some v) else ls.set (a' + 1) (some v)
    | none => ls.set (a' + 1) (some v)
theorem sLr_put {ρ : List Nat} {ls kl : vLs} (hl : sLr ρ ls kl) (a : Nat) {v w : vAV} (hv : sV ρ v w) : sLr ρ (ls.set a (some v)) (kl.set a (some w)) := by
  have hlen := sLr_len hl
  refine sLr_of (by simpa using hlen) (fun j x hx => ?_)
  by_cases hj : a = j
  · subst hj
    have ha : a < ls.length := by
      have := (List.getElem?_eq_some_iff.mp hx).1
      simpa using this
    rw [List.getElem?_set_self ha] at hx
    cases hx
    exact ⟨w, List.getElem?_set_self (by omega), hv⟩
  · rw [List.getElem?_set_ne hj] at hx
    rw [List.getElem?_set_ne hj]
    exact sLr_get hl j x hx
theorem sLr_del {ρ : List Nat} {ls kl : vLs} (hl : sLr ρ ls kl) (a : Nat) (w : Option vAV) : sLr ρ (ls.set a none) (kl.set a w) := by
  have hlen := sLr_len hl
  refine sLr_of (by simpa using hlen) (fun j x hx => ?_)
  by_cases hj : a = j
  · subst hj
    have ha : a < ls.length := by
      have := (List.getElem?_eq_some_iff.mp hx).1
      simpa using this
    rw [List.getElem?_set_self ha] at hx
    cases hx
  · rw [List.getElem?_set_ne hj] at hx
    rw [List.getElem?_set_ne hj]
    exact sLr_get hl j x hx
theorem sLr_non {ρ : List Nat} {ls kl : vLs} (hl : sLr ρ ls kl) {a : Nat} (h : ls.getD a none = none) (w : Option vAV) : sLr ρ ls (kl.set a w) := by
  have hlen := sLr_len hl
  refine sLr_of (by simpa using hlen) (fun j x hx => ?_)
  by_cases hj : a = j
  · subst hj
    rw [List.getD_eq_getElem?_getD, hx] at h
    cases h
  · rw [List.getElem?_set_ne hj]
    exact sLr_get hl j x hx
theorem sSet1_ok {ρ : List Nat} {ls kl : vLs} (hl : sLr ρ ls kl) (a : Nat) {v w : vAV} (hv : sV ρ v w) : sLr ρ (sSet1 ls a v) (vSet1 kl a w) := by
  match a with
  | 0 => exact sLr_put hl 0 hv
  | a' + 1 =>
    show sLr ρ (match ls.getD a' none with
      | some x => bif Nat.beq (sKd x) 1 then (ls.set a' none).set (a' + 1) (some v) else ls.set (a' + 1) (some v)
      | none => ls.set (a' + 1) (some v)) (match kl.getD a' none with
      | some (.inr (.inr (.inl _))) => (kl.set a' none).set (a' + 1) (some w)
      | _ => kl.set (a' + 1) (some w))
    cases hx : ls.getD a' none with
    | none =>
      dsimp only
      split
      · exact sLr_put (sLr_non hl hx none) _ hv
      · exact sLr_put hl _ hv
    | some x =>
      dsimp only
      have hx2 : ls[a']? = some (some x) := by
        rw [List.getD_eq_getElem?_getD] at hx
        cases h3 : ls[a']? with
        | none => rw [h3] at hx; cases hx
        | some o => rw [h3] at hx; have hx : o = some x := hx; rw [hx]
      obtain ⟨y, y1, y2⟩ := sLr_get hl a' x hx2
      have y3 : kl.getD a' none = some y := by rw [List.getD_eq_getElem?_getD, y1]; rfl
      rw [y3]
      cases hb : Nat.beq (sKd x) 1 with
      | true =>
        rw [cond_true]
        split
        · exact sLr_put (sLr_del hl _ _) _ hv
        · have e : sLr ρ (ls.set a' none) kl := by
            refine sLr_of (by simpa using sLr_len hl) (fun j z hz => ?_)
            by_cases hj : a' = j
            · subst hj
              have ha : a' < ls.length := (List.getElem?_eq_some_iff.mp hx2).1
              rw [List.getElem?_set_self ha] at hz
              cases hz
            · rw [List.getElem?_set_ne hj] at hz
              exact sLr_get hl j z hz
          exact sLr_put e _ hv
      | false =>
        rw [cond_false]
        split
        · next u h9 =>
          have h9 := Option.some.inj h9
          have k1 := sKd_ok y2
          rw [h9] at k1
          have k1 : 1 = sKd x := k1
          rw [← k1] at hb
          cases hb
        · exact sLr_put hl _ hv
section SLS
variable {md : sMd} {hp0 : List vOb} {ρ : List Nat} {ls : vLs} {st : List vAV} {h : sHp} {G : sG} {kl : vLs} {ks : List vAV} {hp : List vOb} {L : List sSt}
theorem sOut_now {r : vR} {pc : Nat} {ls' : vLs} {st' : List vAV} {h' : sHp} {G' : sG} {kl' : vLs} {ks' : List vAV} {hp' : List vOb} (hr : r = some (pc, kl', ks', hp')) (hR : sR md hp0 ρ ls' st' h' G' kl' ks' hp') : sOut md hp0 ρ [(pc, ls', st', h', G')] r := sOut_one [] List.mem_cons_self hr (by rw [List.append_nil]; exact hR)
noncomputable def sLd (kd a pc : Nat) (ls : vLs) (st : List vAV) (h : sHp) (G : sG) : Option (List sSt) := match vNth ls a with
  | some (some v) => bif Nat.beq (sKd v) kd then some [(pc, ls, sSimp G v :: st, h, G)] else none
  | _ => none
theorem sLd_ok {kd a pc : Nat} (hR : sR md hp0 ρ ls st h G kl ks hp) (he : sLd kd a pc ls st h G = some L) : sOut md hp0 ρ L (vLd kd a pc kl ks hp) := by
  obtain ⟨hl, ht, hh, hG, hf⟩ := hR
  unfold sLd at he
  rw [vNth_eq] at he
  split at he
  · next v hv =>
    obtain ⟨y, y1, y2⟩ := sLr_get hl a v hv
    cases hb : Nat.beq (sKd v) kd with
    | false => rw [hb] at he; cases he
    | true =>
      rw [hb, cond_true] at he
      cases he
      refine sOut_now (kl' := kl) (ks' := y :: ks) (hp' := hp) ?_ ⟨hl, ⟨sSimp_ok hG y2, ht⟩, hh, hG, hf⟩
      unfold vLd
      simp only [vNth_eq, y1, sKd_ok y2, hb, cond_true]
  · cases he
def sSt1 (kd a pc : Nat) (ls : vLs) (st : List vAV) (h : sHp) (G : sG) : Option (List sSt) := match st with
  | v :: st' => bif Nat.beq (sKd v) kd && Nat.blt a ls.length then some [(pc, sSet1 ls a v, st', h, G)] else none
  | _ => none
theorem sSt1_ok {kd a pc : Nat} (hR : sR md hp0 ρ ls st h G kl ks hp) (he : sSt1 kd a pc ls st h G = some L) : sOut md hp0 ρ L (vSt1 kd a pc kl ks hp) := by
  obtain ⟨hl, ht, hh, hG, hf⟩ := hR
  unfold sSt1 at he
  split at he
  · next v st' =>
    match ks, ht with
    | w :: ks', ht =>
      cases hb : (Nat.beq (sKd v) kd && Nat.blt a ls.length) with
      | false => rw [hb] at he; cases he
      | true =>
        rw [hb, cond_true] at he
        cases he
        refine sOut_now (kl' := vSet1 kl a w) (ks' := ks') (hp' := hp) ?_ ⟨sSet1_ok hl a ht.1, ht.2, hh, hG, hf⟩
        unfold vSt1
        simp only [sKd_ok ht.1, sLr_len hl, hb, cond_true]
  · cases he
def sSt2 (a pc : Nat) (ls : vLs) (st : List vAV) (h : sHp) (G : sG) : Option (List sSt) := match st with
  | v :: st' => bif Nat.beq (sKd v) 1 && Nat.blt (a + 1) ls.length then some [(pc, (sSet1 ls a v).set (a + 1) none, st', h, G)] else none
  | _ => none
theorem sSt2_ok {a pc : Nat} (hR : sR md hp0 ρ ls st h G kl ks hp) (he : sSt2 a pc ls st h G = some L) : sOut md hp0 ρ L (vSt2 a pc kl ks hp) := by
  obtain ⟨hl, ht, hh, hG, hf⟩ := hR
  unfold sSt2 at he
  split at he
  · next v st' =>
    match ks, ht with
    | w :: ks', ht =>
      cases hb : (Nat.beq (sKd v) 1 && Nat.blt (a + 1) ls.length) with
      | false => rw [hb] at he; cases he
      | true =>
        rw [hb, cond_true] at he
        cases he
        refine sOut_now (kl' := vSet2 kl a w) (ks' := ks') (hp' := hp) ?_ ⟨sLr_del (sSet1_ok hl a ht.1) _ _, ht.2, hh, hG, hf⟩
        unfold vSt2
        simp only [sKd_ok ht.1, sLr_len hl, hb, cond_true]
  · cases he
end SLS
end
section
/-! ===== sums and branches ===== -/
theorem sInt {ρ : List Nat} {a v : vAV} (h : sV ρ a v) (hk : Nat.beq (sKd a) 0 = true) : ∃ u, u < 4294967296 ∧ v = .inl u := by
  rcases a with u | q | u | o | z
  · exact ⟨u, h.1, h.2⟩
  · obtain ⟨r, -, e⟩ := h
    exact ⟨_, sUn_lt _ _, e⟩
  · cases hk
  · cases o <;> cases hk
  · exfalso
    unfold sKd at hk
    split at hk
    · cases hk
    · unfold vKd at hk
      split at hk
      · next h1 => cases h1
      · next h1 => cases h1
      · cases hk
      · cases hk
      · cases hk
      · cases hk
      · cases hk
noncomputable def sBi2 (op pc : Nat) (ls : vLs) (st : List vAV) (h : sHp) (G : sG) : Option (List sSt) := match st with
  | y :: x :: st' => bif Nat.beq (sKd x) 0 && Nat.beq (sKd y) 0 then (match sBin op G (sSimp G x) (sSimp G y) with
    | some L => some (L.map (fun e => (pc, ls, e.2 :: st', h, e.1)))
    | none => none) else none
  | _ => none
section SBR
variable {md : sMd} {hp0 : List vOb} {ρ : List Nat} {ls : vLs} {st : List vAV} {h : sHp} {G : sG} {kl : vLs} {ks : List vAV} {hp : List vOb} {L : List sSt}
theorem sBi2_ok {op pc : Nat} (hop : op ≤ 10) (hR : sR md hp0 ρ ls st h G kl ks hp) (he : sBi2 op pc ls st h G = some L) : ∃ u w ks', u < 4294967296 ∧ w < 4294967296 ∧ ks = .inl w :: .inl u :: ks' ∧ (9 ≤ op → w ≠ 0) ∧ sOut md hp0 ρ L (some (pc, kl, .inl (sKop op u w) :: ks', hp)) := by
  obtain ⟨hl, ht, hh, hG, hf⟩ := hR
  unfold sBi2 at he
  split at he
  · next y x st' =>
    match ks, ht with
    | [_], ht => exact ht.2.elim
    | ky :: kx :: ks', ht =>
      obtain ⟨hy, hx, ht⟩ := ht
      cases hb : (Nat.beq (sKd x) 0 && Nat.beq (sKd y) 0) with
      | false => rw [hb] at he; cases he
      | true =>
        rw [hb, cond_true] at he
        rw [Bool.and_eq_true] at hb
        obtain ⟨u, hu, rfl⟩ := sInt hx hb.1
        obtain ⟨w, hw, rfl⟩ := sInt hy hb.2
        split at he
        · next L0 hL0 =>
          cases he
          obtain ⟨h9, e, e1, xs, e2, e3⟩ := sBin_ok hop hG (sSimp_ok hG hx) (sSimp_ok hG hy) hL0
          exact ⟨u, w, ks', hu, hw, rfl, h9, sOut_one xs (List.mem_map.mpr ⟨e, e1, rfl⟩) rfl ⟨sLr_app xs hl, ⟨e3, sTr_app xs ht⟩, sHr_app xs hh, e2, hf⟩⟩
        · cases he
  · cases he
theorem k2_eq (f : Nat → Nat → Nat) (pc u w : Nat) : v2 f pc kl (.inl w :: .inl u :: ks) hp = some (pc, kl, .inl (f u w) :: ks, hp) := by
  unfold v2 vB
  simp only [vF_eq]
theorem kDiv_eq (pc : Nat) {u w : Nat} (h0 : w ≠ 0) : v2d Nat.div kDiv pc kl (.inl w :: .inl u :: ks) hp = some (pc, kl, .inl (kDiv u w) :: ks, hp) := by
  unfold v2d
  dsimp only
  cases hb : (Nat.blt u 2147483648 && Nat.blt w 2147483648 && Nat.blt 0 w) with
  | true =>
    rw [cond_true, vF_eq]
    rw [Bool.and_eq_true, Bool.and_eq_true] at hb
    have e : kDiv u w = Nat.div u w := kDiv_pos (Nat.blt_eq.mp hb.1.1) (Nat.blt_eq.mp hb.2) (Nat.blt_eq.mp hb.1.2)
    rw [e]
  | false =>
    have e : Nat.beq w 0 = false := by
      cases h1 : Nat.beq w 0 with
      | false => rfl
      | true => exact absurd (Nat.eq_of_beq_eq_true h1) h0
    rw [cond_false, e, cond_false]
theorem kRem_eq (pc : Nat) {u w : Nat} (h0 : w ≠ 0) : v2d Nat.mod kRem pc kl (.inl w :: .inl u :: ks) hp = some (pc, kl, .inl (kRem u w) :: ks, hp) := by
  unfold v2d
  dsimp only
  cases hb : (Nat.blt u 2147483648 && Nat.blt w 2147483648 && Nat.blt 0 w) with
  | true =>
    rw [cond_true, vF_eq]
    rw [Bool.and_eq_true, Bool.and_eq_true] at hb
    have e : kRem u w = Nat.mod u w := kRem_pos (Nat.blt_eq.mp hb.1.1) (Nat.blt_eq.mp hb.2) (Nat.blt_eq.mp hb.1.2)
    rw [e]
  | false =>
    have e : Nat.beq w 0 = false := by
      cases h1 : Nat.beq w 0 with
      | false => rfl
      | true => exact absurd (Nat.eq_of_beq_eq_true h1) h0
    rw [cond_false, e, cond_false]
theorem kShr_eq (pc : Nat) {u w : Nat} (hw : w < 4294967296) : vShrD pc kl (.inl w :: .inl u :: ks) hp = some (pc, kl, .inl (kShr u w) :: ks, hp) := by
  unfold vShrD
  dsimp only
  cases hb : Nat.blt u 2147483648 with
  | true => rw [cond_true, vF_eq, kShr_pos (Nat.blt_eq.mp hb) hw]
  | false => rfl
/-- two numbers compared -/
def kCmp (c a b : Nat) : Bool := match c with
  | 0 => Nat.beq a b
  | 1 => !Nat.beq a b
  | 2 => Nat.blt a b
  | 3 => !Nat.blt a b
  | 4 => Nat.blt b a
  | _ => !Nat.blt b a
def sSwp (r : Option (Option sG × Option sG)) : Option (Option sG × Option sG) := match r with
  | some (a, b) => some (b, a)
  | none => none
noncomputable def sCmpG (c : Nat) (G : sG) (x y : vAV) : Option (Option sG × Option sG) := match c with
  | 0 => sEqG G x y
  | 1 => sSwp (sEqG G x y)
  | 2 => sLtG G x y
  | 3 => sSwp (sLtG G x y)
  | 4 => sLtG G y x
  | _ => sSwp (sLtG G y x)
theorem sSwp_eq {r : Option (Option sG × Option sG)} {a b : Option sG} (h : sSwp r = some (a, b)) : r = some (b, a) := by
  unfold sSwp at h
  split at h
  · cases h; rfl
  · cases h
theorem kblt {a b : Nat} (h : Nat.blt a b = false) : ¬ a < b := fun h1 => by rw [Nat.blt_eq.mpr h1] at h; cases h
theorem kbeq {a b : Nat} (h : Nat.beq a b = false) : ¬ a = b := fun h1 => by
  subst h1
  have e : Nat.beq a a = true := by simp
  rw [e] at h
  cases h
theorem kCmp_le {c : Nat} (h0 : c = 0 → False) (h1 : c = 1 → False) (h2 : c = 2 → False) (h3 : c = 3 → False) (h4 : c = 4 → False) {a b : Nat} : kCmp c a b = !Nat.blt b a := by
  match c with
  | 0 => exact (h0 rfl).elim
  | 1 => exact (h1 rfl).elim
  | 2 => exact (h2 rfl).elim
  | 3 => exact (h3 rfl).elim
  | 4 => exact (h4 rfl).elim
  | n + 5 => rfl
theorem sCmpG_ok {c : Nat} {x y : vAV} {u w : Nat} {T F : Option sG} (hG : sGr ρ G) (hx : sV ρ x (.inl u)) (hy : sV ρ y (.inl w)) (h : sCmpG c G x y = some (T, F)) : ∃ G', (bif kCmp c (sBi u) (sBi w) then T else F) = some G' ∧ sGr ρ G' := by
  unfold sCmpG at h
  split at h
  · obtain ⟨a, b⟩ := sEqG_ok hG hx hy h
    show ∃ G', (bif Nat.beq (sBi u) (sBi w) then T else F) = some G' ∧ sGr ρ G'
    cases hb : Nat.beq (sBi u) (sBi w) with
    | true => exact a (Nat.eq_of_beq_eq_true hb)
    | false => exact b (kbeq hb)
  · obtain ⟨a, b⟩ := sEqG_ok hG hx hy (sSwp_eq h)
    show ∃ G', (bif !Nat.beq (sBi u) (sBi w) then T else F) = some G' ∧ sGr ρ G'
    cases hb : Nat.beq (sBi u) (sBi w) with
    | true => exact a (Nat.eq_of_beq_eq_true hb)
    | false => exact b (kbeq hb)
  · obtain ⟨a, b⟩ := sLtG_ok hG hx hy h
    show ∃ G', (bif Nat.blt (sBi u) (sBi w) then T else F) = some G' ∧ sGr ρ G'
    cases hb : Nat.blt (sBi u) (sBi w) with
    | true => exact a (Nat.blt_eq.mp hb)
    | false => exact b (kblt hb)
  · obtain ⟨a, b⟩ := sLtG_ok hG hx hy (sSwp_eq h)
    show ∃ G', (bif !Nat.blt (sBi u) (sBi w) then T else F) = some G' ∧ sGr ρ G'
    cases hb : Nat.blt (sBi u) (sBi w) with
    | true => exact a (Nat.blt_eq.mp hb)
    | false => exact b (kblt hb)
  · obtain ⟨a, b⟩ := sLtG_ok hG hy hx h
    show ∃ G', (bif Nat.blt (sBi w) (sBi u) then T else F) = some G' ∧ sGr ρ G'
    cases hb : Nat.blt (sBi w) (sBi u) with
    | true => exact a (Nat.blt_eq.mp hb)
    | false => exact b (kblt hb)
  · next h0 h1 h2 h3 h4 =>
    obtain ⟨a, b⟩ := sLtG_ok hG hy hx (sSwp_eq h)
    rw [kCmp_le h0 h1 h2 h3 h4]
    cases hb : Nat.blt (sBi w) (sBi u) with
    | true => exact a (Nat.blt_eq.mp hb)
    | false => exact b (kblt hb)
def sBoth (pc a : Nat) (ls : vLs) (st : List vAV) (h : sHp) (T F : Option sG) : List sSt := (match T with
  | some G' => [(a, ls, st, h, G')]
  | none => []) ++ (match F with
  | some G' => [(pc, ls, st, h, G')]
  | none => [])
noncomputable def sIc (c pc a : Nat) (ls : vLs) (st : List vAV) (h : sHp) (G : sG) : Option (List sSt) := match st with
  | y :: x :: st' => bif Nat.beq (sKd x) 0 && Nat.beq (sKd y) 0 then (match sCmpG c G x y with
    | some (T, F) => some (sBoth pc a ls st' h T F)
    | none => none) else none
  | _ => none
noncomputable def sIf (c pc a : Nat) (ls : vLs) (st : List vAV) (h : sHp) (G : sG) : Option (List sSt) := match st with
  | x :: st' => bif Nat.beq (sKd x) 0 then (match sCmpG c G x (.inl 0) with
    | some (T, F) => some (sBoth pc a ls st' h T F)
    | none => none) else none
  | _ => none
theorem sBoth_ok {c pc a : Nat} {T F : Option sG} {bu bw : Nat} (hl : sLr ρ ls kl) (ht : sTr ρ st ks) (hh : sHr ρ h hp) (hf : sFr md hp0 hp) (hc : ∃ G', (bif kCmp c bu bw then T else F) = some G' ∧ sGr ρ G') : sOut md hp0 ρ (sBoth pc a ls st h T F) (some ((bif kCmp c bu bw then a else pc), kl, ks, hp)) := by
  obtain ⟨G', h1, h2⟩ := hc
  cases hb : kCmp c bu bw with
  | true =>
    rw [hb, cond_true] at h1
    subst h1
    exact sOut_one [] (List.mem_append_left _ List.mem_cons_self) rfl (by rw [List.append_nil]; exact ⟨hl, ht, hh, h2, hf⟩)
  | false =>
    rw [hb, cond_false] at h1
    subst h1
    exact sOut_one [] (List.mem_append_right _ List.mem_cons_self) rfl (by rw [List.append_nil]; exact ⟨hl, ht, hh, h2, hf⟩)
theorem sIc_ok {c pc a : Nat} (hR : sR md hp0 ρ ls st h G kl ks hp) (he : sIc c pc a ls st h G = some L) : ∃ u w ks', u < 4294967296 ∧ w < 4294967296 ∧ ks = .inl w :: .inl u :: ks' ∧ sOut md hp0 ρ L (some ((bif kCmp c (sBi u) (sBi w) then a else pc), kl, ks', hp)) := by
  obtain ⟨hl, ht, hh, hG, hf⟩ := hR
  unfold sIc at he
  split at he
  · next y x st' =>
    match ks, ht with
    | [_], ht => exact ht.2.elim
    | ky :: kx :: ks', ht =>
      obtain ⟨hy, hx, ht⟩ := ht
      cases hb : (Nat.beq (sKd x) 0 && Nat.beq (sKd y) 0) with
      | false => rw [hb] at he; cases he
      | true =>
        rw [hb, cond_true] at he
        rw [Bool.and_eq_true] at hb
        obtain ⟨u, hu, rfl⟩ := sInt hx hb.1
        obtain ⟨w, hw, rfl⟩ := sInt hy hb.2
        split at he
        · next T F hc =>
          cases he
          exact ⟨u, w, ks', hu, hw, rfl, sBoth_ok hl ht hh hf (sCmpG_ok hG hx hy hc)⟩
        · cases he
  · cases he
theorem sIf_ok {c pc a : Nat} (hR : sR md hp0 ρ ls st h G kl ks hp) (he : sIf c pc a ls st h G = some L) : ∃ u ks', u < 4294967296 ∧ ks = .inl u :: ks' ∧ sOut md hp0 ρ L (some ((bif kCmp c (sBi u) 2147483648 then a else pc), kl, ks', hp)) := by
  obtain ⟨hl, ht, hh, hG, hf⟩ := hR
  unfold sIf at he
  split at he
  · next x st' =>
    match ks, ht with
    | kx :: ks', ht =>
      obtain ⟨hx, ht⟩ := ht
      cases hb : Nat.beq (sKd x) 0 with
      | false => rw [hb] at he; cases he
      | true =>
        rw [hb, cond_true] at he
        obtain ⟨u, hu, rfl⟩ := sInt hx hb
        split at he
        · next T F hc =>
          cases he
          exact ⟨u, ks', hu, rfl, sBoth_ok hl ht hh hf (sCmpG_ok (u := u) (w := 0) (y := .inl 0) hG hx (show sV ρ (.inl 0) (.inl 0) from ⟨by decide, rfl⟩) hc)⟩
        · cases he
  · cases he
end SBR
end
section
/-! ===== longs, conversions, what is left ===== -/
theorem vIv_k (u : Nat) : vIv (.inl u) = some (sBi u, sBi u) := by
  unfold vIv
  simp only [vF_eq]
  rfl
theorem vLt_k (r s : Nat) : vLt (r, r) (s, s) = some (Nat.blt r s) := by
  unfold vLt
  dsimp only
  cases hb : Nat.blt r s with
  | true => rfl
  | false =>
    have h := kblt hb
    rw [cond_false, Nat.ble_eq_true_of_le (show s ≤ r by omega), cond_true]
theorem vEq_k (r s : Nat) : vEq (r, r) (s, s) = some (Nat.beq r s) := by
  unfold vEq
  dsimp only
  cases hb : Nat.beq r s with
  | true =>
    have e := Nat.eq_of_beq_eq_true hb
    subst e
    have e2 : Nat.blt r r = false := by
      cases h1 : Nat.blt r r with
      | false => rfl
      | true => exact absurd (Nat.blt_eq.mp h1) (Nat.lt_irrefl _)
    have e3 : Nat.beq r r = true := by simp
    rw [e2, cond_false, cond_false, e3]
    rfl
  | false =>
    have h := kbeq hb
    by_cases h1 : r < s
    · rw [Nat.blt_eq.mpr h1, cond_true]
    · have e2 : Nat.blt r s = false := by
        cases h2 : Nat.blt r s with
        | false => rfl
        | true => exact absurd (Nat.blt_eq.mp h2) h1
      rw [e2, cond_false, Nat.blt_eq.mpr (show s < r by omega), cond_true]
section SMO
variable {md : sMd} {hp0 : List vOb} {ρ : List Nat} {ls : vLs} {st : List vAV} {h : sHp} {G : sG} {kl : vLs} {ks : List vAV} {hp : List vOb} {L : List sSt}
theorem vBr_k (b : Bool) (pc a : Nat) : vBr (some b) pc a kl ks hp = some ((bif b then a else pc), kl, ks, hp) := by cases b <;> rfl
theorem vIc_e {f : Nat × Nat → Nat × Nat → Option Bool} {pc a : Nat} {x y : vAV} {q r : Nat × Nat} (h1 : vIv x = some q) (h2 : vIv y = some r) : vIc f pc a kl (y :: x :: ks) hp = vBr (f q r) pc a kl ks hp := by
  unfold vIc
  simp only [h1, h2]
theorem vIf_e {f : Nat × Nat → Nat × Nat → Option Bool} {pc a : Nat} {x : vAV} {q : Nat × Nat} (h1 : vIv x = some q) : vIf f pc a kl (x :: ks) hp = vBr (f q (2147483648, 2147483648)) pc a kl ks hp := by
  unfold vIf
  simp only [h1]
theorem vIc_k {f : Nat × Nat → Nat × Nat → Option Bool} {c pc a u w : Nat} (hf : ∀ r s, f (r, r) (s, s) = some (kCmp c r s)) : vIc f pc a kl (.inl w :: .inl u :: ks) hp = some ((bif kCmp c (sBi u) (sBi w) then a else pc), kl, ks, hp) :=
  (vIc_e (vIv_k u) (vIv_k w)).trans ((congrArg (fun o => vBr o pc a kl ks hp) (hf (sBi u) (sBi w))).trans (vBr_k _ pc a))
theorem vIf_k {f : Nat × Nat → Nat × Nat → Option Bool} {c pc a u : Nat} (hf : ∀ r s, f (r, r) (s, s) = some (kCmp c r s)) : vIf f pc a kl (.inl u :: ks) hp = some ((bif kCmp c (sBi u) 2147483648 then a else pc), kl, ks, hp) :=
  (vIf_e (vIv_k u)).trans ((congrArg (fun o => vBr o pc a kl ks hp) (hf (sBi u) 2147483648)).trans (vBr_k _ pc a))
theorem kf_eq : ∀ r s, vEq (r, r) (s, s) = some (kCmp 0 r s) := fun r s => vEq_k r s
theorem kf_ne : ∀ r s, (fun x y => vNot (vEq x y)) (r, r) (s, s) = some (kCmp 1 r s) := fun r s => by
  show vNot (vEq (r, r) (s, s)) = some (!Nat.beq r s)
  rw [vEq_k]
  cases Nat.beq r s <;> rfl
theorem kf_lt : ∀ r s, vLt (r, r) (s, s) = some (kCmp 2 r s) := fun r s => vLt_k r s
theorem kf_ge : ∀ r s, (fun x y => vNot (vLt x y)) (r, r) (s, s) = some (kCmp 3 r s) := fun r s => by
  show vNot (vLt (r, r) (s, s)) = some (!Nat.blt r s)
  rw [vLt_k]
  cases Nat.blt r s <;> rfl
theorem kf_gt : ∀ r s, (fun x y => vLt y x) (r, r) (s, s) = some (kCmp 4 r s) := fun r s => vLt_k s r
theorem kf_le : ∀ r s, (fun x y => vNot (vLt y x)) (r, r) (s, s) = some (kCmp 5 r s) := fun r s => by
  show vNot (vLt (s, s) (r, r)) = some (!Nat.blt s r)
  rw [vLt_k]
  cases Nat.blt s r <;> rfl
/-- some long -/
def sUnk : vAV := .inr (.inr (.inr (.inr 4)))
theorem sUnk_ok {u : Nat} (hu : u < 18446744073709551616) : sV ρ sUnk (.inr (.inr (.inl u))) := ⟨u, hu, rfl⟩
/-- two longs: some long; 'd' says that the second must not be 0 -/
def sNz (y : vAV) : Bool := match y with
  | .inr (.inr (.inl w)) => !Nat.beq w 0
  | _ => false
def sL2 (d : Bool) (pc : Nat) (ls : vLs) (st : List vAV) (h : sHp) (G : sG) : Option (List sSt) := match st with
  | y :: x :: st' => bif (sLng (.inl x) && sLng (.inl y)) && (!d || sNz y) then some [(pc, ls, sUnk :: st', h, G)] else none
  | _ => none
theorem sL2_ok {d : Bool} {pc : Nat} (hR : sR md hp0 ρ ls st h G kl ks hp) (he : sL2 d pc ls st h G = some L) : ∃ u w ks', u < 18446744073709551616 ∧ w < 18446744073709551616 ∧ ks = .inr (.inr (.inl w)) :: .inr (.inr (.inl u)) :: ks' ∧ (d = true → w ≠ 0) ∧ ∀ z, z < 18446744073709551616 → sOut md hp0 ρ L (some (pc, kl, .inr (.inr (.inl z)) :: ks', hp)) := by
  obtain ⟨hl, ht, hh, hG, hf⟩ := hR
  unfold sL2 at he
  split at he
  · next y x st' =>
    match ks, ht with
    | [_], ht => exact ht.2.elim
    | ky :: kx :: ks', ht =>
      obtain ⟨hy, hx, ht⟩ := ht
      cases hb : ((sLng (.inl x) && sLng (.inl y)) && (!d || sNz y)) with
      | false => rw [hb] at he; cases he
      | true =>
        rw [hb, cond_true] at he
        cases he
        rw [Bool.and_eq_true, Bool.and_eq_true] at hb
        obtain ⟨u, hu, rfl⟩ := sLng_ok (c := .inl x) hb.1.1 hx
        obtain ⟨w, hw, rfl⟩ := sLng_ok (c := .inl y) hb.1.2 hy
        refine ⟨u, w, ks', hu, hw, rfl, fun hd h0 => ?_, fun z hz => sOut_now rfl ⟨hl, ⟨sUnk_ok hz, ht⟩, hh, hG, hf⟩⟩
        subst hd h0
        have hb2 := hb.2
        rw [Bool.not_true, Bool.false_or] at hb2
        unfold sNz at hb2
        split at hb2
        · next w' =>
          have e : (Sum.inr (Sum.inr (Sum.inl 0)) : vAV) = .inr (.inr (.inl w')) := hy.2
          cases e
          cases hb2
        · cases hb2
  · cases he
theorem vL2_k (f : Nat → Nat → Nat) (pc u w : Nat) : vL2 f pc kl (.inr (.inr (.inl w)) :: .inr (.inr (.inl u)) :: ks) hp = some (pc, kl, .inr (.inr (.inl (f u w))) :: ks, hp) := by
  unfold vL2
  simp only [vF_eq]
theorem vL2d_k {f g : Nat → Nat → Nat} {pc u w : Nat} (h0 : w ≠ 0) (hf : f u w < 18446744073709551616) (hg : g u w < 18446744073709551616) : ∃ z, z < 18446744073709551616 ∧ vL2d f g pc kl (.inr (.inr (.inl w)) :: .inr (.inr (.inl u)) :: ks) hp = some (pc, kl, .inr (.inr (.inl z)) :: ks, hp) := by
  unfold vL2d
  dsimp only
  cases hb : (Nat.blt u 9223372036854775808 && Nat.blt w 9223372036854775808 && Nat.blt 0 w) with
  | true => rw [cond_true, vF_eq]; exact ⟨_, hf, rfl⟩
  | false =>
    have e : Nat.beq w 0 = false := by
      cases h1 : Nat.beq w 0 with
      | false => rfl
      | true => exact absurd (Nat.eq_of_beq_eq_true h1) h0
    rw [cond_false, e, cond_false]
    exact ⟨_, hg, rfl⟩
noncomputable def sLcmp (pc : Nat) (ls : vLs) (st : List vAV) (h : sHp) (G : sG) : Option (List sSt) := match st with
  | y :: x :: st' => bif sLng (.inl x) && sLng (.inl y) then (match sMk G [(2147483647, 2147483649)] with
    | (G', v) => some [(pc, ls, v :: st', h, G')]) else none
  | _ => none
theorem sLcmp_ok {pc : Nat} (hR : sR md hp0 ρ ls st h G kl ks hp) (he : sLcmp pc ls st h G = some L) : sOut md hp0 ρ L (vLc pc kl ks hp) := by
  obtain ⟨hl, ht, hh, hG, hf⟩ := hR
  unfold sLcmp at he
  split at he
  · next y x st' =>
    match ks, ht with
    | [_], ht => exact ht.2.elim
    | ky :: kx :: ks', ht =>
      obtain ⟨hy, hx, ht⟩ := ht
      cases hb : (sLng (.inl x) && sLng (.inl y)) with
      | false => rw [hb] at he; cases he
      | true =>
        rw [hb, cond_true] at he
        have he := Option.some.inj he
        rw [Bool.and_eq_true] at hb
        obtain ⟨u, hu, rfl⟩ := sLng_ok (c := .inl x) hb.1 hx
        obtain ⟨w, hw, rfl⟩ := sLng_ok (c := .inl y) hb.2 hy
        have hr : ∃ z, (z = 4294967295 ∨ z = 0 ∨ z = 1) ∧ vLc pc kl (.inr (.inr (.inl w)) :: .inr (.inr (.inl u)) :: ks') hp = some (pc, kl, .inl z :: ks', hp) := by
          unfold vLc
          simp only [vF_eq]
          cases Nat.blt ((u + 9223372036854775808) % 18446744073709551616) ((w + 9223372036854775808) % 18446744073709551616) with
          | true => exact ⟨_, Or.inl rfl, rfl⟩
          | false =>
            cases Nat.beq ((u + 9223372036854775808) % 18446744073709551616) ((w + 9223372036854775808) % 18446744073709551616) with
            | true => exact ⟨_, Or.inr (Or.inl rfl), rfl⟩
            | false => exact ⟨_, Or.inr (Or.inr rfl), rfl⟩
        obtain ⟨z, hz, hr⟩ := hr
        have hz2 : z < 4294967296 ∧ sIn [(2147483647, 2147483649)] (sBi z) := by
          rcases hz with rfl | rfl | rfl
          · exact ⟨by decide, sIn_one (by decide) (by decide)⟩
          · exact ⟨by decide, sIn_one (by decide) (by decide)⟩
          · exact ⟨by decide, sIn_one (by decide) (by decide)⟩
        obtain ⟨xs, m1, m2⟩ := sMk_ok hG hz2.1 hz2.2
        subst he
        exact sOut_one xs List.mem_cons_self hr ⟨sLr_app xs hl, ⟨m2, sTr_app xs ht⟩, sHr_app xs hh, m1, hf⟩
  · cases he
/-- an int of which a set is known -/
noncomputable def sI1 (S : sSet) (pc : Nat) (ls : vLs) (st : List vAV) (h : sHp) (G : sG) : Option (List sSt) := match st with
  | x :: st' => bif Nat.beq (sKd x) 0 then (match sMk G S with
    | (G', v) => some [(pc, ls, v :: st', h, G')]) else none
  | _ => none
theorem sI1_ok {S : sSet} {pc : Nat} {f : Nat → Nat} (hS : ∀ u, f u < 4294967296 ∧ sIn S (sBi (f u))) (hR : sR md hp0 ρ ls st h G kl ks hp) (he : sI1 S pc ls st h G = some L) : ∃ u ks', u < 4294967296 ∧ ks = .inl u :: ks' ∧ sOut md hp0 ρ L (some (pc, kl, .inl (f u) :: ks', hp)) := by
  obtain ⟨hl, ht, hh, hG, hf⟩ := hR
  unfold sI1 at he
  split at he
  · next x st' =>
    match ks, ht with
    | kx :: ks', ht =>
      cases hb : Nat.beq (sKd x) 0 with
      | false => rw [hb] at he; cases he
      | true =>
        rw [hb, cond_true] at he
        have he := Option.some.inj he
        obtain ⟨u, hu, rfl⟩ := sInt ht.1 hb
        obtain ⟨xs, m1, m2⟩ := sMk_ok hG (hS u).1 (hS u).2
        subst he
        exact ⟨u, ks', hu, rfl, sOut_one xs List.mem_cons_self rfl ⟨sLr_app xs hl, ⟨m2, sTr_app xs ht.2⟩, sHr_app xs hh, m1, hf⟩⟩
  · cases he
def sI2l (pc : Nat) (ls : vLs) (st : List vAV) (h : sHp) (G : sG) : Option (List sSt) := match st with
  | x :: st' => bif Nat.beq (sKd x) 0 then some [(pc, ls, sUnk :: st', h, G)] else none
  | _ => none
theorem sI2l_ok {pc : Nat} (hR : sR md hp0 ρ ls st h G kl ks hp) (he : sI2l pc ls st h G = some L) : sOut md hp0 ρ L (vI2l pc kl ks hp) := by
  obtain ⟨hl, ht, hh, hG, hf⟩ := hR
  unfold sI2l at he
  split at he
  · next x st' =>
    match ks, ht with
    | kx :: ks', ht =>
      cases hb : Nat.beq (sKd x) 0 with
      | false => rw [hb] at he; cases he
      | true =>
        rw [hb, cond_true] at he
        cases he
        obtain ⟨u, hu, rfl⟩ := sInt ht.1 hb
        unfold vI2l
        dsimp only
        cases Nat.blt u 2147483648 with
        | true => exact sOut_now rfl ⟨hl, ⟨sUnk_ok (by omega), ht.2⟩, hh, hG, hf⟩
        | false => exact sOut_now (kl' := kl) (ks' := .inr (.inr (.inl (u + 18446744069414584320))) :: ks') (hp' := hp) (by rw [cond_false, vF_eq]) ⟨hl, ⟨sUnk_ok (by omega), ht.2⟩, hh, hG, hf⟩
  · cases he
noncomputable def sL2i (pc : Nat) (ls : vLs) (st : List vAV) (h : sHp) (G : sG) : Option (List sSt) := match st with
  | x :: st' => bif sLng (.inl x) then (match sMk G sFull with
    | (G', v) => some [(pc, ls, v :: st', h, G')]) else none
  | _ => none
theorem sL2i_ok {pc : Nat} (hR : sR md hp0 ρ ls st h G kl ks hp) (he : sL2i pc ls st h G = some L) : sOut md hp0 ρ L (vL2i pc kl ks hp) := by
  obtain ⟨hl, ht, hh, hG, hf⟩ := hR
  unfold sL2i at he
  split at he
  · next x st' =>
    match ks, ht with
    | kx :: ks', ht =>
      cases hb : sLng (.inl x) with
      | false => rw [hb] at he; cases he
      | true =>
        rw [hb, cond_true] at he
        have he := Option.some.inj he
        obtain ⟨u, hu, rfl⟩ := sLng_ok (c := .inl x) hb ht.1
        have hlt : u % 4294967296 < 4294967296 := Nat.mod_lt _ (by decide)
        obtain ⟨xs, m1, m2⟩ := sMk_ok hG hlt (sIn_full (sBi_lt _))
        subst he
        refine sOut_one xs List.mem_cons_self (kl := kl) (ks := .inl (u % 4294967296) :: ks') (hp := hp) ?_ ⟨sLr_app xs hl, ⟨m2, sTr_app xs ht.2⟩, sHr_app xs hh, m1, hf⟩
        unfold vL2i
        dsimp only
        rw [vF_eq]
  · cases he
end SMO
end
section
/-! ===== switches ===== -/
def sCvr : List (Nat × Nat) → Nat → Bool
  | [], n => Nat.ble 4294967296 n
  | q :: ps, n => Nat.beq q.1 n && sCvr ps (q.2 + 1)
theorem sCvr_ok : ∀ {ps : List (Nat × Nat)} {n x : Nat}, sCvr ps n = true → n ≤ x → x < 4294967296 → ∃ q ∈ ps, q.1 ≤ x ∧ x ≤ q.2
  | [], n, x, h, h1, h2 => by
    have := Nat.le_of_ble_eq_true h
    omega
  | q :: ps, n, x, h, h1, h2 => by
    have h : (Nat.beq q.1 n && sCvr ps (q.2 + 1)) = true := h
    rw [Bool.and_eq_true] at h
    have e := Nat.eq_of_beq_eq_true h.1
    by_cases hx : x ≤ q.2
    · exact ⟨q, List.mem_cons_self, by omega, hx⟩
    · obtain ⟨r, r1, r2⟩ := sCvr_ok h.2 (show q.2 + 1 ≤ x by omega) h2
      exact ⟨r, List.mem_cons_of_mem _ r1, r2⟩
theorem vTab_in {pc : Nat} {dflt lo hi : Int} {offs : Array Int} {q : Nat × Nat} {pc' : Nat} {r : vLs × List vAV × List vOb} (h : vTab pc dflt lo hi offs [] [.inr (.inl q)] [] = some (pc', r)) {x : vAV} {b : Nat} (hx : vIv x = some (b, b)) (h1 : q.1 ≤ b) (h2 : b ≤ q.2) (kl : vLs) (ks : List vAV) (hp : List vOb) : vTab pc dflt lo hi offs kl (x :: ks) hp = some (pc', kl, ks, hp) := by
  unfold vTab at h ⊢
  have e : vIv (.inr (.inl q)) = some q := rfl
  simp only [e] at h
  simp only [hx]
  by_cases c1 : (q.2 : Int) - 2147483648 < lo ∨ hi < (q.1 : Int) - 2147483648
  · rw [if_pos c1] at h
    have c2 : (b : Int) - 2147483648 < lo ∨ hi < (b : Int) - 2147483648 := by omega
    rw [if_pos c2]
    by_cases c3 : 0 ≤ (pc : Int) + dflt
    · rw [if_pos c3] at h ⊢
      have e1 := (Prod.mk.inj (Option.some.inj h)).1
      rw [e1]
    · rw [if_neg c3] at h; cases h
  · rw [if_neg c1] at h
    by_cases c4 : q.1 = q.2 ∧ lo ≤ (q.1 : Int) - 2147483648 ∧ (q.1 : Int) - 2147483648 ≤ hi
    · rw [if_pos c4] at h
      have eb : b = q.1 := by omega
      subst eb
      have c5 : ¬ ((q.1 : Int) - 2147483648 < lo ∨ hi < (q.1 : Int) - 2147483648) := by omega
      rw [if_neg c5, if_pos ⟨trivial, c4.2⟩]
      split at h
      · next off ho =>
        by_cases c3 : 0 ≤ (pc : Int) + off
        · rw [if_pos c3] at h ⊢
          have e1 := (Prod.mk.inj (Option.some.inj h)).1
          rw [e1]
        · rw [if_neg c3] at h; cases h
      · cases h
    · rw [if_neg c4] at h; cases h
noncomputable def sSwt (pc : Nat) (dflt lo hi : Int) (offs : Array Int) (x : vAV) (ls : vLs) (st : List vAV) (h : sHp) (G : sG) : List (Nat × Nat) → Option (List sSt)
  | [] => some []
  | q :: ps => match sSwt pc dflt lo hi offs x ls st h G ps with
    | none => none
    | some R => match sRef G x [q] with
      | none => some R
      | some G' => match vTab pc dflt lo hi offs [] [.inr (.inl q)] [] with
        | some (pc', _) => vF pc' (fun pc' => some ((pc', ls, st, h, G') :: R))
        | none => none
def sOnes : Nat → Nat → List (Nat × Nat) → List (Nat × Nat)
  | 0, _, t => t
  | n + 1, a, t => (a, a) :: sOnes n (a + 1) t
def sPcs (a b : Nat) : List (Nat × Nat) := (0, a - 1) :: sOnes (b + 1 - a) a [(b + 1, 4294967295)]
noncomputable def sTab (pc : Nat) (dflt lo hi : Int) (offs : Array Int) (ls : vLs) (st : List vAV) (h : sHp) (G : sG) : Option (List sSt) := match st with
  | x :: st' => bif Nat.beq (sKd x) 0 && sCvr (sPcs (lo + 2147483648).toNat (hi + 2147483648).toNat) 0 then sSwt pc dflt lo hi offs x ls st' h G (sPcs (lo + 2147483648).toNat (hi + 2147483648).toNat) else none
  | _ => none
section SSW
variable {md : sMd} {hp0 : List vOb} {ρ : List Nat} {ls : vLs} {st : List vAV} {h : sHp} {G : sG} {kl : vLs} {ks : List vAV} {hp : List vOb}
theorem sSwt_ok {pc : Nat} {dflt lo hi : Int} {offs : Array Int} {x : vAV} {u : Nat} (hl : sLr ρ ls kl) (ht : sTr ρ st ks) (hh : sHr ρ h hp) (hG : sGr ρ G) (hf : sFr md hp0 hp) (hx : sV ρ x (.inl u)) : ∀ (ps : List (Nat × Nat)) (L : List sSt), sSwt pc dflt lo hi offs x ls st h G ps = some L → (∃ q ∈ ps, q.1 ≤ sBi u ∧ sBi u ≤ q.2) → sOut md hp0 ρ L (vTab pc dflt lo hi offs kl (.inl u :: ks) hp)
  | [], L, _, ⟨q, hq, _⟩ => by cases hq
  | q :: ps, L, he, hq => by
    unfold sSwt at he
    split at he
    · cases he
    · next R hR =>
      by_cases hin : q.1 ≤ sBi u ∧ sBi u ≤ q.2
      · obtain ⟨G', g1, g2⟩ := sRef_ok hG hx (S := [q]) (sIn_one hin.1 hin.2)
        rw [g1] at he
        dsimp only at he
        split at he
        · next pc' r hv =>
          rw [vF_eq] at he
          cases he
          exact sOut_one [] List.mem_cons_self (vTab_in hv (vIv_k u) hin.1 hin.2 kl ks hp) (by rw [List.append_nil]; exact ⟨hl, ht, hh, g2, hf⟩)
        · cases he
      · have ih := sSwt_ok hl ht hh hG hf hx ps R hR (by
          obtain ⟨r, r1, r2⟩ := hq
          rcases List.mem_cons.mp r1 with e | e
          · rw [e] at r2; exact absurd r2 hin
          · exact ⟨r, e, r2⟩)
        split at he
        · cases he; exact ih
        · split at he
          · rw [vF_eq] at he
            cases he
            obtain ⟨a1, a2, a3, a4, a5, σ, a6, a7⟩ := ih
            exact ⟨a1, a2, a3, a4, a5, σ, List.mem_cons_of_mem _ a6, a7⟩
          · cases he
theorem sTab_ok {pc : Nat} {dflt lo hi : Int} {offs : Array Int} {L : List sSt} (hR : sR md hp0 ρ ls st h G kl ks hp) (he : sTab pc dflt lo hi offs ls st h G = some L) : sOut md hp0 ρ L (vTab pc dflt lo hi offs kl ks hp) := by
  obtain ⟨hl, ht, hh, hG, hf⟩ := hR
  unfold sTab at he
  split at he
  · next x st' =>
    match ks, ht with
    | kx :: ks', ht =>
      cases hb : (Nat.beq (sKd x) 0 && sCvr (sPcs (lo + 2147483648).toNat (hi + 2147483648).toNat) 0) with
      | false => rw [hb] at he; cases he
      | true =>
        rw [hb, cond_true] at he
        rw [Bool.and_eq_true] at hb
        obtain ⟨u, hu, rfl⟩ := sInt ht.1 hb.1
        exact sSwt_ok hl ht.2 hh hG hf ht.1 _ _ he (sCvr_ok hb.2 (Nat.zero_le _) (sBi_lt u))
  · cases he
end SSW
end
section
/-! ===== a step, whatever it is ===== -/
section SSP
variable {md : sMd} {hp0 : List vOb} {ρ : List Nat} {ls : vLs} {st : List vAV} {h : sHp} {G : sG} {kl : vLs} {ks : List vAV} {hp : List vOb} {L : List sSt}
noncomputable def sLoo (pc : Nat) (dflt : Int) (x : vAV) (ls : vLs) (st : List vAV) (h : sHp) : List (Int × Int) → sG → Option (List sSt)
  | [], G => if 0 ≤ (pc : Int) + dflt then some [(((pc : Int) + dflt).toNat, ls, st, h, G)] else none
  | p :: ps, G => if 0 ≤ p.1 ∧ p.1 < 2147483648 ∧ 0 ≤ (pc : Int) + p.2 then (match sEqG G x (.inl p.1.toNat) with
    | some (T, F) => (match (match F with
      | some G' => sLoo pc dflt x ls st h ps G'
      | none => some []) with
      | some R => (match T with
        | some G' => some ((((pc : Int) + p.2).toNat, ls, st, h, G') :: R)
        | none => some R)
      | none => none)
    | none => none) else none
theorem kn_key {u : Nat} {a : Int} (hu : u < 4294967296) (h0 : 0 ≤ a) (h1 : a < 2147483648) : (a = (nI u).toInt) ↔ sBi u = sBi a.toNat := by
  have e := kn_bi (nI u)
  rw [kn_nI hu] at e
  have e2 : sBi a.toNat = a.toNat + 2147483648 := sBi_of (by omega)
  omega
theorem sLoo_ok {pc : Nat} {dflt : Int} {x : vAV} {u : Nat} (hl : sLr ρ ls kl) (ht : sTr ρ st ks) (hh : sHr ρ h hp) (hf : sFr md hp0 hp) (hu : u < 4294967296) (hx : sV ρ x (.inl u)) : ∀ (ps : List (Int × Int)) (G : sG) (L : List sSt), sGr ρ G → sLoo pc dflt x ls st h ps G = some L → 0 ≤ (pc : Int) + Op.lookupswitch.offset ps dflt (nI u).toInt ∧ sOut md hp0 ρ L (some (((pc : Int) + Op.lookupswitch.offset ps dflt (nI u).toInt).toNat, kl, ks, hp))
  | [], G, L, hG, he => by
    unfold sLoo at he
    by_cases c : 0 ≤ (pc : Int) + dflt
    · rw [if_pos c] at he
      cases he
      exact ⟨c, sOut_now rfl ⟨hl, ht, hh, hG, hf⟩⟩
    · rw [if_neg c] at he; cases he
  | p :: ps, G, L, hG, he => by
    unfold sLoo at he
    by_cases c : 0 ≤ p.1 ∧ p.1 < 2147483648 ∧ 0 ≤ (pc : Int) + p.2
    · rw [if_pos c] at he
      have hoff : Op.lookupswitch.offset (p :: ps) dflt (nI u).toInt = if p.1 = (nI u).toInt then p.2 else Op.lookupswitch.offset ps dflt (nI u).toInt := rfl
      have hkey := kn_key hu c.1 c.2.1
      split at he
      · next T F hc =>
        obtain ⟨e1, e2⟩ := sEqG_ok (y := .inl p.1.toNat) (w := p.1.toNat) hG hx ⟨by omega, rfl⟩ hc
        by_cases hk : sBi u = sBi p.1.toNat
        · obtain ⟨G', rfl, g2⟩ := e1 hk
          rw [hoff, if_pos (hkey.mpr hk)]
          split at he
          · cases he
            exact ⟨c.2.2, sOut_one [] List.mem_cons_self rfl (by rw [List.append_nil]; exact ⟨hl, ht, hh, g2, hf⟩)⟩
          · cases he
        · obtain ⟨G', rfl, g2⟩ := e2 hk
          rw [hoff, if_neg (fun q => hk (hkey.mp q))]
          dsimp only at he
          split at he
          · next R hR =>
            obtain ⟨r1, r2⟩ := sLoo_ok hl ht hh hf hu hx ps G' R g2 hR
            refine ⟨r1, ?_⟩
            split at he
            · cases he
              obtain ⟨a1, a2, a3, a4, a5, σ, a6, a7⟩ := r2
              exact ⟨a1, a2, a3, a4, a5, σ, List.mem_cons_of_mem _ a6, a7⟩
            · cases he; exact r2
          · cases he
      · cases he
    · rw [if_neg c] at he; cases he
noncomputable def sLook (pc : Nat) (dflt : Int) (ps : Array (Int × Int)) (ls : vLs) (st : List vAV) (h : sHp) (G : sG) : Option (List sSt) := match st with
  | x :: st' => bif Nat.beq (sKd x) 0 && (ps.toList.zip (ps.toList.drop 1)).all (fun (a, next) => a.1 < next.1) then sLoo pc dflt x ls st' h ps.toList G else none
  | _ => none
theorem sLook_ok {pc : Nat} {dflt : Int} {ps : Array (Int × Int)} (hR : sR md hp0 ρ ls st h G kl ks hp) (he : sLook pc dflt ps ls st h G = some L) : sOut md hp0 ρ L (vLoo pc dflt ps kl ks hp) := by
  obtain ⟨hl, ht, hh, hG, hf⟩ := hR
  unfold sLook at he
  split at he
  · next x st' =>
    match ks, ht with
    | kx :: ks', ht =>
      cases hb : (Nat.beq (sKd x) 0 && (ps.toList.zip (ps.toList.drop 1)).all (fun (a, next) => a.1 < next.1)) with
      | false => rw [hb] at he; cases he
      | true =>
        rw [hb, cond_true] at he
        rw [Bool.and_eq_true] at hb
        obtain ⟨u, hu, rfl⟩ := sInt ht.1 hb.1
        obtain ⟨r1, r2⟩ := sLoo_ok hl ht.2 hh hf hu ht.1 _ _ _ hG he
        unfold vLoo
        dsimp only
        rw [hb.2, cond_true, if_pos r1]
        exact r2
  · cases he
noncomputable def sDup (pc : Nat) (ls : vLs) (st : List vAV) (h : sHp) (G : sG) : Option (List sSt) := match st with
  | v :: st' => bif Nat.beq (sKd v) 1 then none else some [(pc, ls, v :: v :: st', h, G)]
  | _ => none
noncomputable def sDup2 (pc : Nat) (ls : vLs) (st : List vAV) (h : sHp) (G : sG) : Option (List sSt) := match st with
  | v :: w :: st' => bif Nat.beq (sKd v) 1 || Nat.beq (sKd w) 1 then none else some [(pc, ls, v :: w :: v :: w :: st', h, G)]
  | _ => none
noncomputable def sPop (pc : Nat) (ls : vLs) (st : List vAV) (h : sHp) (G : sG) : Option (List sSt) := match st with
  | v :: st' => bif Nat.beq (sKd v) 1 then none else some [(pc, ls, st', h, G)]
  | _ => none
theorem sDup_ok {pc : Nat} (hR : sR md hp0 ρ ls st h G kl ks hp) (he : sDup pc ls st h G = some L) : sOut md hp0 ρ L (vDup pc kl ks hp) := by
  obtain ⟨hl, ht, hh, hG, hf⟩ := hR
  unfold sDup at he
  split at he
  · next v st' =>
    match ks, ht with
    | w :: ks', ht =>
      cases hb : Nat.beq (sKd v) 1 with
      | true => rw [hb] at he; cases he
      | false =>
        rw [hb, cond_false] at he
        cases he
        refine sOut_now (kl' := kl) (ks' := w :: w :: ks') (hp' := hp) ?_ ⟨hl, ⟨ht.1, ht⟩, hh, hG, hf⟩
        unfold vDup
        simp only [sKd_ok ht.1, hb, cond_false]
  · cases he
theorem sDup2_ok {pc : Nat} (hR : sR md hp0 ρ ls st h G kl ks hp) (he : sDup2 pc ls st h G = some L) : sOut md hp0 ρ L (vDup2 pc kl ks hp) := by
  obtain ⟨hl, ht, hh, hG, hf⟩ := hR
  unfold sDup2 at he
  split at he
  · next v w st' =>
    match ks, ht with
    | [_], ht => exact ht.2.elim
    | kv :: kw :: ks', ht =>
      cases hb : (Nat.beq (sKd v) 1 || Nat.beq (sKd w) 1) with
      | true => rw [hb] at he; cases he
      | false =>
        rw [hb, cond_false] at he
        cases he
        refine sOut_now (kl' := kl) (ks' := kv :: kw :: kv :: kw :: ks') (hp' := hp) ?_ ⟨hl, ⟨ht.1, ht.2.1, ht⟩, hh, hG, hf⟩
        unfold vDup2
        simp only [sKd_ok ht.1, sKd_ok ht.2.1, hb, cond_false]
  · cases he
theorem sPop_ok {pc : Nat} (hR : sR md hp0 ρ ls st h G kl ks hp) (he : sPop pc ls st h G = some L) : sOut md hp0 ρ L (vPop pc kl ks hp) := by
  obtain ⟨hl, ht, hh, hG, hf⟩ := hR
  unfold sPop at he
  split at he
  · next v st' =>
    match ks, ht with
    | w :: ks', ht =>
      cases hb : Nat.beq (sKd v) 1 with
      | true => rw [hb] at he; cases he
      | false =>
        rw [hb, cond_false] at he
        cases he
        refine sOut_now (kl' := kl) (ks' := ks') (hp' := hp) ?_ ⟨hl, ht.2, hh, hG, hf⟩
        unfold vPop
        simp only [sKd_ok ht.1, hb, cond_false]
  · cases he
noncomputable def sAln (pc : Nat) (ls : vLs) (st : List vAV) (h : sHp) (G : sG) : Option (List sSt) := match st with
  | .inr (.inr (.inr (.inl (some k)))) :: st' => match sGo h k with
    | some o => bif (Nat.beq (o.1 % 8) 0 || Nat.ble 6 (o.1 % 8)) then none else bif Nat.blt (sLen o.2.1) 65536 then vF (sLen o.2.1) (fun n => some [(pc, ls, .inl n :: st', h, G)]) else none
    | none => none
  | _ => none
theorem sAln_ok {pc : Nat} {sc : List vAV} {tx : List Nat} (hR : sR md hp0 ρ ls st h G kl ks hp) (he : sAln pc ls st h G = some L) : sOut md hp0 ρ L (vAln pc sc tx kl ks hp) := by
  obtain ⟨hl, ht, hh, hG, hf⟩ := hR
  unfold sAln at he
  split at he
  · next k st' =>
    match ks, ht with
    | kv :: ks', ht =>
      obtain ⟨hv, ht⟩ := ht
      have hv : kv = .inr (.inr (.inr (.inl (some k)))) := hv
      subst hv
      split at he
      · next o ho =>
        obtain ⟨ob, h1, h2⟩ := sHr_get hh ho
        cases hb : (Nat.beq (o.1 % 8) 0 || Nat.ble 6 (o.1 % 8)) with
        | true => rw [hb] at he; cases he
        | false =>
          rw [hb, cond_false] at he
          cases hn : Nat.blt (sLen o.2.1) 65536 with
          | false => rw [hn] at he; cases he
          | true =>
            rw [hn, cond_true, vF_eq] at he
            cases he
            have hn2 := Nat.blt_eq.mp hn
            refine sOut_now (kl' := kl) (ks' := .inl (sLen o.2.1) :: ks') (hp' := hp) ?_ ⟨hl, ⟨⟨by omega, rfl⟩, ht⟩, hh, hG, hf⟩
            unfold vAln
            simp only [vNth_eq, h1, h2.1, h2.2.1.1, hb, hn, cond_true, cond_false]
      · cases he
  · cases he
noncomputable def sInc (a b pc : Nat) (ls : vLs) (st : List vAV) (h : sHp) (G : sG) : Option (List sSt) := match vNth ls a with
  | some (some v) => bif Nat.beq (sKd v) 0 && Nat.blt b 4294967296 then (match sBin 0 G (sSimp G v) (.inl b) with
    | some L => some (L.map (fun e => (pc, sSet1 ls a e.2, st, h, e.1)))
    | none => none) else none
  | _ => none
theorem sInc_ok {a b pc : Nat} (hR : sR md hp0 ρ ls st h G kl ks hp) (he : sInc a b pc ls st h G = some L) : sOut md hp0 ρ L (vInc a b pc kl ks hp) := by
  obtain ⟨hl, ht, hh, hG, hf⟩ := hR
  unfold sInc at he
  rw [vNth_eq] at he
  split at he
  · next v hv =>
    obtain ⟨y, y1, y2⟩ := sLr_get hl a v hv
    cases hb : (Nat.beq (sKd v) 0 && Nat.blt b 4294967296) with
    | false => rw [hb] at he; cases he
    | true =>
      rw [hb, cond_true] at he
      rw [Bool.and_eq_true] at hb
      obtain ⟨u, hu, rfl⟩ := sInt y2 hb.1
      split at he
      · next L0 hL0 =>
        cases he
        obtain ⟨-, e, e1, xs, e2, e3⟩ := sBin_ok (op := 0) (y := .inl b) (w := b) (by omega) hG (sSimp_ok hG y2) ⟨Nat.blt_eq.mp hb.2, rfl⟩ hL0
        refine sOut_one xs (List.mem_map.mpr ⟨e, e1, rfl⟩) (kl := vSet1 kl a (.inl (sKop 0 u b))) (ks := ks) (hp := hp) ?_ ⟨sSet1_ok (sLr_app xs hl) a e3, sTr_app xs ht, sHr_app xs hh, e2, hf⟩
        unfold vInc
        simp only [vNth_eq, y1]
        unfold vB
        simp only [vF_eq]
        rfl
      · cases he
  · cases he
end SSP
end
section
/-! ===== the step ===== -/
section STP
variable {md : sMd} {hp0 : List vOb} {ρ : List Nat} {ls : vLs} {st : List vAV} {h : sHp} {G : sG} {kl : vLs} {ks : List vAV} {hp : List vOb} {L : List sSt}
theorem sI2c_in (u : Nat) : u % 65536 < 4294967296 ∧ sIn [(2147483648, 2147549183)] (sBi (u % 65536)) := by
  have hl : u % 65536 < 65536 := Nat.mod_lt _ (by decide)
  generalize u % 65536 = z at hl
  rw [sBi_of (by omega)]
  exact ⟨by omega, sIn_one (by omega) (by omega)⟩
theorem vI2c_k (pc u : Nat) : vI2c pc kl (.inl u :: ks) hp = some (pc, kl, .inl (u % 65536) :: ks, hp) := by
  unfold vI2c
  dsimp only
  rw [vF_eq]
def sLs (pc : Nat) (ls : vLs) (st : List vAV) (h : sHp) (G : sG) : Option (List sSt) := match st with
  | y :: x :: st' => bif Nat.beq (sKd y) 0 && sLng (.inl x) then some [(pc, ls, sUnk :: st', h, G)] else none
  | _ => none
theorem sLs_ok {pc : Nat} (hR : sR md hp0 ρ ls st h G kl ks hp) (he : sLs pc ls st h G = some L) : sOut md hp0 ρ L (vLsh pc kl ks hp) := by
  obtain ⟨hl, ht, hh, hG, hf⟩ := hR
  unfold sLs at he
  split at he
  · next y x st' =>
    match ks, ht with
    | [_], ht => exact ht.2.elim
    | ky :: kx :: ks', ht =>
      obtain ⟨hy, hx, ht⟩ := ht
      cases hb : (Nat.beq (sKd y) 0 && sLng (.inl x)) with
      | false => rw [hb] at he; cases he
      | true =>
        rw [hb, cond_true] at he
        cases he
        rw [Bool.and_eq_true] at hb
        obtain ⟨w, hw, rfl⟩ := sInt hy hb.1
        obtain ⟨u, hu, rfl⟩ := sLng_ok (c := .inl x) hb.2 hx
        exact sOut_now (kl' := kl) (ks' := .inr (.inr (.inl (kLshl u w))) :: ks') (hp' := hp) rfl ⟨hl, ⟨sUnk_ok (kl_lt _), ht⟩, hh, hG, hf⟩
  · cases he
noncomputable def sStep (md : sMd) (i : Instr) (len a b t pc : Nat) (ls : vLs) (st : List vAV) (h : sHp) (G : sG) : Option (List sSt) := match i with
  | .iconst _ => bif Nat.blt a 4294967296 then some [(pc + len, ls, .inl a :: st, h, G)] else none
  | .bipush _ => bif Nat.blt a 4294967296 then some [(pc + len, ls, .inl a :: st, h, G)] else none
  | .sipush _ => bif Nat.blt a 4294967296 then some [(pc + len, ls, .inl a :: st, h, G)] else none
  | .ldc _ => bif Nat.beq t 1 then none else bif Nat.blt a 4294967296 then some [(pc + len, ls, .inl a :: st, h, G)] else none
  | .ldc_w _ => bif Nat.blt a 4294967296 then some [(pc + len, ls, .inl a :: st, h, G)] else none
  | .lconst _ => bif Nat.blt a 18446744073709551616 then some [(pc + len, ls, .inr (.inr (.inl a)) :: st, h, G)] else none
  | .ldc2_w _ => bif Nat.blt a 18446744073709551616 then some [(pc + len, ls, .inr (.inr (.inl a)) :: st, h, G)] else none
  | .iload_n _ => sLd 0 a (pc + len) ls st h G
  | .iload _ => sLd 0 a (pc + len) ls st h G
  | .lload_n _ => sLd 1 a (pc + len) ls st h G
  | .lload _ => sLd 1 a (pc + len) ls st h G
  | .aload_n _ => sLd 3 a (pc + len) ls st h G
  | .aload _ => sLd 3 a (pc + len) ls st h G
  | .istore_n _ => sSt1 0 a (pc + len) ls st h G
  | .istore _ => sSt1 0 a (pc + len) ls st h G
  | .astore_n _ => sSt1 3 a (pc + len) ls st h G
  | .astore _ => sSt1 3 a (pc + len) ls st h G
  | .lstore_n _ => sSt2 a (pc + len) ls st h G
  | .lstore _ => sSt2 a (pc + len) ls st h G
  | .iinc _ _ => sInc a b (pc + len) ls st h G
  | .iadd => sBi2 0 (pc + len) ls st h G
  | .isub => sBi2 1 (pc + len) ls st h G
  | .imul => sBi2 2 (pc + len) ls st h G
  | .iand => sBi2 3 (pc + len) ls st h G
  | .ior => sBi2 4 (pc + len) ls st h G
  | .ixor => sBi2 5 (pc + len) ls st h G
  | .ishl => sBi2 6 (pc + len) ls st h G
  | .iushr => sBi2 7 (pc + len) ls st h G
  | .ishr => sBi2 8 (pc + len) ls st h G
  | .idiv => sBi2 9 (pc + len) ls st h G
  | .irem => sBi2 10 (pc + len) ls st h G
  | .ifCond .eq _ => sIf 0 (pc + len) a ls st h G
  | .ifCond .ne _ => sIf 1 (pc + len) a ls st h G
  | .ifCond .lt _ => sIf 2 (pc + len) a ls st h G
  | .ifCond .ge _ => sIf 3 (pc + len) a ls st h G
  | .ifCond .gt _ => sIf 4 (pc + len) a ls st h G
  | .ifCond .le _ => sIf 5 (pc + len) a ls st h G
  | .if_icmp .eq _ => sIc 0 (pc + len) a ls st h G
  | .if_icmp .ne _ => sIc 1 (pc + len) a ls st h G
  | .if_icmp .lt _ => sIc 2 (pc + len) a ls st h G
  | .if_icmp .ge _ => sIc 3 (pc + len) a ls st h G
  | .if_icmp .gt _ => sIc 4 (pc + len) a ls st h G
  | .if_icmp .le _ => sIc 5 (pc + len) a ls st h G
  | .goto _ => some [(a, ls, st, h, G)]
  | .tableswitch d lo hi offs => sTab pc d lo hi offs ls st h G
  | .lookupswitch d ps => sLook pc d ps ls st h G
  | .getfield _ => sGf a b t (pc + len) ls st h G
  | .putfield _ => sPf md a b t (pc + len) ls st h G
  | .iaload => sAld 1 1 (pc + len) ls st h G
  | .baload => sAld 2 3 (pc + len) ls st h G
  | .laload => sAld 4 4 (pc + len) ls st h G
  | .aaload => sAld 5 5 (pc + len) ls st h G
  | .iastore => sAst md 1 1 (pc + len) ls st h G
  | .bastore => sAst md 2 3 (pc + len) ls st h G
  | .lastore => sAst md 4 4 (pc + len) ls st h G
  | .arraylength => sAln (pc + len) ls st h G
  | .ladd => sL2 false (pc + len) ls st h G
  | .lmul => sL2 false (pc + len) ls st h G
  | .lor => sL2 false (pc + len) ls st h G
  | .ldiv => sL2 true (pc + len) ls st h G
  | .lrem => sL2 true (pc + len) ls st h G
  | .lcmp => sLcmp (pc + len) ls st h G
  | .lshl => sLs (pc + len) ls st h G
  | .i2b => sI1 [(2147483520, 2147483775)] (pc + len) ls st h G
  | .i2c => sI1 [(2147483648, 2147549183)] (pc + len) ls st h G
  | .i2l => sI2l (pc + len) ls st h G
  | .l2i => sL2i (pc + len) ls st h G
  | .dup => sDup (pc + len) ls st h G
  | .dup2 => sDup2 (pc + len) ls st h G
  | .pop => sPop (pc + len) ls st h G
  | _ => none
set_option maxHeartbeats 1000000 in
theorem sStep_ok {sc : List vAV} {tx : List Nat} {i : Instr} {len a b t pc : Nat} (hR : sR md hp0 ρ ls st h G kl ks hp) (he : sStep md i len a b t pc ls st h G = some L) : sOut md hp0 ρ L (vStep sc tx i len a b t pc kl ks hp) := by
  cases i
  case iconst n =>
    have he : (bif Nat.blt a 4294967296 then some [(pc + len, ls, .inl a :: st, h, G)] else none) = some L := he
    have hb : Nat.blt a 4294967296 = true := by
      cases hb : Nat.blt a 4294967296 with
      | true => rfl
      | false => rw [hb] at he; cases he
    rw [hb, cond_true] at he
    cases he
    exact sOut_now rfl ⟨hR.1, ⟨⟨Nat.blt_eq.mp hb, rfl⟩, hR.2.1⟩, hR.2.2.1, hR.2.2.2.1, hR.2.2.2.2⟩
  case bipush n =>
    have he : (bif Nat.blt a 4294967296 then some [(pc + len, ls, .inl a :: st, h, G)] else none) = some L := he
    have hb : Nat.blt a 4294967296 = true := by
      cases hb : Nat.blt a 4294967296 with
      | true => rfl
      | false => rw [hb] at he; cases he
    rw [hb, cond_true] at he
    cases he
    exact sOut_now rfl ⟨hR.1, ⟨⟨Nat.blt_eq.mp hb, rfl⟩, hR.2.1⟩, hR.2.2.1, hR.2.2.2.1, hR.2.2.2.2⟩
  case sipush n =>
    have he : (bif Nat.blt a 4294967296 then some [(pc + len, ls, .inl a :: st, h, G)] else none) = some L := he
    have hb : Nat.blt a 4294967296 = true := by
      cases hb : Nat.blt a 4294967296 with
      | true => rfl
      | false => rw [hb] at he; cases he
    rw [hb, cond_true] at he
    cases he
    exact sOut_now rfl ⟨hR.1, ⟨⟨Nat.blt_eq.mp hb, rfl⟩, hR.2.1⟩, hR.2.2.1, hR.2.2.2.1, hR.2.2.2.2⟩
  case ldc n =>
    have he : (bif Nat.beq t 1 then none else bif Nat.blt a 4294967296 then some [(pc + len, ls, .inl a :: st, h, G)] else none) = some L := he
    show sOut md hp0 ρ L (bif Nat.beq t 1 then some (pc + len, kl, .inr (.inr (.inr (.inr 1))) :: ks, hp) else some (pc + len, kl, .inl a :: ks, hp))
    cases ht1 : Nat.beq t 1 with
    | true => rw [ht1] at he; cases he
    | false =>
      rw [ht1, cond_false] at he
      rw [cond_false]
      have hb : Nat.blt a 4294967296 = true := by
        cases hb : Nat.blt a 4294967296 with
        | true => rfl
        | false => rw [hb] at he; cases he
      rw [hb, cond_true] at he
      cases he
      exact sOut_now rfl ⟨hR.1, ⟨⟨Nat.blt_eq.mp hb, rfl⟩, hR.2.1⟩, hR.2.2.1, hR.2.2.2.1, hR.2.2.2.2⟩
  case ldc_w n =>
    have he : (bif Nat.blt a 4294967296 then some [(pc + len, ls, .inl a :: st, h, G)] else none) = some L := he
    have hb : Nat.blt a 4294967296 = true := by
      cases hb : Nat.blt a 4294967296 with
      | true => rfl
      | false => rw [hb] at he; cases he
    rw [hb, cond_true] at he
    cases he
    exact sOut_now rfl ⟨hR.1, ⟨⟨Nat.blt_eq.mp hb, rfl⟩, hR.2.1⟩, hR.2.2.1, hR.2.2.2.1, hR.2.2.2.2⟩
  case lconst n =>
    have he : (bif Nat.blt a 18446744073709551616 then some [(pc + len, ls, .inr (.inr (.inl a)) :: st, h, G)] else none) = some L := he
    have hb : Nat.blt a 18446744073709551616 = true := by
      cases hb : Nat.blt a 18446744073709551616 with
      | true => rfl
      | false => rw [hb] at he; cases he
    rw [hb, cond_true] at he
    cases he
    exact sOut_now rfl ⟨hR.1, ⟨⟨Nat.blt_eq.mp hb, rfl⟩, hR.2.1⟩, hR.2.2.1, hR.2.2.2.1, hR.2.2.2.2⟩
  case ldc2_w n =>
    have he : (bif Nat.blt a 18446744073709551616 then some [(pc + len, ls, .inr (.inr (.inl a)) :: st, h, G)] else none) = some L := he
    have hb : Nat.blt a 18446744073709551616 = true := by
      cases hb : Nat.blt a 18446744073709551616 with
      | true => rfl
      | false => rw [hb] at he; cases he
    rw [hb, cond_true] at he
    cases he
    exact sOut_now rfl ⟨hR.1, ⟨⟨Nat.blt_eq.mp hb, rfl⟩, hR.2.1⟩, hR.2.2.1, hR.2.2.2.1, hR.2.2.2.2⟩
  case iload_n n =>
    exact sLd_ok (kd := 0) hR he
  case iload n =>
    exact sLd_ok (kd := 0) hR he
  case lload_n n =>
    exact sLd_ok (kd := 1) hR he
  case lload n =>
    exact sLd_ok (kd := 1) hR he
  case aload_n n =>
    exact sLd_ok (kd := 3) hR he
  case aload n =>
    exact sLd_ok (kd := 3) hR he
  case istore_n n =>
    exact sSt1_ok (kd := 0) hR he
  case istore n =>
    exact sSt1_ok (kd := 0) hR he
  case astore_n n =>
    exact sSt1_ok (kd := 3) hR he
  case astore n =>
    exact sSt1_ok (kd := 3) hR he
  case lstore_n n =>
    exact sSt2_ok hR he
  case lstore n =>
    exact sSt2_ok hR he
  case iinc n c =>
    exact sInc_ok hR he
  case iadd =>
    obtain ⟨u, w, ks', hu, hw, rfl, -, hO⟩ := sBi2_ok (op := 0) (by decide) hR he
    show sOut md hp0 ρ L (v2 vAdd (pc + len) kl (.inl w :: .inl u :: ks') hp)
    rw [k2_eq]
    exact hO
  case isub =>
    obtain ⟨u, w, ks', hu, hw, rfl, -, hO⟩ := sBi2_ok (op := 1) (by decide) hR he
    show sOut md hp0 ρ L (v2 vSub (pc + len) kl (.inl w :: .inl u :: ks') hp)
    rw [k2_eq]
    exact hO
  case imul =>
    obtain ⟨u, w, ks', hu, hw, rfl, -, hO⟩ := sBi2_ok (op := 2) (by decide) hR he
    show sOut md hp0 ρ L (v2 vMul (pc + len) kl (.inl w :: .inl u :: ks') hp)
    rw [k2_eq]
    exact hO
  case iand =>
    obtain ⟨u, w, ks', hu, hw, rfl, -, hO⟩ := sBi2_ok (op := 3) (by decide) hR he
    show sOut md hp0 ρ L (v2 Nat.land (pc + len) kl (.inl w :: .inl u :: ks') hp)
    rw [k2_eq]
    exact hO
  case ior =>
    obtain ⟨u, w, ks', hu, hw, rfl, -, hO⟩ := sBi2_ok (op := 4) (by decide) hR he
    show sOut md hp0 ρ L (v2 Nat.lor (pc + len) kl (.inl w :: .inl u :: ks') hp)
    rw [k2_eq]
    exact hO
  case ixor =>
    obtain ⟨u, w, ks', hu, hw, rfl, -, hO⟩ := sBi2_ok (op := 5) (by decide) hR he
    show sOut md hp0 ρ L (v2 Nat.xor (pc + len) kl (.inl w :: .inl u :: ks') hp)
    rw [k2_eq]
    exact hO
  case ishl =>
    obtain ⟨u, w, ks', hu, hw, rfl, -, hO⟩ := sBi2_ok (op := 6) (by decide) hR he
    show sOut md hp0 ρ L (v2 vShl (pc + len) kl (.inl w :: .inl u :: ks') hp)
    rw [k2_eq]
    exact hO
  case iushr =>
    obtain ⟨u, w, ks', hu, hw, rfl, -, hO⟩ := sBi2_ok (op := 7) (by decide) hR he
    show sOut md hp0 ρ L (v2 vUsh (pc + len) kl (.inl w :: .inl u :: ks') hp)
    rw [k2_eq]
    exact hO
  case ishr =>
    obtain ⟨u, w, ks', hu, hw, rfl, -, hO⟩ := sBi2_ok (op := 8) (by decide) hR he
    show sOut md hp0 ρ L (vShrD (pc + len) kl (.inl w :: .inl u :: ks') hp)
    rw [kShr_eq _ hw]
    exact hO
  case idiv =>
    obtain ⟨u, w, ks', hu, hw, rfl, h9, hO⟩ := sBi2_ok (op := 9) (by decide) hR he
    show sOut md hp0 ρ L (v2d Nat.div kDiv (pc + len) kl (.inl w :: .inl u :: ks') hp)
    rw [kDiv_eq _ (h9 (by decide))]
    exact hO
  case irem =>
    obtain ⟨u, w, ks', hu, hw, rfl, h9, hO⟩ := sBi2_ok (op := 10) (by decide) hR he
    show sOut md hp0 ρ L (v2d Nat.mod kRem (pc + len) kl (.inl w :: .inl u :: ks') hp)
    rw [kRem_eq _ (h9 (by decide))]
    exact hO
  case ifCond cc off =>
    cases cc
    case eq =>
      obtain ⟨u, ks', hu, rfl, hO⟩ := sIf_ok (c := 0) hR he
      show sOut md hp0 ρ L (vIf vEq (pc + len) a kl (.inl u :: ks') hp)
      rw [vIf_k kf_eq]
      exact hO
    case ne =>
      obtain ⟨u, ks', hu, rfl, hO⟩ := sIf_ok (c := 1) hR he
      show sOut md hp0 ρ L (vIf (fun x y => vNot (vEq x y)) (pc + len) a kl (.inl u :: ks') hp)
      rw [vIf_k kf_ne]
      exact hO
    case lt =>
      obtain ⟨u, ks', hu, rfl, hO⟩ := sIf_ok (c := 2) hR he
      show sOut md hp0 ρ L (vIf vLt (pc + len) a kl (.inl u :: ks') hp)
      rw [vIf_k kf_lt]
      exact hO
    case ge =>
      obtain ⟨u, ks', hu, rfl, hO⟩ := sIf_ok (c := 3) hR he
      show sOut md hp0 ρ L (vIf (fun x y => vNot (vLt x y)) (pc + len) a kl (.inl u :: ks') hp)
      rw [vIf_k kf_ge]
      exact hO
    case gt =>
      obtain ⟨u, ks', hu, rfl, hO⟩ := sIf_ok (c := 4) hR he
      show sOut md hp0 ρ L (vIf (fun x y => vLt y x) (pc + len) a kl (.inl u :: ks') hp)
      rw [vIf_k kf_gt]
      exact hO
    case le =>
      obtain ⟨u, ks', hu, rfl, hO⟩ := sIf_ok (c := 5) hR he
      show sOut md hp0 ρ L (vIf (fun x y => vNot (vLt y x)) (pc + len) a kl (.inl u :: ks') hp)
      rw [vIf_k kf_le]
      exact hO
  case if_icmp cc off =>
    cases cc
    case eq =>
      obtain ⟨u, w, ks', hu, hw, rfl, hO⟩ := sIc_ok (c := 0) hR he
      show sOut md hp0 ρ L (vIc vEq (pc + len) a kl (.inl w :: .inl u :: ks') hp)
      rw [vIc_k kf_eq]
      exact hO
    case ne =>
      obtain ⟨u, w, ks', hu, hw, rfl, hO⟩ := sIc_ok (c := 1) hR he
      show sOut md hp0 ρ L (vIc (fun x y => vNot (vEq x y)) (pc + len) a kl (.inl w :: .inl u :: ks') hp)
      rw [vIc_k kf_ne]
      exact hO
    case lt =>
      obtain ⟨u, w, ks', hu, hw, rfl, hO⟩ := sIc_ok (c := 2) hR he
      show sOut md hp0 ρ L (vIc vLt (pc + len) a kl (.inl w :: .inl u :: ks') hp)
      rw [vIc_k kf_lt]
      exact hO
    case ge =>
      obtain ⟨u, w, ks', hu, hw, rfl, hO⟩ := sIc_ok (c := 3) hR he
      show sOut md hp0 ρ L (vIc (fun x y => vNot (vLt x y)) (pc + len) a kl (.inl w :: .inl u :: ks') hp)
      rw [vIc_k kf_ge]
      exact hO
    case gt =>
      obtain ⟨u, w, ks', hu, hw, rfl, hO⟩ := sIc_ok (c := 4) hR he
      show sOut md hp0 ρ L (vIc (fun x y => vLt y x) (pc + len) a kl (.inl w :: .inl u :: ks') hp)
      rw [vIc_k kf_gt]
      exact hO
    case le =>
      obtain ⟨u, w, ks', hu, hw, rfl, hO⟩ := sIc_ok (c := 5) hR he
      show sOut md hp0 ρ L (vIc (fun x y => vNot (vLt y x)) (pc + len) a kl (.inl w :: .inl u :: ks') hp)
      rw [vIc_k kf_le]
      exact hO
  case goto n =>
    cases he
    exact sOut_now rfl hR
  case tableswitch d lo hi offs =>
    exact sTab_ok hR he
  case lookupswitch d ps =>
    exact sLook_ok hR he
  case getfield n =>
    exact sGf_ok hR he
  case putfield n =>
    exact sPf_ok hR he
  case iaload =>
    exact sAld_ok hR he
  case baload =>
    exact sAld_ok hR he
  case laload =>
    exact sAld_ok hR he
  case aaload =>
    exact sAld_ok hR he
  case iastore =>
    exact sAst_ok hR he
  case bastore =>
    exact sAst_ok hR he
  case lastore =>
    exact sAst_ok hR he
  case arraylength =>
    exact sAln_ok hR he
  case ladd =>
    obtain ⟨u, w, ks', hu, hw, rfl, -, hO⟩ := sL2_ok hR he
    show sOut md hp0 ρ L (vL2 (fun u w => (u + w) % 18446744073709551616) (pc + len) kl (.inr (.inr (.inl w)) :: .inr (.inr (.inl u)) :: ks') hp)
    rw [vL2_k]
    exact hO _ (Nat.mod_lt _ (by decide))
  case lmul =>
    obtain ⟨u, w, ks', hu, hw, rfl, -, hO⟩ := sL2_ok hR he
    show sOut md hp0 ρ L (vL2 (fun u w => (u * w) % 18446744073709551616) (pc + len) kl (.inr (.inr (.inl w)) :: .inr (.inr (.inl u)) :: ks') hp)
    rw [vL2_k]
    exact hO _ (Nat.mod_lt _ (by decide))
  case lor =>
    obtain ⟨u, w, ks', hu, hw, rfl, -, hO⟩ := sL2_ok hR he
    show sOut md hp0 ρ L (vL2 kLor (pc + len) kl (.inr (.inr (.inl w)) :: .inr (.inr (.inl u)) :: ks') hp)
    rw [vL2_k]
    exact hO _ (kl_lt _)
  case ldiv =>
    obtain ⟨u, w, ks', hu, hw, rfl, h9, hO⟩ := sL2_ok hR he
    obtain ⟨z, hz, e⟩ := vL2d_k (f := Nat.div) (g := kLdiv) (pc := pc + len) (u := u) (w := w) (kl := kl) (ks := ks') (hp := hp) (h9 rfl) (Nat.lt_of_le_of_lt (Nat.div_le_self u w) hu) (kl_lt _)
    show sOut md hp0 ρ L (vL2d Nat.div kLdiv (pc + len) kl (.inr (.inr (.inl w)) :: .inr (.inr (.inl u)) :: ks') hp)
    rw [e]
    exact hO z hz
  case lrem =>
    obtain ⟨u, w, ks', hu, hw, rfl, h9, hO⟩ := sL2_ok hR he
    obtain ⟨z, hz, e⟩ := vL2d_k (f := Nat.mod) (g := kLrem) (pc := pc + len) (u := u) (w := w) (kl := kl) (ks := ks') (hp := hp) (h9 rfl) (Nat.lt_of_le_of_lt (Nat.mod_le u w) hu) (kl_lt _)
    show sOut md hp0 ρ L (vL2d Nat.mod kLrem (pc + len) kl (.inr (.inr (.inl w)) :: .inr (.inr (.inl u)) :: ks') hp)
    rw [e]
    exact hO z hz
  case lcmp =>
    exact sLcmp_ok hR he
  case lshl =>
    exact sLs_ok hR he
  case i2b =>
    obtain ⟨u, ks', hu, rfl, hO⟩ := sI1_ok (f := kI2b) (fun u => ⟨kn_lt _, sIn_one (kI2b_in u).1 (kI2b_in u).2⟩) hR he
    exact hO
  case i2c =>
    obtain ⟨u, ks', hu, rfl, hO⟩ := sI1_ok (f := fun u => u % 65536) (fun u => sI2c_in u) hR he
    show sOut md hp0 ρ L (vI2c (pc + len) kl (.inl u :: ks') hp)
    rw [vI2c_k]
    exact hO
  case i2l =>
    exact sI2l_ok hR he
  case l2i =>
    exact sL2i_ok hR he
  case dup =>
    exact sDup_ok hR he
  case dup2 =>
    exact sDup2_ok hR he
  case pop =>
    exact sPop_ok hR he
  all_goals cases he
end STP
end
section
/-! ===== runs of the known machine, whatever the fuel ===== -/
abbrev kSt : Type := Nat × vLs × List vAV × List vOb
def kRe (vms : List vMt) (df : List (List vAV)) (d : Nat) (tbl : vTbl) (mc ms : Nat) (κ κ' : kSt) : Prop := ∃ N n, ∀ fuel, N ≤ fuel → ∀ f ce sl, ce ≤ mc → sl ≤ ms → vRun (vCalD vms df fuel d) df tbl [] vTx mc ms (n + f) κ.1 κ.2.1 κ.2.2.1 κ.2.2.2 ce sl = vRun (vCalD vms df fuel d) df tbl [] vTx mc ms f κ'.1 κ'.2.1 κ'.2.2.1 κ'.2.2.2 ce sl
section KRE
variable {vms : List vMt} {df : List (List vAV)} {d : Nat} {tbl : vTbl} {mc ms : Nat}
theorem kRe.rf (κ : kSt) : kRe vms df d tbl mc ms κ κ := ⟨0, 0, fun fuel _ f ce sl _ _ => by rw [Nat.zero_add]⟩
theorem kRe.tr {κ κ1 κ2 : kSt} (h1 : kRe vms df d tbl mc ms κ κ1) (h2 : kRe vms df d tbl mc ms κ1 κ2) : kRe vms df d tbl mc ms κ κ2 := by
  obtain ⟨N1, n1, h1⟩ := h1
  obtain ⟨N2, n2, h2⟩ := h2
  refine ⟨max N1 N2, n1 + n2, fun fuel hf f ce sl hc hs => ?_⟩
  rw [Nat.add_assoc, h1 fuel (by omega) _ ce sl hc hs, h2 fuel (by omega) f ce sl hc hs]
theorem kRe_step {pc pc' : Nat} {i : Instr} {len a b t : Nat} {ls ls' : vLs} {st st' : List vAV} {hp hp' : List vOb} (hg : vGet tbl pc = some (i, len, a, b, t)) (hs : vStep [] vTx i len a b t pc ls st hp = some (pc', ls', st', hp')) : kRe vms df d tbl mc ms (pc, ls, st, hp) (pc', ls', st', hp') := by
  refine ⟨0, 1, fun fuel _ f ce sl _ _ => ?_⟩
  rw [Nat.add_comm 1 f]
  simp only [vRun, hg, hs, vF_eq]
theorem kRe_call {pc : Nat} {i : Instr} {len a b t : Nat} {ls : vLs} {st st' : List vAV} {hp hp' : List vOb} (hg : vGet tbl pc = some (i, len, a, b, t)) (h1 : vStep [] vTx i len a b t pc ls st hp = none) (h2 : vAl df i a t st hp = none) (h3 : ∃ N, ∀ fuel, N ≤ fuel → vInv (vCalD vms df fuel d) i a b t st hp = some (st', hp', 0, 0)) : kRe vms df d tbl mc ms (pc, ls, st, hp) (pc + 3, ls, st', hp') := by
  obtain ⟨N, h3⟩ := h3
  refine ⟨N, 1, fun fuel hf f ce sl hc hs => ?_⟩
  rw [Nat.add_comm 1 f]
  simp only [vRun, hg, h1, h2, h3 fuel hf, vF_eq, Nat.add_zero, Nat.ble_eq_true_of_le hc, Nat.ble_eq_true_of_le hs, Bool.and_self, cond_true]
end KRE
/-! ===== parts of runs ===== -/
def sTk : List (Nat × sC) → Nat → List (Nat × sC)
  | [], _ => []
  | q :: rs, n => bif Nat.ble n q.1 then [(n, q.2)] else q :: sTk rs (n - q.1)
def sDp : List (Nat × sC) → Nat → List (Nat × sC)
  | [], _ => []
  | q :: rs, n => bif Nat.blt n q.1 then (q.1 - n, q.2) :: rs else sDp rs (n - q.1)
theorem kble {a b : Nat} (h : Nat.ble a b = false) : ¬ a ≤ b := fun h1 => by rw [Nat.ble_eq_true_of_le h1] at h; cases h
theorem sLen_tk : ∀ (rs : List (Nat × sC)) (n : Nat), n ≤ sLen rs → sLen (sTk rs n) = n
  | [], n, h => by have h : n ≤ 0 := h; show 0 = n; omega
  | q :: rs, n, h => by
    have h : n ≤ q.1 + sLen rs := h
    unfold sTk
    cases hb : Nat.ble n q.1 with
    | true => rw [cond_true]; rfl
    | false =>
      have := kble hb
      rw [cond_false]
      show q.1 + sLen (sTk rs (n - q.1)) = n
      rw [sLen_tk rs (n - q.1) (by omega)]
      omega
theorem sRd_tk : ∀ (rs : List (Nat × sC)) (n i : Nat), n ≤ sLen rs → i < n → sRd (sTk rs n) i = sRd rs i
  | [], n, i, h, hi => by have h : n ≤ 0 := h; omega
  | q :: rs, n, i, h, hi => by
    have h : n ≤ q.1 + sLen rs := h
    unfold sTk
    cases hb : Nat.ble n q.1 with
    | true =>
      have := Nat.le_of_ble_eq_true hb
      rw [cond_true, sRd_cons, sRd_cons, if_pos (show i < ((n, q.2) : Nat × sC).1 from hi), if_pos (by omega)]
    | false =>
      have := kble hb
      rw [cond_false, sRd_cons, sRd_cons]
      by_cases h2 : i < q.1
      · rw [if_pos h2, if_pos h2]
      · rw [if_neg h2, if_neg h2, sRd_tk rs (n - q.1) (i - q.1) (by omega) (by omega)]
theorem sLen_dp : ∀ (rs : List (Nat × sC)) (n : Nat), n ≤ sLen rs → sLen (sDp rs n) = sLen rs - n
  | [], n, h => by have h : n ≤ 0 := h; show 0 = 0 - n; omega
  | q :: rs, n, h => by
    have h : n ≤ q.1 + sLen rs := h
    unfold sDp
    cases hb : Nat.blt n q.1 with
    | true =>
      have := Nat.blt_eq.mp hb
      rw [cond_true]
      show q.1 - n + sLen rs = q.1 + sLen rs - n
      omega
    | false =>
      have := kblt hb
      rw [cond_false, sLen_dp rs (n - q.1) (by omega)]
      show sLen rs - (n - q.1) = q.1 + sLen rs - n
      omega
theorem sRd_dp : ∀ (rs : List (Nat × sC)) (n i : Nat), sRd (sDp rs n) i = sRd rs (n + i)
  | [], n, i => rfl
  | q :: rs, n, i => by
    unfold sDp
    cases hb : Nat.blt n q.1 with
    | true =>
      have := Nat.blt_eq.mp hb
      rw [cond_true, sRd_cons, sRd_cons]
      dsimp only
      by_cases h2 : n + i < q.1
      · rw [if_pos h2, if_pos (by omega)]
      · rw [if_neg h2, if_neg (by omega)]
        congr 1
        omega
    | false =>
      have := kblt hb
      rw [cond_false, sRd_cons, if_neg (by omega), sRd_dp rs (n - q.1) i]
      congr 1
      omega
theorem sLen_app : ∀ (xs ys : List (Nat × sC)), sLen (xs ++ ys) = sLen xs + sLen ys
  | [], ys => (Nat.zero_add _).symm
  | q :: xs, ys => by
    show q.1 + sLen (xs ++ ys) = q.1 + sLen xs + sLen ys
    rw [sLen_app xs ys]
    omega
theorem sRd_app : ∀ (xs ys : List (Nat × sC)) (i : Nat), sRd (xs ++ ys) i = if i < sLen xs then sRd xs i else sRd ys (i - sLen xs)
  | [], ys, i => by
    rw [if_neg (show ¬ i < sLen [] from Nat.not_lt_zero i)]
    rfl
  | q :: xs, ys, i => by
    have hl : sLen (q :: xs) = q.1 + sLen xs := rfl
    rw [List.cons_append, sRd_cons, sRd_cons, hl]
    by_cases h : i < q.1
    · rw [if_pos h, if_pos h, if_pos (show i < q.1 + sLen xs by omega)]
    · rw [if_neg h, if_neg h, sRd_app xs ys (i - q.1)]
      by_cases h2 : i - q.1 < sLen xs
      · rw [if_pos h2, if_pos (show i < q.1 + sLen xs by omega)]
      · rw [if_neg h2, if_neg (show ¬ i < q.1 + sLen xs by omega)]
        congr 1
        show i - q.1 - sLen xs = i - (q.1 + sLen xs)
        omega
/-! ===== calls ===== -/
def sCs : List vAV → Nat
  | [] => 0
  | c :: cs => (bif Nat.beq (sKd c) 1 then 2 else 1) + sCs cs
theorem sCs_ok {ρ : List Nat} : ∀ {as vs : List vAV}, sTr ρ as vs → vCs vs = sCs as
  | [], [], _ => rfl
  | a :: as, v :: vs, h => by
    show (bif Nat.beq (vKd v) 1 then 2 else 1) + vCs vs = (bif Nat.beq (sKd a) 1 then 2 else 1) + sCs as
    rw [sKd_ok h.1, sCs_ok h.2]
  | [], _ :: _, h => h.elim
  | _ :: _, [], h => h.elim
theorem sTk_tr {ρ : List Nat} : ∀ (n : Nat) {acc kacc st ks as rest : List vAV}, sTr ρ acc kacc → sTr ρ st ks → vTk n acc st = some (as, rest) → ∃ kas krest, vTk n kacc ks = some (kas, krest) ∧ sTr ρ as kas ∧ sTr ρ rest krest
  | 0, acc, kacc, st, ks, as, rest, ha, hs, h => by
    have h : some (acc, st) = some (as, rest) := h
    cases h
    exact ⟨kacc, ks, rfl, ha, hs⟩
  | n + 1, acc, kacc, [], ks, as, rest, ha, hs, h => by cases h
  | n + 1, acc, kacc, v :: st, [], as, rest, ha, hs, h => hs.elim
  | n + 1, acc, kacc, v :: st, w :: ks, as, rest, ha, hs, h => sTk_tr n (acc := v :: acc) (kacc := w :: kacc) ⟨hs.1, ha⟩ hs.2 h
def sRc (t : Nat) (rv : vAV) (h : sHp) : Bool := match rv with
  | .inr (.inr (.inr (.inl (some k)))) => match sGo h k with
    | some o => Nat.beq o.1 (8 * t) && Nat.blt t 99
    | none => false
  | _ => false
theorem sRc_ok {ρ : List Nat} {t : Nat} {rv kv : vAV} {h : sHp} {hp : List vOb} (hh : sHr ρ h hp) (hv : sV ρ rv kv) (hb : sRc t rv h = true) : vRc t kv hp = true := by
  unfold sRc at hb
  split at hb
  · next k =>
    have hv : kv = .inr (.inr (.inr (.inl (some k)))) := hv
    subst hv
    split at hb
    · next o ho =>
      obtain ⟨ob, h1, h2⟩ := sHr_get hh ho
      unfold vRc
      simp only [vNth_eq, h1, h2.1]
      exact hb
    · cases hb
  · cases hb
abbrev sCal : Type := Nat → List vAV → sHp → sG → Option (List (Option vAV × sHp × sG))
def sRt (ρ : List Nat) : Option vAV → Option vAV → Prop
  | none, none => True
  | some a, some v => sV ρ a v
  | _, _ => False
/-- a table of callees that says what the known machine's calls come to -/
def sCalOK (vms : List vMt) (df : List (List vAV)) (d : Nat) (md : sMd) (hp0 : List vOb) (scal : sCal) : Prop := ∀ (j : Nat) (av : List vAV) (h : sHp) (G : sG) (L : List (Option vAV × sHp × sG)), scal j av h G = some L → ∀ (ρ : List Nat) (kav : List vAV) (hp : List vOb), sTr ρ av kav → sHr ρ h hp → sGr ρ G → sFr md hp0 hp →
  ∃ e ∈ L, ∃ xs r hp', (∃ N, ∀ fuel, N ≤ fuel → vCalD vms df fuel d j kav hp = some (r, hp', 0, 0)) ∧ sRt (ρ ++ xs) e.1 r ∧ sHr (ρ ++ xs) e.2.1 hp' ∧ sGr (ρ ++ xs) e.2.2 ∧ sFr md hp0 hp'
end
section
/-! ===== arraycopy, and a call ===== -/
noncomputable def sCp (md : sMd) (st : List vAV) (h : sHp) : Option (List vAV × sHp) := match st with
  | .inl n :: .inl 0 :: .inr (.inr (.inr (.inl (some k)))) :: .inl 0 :: .inr (.inr (.inr (.inl (some j)))) :: rest => match sGo h k, sGo h j with
    | some o, some o2 => bif ((Nat.beq (o.1 % 8) 1 || Nat.beq (o.1 % 8) 4) && Nat.beq (o2.1 % 8) (o.1 % 8)) && (Nat.blt n 65536 && (Nat.ble n (sLen o.2.1) && (Nat.ble n (sLen o2.2.1) && sMc md k 0 (n - 1)))) then some (rest, sPo h k (o.1, sTk o2.2.1 n ++ sDp o.2.1 n, [])) else none
    | _, _ => none
  | _ => none
theorem sFr_new {md : sMd} {hp : List vOb} {k : Nat} {o : vOb} {X : List vAV} (hk : hp[k]? = some o) (hl : X.length = o.2.length) (hX : ∀ i, ¬ sMin md k i → X[i]? = o.2[i]?) : sFr md hp (hp.set k (o.1, X)) := by
  refine ⟨by simp, fun j o0 h => ?_⟩
  by_cases hj : k = j
  · subst hj
    rw [hk] at h
    cases h
    exact ⟨_, List.getElem?_set_self (List.getElem?_eq_some_iff.mp hk).1, rfl, hl, hX⟩
  · exact ⟨o0, by rw [List.getElem?_set_ne hj]; exact h, rfl, rfl, fun _ _ => rfl⟩
section SCP
variable {md : sMd} {hp0 : List vOb} {ρ : List Nat} {st : List vAV} {h : sHp} {ks : List vAV} {hp : List vOb}
theorem sCp_ok {rest : List vAV} {h' : sHp} (ht : sTr ρ st ks) (hh : sHr ρ h hp) (hf : sFr md hp0 hp) (he : sCp md st h = some (rest, h')) : ∃ krest hp', vCp ks hp = some (krest, hp') ∧ sTr ρ rest krest ∧ sHr ρ h' hp' ∧ sFr md hp0 hp' := by
  unfold sCp at he
  split at he
  · next n k j rest0 =>
    match ks, ht with
    | [_], ht => exact ht.2.elim
    | [_, _], ht => exact ht.2.2.elim
    | [_, _, _], ht => exact ht.2.2.2.elim
    | [_, _, _, _], ht => exact ht.2.2.2.2.elim
    | a1 :: a2 :: a3 :: a4 :: a5 :: kr, ht =>
      obtain ⟨⟨-, e1⟩, ⟨-, e2⟩, e3, ⟨-, e4⟩, e5, ht⟩ := ht
      have e3 : a3 = .inr (.inr (.inr (.inl (some k)))) := e3
      have e5 : a5 = .inr (.inr (.inr (.inl (some j)))) := e5
      subst e1 e2 e3 e4 e5
      split at he
      · next o o2 ho ho2 =>
        obtain ⟨ob, h1, h2⟩ := sHr_get hh ho
        obtain ⟨ob2, h3, h4⟩ := sHr_get hh ho2
        cases hb : (((Nat.beq (o.1 % 8) 1 || Nat.beq (o.1 % 8) 4) && Nat.beq (o2.1 % 8) (o.1 % 8)) && (Nat.blt n 65536 && (Nat.ble n (sLen o.2.1) && (Nat.ble n (sLen o2.2.1) && sMc md k 0 (n - 1))))) with
        | false => rw [hb] at he; cases he
        | true =>
          rw [hb, cond_true] at he
          cases he
          rw [Bool.and_eq_true, Bool.and_eq_true, Bool.and_eq_true, Bool.and_eq_true, Bool.and_eq_true] at hb
          obtain ⟨⟨b1, b2⟩, b3, b4, b5, b6⟩ := hb
          have c4 := Nat.le_of_ble_eq_true b4
          have c5 := Nat.le_of_ble_eq_true b5
          have l1 := h2.2.1.1
          have l2 := h4.2.1.1
          have htk : (ob2.2.take n).length = n := by rw [List.length_take]; omega
          have hget : ∀ i, (ob2.2.take n ++ ob.2.drop n)[i]? = if i < n then ob2.2[i]? else ob.2[i]? := fun i => by
            by_cases hi : i < n
            · rw [if_pos hi, List.getElem?_append_left (by omega), List.getElem?_take_of_lt hi]
            · rw [if_neg hi, List.getElem?_append_right (by omega), htk, List.getElem?_drop]
              congr 1
              omega
          have hlen : (ob2.2.take n ++ ob.2.drop n).length = ob.2.length := by
            rw [List.length_append, htk, List.length_drop]
            omega
          refine ⟨kr, hp.set k (ob.1, ob2.2.take n ++ ob.2.drop n), ?_, ht, ?_, hf.tr (sFr_new h1 hlen (fun i hi => ?_))⟩
          · unfold vCp
            simp only [vNth_eq, h1, h3, h2.1, h4.1, b1, b2, b3, l1, l2, b4, b5, Bool.and_self, cond_true]
          · refine sHr_set hh (List.getElem?_eq_some_iff.mp h1).1 ⟨h2.1, ⟨?_, fun i c v hc hv => ?_⟩, fun e he => by cases he⟩
            · rw [hlen, l1, sLen_app, sLen_tk _ _ c5, sLen_dp _ _ c4]
              omega
            · have hv : (ob2.2.take n ++ ob.2.drop n)[i]? = some v := hv
              rw [hget] at hv
              have hc : sRd (sTk o2.2.1 n ++ sDp o.2.1 n) i = some c := hc
              rw [sRd_app, sLen_tk _ _ c5] at hc
              by_cases hi : i < n
              · rw [if_pos hi] at hv hc
                rw [sRd_tk _ _ _ c5 hi] at hc
                exact h4.2.1.2 i c v hc hv
              · rw [if_neg hi] at hv hc
                rw [sRd_dp] at hc
                have e : n + (i - n) = i := by omega
                rw [e] at hc
                exact h2.2.1.2 i c v hc hv
          · rw [hget]
            by_cases hi2 : i < n
            · exact absurd (sMc_ok b6 (Nat.zero_le _) (by omega)) hi
            · rw [if_neg hi2]
      · cases he
  · cases he
noncomputable def sInv (scal : sCal) (md : sMd) (i : Instr) (a b t : Nat) (st : List vAV) (h : sHp) (G : sG) : Option (List (List vAV × sHp × sG)) := match i with
  | .invokevirtual _ => (match vTk b [] st with
    | some (as, rv :: rest) => bif sRc t rv h && Nat.ble (sCs rest) 8 then (match scal a (rv :: as) h G with
      | some L => some (L.map (fun e => (e.1.toList ++ rest, e.2.1, e.2.2)))
      | none => none) else none
    | _ => none)
  | .invokestatic _ => bif Nat.beq a 1001 then (match sCp md st h with
      | some (rest, h') => bif Nat.ble (sCs rest) 8 then some [(rest, h', G)] else none
      | none => none) else (match vTk b [] st with
    | some (as, rest) => bif Nat.ble (sCs rest) 8 then (match scal a as h G with
      | some L => some (L.map (fun e => (e.1.toList ++ rest, e.2.1, e.2.2)))
      | none => none) else none
    | none => none)
  | _ => none
theorem sRt_tr {r kr : Option vAV} {rest krest : List vAV} (h1 : sRt ρ r kr) (h2 : sTr ρ rest krest) : sTr ρ (r.toList ++ rest) (kr.toList ++ krest) := by
  match r, kr, h1 with
  | none, none, _ => exact h2
  | some a, some v, h1 => exact ⟨h1, h2⟩
theorem sInv_ok {vms : List vMt} {df : List (List vAV)} {d : Nat} {scal : sCal} {i : Instr} {len a b t pc : Nat} {G : sG} {kl : vLs} {L : List (List vAV × sHp × sG)} (hs : sCalOK vms df d md hp0 scal) (ht : sTr ρ st ks) (hh : sHr ρ h hp) (hG : sGr ρ G) (hf : sFr md hp0 hp) (he : sInv scal md i a b t st h G = some L) :
    vStep [] vTx i len a b t pc kl ks hp = none ∧ vAl df i a t ks hp = none ∧ ∃ e ∈ L, ∃ xs ks' hp', (∃ N, ∀ fuel, N ≤ fuel → vInv (vCalD vms df fuel d) i a b t ks hp = some (ks', hp', 0, 0)) ∧ sTr (ρ ++ xs) e.1 ks' ∧ sHr (ρ ++ xs) e.2.1 hp' ∧ sGr (ρ ++ xs) e.2.2 ∧ sFr md hp0 hp' := by
  unfold sInv at he
  split at he
  · refine ⟨rfl, rfl, ?_⟩
    split at he
    · next as rv rest htk =>
      cases hb : (sRc t rv h && Nat.ble (sCs rest) 8) with
      | false => rw [hb] at he; cases he
      | true =>
        rw [hb, cond_true] at he
        rw [Bool.and_eq_true] at hb
        obtain ⟨kas, kr0, k1, k2, k3⟩ := sTk_tr b (acc := []) (kacc := []) trivial ht htk
        match kr0, k3 with
        | [], k3 => exact k3.elim
        | kv :: krest, k3 =>
          split at he
          · next L0 hL0 =>
            cases he
            obtain ⟨e, e1, xs, r, hp', ⟨N, eN⟩, e3, e4, e5, e6⟩ := hs a (rv :: as) h G L0 hL0 ρ (kv :: kas) hp ⟨k3.1, k2⟩ hh hG hf
            refine ⟨_, List.mem_map.mpr ⟨e, e1, rfl⟩, xs, r.toList ++ krest, hp', ⟨N, fun fuel hfu => ?_⟩, sRt_tr e3 (sTr_app xs k3.2), e4, e5, e6⟩
            unfold vInv
            simp only [k1, sRc_ok hh k3.1 hb.1, sCs_ok k3.2, hb.2, eN fuel hfu, Bool.and_self, cond_true]
          · cases he
    · cases he
  · refine ⟨rfl, rfl, ?_⟩
    cases h1 : Nat.beq a 1001 with
    | true =>
      rw [h1, cond_true] at he
      split at he
      · next rest h' hc =>
        obtain ⟨krest, hp', q1, q2, q3, q4⟩ := sCp_ok ht hh hf hc
        cases hb : Nat.ble (sCs rest) 8 with
        | false => rw [hb] at he; cases he
        | true =>
          rw [hb, cond_true] at he
          cases he
          refine ⟨_, List.mem_cons_self, [], krest, hp', ⟨0, fun fuel _ => ?_⟩, ?_⟩
          · unfold vInv
            simp only [h1, q1, sCs_ok q2, hb, cond_true]
          · rw [List.append_nil]
            exact ⟨q2, q3, hG, q4⟩
      · cases he
    | false =>
      rw [h1, cond_false] at he
      split at he
      · next as rest htk =>
        cases hb : Nat.ble (sCs rest) 8 with
        | false => rw [hb] at he; cases he
        | true =>
          rw [hb, cond_true] at he
          obtain ⟨kas, krest, k1, k2, k3⟩ := sTk_tr b (acc := []) (kacc := []) trivial ht htk
          split at he
          · next L0 hL0 =>
            cases he
            obtain ⟨e, e1, xs, r, hp', ⟨N, eN⟩, e3, e4, e5, e6⟩ := hs a as h G L0 hL0 ρ kas hp k2 hh hG hf
            refine ⟨_, List.mem_map.mpr ⟨e, e1, rfl⟩, xs, r.toList ++ krest, hp', ⟨N, fun fuel hfu => ?_⟩, sRt_tr e3 (sTr_app xs k3), e4, e5, e6⟩
            unfold vInv
            simp only [h1, k1, sCs_ok k3, hb, eN fuel hfu, cond_true, cond_false]
          · cases he
      · cases he
  · cases he
end SCP
end
section
/-! ===== all paths of a method ===== -/
def sAll {α β : Type} (f : α → Option (List β)) : List α → Option (List β)
  | [] => some []
  | x :: xs => match f x with
    | none => none
    | some A => match sAll f xs with
      | none => none
      | some B => some (A ++ B)
theorem sAll_mem {α β : Type} {f : α → Option (List β)} : ∀ {xs : List α} {R : List β}, sAll f xs = some R → ∀ x ∈ xs, ∃ A, f x = some A ∧ ∀ y ∈ A, y ∈ R
  | [], _, _, x, hx => by cases hx
  | x0 :: xs, R, h, x, hx => by
    unfold sAll at h
    split at h
    · cases h
    · next A hA =>
      split at h
      · cases h
      · next B hB =>
        cases h
        rcases List.mem_cons.mp hx with e | e
        · rw [e]; exact ⟨A, hA, fun y hy => List.mem_append_left _ hy⟩
        · obtain ⟨A', h1, h2⟩ := sAll_mem hB x e
          exact ⟨A', h1, fun y hy => List.mem_append_right _ (h2 y hy)⟩
def sStop (pc : Nat) : List Nat → Bool
  | [] => false
  | s :: ss => Nat.beq s pc || sStop pc ss
theorem sStop_mem {pc : Nat} : ∀ {ss : List Nat}, sStop pc ss = true → pc ∈ ss
  | [], h => by cases h
  | s :: ss, h => by
    have h : (Nat.beq s pc || sStop pc ss) = true := h
    rw [Bool.or_eq_true] at h
    rcases h with h | h
    · rw [Nat.eq_of_beq_eq_true h]; exact List.mem_cons_self
    · exact List.mem_cons_of_mem _ (sStop_mem h)
def sFin (i : Instr) : Bool := match i with
  | .ireturn => true
  | .lreturn => true
  | .return_ => true
  | _ => false
noncomputable def sRunL (scal : sCal) (md : sMd) (tbl : vTbl) (stops : sSt → Bool) : Nat → sSt → Option (List sSt)
  | 0, _ => none
  | f + 1, (pc, ls, st, h, G) => match vGet tbl pc with
    | none => none
    | some (i, len, a, b, t) => match sStep md i len a b t pc ls st h G with
      | some L => sAll (fun σ => bif stops σ then some [σ] else sRunL scal md tbl stops f σ) L
      | none => match sInv scal md i a b t st h G with
        | some L => vF (pc + 3) (fun q => sAll (fun e => bif stops (q, ls, e) then some [(q, ls, e)] else sRunL scal md tbl stops f (q, ls, e)) L)
        | none => bif sFin i then some [(pc, ls, st, h, G)] else none
/-- an end of a path -/
def sEnd (tbl : vTbl) (stops : sSt → Bool) (σ : sSt) : Prop := stops σ = true ∨ ∃ i len a b t, vGet tbl σ.1 = some (i, len, a, b, t) ∧ sFin i = true
section SRUN
variable {vms : List vMt} {df : List (List vAV)} {d : Nat} {md : sMd} {hp0 : List vOb} {scal : sCal} {tbl : vTbl} {stops : sSt → Bool} {mc ms : Nat}
theorem sRunL_ok (hs : sCalOK vms df d md hp0 scal) : ∀ (f : Nat) (σ : sSt) (L : List sSt), sRunL scal md tbl stops f σ = some L → ∀ (ρ : List Nat) (kl : vLs) (ks : List vAV) (hp : List vOb), sR md hp0 ρ σ.2.1 σ.2.2.1 σ.2.2.2.1 σ.2.2.2.2 kl ks hp →
    ∃ σ' ∈ L, ∃ xs kl' ks' hp', kRe vms df d tbl mc ms (σ.1, kl, ks, hp) (σ'.1, kl', ks', hp') ∧ sR md hp0 (ρ ++ xs) σ'.2.1 σ'.2.2.1 σ'.2.2.2.1 σ'.2.2.2.2 kl' ks' hp' ∧ sEnd tbl stops σ'
  | 0, _, _, h, _, _, _, _, _ => by cases h
  | f + 1, (pc, ls, st, h, G), L, he, ρ, kl, ks, hp, hR => by
    unfold sRunL at he
    split at he
    · cases he
    · next i len a b t hg =>
      split at he
      · next L1 hL1 =>
        obtain ⟨pc1, kl1, ks1, hp1, e1, σ1, e2, e3, xs, e4⟩ := sStep_ok (sc := []) (tx := vTx) hR hL1
        obtain ⟨A, a1, a2⟩ := sAll_mem he σ1 e2
        have hk := kRe_step (vms := vms) (df := df) (d := d) (mc := mc) (ms := ms) hg e1
        cases hb : stops σ1 with
        | true =>
          rw [hb, cond_true] at a1
          cases a1
          refine ⟨σ1, a2 _ List.mem_cons_self, xs, kl1, ks1, hp1, ?_, e4, Or.inl hb⟩
          rw [e3]
          exact hk
        | false =>
          rw [hb, cond_false] at a1
          obtain ⟨σ2, f1, ys, kl2, ks2, hp2, f2, f3, f4⟩ := sRunL_ok hs f σ1 A a1 (ρ ++ xs) kl1 ks1 hp1 e4
          refine ⟨σ2, a2 _ f1, xs ++ ys, kl2, ks2, hp2, ?_, ?_, f4⟩
          · rw [e3] at f2
            exact hk.tr f2
          · rw [← List.append_assoc]
            exact f3
      · split at he
        · next L1 hL1 =>
          rw [vF_eq] at he
          obtain ⟨hl, ht, hh, hG, hf⟩ := hR
          obtain ⟨v1, v2, e, e1, xs, ks1, hp1, e2, e3, e4, e5, e6⟩ := sInv_ok (len := len) (pc := pc) (kl := kl) hs ht hh hG hf hL1
          obtain ⟨A, a1, a2⟩ := sAll_mem he e e1
          have hk := kRe_call (mc := mc) (ms := ms) (ls := kl) hg v1 v2 e2
          cases hb : stops (pc + 3, ls, e) with
          | true =>
            rw [hb, cond_true] at a1
            cases a1
            exact ⟨_, a2 _ List.mem_cons_self, xs, kl, ks1, hp1, hk, ⟨sLr_app xs hl, e3, e4, e5, e6⟩, Or.inl hb⟩
          | false =>
            rw [hb, cond_false] at a1
            obtain ⟨σ2, f1, ys, kl2, ks2, hp2, f2, f3, f4⟩ := sRunL_ok hs f (pc + 3, ls, e) A a1 (ρ ++ xs) kl ks1 hp1 ⟨sLr_app xs hl, e3, e4, e5, e6⟩
            refine ⟨σ2, a2 _ f1, xs ++ ys, kl2, ks2, hp2, hk.tr f2, ?_, f4⟩
            rw [← List.append_assoc]
            exact f3
        · cases hb : sFin i with
          | false => rw [hb] at he; cases he
          | true =>
            rw [hb, cond_true] at he
            cases he
            refine ⟨_, List.mem_cons_self, [], kl, ks, hp, kRe.rf _, ?_, Or.inr ⟨i, len, a, b, t, hg, hb⟩⟩
            rw [List.append_nil]
            exact hR
end SRUN
/-! ===== an answer ===== -/
noncomputable def sRetV (ret : Option FieldType) (i : Instr) (st : List vAV) (G : sG) : Option (Option vAV) := match i, st with
  | .ireturn, [c] => (match ret with
    | some .int => bif Nat.beq (sKd c) 0 then some (some c) else none
    | some .boolean => (match sSetOf G c with
      | some S => bif sSub S [(2147483648, 2147483649)] then some (some c) else none
      | none => none)
    | _ => none)
  | .lreturn, [c] => (match ret with
    | some .long => bif sLng (.inl c) then some (some c) else none
    | _ => none)
  | .return_, [] => (match ret with
    | none => some none
    | _ => none)
  | _, _ => none
theorem sRetV_ok {ρ : List Nat} {ret : Option FieldType} {i : Instr} {st ks : List vAV} {G : sG} {r : Option vAV} (hG : sGr ρ G) (ht : sTr ρ st ks) (h : sRetV ret i st G = some r) : ∃ kr, vRet ret i ks = some kr ∧ sRt ρ r kr := by
  unfold sRetV at h
  split at h
  · next c =>
    match ks, ht with
    | [v], ht =>
      split at h
      · cases hb : Nat.beq (sKd c) 0 with
        | false => rw [hb] at h; cases h
        | true =>
          rw [hb, cond_true] at h
          cases h
          obtain ⟨u, hu, rfl⟩ := sInt ht.1 hb
          exact ⟨some (.inl u), rfl, ht.1⟩
      · split at h
        · next S hS =>
          cases hb : sSub S [(2147483648, 2147483649)] with
          | false => rw [hb] at h; cases h
          | true =>
            rw [hb, cond_true] at h
            cases h
            obtain ⟨u, hu, rfl, i1⟩ := sSetOf_ok hG ht.1 hS
            refine ⟨some (.inl u), ?_, ht.1⟩
            show (bif Nat.ble u 1 then some (some (Sum.inl u)) else none) = _
            rw [Nat.ble_eq_true_of_le (sBit hu i1 hb)]
            rfl
        · cases h
      · cases h
    | _ :: _ :: _, ht => exact ht.2.elim
  · next c =>
    match ks, ht with
    | [v], ht =>
      split at h
      · cases hb : sLng (.inl c) with
        | false => rw [hb] at h; cases h
        | true =>
          rw [hb, cond_true] at h
          cases h
          obtain ⟨u, hu, rfl⟩ := sLng_ok (c := .inl c) hb ht.1
          exact ⟨some (.inr (.inr (.inl u))), rfl, ht.1⟩
      · cases h
    | _ :: _ :: _, ht => exact ht.2.elim
  · match ks, ht with
    | [], ht =>
      split at h
      · cases h
        exact ⟨none, rfl, trivial⟩
      · cases h
  · cases h
def sArgs : List vAV → vLs
  | [] => []
  | c :: cs => bif Nat.beq (sKd c) 1 then some c :: none :: sArgs cs else some c :: sArgs cs
def sEnt (av : List vAV) (nL : Nat) : vLs := sArgs av ++ List.replicate (nL - (sArgs av).length) none
theorem sLr_rep {ρ : List Nat} : ∀ n : Nat, sLr ρ (List.replicate n none) (List.replicate n none)
  | 0 => trivial
  | n + 1 => ⟨fun x h => (by cases h), sLr_rep n⟩
theorem sLr_appd {ρ : List Nat} : ∀ {a b c d : vLs}, sLr ρ a b → sLr ρ c d → sLr ρ (a ++ c) (b ++ d)
  | [], [], _, _, _, h => h
  | _ :: _, _ :: _, _, _, h1, h2 => ⟨h1.1, sLr_appd h1.2 h2⟩
  | [], _ :: _, _, _, h, _ => h.elim
  | _ :: _, [], _, _, h, _ => h.elim
theorem sArgs_ok {ρ : List Nat} : ∀ {av kav : List vAV}, sTr ρ av kav → sLr ρ (sArgs av) (vArgs kav)
  | [], [], _ => trivial
  | c :: cs, v :: vs, h => by
    show sLr ρ (bif Nat.beq (sKd c) 1 then some c :: none :: sArgs cs else some c :: sArgs cs) (bif Nat.beq (vKd v) 1 then some v :: none :: vArgs vs else some v :: vArgs vs)
    rw [sKd_ok h.1]
    have h1 : ∀ x, some c = some x → ∃ y, some v = some y ∧ sV ρ x y := fun x hx => by cases hx; exact ⟨v, rfl, h.1⟩
    cases Nat.beq (sKd c) 1 with
    | true => exact ⟨h1, fun x hx => (by cases hx), sArgs_ok h.2⟩
    | false => exact ⟨h1, sArgs_ok h.2⟩
  | [], _ :: _, h => h.elim
  | _ :: _, [], h => h.elim
theorem sEnt_ok {ρ : List Nat} {av kav : List vAV} (h : sTr ρ av kav) (nL : Nat) : sLr ρ (sEnt av nL) (vEnt kav nL) ∧ (vArgs kav).length = (sArgs av).length := by
  have h1 := sArgs_ok h
  have h2 := sLr_len h1
  unfold sEnt vEnt
  rw [h2]
  exact ⟨sLr_appd h1 (sLr_rep _), rfl⟩
end
