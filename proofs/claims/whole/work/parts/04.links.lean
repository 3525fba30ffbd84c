def rf_cn (o : Nat) : String := match o with
  | 0 => "FeltCold$Chances"
  | 1 => "FeltCold$Deeds"
  | 2 => "FeltCold$Plan"
  | 3 => "FeltCold$Reader"
  | 4 => "FeltCold$Rows"
  | 5 => "FeltCold$Sender"
  | 6 => "FeltCold$Teller"
  | 7 => "FeltCold$Texts"
  | 8 => "FeltCold$Town"
  | 9 => "FeltCold"
  | 10 => "FeltColdModel"
  | 11 => "java/lang/Integer"
  | 12 => "java/lang/Math"
  | _ => "java/util/Arrays"
abbrev mX0_weigh : rf_M := (0, yX0_weigh, cX0_weigh, 11, none, 4, false)
abbrev mX0_seeming : rf_M := (0, yX0_seeming, cX0_seeming, 8, (some .int), 4, true)
abbrev mX0_ways : rf_M := (0, yX0_ways, cX0_ways, 6, (some .long), 3, true)
abbrev mX0_reduce : rf_M := (0, yX0_reduce, cX0_reduce, 12, none, 2, false)
abbrev mX1_forget : rf_M := (1, yX1_forget, cX1_forget, 1, none, 0, false)
abbrev mX1_left : rf_M := (1, yX1_left, cX1_left, 1, (some .int), 0, false)
abbrev mX1_carryOut : rf_M := (1, yX1_carryOut, cX1_carryOut, 5, none, 4, false)
abbrev mX1_goBack : rf_M := (1, yX1_goBack, cX1_goBack, 5, none, 2, false)
abbrev mX1_store : rf_M := (1, yX1_store, cX1_store, 2, none, 1, false)
abbrev mX1_resume : rf_M := (1, yX1_resume, cX1_resume, 3, none, 2, false)
abbrev mX2_clear : rf_M := (2, yX2_clear, cX2_clear, 1, none, 0, false)
abbrev mX2_hasSpaceForRoom : rf_M := (2, yX2_hasSpaceForRoom, cX2_hasSpaceForRoom, 1, (some .boolean), 0, false)
abbrev mX2_hasSpaceForMember : rf_M := (2, yX2_hasSpaceForMember, cX2_hasSpaceForMember, 1, (some .boolean), 0, false)
abbrev mX2_addRoom : rf_M := (2, yX2_addRoom, cX2_addRoom, 3, none, 2, false)
abbrev mX2_addMember : rf_M := (2, yX2_addMember, cX2_addMember, 5, none, 4, false)
abbrev mX2_takeFrom : rf_M := (2, yX2_takeFrom, cX2_takeFrom, 2, none, 1, false)
abbrev mX3_read : rf_M := (3, yX3_read, cX3_read, 6, (some .int), 2, false)
abbrev mX3_skipBlanks : rf_M := (3, yX3_skipBlanks, cX3_skipBlanks, 4, none, 2, false)
abbrev mX3_readItem : rf_M := (3, yX3_readItem, cX3_readItem, 6, (some .int), 2, false)
abbrev mX3_readRoom : rf_M := (3, yX3_readRoom, cX3_readRoom, 5, (some .int), 2, false)
abbrev mX3_readMember : rf_M := (3, yX3_readMember, cX3_readMember, 7, (some .int), 3, false)
abbrev mX3_readNumber : rf_M := (3, yX3_readNumber, cX3_readNumber, 9, (some .int), 5, false)
abbrev mX3_kindBySign : rf_M := (3, yX3_kindBySign, cX3_kindBySign, 2, (some .int), 1, true)
abbrev mX4_make : rf_M := (4, yX4_make, cX4_make, 3, none, 2, false)
abbrev mX4_remove : rf_M := (4, yX4_remove, cX4_remove, 2, none, 1, false)
abbrev mX4_isMissing : rf_M := (4, yX4_isMissing, cX4_isMissing, 2, (some .boolean), 1, false)
abbrev mX4_sizeOf : rf_M := (4, yX4_sizeOf, cX4_sizeOf, 2, (some .int), 1, false)
abbrev mX4_has : rf_M := (4, yX4_has, cX4_has, 3, (some .boolean), 2, false)
abbrev mX4_hasAll : rf_M := (4, yX4_hasAll, cX4_hasAll, 4, (some .boolean), 3, false)
abbrev mX4_get : rf_M := (4, yX4_get, cX4_get, 3, (some .int), 2, false)
abbrev mX4_set : rf_M := (4, yX4_set, cX4_set, 4, none, 3, false)
abbrev mX4_move : rf_M := (4, yX4_move, cX4_move, 6, none, 5, false)
abbrev mX4_sum : rf_M := (4, yX4_sum, cX4_sum, 5, (some .long), 1, false)
abbrev mX4_arePairs : rf_M := (4, yX4_arePairs, cX4_arePairs, 6, (some .boolean), 2, false)
abbrev mX5_seek : rf_M := (5, yX5_seek, cX5_seek, 5, none, 2, false)
abbrev mX5_sendFrom : rf_M := (5, yX5_sendFrom, cX5_sendFrom, 7, none, 4, false)
abbrev mX5_compare : rf_M := (5, yX5_compare, cX5_compare, 5, none, 2, false)
abbrev mX6_look : rf_M := (6, yX6_look, cX6_look, 5, none, 1, false)
abbrev mX6_partsBy : rf_M := (6, yX6_partsBy, cX6_partsBy, 5, (some .int), 1, false)
abbrev mX7_make : rf_M := (7, yX7_make, cX7_make, 3, none, 2, false)
abbrev mX7_isMissing : rf_M := (7, yX7_isMissing, cX7_isMissing, 2, (some .boolean), 1, false)
abbrev mX7_sizeOf : rf_M := (7, yX7_sizeOf, cX7_sizeOf, 2, (some .int), 1, false)
abbrev mX7_has : rf_M := (7, yX7_has, cX7_has, 3, (some .boolean), 2, false)
abbrev mX7_get : rf_M := (7, yX7_get, cX7_get, 3, (some .int), 2, false)
abbrev mX7_set : rf_M := (7, yX7_set, cX7_set, 4, none, 3, false)
abbrev mX8_settle : rf_M := (8, yX8_settle, cX8_settle, 2, none, 1, false)
abbrev mX8_begin : rf_M := (8, yX8_begin, cX8_begin, 1, none, 0, false)
abbrev mX8_members : rf_M := (8, yX8_members, cX8_members, 1, (some .int), 0, false)
abbrev mX8_rooms : rf_M := (8, yX8_rooms, cX8_rooms, 1, (some .int), 0, false)
abbrev mX8_isEmpty : rf_M := (8, yX8_isEmpty, cX8_isEmpty, 1, (some .boolean), 0, false)
abbrev mX8_everybody : rf_M := (8, yX8_everybody, cX8_everybody, 1, (some .int), 0, false)
abbrev mX8_isSet : rf_M := (8, yX8_isSet, cX8_isSet, 2, (some .boolean), 1, false)
abbrev mX8_needOf : rf_M := (8, yX8_needOf, cX8_needOf, 2, (some .int), 1, false)
abbrev mX8_kindOf : rf_M := (8, yX8_kindOf, cX8_kindOf, 2, (some .int), 1, false)
abbrev mX8_markOf : rf_M := (8, yX8_markOf, cX8_markOf, 2, (some .int), 1, false)
abbrev mX8_widthOf : rf_M := (8, yX8_widthOf, cX8_widthOf, 2, (some .int), 1, false)
abbrev mX8_there : rf_M := (8, yX8_there, cX8_there, 4, (some .int), 1, false)
abbrev mX8_sneezers : rf_M := (8, yX8_sneezers, cX8_sneezers, 3, (some .int), 0, false)
abbrev mX8_otherTwins : rf_M := (8, yX8_otherTwins, cX8_otherTwins, 4, (some .int), 1, false)
abbrev mX8_feltBy : rf_M := (8, yX8_feltBy, cX8_feltBy, 2, (some .int), 1, false)
abbrev mX8_feeling : rf_M := (8, yX8_feeling, cX8_feeling, 5, (some .int), 4, true)
abbrev mX8_doingBy : rf_M := (8, yX8_doingBy, cX8_doingBy, 5, (some .int), 3, true)
abbrev mX8_wouldAs : rf_M := (8, yX8_wouldAs, cX8_wouldAs, 4, (some .int), 3, false)
abbrev mX8_would : rf_M := (8, yX8_would, cX8_would, 2, (some .int), 1, false)
abbrev mX8_does : rf_M := (8, yX8_does, cX8_does, 2, (some .int), 1, false)
abbrev mX8_doesNow : rf_M := (8, yX8_doesNow, cX8_doesNow, 2, (some .int), 1, false)
abbrev mX8_doers : rf_M := (8, yX8_doers, cX8_doers, 3, (some .int), 0, false)
abbrev mX8_likeAt : rf_M := (8, yX8_likeAt, cX8_likeAt, 4, (some .int), 2, false)
abbrev mX8_spanAt : rf_M := (8, yX8_spanAt, cX8_spanAt, 5, (some .int), 2, false)
abbrev mX8_spanIn : rf_M := (8, yX8_spanIn, cX8_spanIn, 3, (some .int), 2, false)
abbrev mX8_copyOfColds : rf_M := (8, yX8_copyOfColds, cX8_copyOfColds, 1, (some (.array .int)), 0, false)
abbrev mX8_catchers : rf_M := (8, yX8_catchers, cX8_catchers, 5, (some .int), 1, false)
abbrev mX8_passColds : rf_M := (8, yX8_passColds, cX8_passColds, 4, none, 1, false)
abbrev mX8_staysSo : rf_M := (8, yX8_staysSo, cX8_staysSo, 9, (some .boolean), 4, false)
abbrev mX8_act : rf_M := (8, yX8_act, cX8_act, 4, none, 3, false)
abbrev mX9_row : rf_M := (9, yX9_row, cX9_row, 3, (some .int), 2, false)
abbrev mX9_lay : rf_M := (9, yX9_lay, cX9_lay, 5, (some .int), 3, false)
abbrev mX9_at : rf_M := (9, yX9_at, cX9_at, 4, (some .int), 2, false)
abbrev mX9_tear : rf_M := (9, yX9_tear, cX9_tear, 3, (some .int), 1, false)
abbrev mX9_copy : rf_M := (9, yX9_copy, cX9_copy, 6, (some .int), 5, false)
abbrev mX9_mean : rf_M := (9, yX9_mean, cX9_mean, 4, (some .int), 1, false)
abbrev mX9_text : rf_M := (9, yX9_text, cX9_text, 3, (some .int), 2, false)
abbrev mX9_put : rf_M := (9, yX9_put, cX9_put, 6, (some .int), 3, false)
abbrev mX9_fault : rf_M := (9, yX9_fault, cX9_fault, 3, (some .int), 1, false)
abbrev mX9_town : rf_M := (9, yX9_town, cX9_town, 3, (some .int), 1, false)
abbrev mX9_member : rf_M := (9, yX9_member, cX9_member, 3, (some .int), 2, false)
abbrev mX9_room : rf_M := (9, yX9_room, cX9_room, 3, (some .int), 2, false)
abbrev mX9_mark : rf_M := (9, yX9_mark, cX9_mark, 3, (some .int), 2, false)
abbrev mX9_walk : rf_M := (9, yX9_walk, cX9_walk, 3, (some .int), 2, false)
abbrev mX9_hour : rf_M := (9, yX9_hour, cX9_hour, 3, (some .int), 0, false)
abbrev mX9_soup : rf_M := (9, yX9_soup, cX9_soup, 2, (some .int), 0, false)
abbrev mX9_cold : rf_M := (9, yX9_cold, cX9_cold, 2, (some .int), 1, false)
abbrev mX9_love : rf_M := (9, yX9_love, cX9_love, 3, (some .int), 2, false)
abbrev mX9_fire : rf_M := (9, yX9_fire, cX9_fire, 4, (some .int), 2, false)
abbrev mX9_undo : rf_M := (9, yX9_undo, cX9_undo, 3, (some .int), 1, false)
abbrev mX9_keep : rf_M := (9, yX9_keep, cX9_keep, 2, (some .int), 1, false)
abbrev mX9_on : rf_M := (9, yX9_on, cX9_on, 2, (some .int), 1, false)
abbrev mX9_span : rf_M := (9, yX9_span, cX9_span, 3, (some .int), 1, false)
abbrev mX9_spanBy : rf_M := (9, yX9_spanBy, cX9_spanBy, 3, (some .int), 2, false)
abbrev mX9_known : rf_M := (9, yX9_known, cX9_known, 3, (some .int), 0, false)
abbrev mX9_box : rf_M := (9, yX9_box, cX9_box, 7, (some .int), 2, false)
abbrev mX9_send : rf_M := (9, yX9_send, cX9_send, 3, (some .int), 1, false)
abbrev mX9_most : rf_M := (9, yX9_most, cX9_most, 2, (some .int), 1, false)
abbrev mX9_parts : rf_M := (9, yX9_parts, cX9_parts, 3, (some .int), 1, false)
abbrev mX9_fewest : rf_M := (9, yX9_fewest, cX9_fewest, 4, (some .int), 0, false)
abbrev mX9_alike : rf_M := (9, yX9_alike, cX9_alike, 2, (some .int), 1, false)
abbrev mX9_fits : rf_M := (9, yX9_fits, cX9_fits, 4, (some .int), 1, false)
abbrev mX9_tickled : rf_M := (9, yX9_tickled, cX9_tickled, 5, (some .int), 1, false)
abbrev mX9_shifts : rf_M := (9, yX9_shifts, cX9_shifts, 7, (some .int), 2, false)
abbrev mX9_kinds : rf_M := (9, yX9_kinds, cX9_kinds, 7, (some .int), 2, false)
abbrev mX9_spreads : rf_M := (9, yX9_spreads, cX9_spreads, 5, (some .int), 1, false)
abbrev mX9_soups : rf_M := (9, yX9_soups, cX9_soups, 7, (some .int), 3, false)
abbrev mX9_odds : rf_M := (9, yX9_odds, cX9_odds, 3, (some .int), 2, false)
abbrev mX9_mid : rf_M := (9, yX9_mid, cX9_mid, 3, (some .int), 2, false)
abbrev mX9_lots : rf_M := (9, yX9_lots, cX9_lots, 6, (some .int), 2, false)
abbrev mX9_asked : rf_M := (9, yX9_asked, cX9_asked, 1, (some .int), 0, false)
abbrev mX9_upper : rf_M := (9, yX9_upper, cX9_upper, 1, (some .long), 0, false)
abbrev mX9_lower : rf_M := (9, yX9_lower, cX9_lower, 1, (some .long), 0, false)
abbrev mX9_count : rf_M := (9, yX9_count, cX9_count, 2, (some .int), 1, false)
abbrev mX9_finding : rf_M := (9, yX9_finding, cX9_finding, 1, (some .int), 0, false)
abbrev mX9_findings : rf_M := (9, yX9_findings, cX9_findings, 2, (some .int), 1, false)
abbrev mX9_digest : rf_M := (9, yX9_digest, cX9_digest, 5, (some .long), 0, false)
abbrev mX9_digestRows : rf_M := (9, yX9_digestRows, cX9_digestRows, 7, (some .long), 1, false)
abbrev mX9_digestTexts : rf_M := (9, yX9_digestTexts, cX9_digestTexts, 7, (some .long), 1, false)
abbrev mX9_find : rf_M := (9, yX9_find, cX9_find, 2, (some .int), 1, false)
abbrev mX9_isRow : rf_M := (9, yX9_isRow, cX9_isRow, 1, (some .boolean), 1, true)
abbrev mX9_isText : rf_M := (9, yX9_isText, cX9_isText, 1, (some .boolean), 1, true)
abbrev mX9_isKept : rf_M := (9, yX9_isKept, cX9_isKept, 1, (some .boolean), 1, true)
abbrev mX9_isDegree : rf_M := (9, yX9_isDegree, cX9_isDegree, 1, (some .boolean), 1, true)
abbrev mX9_isRoom : rf_M := (9, yX9_isRoom, cX9_isRoom, 2, (some .boolean), 1, false)
abbrev mX9_isMember : rf_M := (9, yX9_isMember, cX9_isMember, 2, (some .boolean), 1, false)
abbrev mX9_ofMember : rf_M := (9, yX9_ofMember, cX9_ofMember, 3, (some .int), 2, false)
abbrev mX9_refusedRow : rf_M := (9, yX9_refusedRow, cX9_refusedRow, 2, (some .int), 1, false)
abbrev mX9_refusedPlace : rf_M := (9, yX9_refusedPlace, cX9_refusedPlace, 4, (some .int), 2, false)
abbrev mX9_refusedText : rf_M := (9, yX9_refusedText, cX9_refusedText, 2, (some .int), 1, false)
abbrev mX9_refusedDeed : rf_M := (9, yX9_refusedDeed, cX9_refusedDeed, 1, (some .int), 0, false)
abbrev mX9_refusedRecord : rf_M := (9, yX9_refusedRecord, cX9_refusedRecord, 2, (some .int), 1, false)
abbrev mX9_refusedDays : rf_M := (9, yX9_refusedDays, cX9_refusedDays, 3, (some .int), 2, false)
abbrev mX9_refusedPairs : rf_M := (9, yX9_refusedPairs, cX9_refusedPairs, 3, (some .int), 2, false)
abbrev mX9_fitting : rf_M := (9, yX9_fitting, cX9_fitting, 6, (some .int), 2, false)
abbrev mX9_agreesWithDays : rf_M := (9, yX9_agreesWithDays, cX9_agreesWithDays, 5, (some .boolean), 2, false)
abbrev mX9_weighed : rf_M := (9, yX9_weighed, cX9_weighed, 4, (some .int), 3, false)
abbrev mX9_carryOutLot : rf_M := (9, yX9_carryOutLot, cX9_carryOutLot, 6, none, 1, false)
abbrev mX9_seen : rf_M := (9, yX9_seen, cX9_seen, 2, (some .int), 2, true)
abbrev mX9_sick : rf_M := (9, yX9_sick, cX9_sick, 3, (some .int), 1, true)
abbrev mX9_present : rf_M := (9, yX9_present, cX9_present, 6, (some .int), 1, true)
abbrev mX9_isOfKind : rf_M := (9, yX9_isOfKind, cX9_isOfKind, 2, (some .boolean), 2, true)
abbrev mX10_in : rf_M := (10, yX10_in, cX10_in, 3, (some .boolean), 3, true)
abbrev mX10_has : rf_M := (10, yX10_has, cX10_has, 2, (some .boolean), 2, true)
abbrev mX10_bits : rf_M := (10, yX10_bits, cX10_bits, 3, (some .int), 1, true)
abbrev mX10_finds : rf_M := (10, yX10_finds, cX10_finds, 2, (some .int), 1, false)
abbrev mX10_tells : rf_M := (10, yX10_tells, cX10_tells, 2, (some .int), 1, false)
abbrev mX10_bring : rf_M := (10, yX10_bring, cX10_bring, 6, none, 5, true)
abbrev mX10_isOne : rf_M := (10, yX10_isOne, cX10_isOne, 2, (some .boolean), 1, false)
abbrev mX10_isRoom : rf_M := (10, yX10_isRoom, cX10_isRoom, 2, (some .boolean), 1, false)
abbrev mX10_isSet : rf_M := (10, yX10_isSet, cX10_isSet, 2, (some .boolean), 1, false)
abbrev mX10_row : rf_M := (10, yX10_row, cX10_row, 4, (some .int), 2, false)
abbrev mX10_wrongAt : rf_M := (10, yX10_wrongAt, cX10_wrongAt, 3, (some .int), 2, false)
abbrev mX10_lay : rf_M := (10, yX10_lay, cX10_lay, 6, (some .int), 3, false)
abbrev mX10_at : rf_M := (10, yX10_at, cX10_at, 4, (some .int), 2, false)
abbrev mX10_tear : rf_M := (10, yX10_tear, cX10_tear, 2, (some .int), 1, false)
abbrev mX10_isPart : rf_M := (10, yX10_isPart, cX10_isPart, 3, (some .boolean), 3, true)
abbrev mX10_copy : rf_M := (10, yX10_copy, cX10_copy, 9, (some .int), 5, false)
abbrev mX10_mean : rf_M := (10, yX10_mean, cX10_mean, 5, (some .int), 1, false)
abbrev mX10_text : rf_M := (10, yX10_text, cX10_text, 4, (some .int), 2, false)
abbrev mX10_put : rf_M := (10, yX10_put, cX10_put, 5, (some .int), 3, false)
abbrev mX10_letterAt : rf_M := (10, yX10_letterAt, cX10_letterAt, 2, (some .int), 1, false)
abbrev mX10_isFigure : rf_M := (10, yX10_isFigure, cX10_isFigure, 2, (some .boolean), 1, false)
abbrev mX10_two : rf_M := (10, yX10_two, cX10_two, 4, (some .int), 2, false)
abbrev mX10_one : rf_M := (10, yX10_one, cX10_one, 3, (some .int), 1, false)
abbrev mX10_isRoomItem : rf_M := (10, yX10_isRoomItem, cX10_isRoomItem, 3, (some .boolean), 0, false)
abbrev mX10_sortBy : rf_M := (10, yX10_sortBy, cX10_sortBy, 1, (some .int), 1, true)
abbrev mX10_isMemberItem : rf_M := (10, yX10_isMemberItem, cX10_isMemberItem, 5, (some .boolean), 0, false)
abbrev mX10_skip : rf_M := (10, yX10_skip, cX10_skip, 1, none, 0, false)
abbrev mX10_read : rf_M := (10, yX10_read, cX10_read, 3, (some .int), 1, false)
abbrev mX10_fault : rf_M := (10, yX10_fault, cX10_fault, 2, (some .int), 1, false)
abbrev mX10_town : rf_M := (10, yX10_town, cX10_town, 3, (some .int), 1, false)
abbrev mX10_feelsBy : rf_M := (10, yX10_feelsBy, cX10_feelsBy, 4, (some .int), 3, true)
abbrev mX10_feels : rf_M := (10, yX10_feels, cX10_feels, 3, (some .int), 2, false)
abbrev mX10_doesBy : rf_M := (10, yX10_doesBy, cX10_doesBy, 4, (some .boolean), 4, true)
abbrev mX10_wouldAt : rf_M := (10, yX10_wouldAt, cX10_wouldAt, 4, (some .boolean), 3, false)
abbrev mX10_doesAt : rf_M := (10, yX10_doesAt, cX10_doesAt, 4, (some .boolean), 3, false)
abbrev mX10_does : rf_M := (10, yX10_does, cX10_does, 3, (some .boolean), 2, false)
abbrev mX10_thereIn : rf_M := (10, yX10_thereIn, cX10_thereIn, 5, (some .int), 2, false)
abbrev mX10_doing : rf_M := (10, yX10_doing, cX10_doing, 4, (some .int), 1, false)
abbrev mX10_memberTells : rf_M := (10, yX10_memberTells, cX10_memberTells, 3, (some .int), 2, false)
abbrev mX10_member : rf_M := (10, yX10_member, cX10_member, 3, (some .int), 2, false)
abbrev mX10_room : rf_M := (10, yX10_room, cX10_room, 3, (some .int), 2, false)
abbrev mX10_is : rf_M := (10, yX10_is, cX10_is, 2, (some .boolean), 2, true)
abbrev mX10_coldIn : rf_M := (10, yX10_coldIn, cX10_coldIn, 5, (some .int), 2, false)
abbrev mX10_mark : rf_M := (10, yX10_mark, cX10_mark, 5, (some .int), 2, false)
abbrev mX10_note : rf_M := (10, yX10_note, cX10_note, 1, none, 0, false)
abbrev mX10_step : rf_M := (10, yX10_step, cX10_step, 5, none, 3, false)
abbrev mX10_walk : rf_M := (10, yX10_walk, cX10_walk, 3, (some .int), 2, false)
abbrev mX10_pass : rf_M := (10, yX10_pass, cX10_pass, 4, (some .int), 1, false)
abbrev mX10_noDeed : rf_M := (10, yX10_noDeed, cX10_noDeed, 1, (some .int), 0, false)
abbrev mX10_hour : rf_M := (10, yX10_hour, cX10_hour, 1, (some .int), 0, false)
abbrev mX10_soup : rf_M := (10, yX10_soup, cX10_soup, 1, (some .int), 0, false)
abbrev mX10_coldOnes : rf_M := (10, yX10_coldOnes, cX10_coldOnes, 4, (some .int), 1, false)
abbrev mX10_cold : rf_M := (10, yX10_cold, cX10_cold, 2, (some .int), 1, false)
abbrev mX10_love : rf_M := (10, yX10_love, cX10_love, 3, (some .int), 2, false)
abbrev mX10_fire : rf_M := (10, yX10_fire, cX10_fire, 4, (some .int), 2, false)
abbrev mX10_undo : rf_M := (10, yX10_undo, cX10_undo, 3, (some .int), 1, false)
abbrev mX10_keep : rf_M := (10, yX10_keep, cX10_keep, 2, (some .int), 1, false)
abbrev mX10_on : rf_M := (10, yX10_on, cX10_on, 2, (some .int), 1, false)
abbrev mX10_spanOf : rf_M := (10, yX10_spanOf, cX10_spanOf, 8, (some .int), 3, false)
abbrev mX10_span : rf_M := (10, yX10_span, cX10_span, 3, (some .int), 1, false)
abbrev mX10_spanBy : rf_M := (10, yX10_spanBy, cX10_spanBy, 3, (some .int), 2, false)
abbrev mX10_knownIn : rf_M := (10, yX10_knownIn, cX10_knownIn, 4, (some .int), 1, false)
abbrev mX10_known : rf_M := (10, yX10_known, cX10_known, 1, (some .int), 0, false)
abbrev mX10_box : rf_M := (10, yX10_box, cX10_box, 7, (some .int), 2, false)
abbrev mX10_walkBy : rf_M := (10, yX10_walkBy, cX10_walkBy, 4, none, 1, false)
abbrev mX10_ways : rf_M := (10, yX10_ways, cX10_ways, 3, (some .int), 0, false)
abbrev mX10_send : rf_M := (10, yX10_send, cX10_send, 5, (some .int), 1, false)
abbrev mX10_most : rf_M := (10, yX10_most, cX10_most, 6, (some .int), 1, false)
abbrev mX10_doingAt : rf_M := (10, yX10_doingAt, cX10_doingAt, 5, (some .int), 2, false)
abbrev mX10_alikeBy : rf_M := (10, yX10_alikeBy, cX10_alikeBy, 5, (some .int), 2, false)
abbrev mX10_partsBy : rf_M := (10, yX10_partsBy, cX10_partsBy, 6, (some .int), 1, false)
abbrev mX10_parts : rf_M := (10, yX10_parts, cX10_parts, 3, (some .int), 1, false)
abbrev mX10_fewest : rf_M := (10, yX10_fewest, cX10_fewest, 4, (some .int), 0, false)
abbrev mX10_alike : rf_M := (10, yX10_alike, cX10_alike, 2, (some .int), 1, false)
abbrev mX10_wrongPairs : rf_M := (10, yX10_wrongPairs, cX10_wrongPairs, 5, (some .int), 2, false)
abbrev mX10_fitsBy : rf_M := (10, yX10_fitsBy, cX10_fitsBy, 8, (some .int), 2, false)
abbrev mX10_fits : rf_M := (10, yX10_fits, cX10_fits, 4, (some .int), 1, false)
abbrev mX10_tickled : rf_M := (10, yX10_tickled, cX10_tickled, 5, (some .int), 1, false)
abbrev mX10_isBy : rf_M := (10, yX10_isBy, cX10_isBy, 7, (some .boolean), 4, false)
abbrev mX10_shifts : rf_M := (10, yX10_shifts, cX10_shifts, 6, (some .int), 2, false)
abbrev mX10_kinds : rf_M := (10, yX10_kinds, cX10_kinds, 6, (some .int), 2, false)
abbrev mX10_spreads : rf_M := (10, yX10_spreads, cX10_spreads, 4, (some .int), 1, false)
abbrev mX10_isServed : rf_M := (10, yX10_isServed, cX10_isServed, 7, (some .boolean), 4, false)
abbrev mX10_soups : rf_M := (10, yX10_soups, cX10_soups, 6, (some .int), 3, false)
abbrev mX10_tellsPart : rf_M := (10, yX10_tellsPart, cX10_tellsPart, 11, none, 2, false)
abbrev mX10_seems : rf_M := (10, yX10_seems, cX10_seems, 15, (some .int), 3, false)
abbrev mX10_odds : rf_M := (10, yX10_odds, cX10_odds, 3, (some .int), 2, false)
abbrev mX10_mid : rf_M := (10, yX10_mid, cX10_mid, 3, (some .int), 2, false)
abbrev mX10_lots : rf_M := (10, yX10_lots, cX10_lots, 8, (some .int), 2, false)
abbrev mX10_asked : rf_M := (10, yX10_asked, cX10_asked, 1, (some .int), 0, false)
abbrev mX10_upper : rf_M := (10, yX10_upper, cX10_upper, 1, (some .long), 0, false)
abbrev mX10_lower : rf_M := (10, yX10_lower, cX10_lower, 1, (some .long), 0, false)
abbrev mX10_thereOf : rf_M := (10, yX10_thereOf, cX10_thereOf, 6, (some .int), 1, true)
abbrev mX10_count : rf_M := (10, yX10_count, cX10_count, 4, (some .int), 1, false)
abbrev mX10_finding : rf_M := (10, yX10_finding, cX10_finding, 1, (some .int), 0, false)
abbrev mX10_findings : rf_M := (10, yX10_findings, cX10_findings, 2, (some .int), 1, false)
abbrev mX10_digest : rf_M := (10, yX10_digest, cX10_digest, 5, (some .long), 0, false)
abbrev mJ6_bitCount_0f7a4 : rf_M := (11, yJ6_bitCount_0f7a4, cJ6_bitCount_0f7a4, 1, (some .int), 1, true)
abbrev mJ7_fill_53178 : rf_M := (13, yJ7_fill_53178, cJ7_fill_53178, 4, none, 2, true)
abbrev mJ7_fill_031fb : rf_M := (13, yJ7_fill_031fb, cJ7_fill_031fb, 4, none, 2, true)
/-- own class, index, the field (class times 100 and its place), whether by the nest -/
def rf_isN (w : Cond) : Bool := match w with
  | .fieldLinkNest .. => true
  | .methodLinkNest .. => true
  | _ => false
def rf_tb : List Cond := lw_tbl.filter goodWord
def rf_nw : List Cond := lw_tbl.filter rf_isN
theorem rf_in_tb {w : Cond} (h : w ∈ lw_tbl) (g : goodWord w = true) : w ∈ rf_tb := List.mem_filter.mpr ⟨h, g⟩
theorem rf_in_nw {w : Cond} (h : w ∈ lw_tbl) (g : rf_isN w = true) : w ∈ rf_nw := List.mem_filter.mpr ⟨h, g⟩
theorem rf_tb_good {w : Cond} (h : w ∈ rf_tb) : (w.onTables && w.keeps) = true ∨ ∃ ty, w = .arrayClass ty := good_of_word (List.mem_filter.mp h).2
def rf_fl (e : Nat × Nat × Nat × Bool) : Cond := match vwCl[e.2.2.1 / 100]? with
  | some q => if e.2.2.2 = true then .fieldLinkNest (rf_cn e.1) e.2.1 (q.2.1 (e.2.2.1 % 100)).1 (q.2.1 (e.2.2.1 % 100)).2.1 (q.2.1 (e.2.2.1 % 100)).2.2.1 "FeltCold" else .fieldLink (rf_cn e.1) e.2.1 (q.2.1 (e.2.2.1 % 100)).1 (q.2.1 (e.2.2.1 % 100)).2.1 (q.2.1 (e.2.2.1 % 100)).2.2.1
  | none => .tt
def rf_cl (e : Nat × Nat × Bool × MethodName) : Cond := if e.2.2.1 = true then .methodLinkNest (rf_cn e.1) e.2.1 e.2.2.2 "FeltCold" else .methodLink (rf_cn e.1) e.2.1 e.2.2.2
def rf_ats (ps : List Nat) : List Cond := ps.filterMap (fun i => lw_tbl[i]?)
theorem rf_ats_in {α : Type} {f : α → Cond} {l : List α} {ps : List Nat} (h : l.map f = rf_ats ps) : ∀ e ∈ l, f e ∈ lw_tbl := by
  intro e he
  have h1 : f e ∈ rf_ats ps := h ▸ List.mem_map_of_mem he
  obtain ⟨i, -, hi⟩ := List.mem_filterMap.mp h1
  exact List.mem_of_getElem? hi
theorem rf_all_app {α : Type} {P : α → Prop} {a b : List α} (ha : ∀ e ∈ a, P e) (hb : ∀ e ∈ b, P e) : ∀ e ∈ a ++ b, P e := List.forall_mem_append.mpr ⟨ha, hb⟩


def rf_fT_0 : List (Nat × Nat × Nat × Bool) := [(0, 9, 0, false), (0, 15, 1, false), (0, 57, 801, true), (1, 9, 100, false), (1, 17, 101, false), (1, 20, 102, false), (1, 29, 103, false), (2, 9, 200, false), (2, 15, 201, false), (2, 18, 202, false), (2, 21, 203, false), (2, 24, 204, false), (2, 27, 205, false), (2, 30, 206, false), (2, 34, 207, false), (3, 12, 300, false), (3, 21, 301, false), (3, 35, 207, true), (3, 71, 302, false), (3, 78, 206, true)]
theorem rf_fT_ok0 : ∀ e ∈ rf_fT_0, rf_fl e ∈ lw_tbl := rf_ats_in (ps := [305, 307, 196, 239, 240, 241, 243, 139, 141, 143, 145, 147, 149, 151, 154, 174, 176, 155, 177, 153]) (by decide +kernel)
def rf_fT_1 : List (Nat × Nat × Nat × Bool) := [(4, 11, 400, false), (4, 16, 401, false), (5, 9, 500, false), (5, 15, 501, false), (5, 18, 502, false), (5, 21, 503, false), (5, 33, 801, true), (5, 47, 504, false), (5, 51, 505, false), (5, 62, 802, true), (6, 9, 600, false), (6, 15, 601, false), (6, 34, 602, false), (7, 11, 700, false), (7, 16, 701, false), (8, 12, 800, false), (8, 18, 801, false), (8, 22, 802, false), (8, 25, 803, false), (8, 28, 804, false)]
theorem rf_fT_ok1 : ∀ e ∈ rf_fT_1, rf_fl e ∈ lw_tbl := rf_ats_in (ps := [100, 101, 260, 261, 262, 263, 195, 265, 267, 199, 288, 289, 290, 118, 119, 193, 194, 198, 201, 203]) (by decide +kernel)
def rf_fT_2 : List (Nat × Nat × Nat × Bool) := [(8, 31, 805, false), (8, 41, 200, true), (8, 48, 205, true), (8, 57, 806, false), (8, 61, 807, false), (8, 64, 808, false), (8, 67, 207, true), (8, 70, 206, true), (8, 77, 201, true), (8, 80, 202, true), (8, 83, 203, true), (8, 86, 204, true), (9, 10, 900, false), (9, 19, 901, false), (9, 26, 902, false), (9, 33, 903, false), (9, 40, 904, false), (9, 47, 905, false), (9, 54, 906, false), (9, 61, 907, false)]
theorem rf_fT_ok2 : ∀ e ∈ rf_fT_2, rf_fl e ∈ lw_tbl := rf_ats_in (ps := [205, 140, 150, 206, 208, 210, 156, 152, 142, 144, 146, 148, 314, 315, 316, 317, 318, 319, 320, 321]) (by decide +kernel)
def rf_fT_3 : List (Nat × Nat × Nat × Bool) := [(9, 65, 908, false), (9, 88, 910, false), (9, 140, 300, true), (9, 164, 801, true), (9, 199, 804, true), (9, 207, 802, true), (9, 210, 803, true), (9, 217, 806, true), (9, 227, 808, true), (9, 242, 103, true), (9, 259, 102, true), (9, 280, 504, true), (9, 283, 503, true), (9, 286, 505, true), (9, 296, 602, true), (9, 342, 0, true), (9, 346, 1, true), (9, 349, 807, true), (9, 355, 401, true), (9, 361, 701, true)]
theorem rf_fT_ok3 : ∀ e ∈ rf_fT_3, rf_fl e ∈ lw_tbl := rf_ats_in (ps := [322, 324, 175, 197, 204, 200, 202, 207, 211, 244, 242, 266, 264, 268, 291, 306, 308, 209, 102, 120]) (by decide +kernel)
def rf_fT_4 : List (Nat × Nat × Nat × Bool) := [(9, 362, 909, false), (10, 7, 1000, false), (10, 13, 1001, false), (10, 16, 1002, false), (10, 19, 1003, false), (10, 22, 1005, false), (10, 25, 1008, false), (10, 29, 1014, false), (10, 32, 1015, false), (10, 35, 1018, false), (10, 38, 1019, false), (10, 41, 1020, false), (10, 44, 1021, false), (10, 47, 1022, false), (10, 50, 1023, false), (10, 53, 1024, false), (10, 56, 1026, false), (10, 59, 1027, false), (10, 62, 1028, false), (10, 65, 1029, false)]
theorem rf_fT_ok4 : ∀ e ∈ rf_fT_4, rf_fl e ∈ lw_tbl := rf_ats_in (ps := [323, 1008, 1009, 1010, 1011, 1013, 1016, 1022, 1023, 1026, 1027, 1028, 1029, 1030, 1031, 1032, 1034, 1035, 1036, 1037]) (by decide +kernel)
def rf_fT_5 : List (Nat × Nat × Nat × Bool) := [(10, 68, 1004, false), (10, 72, 1006, false), (10, 75, 1017, false), (10, 82, 1016, false), (10, 99, 1011, false), (10, 102, 1010, false), (10, 108, 1009, false), (10, 115, 1012, false), (10, 118, 1013, false), (10, 143, 1025, false), (10, 260, 1007, false)]
theorem rf_fT_ok5 : ∀ e ∈ rf_fT_5, rf_fl e ∈ lw_tbl := rf_ats_in (ps := [1012, 1014, 1025, 1024, 1019, 1018, 1017, 1020, 1021, 1033, 1015]) (by decide +kernel)
def rf_fT : List (Nat × Nat × Nat × Bool) := rf_fT_0 ++ (rf_fT_1 ++ (rf_fT_2 ++ (rf_fT_3 ++ (rf_fT_4 ++ (rf_fT_5)))))
theorem rf_fT_ok : ∀ e ∈ rf_fT, rf_fl e ∈ lw_tbl := rf_all_app rf_fT_ok0 (rf_all_app rf_fT_ok1 (rf_all_app rf_fT_ok2 (rf_all_app rf_fT_ok3 (rf_all_app rf_fT_ok4 (rf_fT_ok5)))))
def rf_cT_0 : List (Nat × Nat × Bool × MethodName) := [(0, 18, false, yX8_there), (0, 24, false, yX0_seeming), (0, 28, false, yJ6_bitCount_0f7a4), (0, 33, false, yX0_ways), (0, 45, false, yX0_reduce), (0, 50, false, yX8_members), (0, 54, false, yX8_does), (0, 61, true, yX9_seen), (1, 23, false, yJ7_fill_53178), (1, 33, false, yX1_left), (1, 37, false, yX8_act), (1, 43, false, yX8_begin), (1, 52, false, yX1_goBack), (2, 37, false, yX2_hasSpaceForRoom), (2, 41, false, yX2_hasSpaceForMember), (3, 18, false, yX2_clear), (3, 25, false, yX7_sizeOf), (3, 31, false, yX3_skipBlanks), (3, 38, false, yX3_readItem), (3, 42, false, yX7_has)]
theorem rf_cT_ok0 : ∀ e ∈ rf_cT_0, rf_cl e ∈ lw_tbl := rf_ats_in (ps := [917, 918, 925, 926, 933, 922, 923, 924, 238, 670, 671, 729, 750, 510, 528, 476, 480, 484, 490, 488]) (by decide +kernel)
def rf_cT_1 : List (Nat × Nat × Bool × MethodName) := [(3, 46, false, yX7_get), (3, 50, false, yX2_hasSpaceForRoom), (3, 54, false, yX3_readRoom), (3, 57, false, yX3_kindBySign), (3, 60, false, yX2_hasSpaceForMember), (3, 63, false, yX3_readMember), (3, 67, false, yX3_readNumber), (3, 74, false, yX2_addRoom), (3, 81, false, yX2_addMember), (4, 20, false, yJ7_fill_53178), (5, 24, false, yX8_members), (5, 30, false, yX8_rooms), (5, 36, false, yX8_likeAt), (5, 41, false, yJ7_fill_53178), (5, 54, false, yX5_sendFrom), (5, 58, false, yX5_compare), (5, 71, false, yJ6_bitCount_0f7a4), (5, 76, false, yX8_needOf), (6, 18, false, yJ7_fill_53178), (6, 24, false, yX8_members)]
theorem rf_cT_ok1 : ∀ e ∈ rf_cT_1, rf_cl e ∈ lw_tbl := rf_ats_in (ps := [489, 494, 498, 511, 516, 520, 502, 506, 524, 97, 800, 801, 802, 804, 805, 809, 813, 814, 829, 830]) (by decide +kernel)
def rf_cT_2 : List (Nat × Nat × Bool × MethodName) := [(6, 30, false, yX8_does), (7, 20, false, yJ7_fill_53178), (7, 26, false, yJ7_fill_031fb), (8, 34, false, yX2_takeFrom), (8, 38, false, yX8_begin), (8, 51, false, yJ7_fill_53178), (8, 73, false, yX8_everybody), (8, 89, false, yX8_kindOf), (8, 93, true, yX9_isOfKind), (8, 97, false, yX8_markOf), (8, 100, false, yX8_feeling), (8, 105, false, yX8_widthOf), (8, 108, false, yX8_doingBy), (8, 112, false, yX8_wouldAs), (8, 115, false, yX8_does), (8, 118, false, yX8_doesNow), (8, 121, true, yX9_seen), (8, 125, false, yX8_likeAt), (8, 129, false, yX8_spanAt), (8, 132, true, yX9_sick)]
theorem rf_cT_ok2 : ∀ e ∈ rf_cT_2, rf_cl e ∈ lw_tbl := rf_ats_in (ps := [831, 117, 441, 537, 542, 547, 779, 584, 973, 585, 586, 601, 602, 597, 593, 630, 767, 763, 759, 686]) (by decide +kernel)
def rf_cT_3 : List (Nat × Nat × Bool × MethodName) := [(8, 136, false, yX8_there), (8, 139, false, yX8_catchers), (8, 150, false, yX8_passColds), (9, 69, false, yX9_isRow), (9, 73, false, yX9_find), (9, 77, false, yX4_make), (9, 81, false, yX9_refusedPlace), (9, 85, false, yX4_get), (9, 92, false, yX4_set), (9, 96, false, yX9_refusedRow), (9, 99, false, yX4_remove), (9, 103, false, yX4_isMissing), (9, 106, false, yX4_hasAll), (9, 110, false, yX4_move), (9, 114, false, yX4_sizeOf), (9, 117, false, yX4_sum), (9, 121, false, yX9_isText), (9, 124, false, yX7_make), (9, 125, false, yX9_refusedText), (9, 128, false, yX7_has)]
theorem rf_cT_ok3 : ∀ e ∈ rf_cT_3, rf_cl e ∈ lw_tbl := rf_ats_in (ps := [687, 682, 678, 352, 355, 359, 367, 383, 387, 371, 399, 375, 407, 411, 422, 426, 434, 437, 448, 456]) (by decide +kernel)
def rf_cT_4 : List (Nat × Nat × Bool × MethodName) := [(9, 132, false, yX7_get), (9, 133, false, yX7_set), (9, 136, false, yX3_read), (9, 144, false, yX8_settle), (9, 148, false, yX1_forget), (9, 151, false, yX8_members), (9, 155, false, yX9_isMember), (9, 158, false, yX9_ofMember), (9, 161, false, yX9_isRoom), (9, 167, false, yX8_needOf), (9, 170, false, yX8_there), (9, 173, false, yX8_doers), (9, 176, false, yX8_kindOf), (9, 179, false, yX9_isOfKind), (9, 182, false, yX8_would), (9, 185, false, yJ6_bitCount_0f7a4), (9, 190, false, yX8_otherTwins), (9, 193, false, yX8_feltBy), (9, 196, false, yX8_markOf), (9, 213, false, yX9_sick)]
theorem rf_cT_ok4 : ∀ e ∈ rf_cT_4, rf_cl e ∈ lw_tbl := rf_ats_in (ps := [460, 464, 472, 533, 548, 552, 560, 564, 610, 618, 622, 626, 568, 635, 638, 642, 648, 580, 572, 655]) (by decide +kernel)
def rf_cT_5 : List (Nat × Nat × Bool × MethodName) := [(9, 220, false, yX1_left), (9, 223, false, yX1_carryOut), (9, 230, false, yX9_refusedDeed), (9, 233, false, yX8_catchers), (9, 236, false, yX8_doesNow), (9, 239, false, yX9_isDegree), (9, 245, false, yX1_goBack), (9, 249, false, yX9_isKept), (9, 252, false, yX8_isEmpty), (9, 256, false, yX1_store), (9, 262, false, yX1_resume), (9, 265, false, yX8_spanIn), (9, 268, false, yX8_isSet), (9, 271, false, yX8_rooms), (9, 274, false, yX8_everybody), (9, 277, false, yX5_seek), (9, 289, false, yX6_look), (9, 293, false, yX6_partsBy), (9, 299, false, yX8_spanAt), (9, 302, false, yX9_refusedRecord)]
theorem rf_cT_ok5 : ∀ e ∈ rf_cT_5, rf_cl e ∈ lw_tbl := rf_ats_in (ps := [662, 666, 693, 701, 589, 718, 725, 734, 697, 737, 746, 755, 775, 614, 791, 796, 825, 832, 845, 850]) (by decide +kernel)
def rf_cT_6 : List (Nat × Nat × Bool × MethodName) := [(9, 305, false, yX9_fitting), (9, 308, false, yX9_refusedDays), (9, 311, false, yX8_wouldAs), (9, 315, false, yX9_agreesWithDays), (9, 318, false, yX8_copyOfColds), (9, 322, false, yX8_passColds), (9, 326, false, yX8_staysSo), (9, 330, false, yX9_weighed), (9, 338, false, yX9_carryOutLot), (9, 352, false, yX8_sneezers), (9, 358, false, yX9_present), (9, 369, false, yX9_count), (9, 372, false, yX9_room), (9, 375, false, yX9_digestRows), (9, 379, false, yX9_digestTexts), (9, 382, false, yX7_sizeOf), (9, 383, false, yX8_widthOf), (9, 386, false, yX4_has), (9, 387, false, yX7_isMissing), (9, 388, false, yX9_refusedPairs)]
theorem rf_cT_ok6 : ∀ e ∈ rf_cT_6, rf_cl e ∈ lw_tbl := rf_ats_in (ps := [862, 875, 879, 880, 892, 896, 901, 909, 947, 969, 974, 991, 992, 993, 997, 1001, 576, 379, 452, 854]) (by decide +kernel)
def rf_cT_7 : List (Nat × Nat × Bool × MethodName) := [(9, 391, false, yX4_arePairs), (9, 395, false, yX9_seen), (9, 399, false, yX0_weigh), (10, 78, false, yX10_in), (10, 85, false, yX10_finds), (10, 89, false, yX10_wrongAt), (10, 93, false, yX10_tells), (10, 96, false, yX10_isPart), (10, 105, false, yX10_letterAt), (10, 111, false, yX10_isFigure), (10, 121, false, yX10_two), (10, 124, false, yX10_sortBy), (10, 127, false, yX10_one), (10, 130, false, yX10_skip), (10, 133, false, yX10_isRoomItem), (10, 137, false, yX10_isMemberItem), (10, 140, false, yX10_read), (10, 146, false, yX10_feelsBy), (10, 150, false, yX10_feels), (10, 154, false, yX10_doesBy)]
theorem rf_cT_ok7 : ∀ e ∈ rf_cT_7, rf_cl e ∈ lw_tbl := rf_ats_in (ps := [858, 866, 913, 1103, 1106, 1114, 1118, 1134, 1161, 1173, 1169, 1181, 1184, 1157, 1165, 1177, 1153, 1208, 1204, 1223]) (by decide +kernel)
def rf_cT_8 : List (Nat × Nat × Bool × MethodName) := [(10, 158, false, yX10_wouldAt), (10, 162, false, yX10_doesAt), (10, 165, false, yX10_does), (10, 169, false, yX10_isOne), (10, 172, false, yX10_memberTells), (10, 175, false, yX10_isRoom), (10, 178, false, yX10_thereIn), (10, 181, false, yX10_doing), (10, 185, false, yX10_is), (10, 189, false, yX10_coldIn), (10, 192, false, yX10_bits), (10, 195, false, yX10_bring), (10, 199, false, yX10_note), (10, 202, false, yX10_step), (10, 206, false, yX10_has), (10, 209, false, yX10_noDeed), (10, 213, false, yX10_pass), (10, 216, false, yX10_coldOnes), (10, 219, false, yX10_spanOf), (10, 222, false, yX10_isSet)]
theorem rf_cT_ok8 : ∀ e ∈ rf_cT_8, rf_cl e ∈ lw_tbl := rf_ats_in (ps := [1219, 1215, 1211, 1196, 1200, 1230, 1234, 1238, 1246, 1249, 1253, 1264, 1260, 1267, 1283, 1275, 1279, 1294, 1322, 1330]) (by decide +kernel)
def rf_cT_9 : List (Nat × Nat × Bool × MethodName) := [(10, 225, false, yX10_knownIn), (10, 228, false, yX10_ways), (10, 231, false, yX10_walkBy), (10, 235, false, yX10_row), (10, 238, false, yX10_doingAt), (10, 241, false, yX10_alikeBy), (10, 244, false, yX10_partsBy), (10, 247, false, yX10_wrongPairs), (10, 250, false, yX10_fitsBy), (10, 253, false, yX10_isBy), (10, 256, false, yX10_isServed), (10, 265, false, yX10_tellsPart), (10, 269, false, yX10_seems), (10, 282, false, yX10_thereOf), (10, 289, false, yX10_count), (10, 292, false, yX10_room)]
theorem rf_cT_ok9 : ∀ e ∈ rf_cT_9, rf_cl e ∈ lw_tbl := rf_ats_in (ps := [1338, 1350, 1354, 1358, 1375, 1371, 1367, 1391, 1395, 1407, 1423, 1436, 1431, 1469, 1486, 1487]) (by decide +kernel)
def rf_cT : List (Nat × Nat × Bool × MethodName) := rf_cT_0 ++ (rf_cT_1 ++ (rf_cT_2 ++ (rf_cT_3 ++ (rf_cT_4 ++ (rf_cT_5 ++ (rf_cT_6 ++ (rf_cT_7 ++ (rf_cT_8 ++ (rf_cT_9)))))))))
theorem rf_cT_ok : ∀ e ∈ rf_cT, rf_cl e ∈ lw_tbl := rf_all_app rf_cT_ok0 (rf_all_app rf_cT_ok1 (rf_all_app rf_cT_ok2 (rf_all_app rf_cT_ok3 (rf_all_app rf_cT_ok4 (rf_all_app rf_cT_ok5 (rf_all_app rf_cT_ok6 (rf_all_app rf_cT_ok7 (rf_all_app rf_cT_ok8 (rf_cT_ok9)))))))))
def rf_an (x : Nat) : MethodName := if x = 1000 then arraycopyName else if x = 1001 then Lib.Math.abs.name else if x = 1002 then Lib.Math.max.name else Lib.Math.min.name
def rf_awl (e : Nat × Nat × Nat) : Cond := .methodLink (rf_cn e.1) e.2.1 (rf_an e.2.2)
def rf_aT_0 : List (Nat × Nat × Nat) := [(9, 202, 1002), (0, 37, 1003), (1, 46, 1000), (2, 44, 1000), (4, 26, 1000), (5, 65, 1001), (5, 79, 1000), (6, 38, 1002), (8, 42, 1000), (8, 142, 1002), (8, 147, 1001)]
theorem rf_aT_ok0 : ∀ e ∈ rf_aT_0, rf_awl e ∈ lw_tbl := rf_ats_in (ps := [652, 929, 741, 541, 415, 816, 815, 836, 546, 688, 675]) (by decide +kernel)
def rf_aT : List (Nat × Nat × Nat) := rf_aT_0
theorem rf_aT_ok : ∀ e ∈ rf_aT, rf_awl e ∈ lw_tbl := rf_aT_ok0
def rf_kwl (e : Nat × Nat × Nat) : Cond := .constant (rf_cn e.1) e.2.1 (Int32.ofNat e.2.2)
def rf_kT_0 : List (Nat × Nat × Nat) := [(9, 394, 2147483647), (0, 49, 2147483647), (5, 40, 2147483647), (8, 104, 2147483647), (10, 273, 2147483646), (11, 265, 1431655765), (11, 266, 858993459), (11, 267, 252645135)]
theorem rf_kT_ok0 : ∀ e ∈ rf_kT_0, rf_kwl e ∈ lw_tbl := rf_ats_in (ps := [770, 921, 803, 605, 1448, 645, 646, 647]) (by decide +kernel)
def rf_kT : List (Nat × Nat × Nat) := rf_kT_0
theorem rf_kT_ok : ∀ e ∈ rf_kT, rf_kwl e ∈ lw_tbl := rf_kT_ok0
def rf_lwl (e : Nat × Nat × Nat) : Cond := .constantLong (rf_cn e.1) e.2.1 (Int64.ofNat e.2.2)
def rf_lT_0 : List (Nat × Nat × Nat) := [(9, 334, 2147483647), (9, 336, 48271), (9, 365, 17), (9, 367, 31), (9, 403, 8), (9, 405, 4), (0, 43, 12), (10, 263, 12), (10, 274, 48271), (10, 276, 2147483647), (10, 278, 4), (10, 280, 8), (10, 285, 17), (10, 287, 31)]
theorem rf_lT_ok0 : ∀ e ∈ rf_lT_0, rf_lwl e ∈ lw_tbl := rf_ats_in (ps := [945, 946, 989, 990, 951, 952, 932, 1435, 1449, 1450, 1451, 1452, 1484, 1485]) (by decide +kernel)
def rf_lT : List (Nat × Nat × Nat) := rf_lT_0
theorem rf_lT_ok : ∀ e ∈ rf_lT, rf_lwl e ∈ lw_tbl := rf_lT_ok0
def rf_iwl (o : Nat) : Cond := .initialized (rf_cn o)
def rf_iT_0 : List Nat := [0, 1, 2, 3, 4, 5, 6, 7, 8, 9, 10, 11, 12, 13]
theorem rf_iT_ok0 : ∀ e ∈ rf_iT_0, rf_iwl e ∈ lw_tbl := rf_ats_in (ps := [76, 73, 71, 70, 67, 74, 75, 69, 72, 66, 77, 79, 80, 68]) (by decide +kernel)
def rf_iT : List Nat := rf_iT_0
theorem rf_iT_ok : ∀ e ∈ rf_iT, rf_iwl e ∈ lw_tbl := rf_iT_ok0
theorem rf_ac_ok : Cond.native arraycopyName ∈ lw_tbl ∧ Cond.static arraycopyName ∈ lw_tbl ∧ Cond.initialized "java/lang/System" ∈ lw_tbl := ⟨List.mem_of_getElem? (i := 417) (by decide +kernel), List.mem_of_getElem? (i := 416) (by decide +kernel), List.mem_of_getElem? (i := 78) (by decide +kernel)⟩
theorem rf_abs_ok : Cond.static Lib.Math.abs.name ∈ lw_tbl ∧ Cond.code Lib.Math.abs.name Lib.Math.abs.code 1 (some .int) ∈ lw_tbl := ⟨List.mem_of_getElem? (i := 676) (by decide +kernel), List.mem_of_getElem? (i := 677) (by decide +kernel)⟩
theorem rf_max_ok : Cond.static Lib.Math.max.name ∈ lw_tbl ∧ Cond.code Lib.Math.max.name Lib.Math.max.code 2 (some .int) ∈ lw_tbl := ⟨List.mem_of_getElem? (i := 653) (by decide +kernel), List.mem_of_getElem? (i := 654) (by decide +kernel)⟩
theorem rf_min_ok : Cond.static Lib.Math.min.name ∈ lw_tbl ∧ Cond.code Lib.Math.min.name Lib.Math.min.code 2 (some .int) ∈ lw_tbl := ⟨List.mem_of_getElem? (i := 930) (by decide +kernel), List.mem_of_getElem? (i := 931) (by decide +kernel)⟩
