set_option maxRecDepth 20000 in
theorem w_387 : (Cond.methodLink "SmallHarbourLaw" 13 ⟨"SmallHarbour", "levels", "(I)Z"⟩) ∈ tbg := tb_in (List.mem_append_right _ (List.mem_append_left _ (List.mem_of_getElem? (i := 147) rfl))) rfl
set_option maxRecDepth 20000 in
theorem w_1041 : (Cond.methodLink "SmallHarbourLaw" 17 ⟨"SmallHarbourModel", "levels", "(I)Z"⟩) ∈ tbg := tb_in (List.mem_append_right _ (List.mem_append_right _ (List.mem_append_right _ (List.mem_append_right _ (List.mem_append_left _ (List.mem_of_getElem? (i := 81) rfl)))))) rfl
set_option maxRecDepth 20000 in
theorem w_406 : (Cond.methodLink "SmallHarbourLaw" 18 ⟨"SmallHarbour", "level", "(II)Z"⟩) ∈ tbg := tb_in (List.mem_append_right _ (List.mem_append_left _ (List.mem_of_getElem? (i := 166) rfl))) rfl
set_option maxRecDepth 20000 in
theorem w_1052 : (Cond.methodLink "SmallHarbourLaw" 22 ⟨"SmallHarbourModel", "level", "(II)Z"⟩) ∈ tbg := tb_in (List.mem_append_right _ (List.mem_append_right _ (List.mem_append_right _ (List.mem_append_right _ (List.mem_append_left _ (List.mem_of_getElem? (i := 92) rfl)))))) rfl
set_option maxRecDepth 20000 in
theorem w_414 : (Cond.methodLink "SmallHarbourLaw" 23 ⟨"SmallHarbour", "berth", "(II)I"⟩) ∈ tbg := tb_in (List.mem_append_right _ (List.mem_append_left _ (List.mem_of_getElem? (i := 174) rfl))) rfl
set_option maxRecDepth 20000 in
theorem w_1056 : (Cond.methodLink "SmallHarbourLaw" 27 ⟨"SmallHarbourModel", "berth", "(II)I"⟩) ∈ tbg := tb_in (List.mem_append_right _ (List.mem_append_right _ (List.mem_append_right _ (List.mem_append_right _ (List.mem_append_left _ (List.mem_of_getElem? (i := 96) rfl)))))) rfl
set_option maxRecDepth 20000 in
theorem w_425 : (Cond.methodLink "SmallHarbourLaw" 28 ⟨"SmallHarbour", "boat", "(IIII)I"⟩) ∈ tbg := tb_in (List.mem_append_right _ (List.mem_append_left _ (List.mem_of_getElem? (i := 185) rfl))) rfl
set_option maxRecDepth 20000 in
theorem w_1060 : (Cond.methodLink "SmallHarbourLaw" 32 ⟨"SmallHarbourModel", "boat", "(IIII)I"⟩) ∈ tbg := tb_in (List.mem_append_right _ (List.mem_append_right _ (List.mem_append_right _ (List.mem_append_right _ (List.mem_append_left _ (List.mem_of_getElem? (i := 100) rfl)))))) rfl
set_option maxRecDepth 20000 in
theorem w_508 : (Cond.methodLink "SmallHarbourLaw" 33 ⟨"SmallHarbour", "away", "(III)Z"⟩) ∈ tbg := tb_in (List.mem_append_right _ (List.mem_append_right _ (List.mem_append_left _ (List.mem_of_getElem? (i := 28) rfl)))) rfl
set_option maxRecDepth 20000 in
theorem w_1072 : (Cond.methodLink "SmallHarbourLaw" 37 ⟨"SmallHarbourModel", "away", "(III)Z"⟩) ∈ tbg := tb_in (List.mem_append_right _ (List.mem_append_right _ (List.mem_append_right _ (List.mem_append_right _ (List.mem_append_left _ (List.mem_of_getElem? (i := 112) rfl)))))) rfl
set_option maxRecDepth 20000 in
theorem w_519 : (Cond.methodLink "SmallHarbourLaw" 38 ⟨"SmallHarbour", "stay", "(III)I"⟩) ∈ tbg := tb_in (List.mem_append_right _ (List.mem_append_right _ (List.mem_append_left _ (List.mem_of_getElem? (i := 39) rfl)))) rfl
set_option maxRecDepth 20000 in
theorem w_1084 : (Cond.methodLink "SmallHarbourLaw" 42 ⟨"SmallHarbourModel", "stay", "(III)I"⟩) ∈ tbg := tb_in (List.mem_append_right _ (List.mem_append_right _ (List.mem_append_right _ (List.mem_append_right _ (List.mem_append_left _ (List.mem_of_getElem? (i := 124) rfl)))))) rfl
set_option maxRecDepth 20000 in
theorem w_531 : (Cond.methodLink "SmallHarbourLaw" 43 ⟨"SmallHarbour", "leaves", "(II)Z"⟩) ∈ tbg := tb_in (List.mem_append_right _ (List.mem_append_right _ (List.mem_append_left _ (List.mem_of_getElem? (i := 51) rfl)))) rfl
set_option maxRecDepth 20000 in
theorem w_1116 : (Cond.methodLink "SmallHarbourLaw" 46 ⟨"SmallHarbourModel", "leaves", "(II)Z"⟩) ∈ tbg := tb_in (List.mem_append_right _ (List.mem_append_right _ (List.mem_append_right _ (List.mem_append_right _ (List.mem_append_left _ (List.mem_of_getElem? (i := 156) rfl)))))) rfl
set_option maxRecDepth 20000 in
theorem w_539 : (Cond.methodLink "SmallHarbourLaw" 47 ⟨"SmallHarbour", "home", "(II)I"⟩) ∈ tbg := tb_in (List.mem_append_right _ (List.mem_append_right _ (List.mem_append_left _ (List.mem_of_getElem? (i := 59) rfl)))) rfl
set_option maxRecDepth 20000 in
theorem w_1120 : (Cond.methodLink "SmallHarbourLaw" 50 ⟨"SmallHarbourModel", "home", "(II)I"⟩) ∈ tbg := tb_in (List.mem_append_right _ (List.mem_append_right _ (List.mem_append_right _ (List.mem_append_right _ (List.mem_append_left _ (List.mem_of_getElem? (i := 160) rfl)))))) rfl
set_option maxRecDepth 20000 in
theorem w_604 : (Cond.methodLink "SmallHarbourLaw" 51 ⟨"SmallHarbour", "moved", "(II)I"⟩) ∈ tbg := tb_in (List.mem_append_right _ (List.mem_append_right _ (List.mem_append_left _ (List.mem_of_getElem? (i := 124) rfl)))) rfl
set_option maxRecDepth 20000 in
theorem w_1153 : (Cond.methodLink "SmallHarbourLaw" 54 ⟨"SmallHarbourModel", "moved", "(II)I"⟩) ∈ tbg := tb_in (List.mem_append_right _ (List.mem_append_right _ (List.mem_append_right _ (List.mem_append_right _ (List.mem_append_left _ (List.mem_of_getElem? (i := 193) rfl)))))) rfl
set_option maxRecDepth 20000 in
theorem w_608 : (Cond.methodLink "SmallHarbourLaw" 55 ⟨"SmallHarbour", "stayOf", "(II)I"⟩) ∈ tbg := tb_in (List.mem_append_right _ (List.mem_append_right _ (List.mem_append_left _ (List.mem_of_getElem? (i := 128) rfl)))) rfl
set_option maxRecDepth 20000 in
theorem w_1157 : (Cond.methodLink "SmallHarbourLaw" 58 ⟨"SmallHarbourModel", "stayOf", "(II)I"⟩) ∈ tbg := tb_in (List.mem_append_right _ (List.mem_append_right _ (List.mem_append_right _ (List.mem_append_right _ (List.mem_append_left _ (List.mem_of_getElem? (i := 197) rfl)))))) rfl
set_option maxRecDepth 20000 in
theorem w_492 : (Cond.methodLink "SmallHarbourLaw" 59 ⟨"SmallHarbour", "lies", "(II)I"⟩) ∈ tbg := tb_in (List.mem_append_right _ (List.mem_append_right _ (List.mem_append_left _ (List.mem_of_getElem? (i := 12) rfl)))) rfl
set_option maxRecDepth 20000 in
theorem w_1172 : (Cond.methodLink "SmallHarbourLaw" 62 ⟨"SmallHarbourModel", "lies", "(II)I"⟩) ∈ tbg := tb_in (List.mem_append_right _ (List.mem_append_right _ (List.mem_append_right _ (List.mem_append_right _ (List.mem_append_left _ (List.mem_of_getElem? (i := 212) rfl)))))) rfl
set_option maxRecDepth 20000 in
theorem w_461 : (Cond.methodLink "SmallHarbourLaw" 63 ⟨"SmallHarbour", "boatOf", "(II)I"⟩) ∈ tbg := tb_in (List.mem_append_right _ (List.mem_append_left _ (List.mem_of_getElem? (i := 221) rfl))) rfl
set_option maxRecDepth 20000 in
theorem w_1176 : (Cond.methodLink "SmallHarbourLaw" 66 ⟨"SmallHarbourModel", "boatOf", "(II)I"⟩) ∈ tbg := tb_in (List.mem_append_right _ (List.mem_append_right _ (List.mem_append_right _ (List.mem_append_right _ (List.mem_append_left _ (List.mem_of_getElem? (i := 216) rfl)))))) rfl
set_option maxRecDepth 20000 in
theorem w_484 : (Cond.methodLink "SmallHarbourLaw" 67 ⟨"SmallHarbour", "fits", "(III)I"⟩) ∈ tbg := tb_in (List.mem_append_right _ (List.mem_append_right _ (List.mem_append_left _ (List.mem_of_getElem? (i := 4) rfl)))) rfl
set_option maxRecDepth 20000 in
theorem w_1180 : (Cond.methodLink "SmallHarbourLaw" 70 ⟨"SmallHarbourModel", "fits", "(III)I"⟩) ∈ tbg := tb_in (List.mem_append_right _ (List.mem_append_right _ (List.mem_append_right _ (List.mem_append_right _ (List.mem_append_left _ (List.mem_of_getElem? (i := 220) rfl)))))) rfl
set_option maxRecDepth 20000 in
theorem w_639 : (Cond.methodLink "SmallHarbourLaw" 71 ⟨"SmallHarbour", "hoist", "(III)Z"⟩) ∈ tbg := tb_in (List.mem_append_right _ (List.mem_append_right _ (List.mem_append_left _ (List.mem_of_getElem? (i := 159) rfl)))) rfl
set_option maxRecDepth 20000 in
theorem w_1184 : (Cond.methodLink "SmallHarbourLaw" 74 ⟨"SmallHarbourModel", "hoist", "(III)Z"⟩) ∈ tbg := tb_in (List.mem_append_right _ (List.mem_append_right _ (List.mem_append_right _ (List.mem_append_right _ (List.mem_append_left _ (List.mem_of_getElem? (i := 224) rfl)))))) rfl
set_option maxRecDepth 20000 in
theorem w_648 : (Cond.methodLink "SmallHarbourLaw" 75 ⟨"SmallHarbour", "broken", "(IZ)Z"⟩) ∈ tbg := tb_in (List.mem_append_right _ (List.mem_append_right _ (List.mem_append_left _ (List.mem_of_getElem? (i := 168) rfl)))) rfl
set_option maxRecDepth 20000 in
theorem w_1188 : (Cond.methodLink "SmallHarbourLaw" 79 ⟨"SmallHarbourModel", "broken", "(IZ)Z"⟩) ∈ tbg := tb_in (List.mem_append_right _ (List.mem_append_right _ (List.mem_append_right _ (List.mem_append_right _ (List.mem_append_left _ (List.mem_of_getElem? (i := 228) rfl)))))) rfl
set_option maxRecDepth 20000 in
theorem w_652 : (Cond.methodLink "SmallHarbourLaw" 80 ⟨"SmallHarbour", "lift", "(III)I"⟩) ∈ tbg := tb_in (List.mem_append_right _ (List.mem_append_right _ (List.mem_append_left _ (List.mem_of_getElem? (i := 172) rfl)))) rfl
set_option maxRecDepth 20000 in
theorem w_1192 : (Cond.methodLink "SmallHarbourLaw" 83 ⟨"SmallHarbourModel", "lift", "(III)I"⟩) ∈ tbg := tb_in (List.mem_append_right _ (List.mem_append_right _ (List.mem_append_right _ (List.mem_append_right _ (List.mem_append_left _ (List.mem_of_getElem? (i := 232) rfl)))))) rfl
set_option maxRecDepth 20000 in
theorem w_660 : (Cond.methodLink "SmallHarbourLaw" 84 ⟨"SmallHarbour", "lifted", "(I)I"⟩) ∈ tbg := tb_in (List.mem_append_right _ (List.mem_append_right _ (List.mem_append_left _ (List.mem_of_getElem? (i := 180) rfl)))) rfl
set_option maxRecDepth 20000 in
theorem w_1196 : (Cond.methodLink "SmallHarbourLaw" 88 ⟨"SmallHarbourModel", "lifted", "(I)I"⟩) ∈ tbg := tb_in (List.mem_append_right _ (List.mem_append_right _ (List.mem_append_right _ (List.mem_append_right _ (List.mem_append_left _ (List.mem_of_getElem? (i := 236) rfl)))))) rfl
set_option maxRecDepth 20000 in
theorem w_674 : (Cond.methodLink "SmallHarbourLaw" 89 ⟨"SmallHarbour", "shed", "(II)Z"⟩) ∈ tbg := tb_in (List.mem_append_right _ (List.mem_append_right _ (List.mem_append_left _ (List.mem_of_getElem? (i := 194) rfl)))) rfl
set_option maxRecDepth 20000 in
theorem w_1204 : (Cond.methodLink "SmallHarbourLaw" 92 ⟨"SmallHarbourModel", "shed", "(II)Z"⟩) ∈ tbg := tb_in (List.mem_append_right _ (List.mem_append_right _ (List.mem_append_right _ (List.mem_append_right _ (List.mem_append_right _ (List.mem_of_getElem? (i := 4) rfl)))))) rfl
set_option maxRecDepth 20000 in
theorem w_683 : (Cond.methodLink "SmallHarbourLaw" 93 ⟨"SmallHarbour", "winter", "(II)I"⟩) ∈ tbg := tb_in (List.mem_append_right _ (List.mem_append_right _ (List.mem_append_left _ (List.mem_of_getElem? (i := 203) rfl)))) rfl
set_option maxRecDepth 20000 in
theorem w_1208 : (Cond.methodLink "SmallHarbourLaw" 96 ⟨"SmallHarbourModel", "winter", "(II)I"⟩) ∈ tbg := tb_in (List.mem_append_right _ (List.mem_append_right _ (List.mem_append_right _ (List.mem_append_right _ (List.mem_append_right _ (List.mem_of_getElem? (i := 8) rfl)))))) rfl
set_option maxRecDepth 20000 in
theorem w_705 : (Cond.methodLink "SmallHarbourLaw" 97 ⟨"SmallHarbour", "moves", "()I"⟩) ∈ tbg := tb_in (List.mem_append_right _ (List.mem_append_right _ (List.mem_append_left _ (List.mem_of_getElem? (i := 225) rfl)))) rfl
set_option maxRecDepth 20000 in
theorem w_1212 : (Cond.methodLink "SmallHarbourLaw" 101 ⟨"SmallHarbourModel", "moves", "()I"⟩) ∈ tbg := tb_in (List.mem_append_right _ (List.mem_append_right _ (List.mem_append_right _ (List.mem_append_right _ (List.mem_append_right _ (List.mem_of_getElem? (i := 12) rfl)))))) rfl
set_option maxRecDepth 20000 in
theorem w_713 : (Cond.methodLink "SmallHarbourLaw" 102 ⟨"SmallHarbour", "lane", "(I)I"⟩) ∈ tbg := tb_in (List.mem_append_right _ (List.mem_append_right _ (List.mem_append_left _ (List.mem_of_getElem? (i := 233) rfl)))) rfl
set_option maxRecDepth 20000 in
theorem w_1224 : (Cond.methodLink "SmallHarbourLaw" 105 ⟨"SmallHarbourModel", "lane", "(I)I"⟩) ∈ tbg := tb_in (List.mem_append_right _ (List.mem_append_right _ (List.mem_append_right _ (List.mem_append_right _ (List.mem_append_right _ (List.mem_of_getElem? (i := 24) rfl)))))) rfl
set_option maxRecDepth 20000 in
theorem w_717 : (Cond.methodLink "SmallHarbourLaw" 106 ⟨"SmallHarbour", "feed", "(IIIII)I"⟩) ∈ tbg := tb_in (List.mem_append_right _ (List.mem_append_right _ (List.mem_append_left _ (List.mem_of_getElem? (i := 237) rfl)))) rfl
set_option maxRecDepth 20000 in
theorem w_1228 : (Cond.methodLink "SmallHarbourLaw" 110 ⟨"SmallHarbourModel", "feed", "(IIIII)I"⟩) ∈ tbg := tb_in (List.mem_append_right _ (List.mem_append_right _ (List.mem_append_right _ (List.mem_append_right _ (List.mem_append_right _ (List.mem_of_getElem? (i := 28) rfl)))))) rfl
set_option maxRecDepth 20000 in
theorem w_725 : (Cond.methodLink "SmallHarbourLaw" 111 ⟨"SmallHarbour", "end", "(I)I"⟩) ∈ tbg := tb_in (List.mem_append_right _ (List.mem_append_right _ (List.mem_append_right _ (List.mem_append_left _ (List.mem_of_getElem? (i := 5) rfl))))) rfl
set_option maxRecDepth 20000 in
theorem w_1236 : (Cond.methodLink "SmallHarbourLaw" 114 ⟨"SmallHarbourModel", "end", "(I)I"⟩) ∈ tbg := tb_in (List.mem_append_right _ (List.mem_append_right _ (List.mem_append_right _ (List.mem_append_right _ (List.mem_append_right _ (List.mem_of_getElem? (i := 36) rfl)))))) rfl
set_option maxRecDepth 20000 in
theorem w_729 : (Cond.methodLink "SmallHarbourLaw" 115 ⟨"SmallHarbour", "rule", "(I)I"⟩) ∈ tbg := tb_in (List.mem_append_right _ (List.mem_append_right _ (List.mem_append_right _ (List.mem_append_left _ (List.mem_of_getElem? (i := 9) rfl))))) rfl
set_option maxRecDepth 20000 in
theorem w_1240 : (Cond.methodLink "SmallHarbourLaw" 118 ⟨"SmallHarbourModel", "rule", "(I)I"⟩) ∈ tbg := tb_in (List.mem_append_right _ (List.mem_append_right _ (List.mem_append_right _ (List.mem_append_right _ (List.mem_append_right _ (List.mem_of_getElem? (i := 40) rfl)))))) rfl
set_option maxRecDepth 20000 in
theorem w_814 : (Cond.methodLink "SmallHarbourLaw" 119 ⟨"SmallHarbour", "fault", "(I)I"⟩) ∈ tbg := tb_in (List.mem_append_right _ (List.mem_append_right _ (List.mem_append_right _ (List.mem_append_left _ (List.mem_of_getElem? (i := 94) rfl))))) rfl
set_option maxRecDepth 20000 in
theorem w_1312 : (Cond.methodLink "SmallHarbourLaw" 122 ⟨"SmallHarbourModel", "fault", "(I)I"⟩) ∈ tbg := tb_in (List.mem_append_right _ (List.mem_append_right _ (List.mem_append_right _ (List.mem_append_right _ (List.mem_append_right _ (List.mem_of_getElem? (i := 112) rfl)))))) rfl
set_option maxRecDepth 20000 in
theorem w_818 : (Cond.methodLink "SmallHarbourLaw" 123 ⟨"SmallHarbour", "says", "(IIII)I"⟩) ∈ tbg := tb_in (List.mem_append_right _ (List.mem_append_right _ (List.mem_append_right _ (List.mem_append_left _ (List.mem_of_getElem? (i := 98) rfl))))) rfl
set_option maxRecDepth 20000 in
theorem w_1316 : (Cond.methodLink "SmallHarbourLaw" 126 ⟨"SmallHarbourModel", "says", "(IIII)I"⟩) ∈ tbg := tb_in (List.mem_append_right _ (List.mem_append_right _ (List.mem_append_right _ (List.mem_append_right _ (List.mem_append_right _ (List.mem_of_getElem? (i := 116) rfl)))))) rfl
set_option maxRecDepth 20000 in
theorem w_822 : (Cond.methodLink "SmallHarbourLaw" 127 ⟨"SmallHarbour", "owes", "(I)I"⟩) ∈ tbg := tb_in (List.mem_append_right _ (List.mem_append_right _ (List.mem_append_right _ (List.mem_append_left _ (List.mem_of_getElem? (i := 102) rfl))))) rfl
set_option maxRecDepth 20000 in
theorem w_1320 : (Cond.methodLink "SmallHarbourLaw" 130 ⟨"SmallHarbourModel", "owes", "(I)I"⟩) ∈ tbg := tb_in (List.mem_append_right _ (List.mem_append_right _ (List.mem_append_right _ (List.mem_append_right _ (List.mem_append_right _ (List.mem_of_getElem? (i := 120) rfl)))))) rfl
set_option maxRecDepth 20000 in
theorem w_826 : (Cond.methodLink "SmallHarbourLaw" 131 ⟨"SmallHarbour", "about", "(I)I"⟩) ∈ tbg := tb_in (List.mem_append_right _ (List.mem_append_right _ (List.mem_append_right _ (List.mem_append_left _ (List.mem_of_getElem? (i := 106) rfl))))) rfl
set_option maxRecDepth 20000 in
theorem w_1324 : (Cond.methodLink "SmallHarbourLaw" 134 ⟨"SmallHarbourModel", "about", "(I)I"⟩) ∈ tbg := tb_in (List.mem_append_right _ (List.mem_append_right _ (List.mem_append_right _ (List.mem_append_right _ (List.mem_append_right _ (List.mem_of_getElem? (i := 124) rfl)))))) rfl
set_option maxRecDepth 20000 in
theorem w_40 : (Cond.instantiable "SmallHarbour$Berths" 4) ∈ tbg := tb_in (List.mem_append_left _ (List.mem_of_getElem? (i := 40) rfl)) rfl
set_option maxRecDepth 20000 in
theorem w_61 : (Cond.instantiable "SmallHarbour$Boats" 5) ∈ tbg := tb_in (List.mem_append_left _ (List.mem_of_getElem? (i := 61) rfl)) rfl
set_option maxRecDepth 20000 in
theorem w_186 : (Cond.instantiable "SmallHarbour$Hoist" 8) ∈ tbg := tb_in (List.mem_append_left _ (List.mem_of_getElem? (i := 186) rfl)) rfl
set_option maxRecDepth 20000 in
theorem w_276 : (Cond.instantiable "SmallHarbour$Reader" 11) ∈ tbg := tb_in (List.mem_append_right _ (List.mem_append_left _ (List.mem_of_getElem? (i := 36) rfl))) rfl
set_option maxRecDepth 20000 in
theorem w_320 : (Cond.instantiable "SmallHarbour$Rules" 6) ∈ tbg := tb_in (List.mem_append_right _ (List.mem_append_left _ (List.mem_of_getElem? (i := 80) rfl))) rfl
set_option maxRecDepth 20000 in
theorem w_220 : (Cond.instantiable "SmallHarbour$Shed" 10) ∈ tbg := tb_in (List.mem_append_left _ (List.mem_of_getElem? (i := 220) rfl)) rfl
set_option maxRecDepth 20000 in
theorem w_88 : (Cond.instantiable "SmallHarbour$Spans" 4) ∈ tbg := tb_in (List.mem_append_left _ (List.mem_of_getElem? (i := 88) rfl)) rfl
set_option maxRecDepth 20000 in
theorem w_110 : (Cond.instantiable "SmallHarbour$Stays" 5) ∈ tbg := tb_in (List.mem_append_left _ (List.mem_of_getElem? (i := 110) rfl)) rfl
set_option maxRecDepth 20000 in
theorem w_260 : (Cond.instantiable "SmallHarbour$Tape" 2) ∈ tbg := tb_in (List.mem_append_right _ (List.mem_append_left _ (List.mem_of_getElem? (i := 20) rfl))) rfl
set_option maxRecDepth 20000 in
theorem w_26 : (Cond.instantiable "SmallHarbour$Tide" 2) ∈ tbg := tb_in (List.mem_append_left _ (List.mem_of_getElem? (i := 26) rfl)) rfl
set_option maxRecDepth 20000 in
theorem w_137 : (Cond.instantiable "SmallHarbour$Walk" 13) ∈ tbg := tb_in (List.mem_append_left _ (List.mem_of_getElem? (i := 137) rfl)) rfl
set_option maxRecDepth 20000 in
theorem w_18 : (Cond.instantiable "SmallHarbour" 13) ∈ tbg := tb_in (List.mem_append_left _ (List.mem_of_getElem? (i := 18) rfl)) rfl
set_option maxRecDepth 20000 in
theorem w_831 : (Cond.instantiable "SmallHarbourModel" 68) ∈ tbg := tb_in (List.mem_append_right _ (List.mem_append_right _ (List.mem_append_right _ (List.mem_append_left _ (List.mem_of_getElem? (i := 111) rfl))))) rfl
set_option maxRecDepth 20000 in
theorem w_38 : (Cond.arrayClass FieldType.int) ∈ tbg := tb_in (List.mem_append_left _ (List.mem_of_getElem? (i := 38) rfl)) rfl
set_option maxRecDepth 20000 in
theorem w_218 : (Cond.arrayClass FieldType.boolean) ∈ tbg := tb_in (List.mem_append_left _ (List.mem_of_getElem? (i := 218) rfl)) rfl
set_option maxRecDepth 20000 in
theorem w_17 : (Cond.classLink "SmallHarbourLaw" 7 "SmallHarbour") ∈ tbg := tb_in (List.mem_append_left _ (List.mem_of_getElem? (i := 17) rfl)) rfl
set_option maxRecDepth 20000 in
theorem w_1 : (Cond.initialized "SmallHarbour") ∈ tbg := tb_in (List.mem_append_left _ (List.mem_of_getElem? (i := 1) rfl)) rfl
set_option maxRecDepth 20000 in
theorem w_19 : (Cond.methodLink "SmallHarbourLaw" 9 ⟨"SmallHarbour", "<init>", "()V"⟩) ∈ tbg := tb_in (List.mem_append_left _ (List.mem_of_getElem? (i := 19) rfl)) rfl
set_option maxRecDepth 20000 in
theorem w_20 : (Cond.instanceMethod ⟨"SmallHarbour", "<init>", "()V"⟩) ∈ tbg := tb_in (List.mem_append_left _ (List.mem_of_getElem? (i := 20) rfl)) rfl
set_option maxRecDepth 20000 in
theorem w_830 : (Cond.classLink "SmallHarbourLaw" 10 "SmallHarbourModel") ∈ tbg := tb_in (List.mem_append_right _ (List.mem_append_right _ (List.mem_append_right _ (List.mem_append_left _ (List.mem_of_getElem? (i := 110) rfl))))) rfl
set_option maxRecDepth 20000 in
theorem w_13 : (Cond.initialized "SmallHarbourModel") ∈ tbg := tb_in (List.mem_append_left _ (List.mem_of_getElem? (i := 13) rfl)) rfl
set_option maxRecDepth 20000 in
theorem w_832 : (Cond.methodLink "SmallHarbourLaw" 12 ⟨"SmallHarbourModel", "<init>", "()V"⟩) ∈ tbg := tb_in (List.mem_append_right _ (List.mem_append_right _ (List.mem_append_right _ (List.mem_append_left _ (List.mem_of_getElem? (i := 112) rfl))))) rfl
set_option maxRecDepth 20000 in
theorem w_833 : (Cond.instanceMethod ⟨"SmallHarbourModel", "<init>", "()V"⟩) ∈ tbg := tb_in (List.mem_append_right _ (List.mem_append_right _ (List.mem_append_right _ (List.mem_append_left _ (List.mem_of_getElem? (i := 113) rfl))))) rfl
set_option maxRecDepth 20000 in
theorem w_44 : (Cond.methodLink "SmallHarbour$Berths" 3 ⟨"java/lang/Object", "<init>", "()V"⟩) ∈ tbg := tb_in (List.mem_append_left _ (List.mem_of_getElem? (i := 44) rfl)) rfl
set_option maxRecDepth 20000 in
theorem w_23 : (Cond.instanceMethod ⟨"java/lang/Object", "<init>", "()V"⟩) ∈ tbg := tb_in (List.mem_append_left _ (List.mem_of_getElem? (i := 23) rfl)) rfl
set_option maxRecDepth 20000 in
theorem w_24 : (Cond.code ⟨"java/lang/Object", "<init>", "()V"⟩ object_method_1_code 1 (Option.none : Option FieldType)) ∈ tbg := tb_in (List.mem_append_left _ (List.mem_of_getElem? (i := 24) rfl)) rfl
set_option maxRecDepth 20000 in
theorem w_45 : (Cond.fieldLink "SmallHarbour$Berths" 9 "SmallHarbour$Berths" "length" "[I") ∈ tbg := tb_in (List.mem_append_left _ (List.mem_of_getElem? (i := 45) rfl)) rfl
set_option maxRecDepth 20000 in
theorem w_46 : (Cond.fieldLink "SmallHarbour$Berths" 15 "SmallHarbour$Berths" "depth" "[I") ∈ tbg := tb_in (List.mem_append_left _ (List.mem_of_getElem? (i := 46) rfl)) rfl
set_option maxRecDepth 20000 in
theorem w_47 : (Cond.fieldLink "SmallHarbour$Berths" 18 "SmallHarbour$Berths" "holder" "[I") ∈ tbg := tb_in (List.mem_append_left _ (List.mem_of_getElem? (i := 47) rfl)) rfl
set_option maxRecDepth 20000 in
theorem w_49 : (Cond.fieldLink "SmallHarbour$Berths" 21 "SmallHarbour$Berths" "count" "I") ∈ tbg := tb_in (List.mem_append_left _ (List.mem_of_getElem? (i := 49) rfl)) rfl
set_option maxRecDepth 20000 in
theorem w_65 : (Cond.methodLink "SmallHarbour$Boats" 3 ⟨"java/lang/Object", "<init>", "()V"⟩) ∈ tbg := tb_in (List.mem_append_left _ (List.mem_of_getElem? (i := 65) rfl)) rfl
set_option maxRecDepth 20000 in
theorem w_66 : (Cond.fieldLink "SmallHarbour$Boats" 9 "SmallHarbour$Boats" "length" "[I") ∈ tbg := tb_in (List.mem_append_left _ (List.mem_of_getElem? (i := 66) rfl)) rfl
set_option maxRecDepth 20000 in
theorem w_68 : (Cond.fieldLink "SmallHarbour$Boats" 15 "SmallHarbour$Boats" "draught" "[I") ∈ tbg := tb_in (List.mem_append_left _ (List.mem_of_getElem? (i := 68) rfl)) rfl
set_option maxRecDepth 20000 in
theorem w_70 : (Cond.fieldLink "SmallHarbour$Boats" 18 "SmallHarbour$Boats" "weight" "[I") ∈ tbg := tb_in (List.mem_append_left _ (List.mem_of_getElem? (i := 70) rfl)) rfl
set_option maxRecDepth 20000 in
theorem w_72 : (Cond.fieldLink "SmallHarbour$Boats" 21 "SmallHarbour$Boats" "home" "[I") ∈ tbg := tb_in (List.mem_append_left _ (List.mem_of_getElem? (i := 72) rfl)) rfl
set_option maxRecDepth 20000 in
theorem w_74 : (Cond.fieldLink "SmallHarbour$Boats" 24 "SmallHarbour$Boats" "count" "I") ∈ tbg := tb_in (List.mem_append_left _ (List.mem_of_getElem? (i := 74) rfl)) rfl
set_option maxRecDepth 20000 in
theorem w_190 : (Cond.methodLink "SmallHarbour$Hoist" 3 ⟨"java/lang/Object", "<init>", "()V"⟩) ∈ tbg := tb_in (List.mem_append_left _ (List.mem_of_getElem? (i := 190) rfl)) rfl
set_option maxRecDepth 20000 in
theorem w_191 : (Cond.fieldLink "SmallHarbour$Hoist" 9 "SmallHarbour$Hoist" "isBroken" "[Z") ∈ tbg := tb_in (List.mem_append_left _ (List.mem_of_getElem? (i := 191) rfl)) rfl
set_option maxRecDepth 20000 in
theorem w_193 : (Cond.fieldLink "SmallHarbour$Hoist" 15 "SmallHarbour$Hoist" "count" "I") ∈ tbg := tb_in (List.mem_append_left _ (List.mem_of_getElem? (i := 193) rfl)) rfl
set_option maxRecDepth 20000 in
theorem w_195 : (Cond.fieldLink "SmallHarbour$Hoist" 19 "SmallHarbour$Hoist" "leastLevel" "I") ∈ tbg := tb_in (List.mem_append_left _ (List.mem_of_getElem? (i := 195) rfl)) rfl
set_option maxRecDepth 20000 in
theorem w_196 : (Cond.fieldLink "SmallHarbour$Hoist" 22 "SmallHarbour$Hoist" "mostWeight" "I") ∈ tbg := tb_in (List.mem_append_left _ (List.mem_of_getElem? (i := 196) rfl)) rfl
set_option maxRecDepth 20000 in
theorem w_197 : (Cond.fieldLink "SmallHarbour$Hoist" 25 "SmallHarbour$Hoist" "minutesOfDay" "I") ∈ tbg := tb_in (List.mem_append_left _ (List.mem_of_getElem? (i := 197) rfl)) rfl
set_option maxRecDepth 20000 in
theorem w_198 : (Cond.fieldLink "SmallHarbour$Hoist" 28 "SmallHarbour$Hoist" "weight" "[I") ∈ tbg := tb_in (List.mem_append_left _ (List.mem_of_getElem? (i := 198) rfl)) rfl
set_option maxRecDepth 20000 in
theorem w_199 : (Cond.fieldLink "SmallHarbour$Hoist" 32 "SmallHarbour$Hoist" "earliest" "[I") ∈ tbg := tb_in (List.mem_append_left _ (List.mem_of_getElem? (i := 199) rfl)) rfl
set_option maxRecDepth 20000 in
theorem w_200 : (Cond.fieldLink "SmallHarbour$Hoist" 35 "SmallHarbour$Hoist" "minutes" "[I") ∈ tbg := tb_in (List.mem_append_left _ (List.mem_of_getElem? (i := 200) rfl)) rfl
set_option maxRecDepth 20000 in
theorem w_280 : (Cond.methodLink "SmallHarbour$Reader" 3 ⟨"java/lang/Object", "<init>", "()V"⟩) ∈ tbg := tb_in (List.mem_append_right _ (List.mem_append_left _ (List.mem_of_getElem? (i := 40) rfl))) rfl
set_option maxRecDepth 20000 in
theorem w_281 : (Cond.fieldLink "SmallHarbour$Reader" 9 "SmallHarbour$Reader" "code" "[I") ∈ tbg := tb_in (List.mem_append_right _ (List.mem_append_left _ (List.mem_of_getElem? (i := 41) rfl))) rfl
set_option maxRecDepth 20000 in
theorem w_283 : (Cond.fieldLink "SmallHarbour$Reader" 15 "SmallHarbour$Reader" "size" "I") ∈ tbg := tb_in (List.mem_append_right _ (List.mem_append_left _ (List.mem_of_getElem? (i := 43) rfl))) rfl
set_option maxRecDepth 20000 in
theorem w_285 : (Cond.fieldLink "SmallHarbour$Reader" 19 "SmallHarbour$Reader" "flaw" "I") ∈ tbg := tb_in (List.mem_append_right _ (List.mem_append_left _ (List.mem_of_getElem? (i := 45) rfl))) rfl
set_option maxRecDepth 20000 in
theorem w_287 : (Cond.fieldLink "SmallHarbour$Reader" 22 "SmallHarbour$Reader" "place" "I") ∈ tbg := tb_in (List.mem_append_right _ (List.mem_append_left _ (List.mem_of_getElem? (i := 47) rfl))) rfl
set_option maxRecDepth 20000 in
theorem w_289 : (Cond.fieldLink "SmallHarbour$Reader" 25 "SmallHarbour$Reader" "tape" "LSmallHarbour$Tape;") ∈ tbg := tb_in (List.mem_append_right _ (List.mem_append_left _ (List.mem_of_getElem? (i := 49) rfl))) rfl
set_option maxRecDepth 20000 in
theorem w_324 : (Cond.methodLink "SmallHarbour$Rules" 3 ⟨"java/lang/Object", "<init>", "()V"⟩) ∈ tbg := tb_in (List.mem_append_right _ (List.mem_append_left _ (List.mem_of_getElem? (i := 84) rfl))) rfl
set_option maxRecDepth 20000 in
theorem w_325 : (Cond.fieldLink "SmallHarbour$Rules" 9 "SmallHarbour$Rules" "count" "I") ∈ tbg := tb_in (List.mem_append_right _ (List.mem_append_left _ (List.mem_of_getElem? (i := 85) rfl))) rfl
set_option maxRecDepth 20000 in
theorem w_327 : (Cond.fieldLink "SmallHarbour$Rules" 15 "SmallHarbour$Rules" "from" "[I") ∈ tbg := tb_in (List.mem_append_right _ (List.mem_append_left _ (List.mem_of_getElem? (i := 87) rfl))) rfl
set_option maxRecDepth 20000 in
theorem w_328 : (Cond.fieldLink "SmallHarbour$Rules" 19 "SmallHarbour$Rules" "sizes" "[I") ∈ tbg := tb_in (List.mem_append_right _ (List.mem_append_left _ (List.mem_of_getElem? (i := 88) rfl))) rfl
set_option maxRecDepth 20000 in
theorem w_329 : (Cond.fieldLink "SmallHarbour$Rules" 22 "SmallHarbour$Rules" "codes" "[I") ∈ tbg := tb_in (List.mem_append_right _ (List.mem_append_left _ (List.mem_of_getElem? (i := 89) rfl))) rfl
set_option maxRecDepth 20000 in
theorem w_330 : (Cond.fieldLink "SmallHarbour$Rules" 25 "SmallHarbour$Rules" "stack" "[I") ∈ tbg := tb_in (List.mem_append_right _ (List.mem_append_left _ (List.mem_of_getElem? (i := 90) rfl))) rfl
set_option maxRecDepth 20000 in
theorem w_331 : (Cond.fieldLink "SmallHarbour$Rules" 28 "SmallHarbour$Rules" "top" "I") ∈ tbg := tb_in (List.mem_append_right _ (List.mem_append_left _ (List.mem_of_getElem? (i := 91) rfl))) rfl
set_option maxRecDepth 20000 in
theorem w_224 : (Cond.methodLink "SmallHarbour$Shed" 3 ⟨"java/lang/Object", "<init>", "()V"⟩) ∈ tbg := tb_in (List.mem_append_left _ (List.mem_of_getElem? (i := 224) rfl)) rfl
set_option maxRecDepth 20000 in
theorem w_225 : (Cond.fieldLink "SmallHarbour$Shed" 9 "SmallHarbour$Shed" "count" "I") ∈ tbg := tb_in (List.mem_append_left _ (List.mem_of_getElem? (i := 225) rfl)) rfl
set_option maxRecDepth 20000 in
theorem w_227 : (Cond.fieldLink "SmallHarbour$Shed" 15 "SmallHarbour$Shed" "fewest" "I") ∈ tbg := tb_in (List.mem_append_left _ (List.mem_of_getElem? (i := 227) rfl)) rfl
set_option maxRecDepth 20000 in
theorem w_229 : (Cond.fieldLink "SmallHarbour$Shed" 18 "SmallHarbour$Shed" "best" "[I") ∈ tbg := tb_in (List.mem_append_left _ (List.mem_of_getElem? (i := 229) rfl)) rfl
set_option maxRecDepth 20000 in
theorem w_231 : (Cond.fieldLink "SmallHarbour$Shed" 22 "SmallHarbour$Shed" "lanes" "I") ∈ tbg := tb_in (List.mem_append_left _ (List.mem_of_getElem? (i := 231) rfl)) rfl
set_option maxRecDepth 20000 in
theorem w_232 : (Cond.fieldLink "SmallHarbour$Shed" 25 "SmallHarbour$Shed" "laneLength" "I") ∈ tbg := tb_in (List.mem_append_left _ (List.mem_of_getElem? (i := 232) rfl)) rfl
set_option maxRecDepth 20000 in
theorem w_233 : (Cond.fieldLink "SmallHarbour$Shed" 28 "SmallHarbour$Shed" "boat" "[I") ∈ tbg := tb_in (List.mem_append_left _ (List.mem_of_getElem? (i := 233) rfl)) rfl
set_option maxRecDepth 20000 in
theorem w_234 : (Cond.fieldLink "SmallHarbour$Shed" 31 "SmallHarbour$Shed" "length" "[I") ∈ tbg := tb_in (List.mem_append_left _ (List.mem_of_getElem? (i := 234) rfl)) rfl
set_option maxRecDepth 20000 in
theorem w_235 : (Cond.fieldLink "SmallHarbour$Shed" 34 "SmallHarbour$Shed" "out" "[I") ∈ tbg := tb_in (List.mem_append_left _ (List.mem_of_getElem? (i := 235) rfl)) rfl
set_option maxRecDepth 20000 in
theorem w_236 : (Cond.fieldLink "SmallHarbour$Shed" 37 "SmallHarbour$Shed" "put" "[I") ∈ tbg := tb_in (List.mem_append_left _ (List.mem_of_getElem? (i := 236) rfl)) rfl
set_option maxRecDepth 20000 in
theorem w_237 : (Cond.fieldLink "SmallHarbour$Shed" 40 "SmallHarbour$Shed" "filled" "[I") ∈ tbg := tb_in (List.mem_append_left _ (List.mem_of_getElem? (i := 237) rfl)) rfl
set_option maxRecDepth 20000 in
theorem w_92 : (Cond.methodLink "SmallHarbour$Spans" 3 ⟨"java/lang/Object", "<init>", "()V"⟩) ∈ tbg := tb_in (List.mem_append_left _ (List.mem_of_getElem? (i := 92) rfl)) rfl
set_option maxRecDepth 20000 in
theorem w_93 : (Cond.fieldLink "SmallHarbour$Spans" 9 "SmallHarbour$Spans" "boat" "[I") ∈ tbg := tb_in (List.mem_append_left _ (List.mem_of_getElem? (i := 93) rfl)) rfl
set_option maxRecDepth 20000 in
theorem w_94 : (Cond.fieldLink "SmallHarbour$Spans" 15 "SmallHarbour$Spans" "from" "[I") ∈ tbg := tb_in (List.mem_append_left _ (List.mem_of_getElem? (i := 94) rfl)) rfl
set_option maxRecDepth 20000 in
theorem w_96 : (Cond.fieldLink "SmallHarbour$Spans" 18 "SmallHarbour$Spans" "to" "[I") ∈ tbg := tb_in (List.mem_append_left _ (List.mem_of_getElem? (i := 96) rfl)) rfl
set_option maxRecDepth 20000 in
theorem w_98 : (Cond.fieldLink "SmallHarbour$Spans" 21 "SmallHarbour$Spans" "count" "I") ∈ tbg := tb_in (List.mem_append_left _ (List.mem_of_getElem? (i := 98) rfl)) rfl
set_option maxRecDepth 20000 in
theorem w_114 : (Cond.methodLink "SmallHarbour$Stays" 3 ⟨"java/lang/Object", "<init>", "()V"⟩) ∈ tbg := tb_in (List.mem_append_left _ (List.mem_of_getElem? (i := 114) rfl)) rfl
set_option maxRecDepth 20000 in
theorem w_115 : (Cond.fieldLink "SmallHarbour$Stays" 9 "SmallHarbour$Stays" "boat" "[I") ∈ tbg := tb_in (List.mem_append_left _ (List.mem_of_getElem? (i := 115) rfl)) rfl
set_option maxRecDepth 20000 in
theorem w_117 : (Cond.fieldLink "SmallHarbour$Stays" 15 "SmallHarbour$Stays" "berth" "[I") ∈ tbg := tb_in (List.mem_append_left _ (List.mem_of_getElem? (i := 117) rfl)) rfl
set_option maxRecDepth 20000 in
theorem w_119 : (Cond.fieldLink "SmallHarbour$Stays" 18 "SmallHarbour$Stays" "from" "[I") ∈ tbg := tb_in (List.mem_append_left _ (List.mem_of_getElem? (i := 119) rfl)) rfl
set_option maxRecDepth 20000 in
theorem w_121 : (Cond.fieldLink "SmallHarbour$Stays" 21 "SmallHarbour$Stays" "to" "[I") ∈ tbg := tb_in (List.mem_append_left _ (List.mem_of_getElem? (i := 121) rfl)) rfl
set_option maxRecDepth 20000 in
theorem w_123 : (Cond.fieldLink "SmallHarbour$Stays" 24 "SmallHarbour$Stays" "count" "I") ∈ tbg := tb_in (List.mem_append_left _ (List.mem_of_getElem? (i := 123) rfl)) rfl
set_option maxRecDepth 20000 in
theorem w_264 : (Cond.methodLink "SmallHarbour$Tape" 3 ⟨"java/lang/Object", "<init>", "()V"⟩) ∈ tbg := tb_in (List.mem_append_right _ (List.mem_append_left _ (List.mem_of_getElem? (i := 24) rfl))) rfl
set_option maxRecDepth 20000 in
theorem w_265 : (Cond.fieldLink "SmallHarbour$Tape" 9 "SmallHarbour$Tape" "bytes" "[I") ∈ tbg := tb_in (List.mem_append_right _ (List.mem_append_left _ (List.mem_of_getElem? (i := 25) rfl))) rfl
set_option maxRecDepth 20000 in
theorem w_267 : (Cond.fieldLink "SmallHarbour$Tape" 15 "SmallHarbour$Tape" "count" "I") ∈ tbg := tb_in (List.mem_append_right _ (List.mem_append_left _ (List.mem_of_getElem? (i := 27) rfl))) rfl
set_option maxRecDepth 20000 in
theorem w_30 : (Cond.methodLink "SmallHarbour$Tide" 3 ⟨"java/lang/Object", "<init>", "()V"⟩) ∈ tbg := tb_in (List.mem_append_left _ (List.mem_of_getElem? (i := 30) rfl)) rfl
set_option maxRecDepth 20000 in
theorem w_31 : (Cond.fieldLink "SmallHarbour$Tide" 9 "SmallHarbour$Tide" "row" "[I") ∈ tbg := tb_in (List.mem_append_left _ (List.mem_of_getElem? (i := 31) rfl)) rfl
set_option maxRecDepth 20000 in
theorem w_32 : (Cond.fieldLink "SmallHarbour$Tide" 15 "SmallHarbour$Tide" "count" "I") ∈ tbg := tb_in (List.mem_append_left _ (List.mem_of_getElem? (i := 32) rfl)) rfl
set_option maxRecDepth 20000 in
theorem w_141 : (Cond.methodLink "SmallHarbour$Walk" 3 ⟨"java/lang/Object", "<init>", "()V"⟩) ∈ tbg := tb_in (List.mem_append_left _ (List.mem_of_getElem? (i := 141) rfl)) rfl
set_option maxRecDepth 20000 in
theorem w_142 : (Cond.fieldLink "SmallHarbour$Walk" 9 "SmallHarbour$Walk" "stay" "[I") ∈ tbg := tb_in (List.mem_append_left _ (List.mem_of_getElem? (i := 142) rfl)) rfl
set_option maxRecDepth 20000 in
theorem w_144 : (Cond.fieldLink "SmallHarbour$Walk" 15 "SmallHarbour$Walk" "best" "[I") ∈ tbg := tb_in (List.mem_append_left _ (List.mem_of_getElem? (i := 144) rfl)) rfl
set_option maxRecDepth 20000 in
theorem w_146 : (Cond.fieldLink "SmallHarbour$Walk" 18 "SmallHarbour$Walk" "size" "I") ∈ tbg := tb_in (List.mem_append_left _ (List.mem_of_getElem? (i := 146) rfl)) rfl
set_option maxRecDepth 20000 in
theorem w_148 : (Cond.fieldLink "SmallHarbour$Walk" 22 "SmallHarbour$Walk" "own" "[I") ∈ tbg := tb_in (List.mem_append_left _ (List.mem_of_getElem? (i := 148) rfl)) rfl
set_option maxRecDepth 20000 in
theorem w_149 : (Cond.fieldLink "SmallHarbour$Walk" 25 "SmallHarbour$Walk" "from" "[I") ∈ tbg := tb_in (List.mem_append_left _ (List.mem_of_getElem? (i := 149) rfl)) rfl
set_option maxRecDepth 20000 in
theorem w_150 : (Cond.fieldLink "SmallHarbour$Walk" 28 "SmallHarbour$Walk" "to" "[I") ∈ tbg := tb_in (List.mem_append_left _ (List.mem_of_getElem? (i := 150) rfl)) rfl
set_option maxRecDepth 20000 in
theorem w_151 : (Cond.fieldLink "SmallHarbour$Walk" 31 "SmallHarbour$Walk" "put" "[I") ∈ tbg := tb_in (List.mem_append_left _ (List.mem_of_getElem? (i := 151) rfl)) rfl
set_option maxRecDepth 20000 in
theorem w_152 : (Cond.fieldLink "SmallHarbour$Walk" 34 "SmallHarbour$Walk" "allowed" "[I") ∈ tbg := tb_in (List.mem_append_left _ (List.mem_of_getElem? (i := 152) rfl)) rfl
set_option maxRecDepth 20000 in
theorem w_153 : (Cond.fieldLink "SmallHarbour$Walk" 37 "SmallHarbour$Walk" "shares" "[I") ∈ tbg := tb_in (List.mem_append_left _ (List.mem_of_getElem? (i := 153) rfl)) rfl
set_option maxRecDepth 20000 in
theorem w_154 : (Cond.fieldLink "SmallHarbour$Walk" 40 "SmallHarbour$Walk" "putAt" "[I") ∈ tbg := tb_in (List.mem_append_left _ (List.mem_of_getElem? (i := 154) rfl)) rfl
set_option maxRecDepth 20000 in
theorem w_155 : (Cond.fieldLink "SmallHarbour$Walk" 43 "SmallHarbour$Walk" "berthCount" "I") ∈ tbg := tb_in (List.mem_append_left _ (List.mem_of_getElem? (i := 155) rfl)) rfl
set_option maxRecDepth 20000 in
theorem w_156 : (Cond.fieldLink "SmallHarbour$Walk" 46 "SmallHarbour$Walk" "fewest" "I") ∈ tbg := tb_in (List.mem_append_left _ (List.mem_of_getElem? (i := 156) rfl)) rfl
set_option maxRecDepth 20000 in
theorem w_157 : (Cond.fieldLink "SmallHarbour$Walk" 49 "SmallHarbour$Walk" "tries" "I") ∈ tbg := tb_in (List.mem_append_left _ (List.mem_of_getElem? (i := 157) rfl)) rfl
set_option maxRecDepth 20000 in
theorem w_22 : (Cond.methodLink "SmallHarbour" 1 ⟨"java/lang/Object", "<init>", "()V"⟩) ∈ tbg := tb_in (List.mem_append_left _ (List.mem_of_getElem? (i := 22) rfl)) rfl
set_option maxRecDepth 20000 in
theorem w_25 : (Cond.classLink "SmallHarbour" 7 "SmallHarbour$Tide") ∈ tbg := tb_in (List.mem_append_left _ (List.mem_of_getElem? (i := 25) rfl)) rfl
set_option maxRecDepth 20000 in
theorem w_2 : (Cond.initialized "SmallHarbour$Tide") ∈ tbg := tb_in (List.mem_append_left _ (List.mem_of_getElem? (i := 2) rfl)) rfl
set_option maxRecDepth 20000 in
theorem w_27 : (Cond.methodLinkNest "SmallHarbour" 9 ⟨"SmallHarbour$Tide", "<init>", "()V"⟩ "SmallHarbour") ∈ tables_1 := List.mem_append_left _ (List.mem_of_getElem? (i := 27) rfl)
set_option maxRecDepth 20000 in
theorem w_28 : (Cond.instanceMethod ⟨"SmallHarbour$Tide", "<init>", "()V"⟩) ∈ tbg := tb_in (List.mem_append_left _ (List.mem_of_getElem? (i := 28) rfl)) rfl
set_option maxRecDepth 20000 in
theorem w_347 : (Cond.fieldLink "SmallHarbour" 10 "SmallHarbour" "tide" "LSmallHarbour$Tide;") ∈ tbg := tb_in (List.mem_append_right _ (List.mem_append_left _ (List.mem_of_getElem? (i := 107) rfl))) rfl
set_option maxRecDepth 20000 in
theorem w_39 : (Cond.classLink "SmallHarbour" 16 "SmallHarbour$Berths") ∈ tbg := tb_in (List.mem_append_left _ (List.mem_of_getElem? (i := 39) rfl)) rfl
set_option maxRecDepth 20000 in
theorem w_3 : (Cond.initialized "SmallHarbour$Berths") ∈ tbg := tb_in (List.mem_append_left _ (List.mem_of_getElem? (i := 3) rfl)) rfl
set_option maxRecDepth 20000 in
theorem w_41 : (Cond.methodLinkNest "SmallHarbour" 18 ⟨"SmallHarbour$Berths", "<init>", "()V"⟩ "SmallHarbour") ∈ tables_1 := List.mem_append_left _ (List.mem_of_getElem? (i := 41) rfl)
set_option maxRecDepth 20000 in
theorem w_42 : (Cond.instanceMethod ⟨"SmallHarbour$Berths", "<init>", "()V"⟩) ∈ tbg := tb_in (List.mem_append_left _ (List.mem_of_getElem? (i := 42) rfl)) rfl
set_option maxRecDepth 20000 in
theorem w_348 : (Cond.fieldLink "SmallHarbour" 19 "SmallHarbour" "berths" "LSmallHarbour$Berths;") ∈ tbg := tb_in (List.mem_append_right _ (List.mem_append_left _ (List.mem_of_getElem? (i := 108) rfl))) rfl
set_option maxRecDepth 20000 in
theorem w_60 : (Cond.classLink "SmallHarbour" 23 "SmallHarbour$Boats") ∈ tbg := tb_in (List.mem_append_left _ (List.mem_of_getElem? (i := 60) rfl)) rfl
set_option maxRecDepth 20000 in
theorem w_4 : (Cond.initialized "SmallHarbour$Boats") ∈ tbg := tb_in (List.mem_append_left _ (List.mem_of_getElem? (i := 4) rfl)) rfl
set_option maxRecDepth 20000 in
theorem w_62 : (Cond.methodLinkNest "SmallHarbour" 25 ⟨"SmallHarbour$Boats", "<init>", "()V"⟩ "SmallHarbour") ∈ tables_1 := List.mem_append_left _ (List.mem_of_getElem? (i := 62) rfl)
set_option maxRecDepth 20000 in
theorem w_63 : (Cond.instanceMethod ⟨"SmallHarbour$Boats", "<init>", "()V"⟩) ∈ tbg := tb_in (List.mem_append_left _ (List.mem_of_getElem? (i := 63) rfl)) rfl
set_option maxRecDepth 20000 in
theorem w_349 : (Cond.fieldLink "SmallHarbour" 26 "SmallHarbour" "boats" "LSmallHarbour$Boats;") ∈ tbg := tb_in (List.mem_append_right _ (List.mem_append_left _ (List.mem_of_getElem? (i := 109) rfl))) rfl
set_option maxRecDepth 20000 in
theorem w_87 : (Cond.classLink "SmallHarbour" 30 "SmallHarbour$Spans") ∈ tbg := tb_in (List.mem_append_left _ (List.mem_of_getElem? (i := 87) rfl)) rfl
set_option maxRecDepth 20000 in
theorem w_5 : (Cond.initialized "SmallHarbour$Spans") ∈ tbg := tb_in (List.mem_append_left _ (List.mem_of_getElem? (i := 5) rfl)) rfl
set_option maxRecDepth 20000 in
theorem w_89 : (Cond.methodLinkNest "SmallHarbour" 32 ⟨"SmallHarbour$Spans", "<init>", "()V"⟩ "SmallHarbour") ∈ tables_1 := List.mem_append_left _ (List.mem_of_getElem? (i := 89) rfl)
set_option maxRecDepth 20000 in
theorem w_90 : (Cond.instanceMethod ⟨"SmallHarbour$Spans", "<init>", "()V"⟩) ∈ tbg := tb_in (List.mem_append_left _ (List.mem_of_getElem? (i := 90) rfl)) rfl
set_option maxRecDepth 20000 in
theorem w_350 : (Cond.fieldLink "SmallHarbour" 33 "SmallHarbour" "spans" "LSmallHarbour$Spans;") ∈ tbg := tb_in (List.mem_append_right _ (List.mem_append_left _ (List.mem_of_getElem? (i := 110) rfl))) rfl
set_option maxRecDepth 20000 in
theorem w_109 : (Cond.classLink "SmallHarbour" 37 "SmallHarbour$Stays") ∈ tbg := tb_in (List.mem_append_left _ (List.mem_of_getElem? (i := 109) rfl)) rfl
set_option maxRecDepth 20000 in
theorem w_6 : (Cond.initialized "SmallHarbour$Stays") ∈ tbg := tb_in (List.mem_append_left _ (List.mem_of_getElem? (i := 6) rfl)) rfl
set_option maxRecDepth 20000 in
theorem w_111 : (Cond.methodLinkNest "SmallHarbour" 39 ⟨"SmallHarbour$Stays", "<init>", "()V"⟩ "SmallHarbour") ∈ tables_1 := List.mem_append_left _ (List.mem_of_getElem? (i := 111) rfl)
set_option maxRecDepth 20000 in
theorem w_112 : (Cond.instanceMethod ⟨"SmallHarbour$Stays", "<init>", "()V"⟩) ∈ tbg := tb_in (List.mem_append_left _ (List.mem_of_getElem? (i := 112) rfl)) rfl
set_option maxRecDepth 20000 in
theorem w_351 : (Cond.fieldLink "SmallHarbour" 40 "SmallHarbour" "stays" "LSmallHarbour$Stays;") ∈ tbg := tb_in (List.mem_append_right _ (List.mem_append_left _ (List.mem_of_getElem? (i := 111) rfl))) rfl
set_option maxRecDepth 20000 in
theorem w_136 : (Cond.classLink "SmallHarbour" 44 "SmallHarbour$Walk") ∈ tbg := tb_in (List.mem_append_left _ (List.mem_of_getElem? (i := 136) rfl)) rfl
set_option maxRecDepth 20000 in
theorem w_7 : (Cond.initialized "SmallHarbour$Walk") ∈ tbg := tb_in (List.mem_append_left _ (List.mem_of_getElem? (i := 7) rfl)) rfl
set_option maxRecDepth 20000 in
theorem w_138 : (Cond.methodLinkNest "SmallHarbour" 46 ⟨"SmallHarbour$Walk", "<init>", "()V"⟩ "SmallHarbour") ∈ tables_1 := List.mem_append_left _ (List.mem_of_getElem? (i := 138) rfl)
set_option maxRecDepth 20000 in
theorem w_139 : (Cond.instanceMethod ⟨"SmallHarbour$Walk", "<init>", "()V"⟩) ∈ tbg := tb_in (List.mem_append_left _ (List.mem_of_getElem? (i := 139) rfl)) rfl
set_option maxRecDepth 20000 in
theorem w_352 : (Cond.fieldLink "SmallHarbour" 47 "SmallHarbour" "walk" "LSmallHarbour$Walk;") ∈ tbg := tb_in (List.mem_append_right _ (List.mem_append_left _ (List.mem_of_getElem? (i := 112) rfl))) rfl
set_option maxRecDepth 20000 in
theorem w_185 : (Cond.classLink "SmallHarbour" 51 "SmallHarbour$Hoist") ∈ tbg := tb_in (List.mem_append_left _ (List.mem_of_getElem? (i := 185) rfl)) rfl
set_option maxRecDepth 20000 in
theorem w_8 : (Cond.initialized "SmallHarbour$Hoist") ∈ tbg := tb_in (List.mem_append_left _ (List.mem_of_getElem? (i := 8) rfl)) rfl
set_option maxRecDepth 20000 in
theorem w_187 : (Cond.methodLinkNest "SmallHarbour" 53 ⟨"SmallHarbour$Hoist", "<init>", "()V"⟩ "SmallHarbour") ∈ tables_1 := List.mem_append_left _ (List.mem_of_getElem? (i := 187) rfl)
set_option maxRecDepth 20000 in
theorem w_188 : (Cond.instanceMethod ⟨"SmallHarbour$Hoist", "<init>", "()V"⟩) ∈ tbg := tb_in (List.mem_append_left _ (List.mem_of_getElem? (i := 188) rfl)) rfl
set_option maxRecDepth 20000 in
theorem w_353 : (Cond.fieldLink "SmallHarbour" 54 "SmallHarbour" "crane" "LSmallHarbour$Hoist;") ∈ tbg := tb_in (List.mem_append_right _ (List.mem_append_left _ (List.mem_of_getElem? (i := 113) rfl))) rfl
set_option maxRecDepth 20000 in
theorem w_219 : (Cond.classLink "SmallHarbour" 58 "SmallHarbour$Shed") ∈ tbg := tb_in (List.mem_append_left _ (List.mem_of_getElem? (i := 219) rfl)) rfl
set_option maxRecDepth 20000 in
theorem w_9 : (Cond.initialized "SmallHarbour$Shed") ∈ tbg := tb_in (List.mem_append_left _ (List.mem_of_getElem? (i := 9) rfl)) rfl
set_option maxRecDepth 20000 in
theorem w_221 : (Cond.methodLinkNest "SmallHarbour" 60 ⟨"SmallHarbour$Shed", "<init>", "()V"⟩ "SmallHarbour") ∈ tables_1 := List.mem_append_left _ (List.mem_of_getElem? (i := 221) rfl)
set_option maxRecDepth 20000 in
theorem w_222 : (Cond.instanceMethod ⟨"SmallHarbour$Shed", "<init>", "()V"⟩) ∈ tbg := tb_in (List.mem_append_left _ (List.mem_of_getElem? (i := 222) rfl)) rfl
set_option maxRecDepth 20000 in
theorem w_354 : (Cond.fieldLink "SmallHarbour" 61 "SmallHarbour" "barn" "LSmallHarbour$Shed;") ∈ tbg := tb_in (List.mem_append_right _ (List.mem_append_left _ (List.mem_of_getElem? (i := 114) rfl))) rfl
set_option maxRecDepth 20000 in
theorem w_259 : (Cond.classLink "SmallHarbour" 65 "SmallHarbour$Tape") ∈ tbg := tb_in (List.mem_append_right _ (List.mem_append_left _ (List.mem_of_getElem? (i := 19) rfl))) rfl
set_option maxRecDepth 20000 in
theorem w_10 : (Cond.initialized "SmallHarbour$Tape") ∈ tbg := tb_in (List.mem_append_left _ (List.mem_of_getElem? (i := 10) rfl)) rfl
set_option maxRecDepth 20000 in
theorem w_261 : (Cond.methodLinkNest "SmallHarbour" 67 ⟨"SmallHarbour$Tape", "<init>", "()V"⟩ "SmallHarbour") ∈ tables_1 := List.mem_append_right _ (List.mem_append_left _ (List.mem_of_getElem? (i := 21) rfl))
set_option maxRecDepth 20000 in
theorem w_262 : (Cond.instanceMethod ⟨"SmallHarbour$Tape", "<init>", "()V"⟩) ∈ tbg := tb_in (List.mem_append_right _ (List.mem_append_left _ (List.mem_of_getElem? (i := 22) rfl))) rfl
set_option maxRecDepth 20000 in
theorem w_355 : (Cond.fieldLink "SmallHarbour" 68 "SmallHarbour" "tape" "LSmallHarbour$Tape;") ∈ tbg := tb_in (List.mem_append_right _ (List.mem_append_left _ (List.mem_of_getElem? (i := 115) rfl))) rfl
set_option maxRecDepth 20000 in
theorem w_275 : (Cond.classLink "SmallHarbour" 72 "SmallHarbour$Reader") ∈ tbg := tb_in (List.mem_append_right _ (List.mem_append_left _ (List.mem_of_getElem? (i := 35) rfl))) rfl
set_option maxRecDepth 20000 in
theorem w_11 : (Cond.initialized "SmallHarbour$Reader") ∈ tbg := tb_in (List.mem_append_left _ (List.mem_of_getElem? (i := 11) rfl)) rfl
set_option maxRecDepth 20000 in
theorem w_277 : (Cond.methodLink "SmallHarbour" 74 ⟨"SmallHarbour$Reader", "<init>", "(LSmallHarbour$Tape;)V"⟩) ∈ tbg := tb_in (List.mem_append_right _ (List.mem_append_left _ (List.mem_of_getElem? (i := 37) rfl))) rfl
set_option maxRecDepth 20000 in
theorem w_278 : (Cond.instanceMethod ⟨"SmallHarbour$Reader", "<init>", "(LSmallHarbour$Tape;)V"⟩) ∈ tbg := tb_in (List.mem_append_right _ (List.mem_append_left _ (List.mem_of_getElem? (i := 38) rfl))) rfl
set_option maxRecDepth 20000 in
theorem w_356 : (Cond.fieldLink "SmallHarbour" 77 "SmallHarbour" "reader" "LSmallHarbour$Reader;") ∈ tbg := tb_in (List.mem_append_right _ (List.mem_append_left _ (List.mem_of_getElem? (i := 116) rfl))) rfl
set_option maxRecDepth 20000 in
theorem w_319 : (Cond.classLink "SmallHarbour" 81 "SmallHarbour$Rules") ∈ tbg := tb_in (List.mem_append_right _ (List.mem_append_left _ (List.mem_of_getElem? (i := 79) rfl))) rfl
set_option maxRecDepth 20000 in
theorem w_12 : (Cond.initialized "SmallHarbour$Rules") ∈ tbg := tb_in (List.mem_append_left _ (List.mem_of_getElem? (i := 12) rfl)) rfl
set_option maxRecDepth 20000 in
theorem w_321 : (Cond.methodLinkNest "SmallHarbour" 83 ⟨"SmallHarbour$Rules", "<init>", "()V"⟩ "SmallHarbour") ∈ tables_1 := List.mem_append_right _ (List.mem_append_left _ (List.mem_of_getElem? (i := 81) rfl))
set_option maxRecDepth 20000 in
theorem w_322 : (Cond.instanceMethod ⟨"SmallHarbour$Rules", "<init>", "()V"⟩) ∈ tbg := tb_in (List.mem_append_right _ (List.mem_append_left _ (List.mem_of_getElem? (i := 82) rfl))) rfl
set_option maxRecDepth 20000 in
theorem w_357 : (Cond.fieldLink "SmallHarbour" 84 "SmallHarbour" "rules" "LSmallHarbour$Rules;") ∈ tbg := tb_in (List.mem_append_right _ (List.mem_append_left _ (List.mem_of_getElem? (i := 117) rfl))) rfl
set_option maxRecDepth 20000 in
theorem w_345 : (Cond.classLink "SmallHarbour" 88 "[[I") ∈ tbg := tb_in (List.mem_append_right _ (List.mem_append_left _ (List.mem_of_getElem? (i := 105) rfl))) rfl
set_option maxRecDepth 20000 in
theorem w_358 : (Cond.fieldLink "SmallHarbour" 90 "SmallHarbour" "kept" "[[I") ∈ tbg := tb_in (List.mem_append_right _ (List.mem_append_left _ (List.mem_of_getElem? (i := 118) rfl))) rfl
set_option maxRecDepth 20000 in
theorem w_359 : (Cond.fieldLink "SmallHarbour" 93 "SmallHarbour" "keptCount" "I") ∈ tbg := tb_in (List.mem_append_right _ (List.mem_append_left _ (List.mem_of_getElem? (i := 119) rfl))) rfl
set_option maxRecDepth 20000 in
theorem w_835 : (Cond.methodLink "SmallHarbourModel" 1 ⟨"java/lang/Object", "<init>", "()V"⟩) ∈ tbg := tb_in (List.mem_append_right _ (List.mem_append_right _ (List.mem_append_right _ (List.mem_append_left _ (List.mem_of_getElem? (i := 115) rfl))))) rfl
set_option maxRecDepth 20000 in
theorem w_836 : (Cond.fieldLink "SmallHarbourModel" 7 "SmallHarbourModel" "levels" "I") ∈ tbg := tb_in (List.mem_append_right _ (List.mem_append_right _ (List.mem_append_right _ (List.mem_append_left _ (List.mem_of_getElem? (i := 116) rfl))))) rfl
set_option maxRecDepth 20000 in
theorem w_837 : (Cond.fieldLink "SmallHarbourModel" 13 "SmallHarbourModel" "level" "[I") ∈ tbg := tb_in (List.mem_append_right _ (List.mem_append_right _ (List.mem_append_right _ (List.mem_append_left _ (List.mem_of_getElem? (i := 117) rfl))))) rfl
set_option maxRecDepth 20000 in
theorem w_839 : (Cond.fieldLink "SmallHarbourModel" 17 "SmallHarbourModel" "berthLength" "[I") ∈ tbg := tb_in (List.mem_append_right _ (List.mem_append_right _ (List.mem_append_right _ (List.mem_append_left _ (List.mem_of_getElem? (i := 119) rfl))))) rfl
set_option maxRecDepth 20000 in
theorem w_840 : (Cond.fieldLink "SmallHarbourModel" 20 "SmallHarbourModel" "berthDepth" "[I") ∈ tbg := tb_in (List.mem_append_right _ (List.mem_append_right _ (List.mem_append_right _ (List.mem_append_left _ (List.mem_of_getElem? (i := 120) rfl))))) rfl
set_option maxRecDepth 20000 in
theorem w_842 : (Cond.fieldLink "SmallHarbourModel" 23 "SmallHarbourModel" "length" "[I") ∈ tbg := tb_in (List.mem_append_right _ (List.mem_append_right _ (List.mem_append_right _ (List.mem_append_left _ (List.mem_of_getElem? (i := 122) rfl))))) rfl
set_option maxRecDepth 20000 in
theorem w_843 : (Cond.fieldLink "SmallHarbourModel" 26 "SmallHarbourModel" "draught" "[I") ∈ tbg := tb_in (List.mem_append_right _ (List.mem_append_right _ (List.mem_append_right _ (List.mem_append_left _ (List.mem_of_getElem? (i := 123) rfl))))) rfl
set_option maxRecDepth 20000 in
theorem w_844 : (Cond.fieldLink "SmallHarbourModel" 29 "SmallHarbourModel" "weight" "[I") ∈ tbg := tb_in (List.mem_append_right _ (List.mem_append_right _ (List.mem_append_right _ (List.mem_append_left _ (List.mem_of_getElem? (i := 124) rfl))))) rfl
set_option maxRecDepth 20000 in
theorem w_845 : (Cond.fieldLink "SmallHarbourModel" 32 "SmallHarbourModel" "home" "[I") ∈ tbg := tb_in (List.mem_append_right _ (List.mem_append_right _ (List.mem_append_right _ (List.mem_append_left _ (List.mem_of_getElem? (i := 125) rfl))))) rfl
set_option maxRecDepth 20000 in
theorem w_847 : (Cond.fieldLink "SmallHarbourModel" 35 "SmallHarbourModel" "spanBoat" "[I") ∈ tbg := tb_in (List.mem_append_right _ (List.mem_append_right _ (List.mem_append_right _ (List.mem_append_left _ (List.mem_of_getElem? (i := 127) rfl))))) rfl
set_option maxRecDepth 20000 in
theorem w_848 : (Cond.fieldLink "SmallHarbourModel" 38 "SmallHarbourModel" "spanFrom" "[I") ∈ tbg := tb_in (List.mem_append_right _ (List.mem_append_right _ (List.mem_append_right _ (List.mem_append_left _ (List.mem_of_getElem? (i := 128) rfl))))) rfl
set_option maxRecDepth 20000 in
theorem w_849 : (Cond.fieldLink "SmallHarbourModel" 41 "SmallHarbourModel" "spanTo" "[I") ∈ tbg := tb_in (List.mem_append_right _ (List.mem_append_right _ (List.mem_append_right _ (List.mem_append_left _ (List.mem_of_getElem? (i := 129) rfl))))) rfl
set_option maxRecDepth 20000 in
theorem w_851 : (Cond.fieldLink "SmallHarbourModel" 44 "SmallHarbourModel" "stayBoat" "[I") ∈ tbg := tb_in (List.mem_append_right _ (List.mem_append_right _ (List.mem_append_right _ (List.mem_append_left _ (List.mem_of_getElem? (i := 131) rfl))))) rfl
set_option maxRecDepth 20000 in
theorem w_852 : (Cond.fieldLink "SmallHarbourModel" 47 "SmallHarbourModel" "stayBerth" "[I") ∈ tbg := tb_in (List.mem_append_right _ (List.mem_append_right _ (List.mem_append_right _ (List.mem_append_left _ (List.mem_of_getElem? (i := 132) rfl))))) rfl
set_option maxRecDepth 20000 in
theorem w_853 : (Cond.fieldLink "SmallHarbourModel" 50 "SmallHarbourModel" "stayFrom" "[I") ∈ tbg := tb_in (List.mem_append_right _ (List.mem_append_right _ (List.mem_append_right _ (List.mem_append_left _ (List.mem_of_getElem? (i := 133) rfl))))) rfl
set_option maxRecDepth 20000 in
theorem w_854 : (Cond.fieldLink "SmallHarbourModel" 53 "SmallHarbourModel" "stayTo" "[I") ∈ tbg := tb_in (List.mem_append_right _ (List.mem_append_right _ (List.mem_append_right _ (List.mem_append_left _ (List.mem_of_getElem? (i := 134) rfl))))) rfl
set_option maxRecDepth 20000 in
theorem w_855 : (Cond.fieldLink "SmallHarbourModel" 56 "SmallHarbourModel" "these" "[I") ∈ tbg := tb_in (List.mem_append_right _ (List.mem_append_right _ (List.mem_append_right _ (List.mem_append_left _ (List.mem_of_getElem? (i := 135) rfl))))) rfl
set_option maxRecDepth 20000 in
theorem w_857 : (Cond.fieldLink "SmallHarbourModel" 59 "SmallHarbourModel" "put" "[I") ∈ tbg := tb_in (List.mem_append_right _ (List.mem_append_right _ (List.mem_append_right _ (List.mem_append_left _ (List.mem_of_getElem? (i := 137) rfl))))) rfl
set_option maxRecDepth 20000 in
theorem w_858 : (Cond.fieldLink "SmallHarbourModel" 62 "SmallHarbourModel" "best" "[I") ∈ tbg := tb_in (List.mem_append_right _ (List.mem_append_right _ (List.mem_append_right _ (List.mem_append_left _ (List.mem_of_getElem? (i := 138) rfl))))) rfl
set_option maxRecDepth 20000 in
theorem w_865 : (Cond.fieldLink "SmallHarbourModel" 65 "SmallHarbourModel" "movedStay" "[I") ∈ tbg := tb_in (List.mem_append_right _ (List.mem_append_right _ (List.mem_append_right _ (List.mem_append_left _ (List.mem_of_getElem? (i := 145) rfl))))) rfl
set_option maxRecDepth 20000 in
theorem w_866 : (Cond.fieldLink "SmallHarbourModel" 68 "SmallHarbourModel" "movedBerth" "[I") ∈ tbg := tb_in (List.mem_append_right _ (List.mem_append_right _ (List.mem_append_right _ (List.mem_append_left _ (List.mem_of_getElem? (i := 146) rfl))))) rfl
set_option maxRecDepth 20000 in
theorem w_867 : (Cond.fieldLink "SmallHarbourModel" 71 "SmallHarbourModel" "movedNow" "[I") ∈ tbg := tb_in (List.mem_append_right _ (List.mem_append_right _ (List.mem_append_right _ (List.mem_append_left _ (List.mem_of_getElem? (i := 147) rfl))))) rfl
set_option maxRecDepth 20000 in
theorem w_869 : (Cond.fieldLink "SmallHarbourModel" 74 "SmallHarbourModel" "mostWeight" "I") ∈ tbg := tb_in (List.mem_append_right _ (List.mem_append_right _ (List.mem_append_right _ (List.mem_append_left _ (List.mem_of_getElem? (i := 149) rfl))))) rfl
set_option maxRecDepth 20000 in
theorem w_870 : (Cond.fieldLink "SmallHarbourModel" 77 "SmallHarbourModel" "dayMinutes" "I") ∈ tbg := tb_in (List.mem_append_right _ (List.mem_append_right _ (List.mem_append_right _ (List.mem_append_left _ (List.mem_of_getElem? (i := 150) rfl))))) rfl
set_option maxRecDepth 20000 in
theorem w_871 : (Cond.fieldLink "SmallHarbourModel" 80 "SmallHarbourModel" "broken" "[Z") ∈ tbg := tb_in (List.mem_append_right _ (List.mem_append_right _ (List.mem_append_right _ (List.mem_append_left _ (List.mem_of_getElem? (i := 151) rfl))))) rfl
set_option maxRecDepth 20000 in
theorem w_873 : (Cond.fieldLink "SmallHarbourModel" 84 "SmallHarbourModel" "liftBoat" "[I") ∈ tbg := tb_in (List.mem_append_right _ (List.mem_append_right _ (List.mem_append_right _ (List.mem_append_left _ (List.mem_of_getElem? (i := 153) rfl))))) rfl
set_option maxRecDepth 20000 in
theorem w_874 : (Cond.fieldLink "SmallHarbourModel" 87 "SmallHarbourModel" "liftFrom" "[I") ∈ tbg := tb_in (List.mem_append_right _ (List.mem_append_right _ (List.mem_append_right _ (List.mem_append_left _ (List.mem_of_getElem? (i := 154) rfl))))) rfl
set_option maxRecDepth 20000 in
theorem w_875 : (Cond.fieldLink "SmallHarbourModel" 90 "SmallHarbourModel" "liftMinutes" "[I") ∈ tbg := tb_in (List.mem_append_right _ (List.mem_append_right _ (List.mem_append_right _ (List.mem_append_left _ (List.mem_of_getElem? (i := 155) rfl))))) rfl
set_option maxRecDepth 20000 in
theorem w_876 : (Cond.fieldLink "SmallHarbourModel" 93 "SmallHarbourModel" "liftDay" "[I") ∈ tbg := tb_in (List.mem_append_right _ (List.mem_append_right _ (List.mem_append_right _ (List.mem_append_left _ (List.mem_of_getElem? (i := 156) rfl))))) rfl
set_option maxRecDepth 20000 in
theorem w_877 : (Cond.fieldLink "SmallHarbourModel" 96 "SmallHarbourModel" "lanes" "I") ∈ tbg := tb_in (List.mem_append_right _ (List.mem_append_right _ (List.mem_append_right _ (List.mem_append_left _ (List.mem_of_getElem? (i := 157) rfl))))) rfl
set_option maxRecDepth 20000 in
theorem w_878 : (Cond.fieldLink "SmallHarbourModel" 99 "SmallHarbourModel" "laneLength" "I") ∈ tbg := tb_in (List.mem_append_right _ (List.mem_append_right _ (List.mem_append_right _ (List.mem_append_left _ (List.mem_of_getElem? (i := 158) rfl))))) rfl
set_option maxRecDepth 20000 in
theorem w_880 : (Cond.fieldLink "SmallHarbourModel" 102 "SmallHarbourModel" "shedBoat" "[I") ∈ tbg := tb_in (List.mem_append_right _ (List.mem_append_right _ (List.mem_append_right _ (List.mem_append_left _ (List.mem_of_getElem? (i := 160) rfl))))) rfl
set_option maxRecDepth 20000 in
theorem w_881 : (Cond.fieldLink "SmallHarbourModel" 105 "SmallHarbourModel" "shedOut" "[I") ∈ tbg := tb_in (List.mem_append_right _ (List.mem_append_right _ (List.mem_append_right _ (List.mem_append_left _ (List.mem_of_getElem? (i := 161) rfl))))) rfl
set_option maxRecDepth 20000 in
theorem w_882 : (Cond.fieldLink "SmallHarbourModel" 108 "SmallHarbourModel" "laneOf" "[I") ∈ tbg := tb_in (List.mem_append_right _ (List.mem_append_right _ (List.mem_append_right _ (List.mem_append_left _ (List.mem_of_getElem? (i := 162) rfl))))) rfl
set_option maxRecDepth 20000 in
theorem w_883 : (Cond.fieldLink "SmallHarbourModel" 111 "SmallHarbourModel" "bestLane" "[I") ∈ tbg := tb_in (List.mem_append_right _ (List.mem_append_right _ (List.mem_append_right _ (List.mem_append_left _ (List.mem_of_getElem? (i := 163) rfl))))) rfl
set_option maxRecDepth 20000 in
theorem w_884 : (Cond.fieldLink "SmallHarbourModel" 114 "SmallHarbourModel" "tape" "[I") ∈ tbg := tb_in (List.mem_append_right _ (List.mem_append_right _ (List.mem_append_right _ (List.mem_append_left _ (List.mem_of_getElem? (i := 164) rfl))))) rfl
set_option maxRecDepth 20000 in
theorem w_891 : (Cond.fieldLink "SmallHarbourModel" 117 "SmallHarbourModel" "ruleDay" "[I") ∈ tbg := tb_in (List.mem_append_right _ (List.mem_append_right _ (List.mem_append_right _ (List.mem_append_left _ (List.mem_of_getElem? (i := 171) rfl))))) rfl
set_option maxRecDepth 20000 in
theorem w_892 : (Cond.fieldLink "SmallHarbourModel" 120 "SmallHarbourModel" "ruleFrom" "[I") ∈ tbg := tb_in (List.mem_append_right _ (List.mem_append_right _ (List.mem_append_right _ (List.mem_append_left _ (List.mem_of_getElem? (i := 172) rfl))))) rfl
set_option maxRecDepth 20000 in
theorem w_893 : (Cond.fieldLink "SmallHarbourModel" 123 "SmallHarbourModel" "sign" "[I") ∈ tbg := tb_in (List.mem_append_right _ (List.mem_append_right _ (List.mem_append_right _ (List.mem_append_left _ (List.mem_of_getElem? (i := 173) rfl))))) rfl
set_option maxRecDepth 20000 in
theorem w_894 : (Cond.fieldLink "SmallHarbourModel" 126 "SmallHarbourModel" "value" "[I") ∈ tbg := tb_in (List.mem_append_right _ (List.mem_append_right _ (List.mem_append_right _ (List.mem_append_left _ (List.mem_of_getElem? (i := 174) rfl))))) rfl
set_option maxRecDepth 20000 in
theorem w_896 : (Cond.fieldLink "SmallHarbourModel" 129 "SmallHarbourModel" "fault" "I") ∈ tbg := tb_in (List.mem_append_right _ (List.mem_append_right _ (List.mem_append_right _ (List.mem_append_left _ (List.mem_of_getElem? (i := 176) rfl))))) rfl
set_option maxRecDepth 20000 in
theorem w_897 : (Cond.fieldLink "SmallHarbourModel" 132 "SmallHarbourModel" "faultPlace" "I") ∈ tbg := tb_in (List.mem_append_right _ (List.mem_append_right _ (List.mem_append_right _ (List.mem_append_left _ (List.mem_of_getElem? (i := 177) rfl))))) rfl
set_option maxRecDepth 20000 in
theorem w_898 : (Cond.fieldLink "SmallHarbourModel" 135 "SmallHarbourModel" "open" "[I") ∈ tbg := tb_in (List.mem_append_right _ (List.mem_append_right _ (List.mem_append_right _ (List.mem_append_left _ (List.mem_of_getElem? (i := 178) rfl))))) rfl
set_option maxRecDepth 20000 in
theorem w_903 : (Cond.fieldLink "SmallHarbourModel" 138 "SmallHarbourModel" "row" "[I") ∈ tbg := tb_in (List.mem_append_right _ (List.mem_append_right _ (List.mem_append_right _ (List.mem_append_left _ (List.mem_of_getElem? (i := 183) rfl))))) rfl
set_option maxRecDepth 20000 in
theorem w_43 : (Cond.code ⟨"SmallHarbour$Berths", "<init>", "()V"⟩ prog_2_method_1_code 1 (Option.none : Option FieldType)) ∈ tbg := tb_in (List.mem_append_left _ (List.mem_of_getElem? (i := 43) rfl)) rfl
set_option maxRecDepth 20000 in
theorem w_64 : (Cond.code ⟨"SmallHarbour$Boats", "<init>", "()V"⟩ prog_3_method_1_code 1 (Option.none : Option FieldType)) ∈ tbg := tb_in (List.mem_append_left _ (List.mem_of_getElem? (i := 64) rfl)) rfl
set_option maxRecDepth 20000 in
theorem w_189 : (Cond.code ⟨"SmallHarbour$Hoist", "<init>", "()V"⟩ prog_4_method_1_code 1 (Option.none : Option FieldType)) ∈ tbg := tb_in (List.mem_append_left _ (List.mem_of_getElem? (i := 189) rfl)) rfl
set_option maxRecDepth 20000 in
theorem w_279 : (Cond.code ⟨"SmallHarbour$Reader", "<init>", "(LSmallHarbour$Tape;)V"⟩ prog_5_method_1_code 2 (Option.none : Option FieldType)) ∈ tbg := tb_in (List.mem_append_right _ (List.mem_append_left _ (List.mem_of_getElem? (i := 39) rfl))) rfl
set_option maxRecDepth 20000 in
theorem w_323 : (Cond.code ⟨"SmallHarbour$Rules", "<init>", "()V"⟩ prog_6_method_1_code 1 (Option.none : Option FieldType)) ∈ tbg := tb_in (List.mem_append_right _ (List.mem_append_left _ (List.mem_of_getElem? (i := 83) rfl))) rfl
set_option maxRecDepth 20000 in
theorem w_223 : (Cond.code ⟨"SmallHarbour$Shed", "<init>", "()V"⟩ prog_7_method_1_code 1 (Option.none : Option FieldType)) ∈ tbg := tb_in (List.mem_append_left _ (List.mem_of_getElem? (i := 223) rfl)) rfl
set_option maxRecDepth 20000 in
theorem w_91 : (Cond.code ⟨"SmallHarbour$Spans", "<init>", "()V"⟩ prog_8_method_1_code 1 (Option.none : Option FieldType)) ∈ tbg := tb_in (List.mem_append_left _ (List.mem_of_getElem? (i := 91) rfl)) rfl
set_option maxRecDepth 20000 in
theorem w_113 : (Cond.code ⟨"SmallHarbour$Stays", "<init>", "()V"⟩ prog_9_method_1_code 1 (Option.none : Option FieldType)) ∈ tbg := tb_in (List.mem_append_left _ (List.mem_of_getElem? (i := 113) rfl)) rfl
set_option maxRecDepth 20000 in
theorem w_263 : (Cond.code ⟨"SmallHarbour$Tape", "<init>", "()V"⟩ prog_10_method_1_code 1 (Option.none : Option FieldType)) ∈ tbg := tb_in (List.mem_append_right _ (List.mem_append_left _ (List.mem_of_getElem? (i := 23) rfl))) rfl
set_option maxRecDepth 20000 in
theorem w_29 : (Cond.code ⟨"SmallHarbour$Tide", "<init>", "()V"⟩ prog_11_method_1_code 1 (Option.none : Option FieldType)) ∈ tbg := tb_in (List.mem_append_left _ (List.mem_of_getElem? (i := 29) rfl)) rfl
set_option maxRecDepth 20000 in
theorem w_140 : (Cond.code ⟨"SmallHarbour$Walk", "<init>", "()V"⟩ prog_12_method_1_code 1 (Option.none : Option FieldType)) ∈ tbg := tb_in (List.mem_append_left _ (List.mem_of_getElem? (i := 140) rfl)) rfl
set_option maxRecDepth 20000 in
theorem w_21 : (Cond.code ⟨"SmallHarbour", "<init>", "()V"⟩ prog_1_method_1_code 1 (Option.none : Option FieldType)) ∈ tbg := tb_in (List.mem_append_left _ (List.mem_of_getElem? (i := 21) rfl)) rfl
set_option maxRecDepth 20000 in
theorem w_834 : (Cond.code ⟨"SmallHarbourModel", "<init>", "()V"⟩ prog_14_method_1_code 1 (Option.none : Option FieldType)) ∈ tbg := tb_in (List.mem_append_right _ (List.mem_append_right _ (List.mem_append_right _ (List.mem_append_left _ (List.mem_of_getElem? (i := 114) rfl))))) rfl
set_option maxRecDepth 20000 in
theorem w_838 : (Cond.fieldLink "SmallHarbourModel" 155 "SmallHarbourModel" "berths" "I") ∈ tbg := tb_in (List.mem_append_right _ (List.mem_append_right _ (List.mem_append_right _ (List.mem_append_left _ (List.mem_of_getElem? (i := 118) rfl))))) rfl
set_option maxRecDepth 20000 in
theorem w_841 : (Cond.fieldLink "SmallHarbourModel" 141 "SmallHarbourModel" "boats" "I") ∈ tbg := tb_in (List.mem_append_right _ (List.mem_append_right _ (List.mem_append_right _ (List.mem_append_left _ (List.mem_of_getElem? (i := 121) rfl))))) rfl
set_option maxRecDepth 20000 in
theorem w_850 : (Cond.fieldLink "SmallHarbourModel" 148 "SmallHarbourModel" "stays" "I") ∈ tbg := tb_in (List.mem_append_right _ (List.mem_append_right _ (List.mem_append_right _ (List.mem_append_left _ (List.mem_of_getElem? (i := 130) rfl))))) rfl
set_option maxRecDepth 20000 in
theorem w_846 : (Cond.fieldLink "SmallHarbourModel" 165 "SmallHarbourModel" "spans" "I") ∈ tbg := tb_in (List.mem_append_right _ (List.mem_append_right _ (List.mem_append_right _ (List.mem_append_left _ (List.mem_of_getElem? (i := 126) rfl))))) rfl
set_option maxRecDepth 20000 in
theorem w_872 : (Cond.fieldLink "SmallHarbourModel" 257 "SmallHarbourModel" "lifts" "I") ∈ tbg := tb_in (List.mem_append_right _ (List.mem_append_right _ (List.mem_append_right _ (List.mem_append_left _ (List.mem_of_getElem? (i := 152) rfl))))) rfl
set_option maxRecDepth 20000 in
theorem w_879 : (Cond.fieldLink "SmallHarbourModel" 263 "SmallHarbourModel" "inShed" "I") ∈ tbg := tb_in (List.mem_append_right _ (List.mem_append_right _ (List.mem_append_right _ (List.mem_append_left _ (List.mem_of_getElem? (i := 159) rfl))))) rfl
set_option maxRecDepth 20000 in
theorem w_890 : (Cond.fieldLink "SmallHarbourModel" 244 "SmallHarbourModel" "rules" "I") ∈ tbg := tb_in (List.mem_append_right _ (List.mem_append_right _ (List.mem_append_right _ (List.mem_append_left _ (List.mem_of_getElem? (i := 170) rfl))))) rfl
set_option maxRecDepth 20000 in
theorem w_885 : (Cond.fieldLink "SmallHarbourModel" 273 "SmallHarbourModel" "taped" "I") ∈ tbg := tb_in (List.mem_append_right _ (List.mem_append_right _ (List.mem_append_right _ (List.mem_append_left _ (List.mem_of_getElem? (i := 165) rfl))))) rfl
set_option maxRecDepth 20000 in
theorem w_864 : (Cond.fieldLink "SmallHarbourModel" 241 "SmallHarbourModel" "moves" "I") ∈ tbg := tb_in (List.mem_append_right _ (List.mem_append_right _ (List.mem_append_right _ (List.mem_append_left _ (List.mem_of_getElem? (i := 144) rfl))))) rfl
set_option maxRecDepth 20000 in
theorem w_1080 : (Cond.methodLink "SmallHarbourModel" 168 ⟨"SmallHarbourModel", "isAway", "(II)Z"⟩) ∈ tbg := tb_in (List.mem_append_right _ (List.mem_append_right _ (List.mem_append_right _ (List.mem_append_right _ (List.mem_append_left _ (List.mem_of_getElem? (i := 120) rfl)))))) rfl
set_option maxRecDepth 20000 in
theorem w_1104 : (Cond.methodLink "SmallHarbourModel" 172 ⟨"SmallHarbourModel", "atHome", "(II)I"⟩) ∈ tbg := tb_in (List.mem_append_right _ (List.mem_append_right _ (List.mem_append_right _ (List.mem_append_right _ (List.mem_append_left _ (List.mem_of_getElem? (i := 144) rfl)))))) rfl
set_option maxRecDepth 20000 in
theorem w_1108 : (Cond.methodLink "SmallHarbourModel" 176 ⟨"SmallHarbourModel", "isNight", "(II)Z"⟩) ∈ tbg := tb_in (List.mem_append_right _ (List.mem_append_right _ (List.mem_append_right _ (List.mem_append_right _ (List.mem_append_left _ (List.mem_of_getElem? (i := 148) rfl)))))) rfl
set_option maxRecDepth 20000 in
theorem w_1046 : (Cond.static ⟨"SmallHarbourModel", "isIn", "(III)Z"⟩) ∈ tbg := tb_in (List.mem_append_right _ (List.mem_append_right _ (List.mem_append_right _ (List.mem_append_right _ (List.mem_append_left _ (List.mem_of_getElem? (i := 86) rfl)))))) rfl
set_option maxRecDepth 20000 in
theorem w_1045 : (Cond.methodLink "SmallHarbourModel" 144 ⟨"SmallHarbourModel", "isIn", "(III)Z"⟩) ∈ tbg := tb_in (List.mem_append_right _ (List.mem_append_right _ (List.mem_append_right _ (List.mem_append_right _ (List.mem_append_left _ (List.mem_of_getElem? (i := 85) rfl)))))) rfl
set_option maxRecDepth 20000 in
theorem w_1076 : (Cond.methodLink "SmallHarbourModel" 179 ⟨"SmallHarbourModel", "isBoat", "(I)Z"⟩) ∈ tbg := tb_in (List.mem_append_right _ (List.mem_append_right _ (List.mem_append_right _ (List.mem_append_right _ (List.mem_append_left _ (List.mem_of_getElem? (i := 116) rfl)))))) rfl
set_option maxRecDepth 20000 in
theorem w_901 : (Cond.fieldLink "SmallHarbourModel" 335 "SmallHarbourModel" "tokens" "I") ∈ tbg := tb_in (List.mem_append_right _ (List.mem_append_right _ (List.mem_append_right _ (List.mem_append_left _ (List.mem_of_getElem? (i := 181) rfl))))) rfl
set_option maxRecDepth 20000 in
theorem w_895 : (Cond.fieldLink "SmallHarbourModel" 310 "SmallHarbourModel" "signs" "I") ∈ tbg := tb_in (List.mem_append_right _ (List.mem_append_right _ (List.mem_append_right _ (List.mem_append_left _ (List.mem_of_getElem? (i := 175) rfl))))) rfl
set_option maxRecDepth 20000 in
theorem w_899 : (Cond.fieldLink "SmallHarbourModel" 313 "SmallHarbourModel" "opens" "I") ∈ tbg := tb_in (List.mem_append_right _ (List.mem_append_right _ (List.mem_append_right _ (List.mem_append_left _ (List.mem_of_getElem? (i := 179) rfl))))) rfl
set_option maxRecDepth 20000 in
theorem w_902 : (Cond.fieldLink "SmallHarbourModel" 331 "SmallHarbourModel" "wantsPart" "Z") ∈ tbg := tb_in (List.mem_append_right _ (List.mem_append_right _ (List.mem_append_right _ (List.mem_append_left _ (List.mem_of_getElem? (i := 182) rfl))))) rfl
set_option maxRecDepth 20000 in
theorem w_1289 : (Cond.methodLink "SmallHarbourModel" 316 ⟨"SmallHarbourModel", "top", "()I"⟩) ∈ tbg := tb_in (List.mem_append_right _ (List.mem_append_right _ (List.mem_append_right _ (List.mem_append_right _ (List.mem_append_right _ (List.mem_of_getElem? (i := 89) rfl)))))) rfl
set_option maxRecDepth 20000 in
theorem w_900 : (Cond.fieldLink "SmallHarbourModel" 328 "SmallHarbourModel" "nest" "I") ∈ tbg := tb_in (List.mem_append_right _ (List.mem_append_right _ (List.mem_append_right _ (List.mem_append_left _ (List.mem_of_getElem? (i := 180) rfl))))) rfl
set_option maxRecDepth 20000 in
theorem w_1281 : (Cond.methodLink "SmallHarbourModel" 322 ⟨"SmallHarbourModel", "emit", "(II)V"⟩) ∈ tbg := tb_in (List.mem_append_right _ (List.mem_append_right _ (List.mem_append_right _ (List.mem_append_right _ (List.mem_append_right _ (List.mem_of_getElem? (i := 81) rfl)))))) rfl
set_option maxRecDepth 20000 in
theorem w_1294 : (Cond.static ⟨"SmallHarbourModel", "rankOf", "(I)I"⟩) ∈ tbg := tb_in (List.mem_append_right _ (List.mem_append_right _ (List.mem_append_right _ (List.mem_append_right _ (List.mem_append_right _ (List.mem_of_getElem? (i := 94) rfl)))))) rfl
set_option maxRecDepth 20000 in
theorem w_1293 : (Cond.methodLink "SmallHarbourModel" 319 ⟨"SmallHarbourModel", "rankOf", "(I)I"⟩) ∈ tbg := tb_in (List.mem_append_right _ (List.mem_append_right _ (List.mem_append_right _ (List.mem_append_right _ (List.mem_append_right _ (List.mem_of_getElem? (i := 93) rfl)))))) rfl
set_option maxRecDepth 20000 in
theorem w_1304 : (Cond.methodLink "SmallHarbourModel" 325 ⟨"SmallHarbourModel", "reduce", "(I)V"⟩) ∈ tbg := tb_in (List.mem_append_right _ (List.mem_append_right _ (List.mem_append_right _ (List.mem_append_right _ (List.mem_append_right _ (List.mem_of_getElem? (i := 104) rfl)))))) rfl
set_option maxRecDepth 20000 in
theorem w_888 : (Cond.fieldLink "SmallHarbourModel" 288 "SmallHarbourModel" "kind" "I") ∈ tbg := tb_in (List.mem_append_right _ (List.mem_append_right _ (List.mem_append_right _ (List.mem_append_left _ (List.mem_of_getElem? (i := 168) rfl))))) rfl
set_option maxRecDepth 20000 in
theorem w_1308 : (Cond.methodLink "SmallHarbourModel" 348 ⟨"SmallHarbourModel", "through", "()I"⟩) ∈ tbg := tb_in (List.mem_append_right _ (List.mem_append_right _ (List.mem_append_right _ (List.mem_append_right _ (List.mem_append_right _ (List.mem_of_getElem? (i := 108) rfl)))))) rfl
set_option maxRecDepth 20000 in
theorem w_1277 : (Cond.methodLink "SmallHarbourModel" 339 ⟨"SmallHarbourModel", "isMany", "()Z"⟩) ∈ tbg := tb_in (List.mem_append_right _ (List.mem_append_right _ (List.mem_append_right _ (List.mem_append_right _ (List.mem_append_right _ (List.mem_of_getElem? (i := 77) rfl)))))) rfl
set_option maxRecDepth 20000 in
theorem w_1285 : (Cond.methodLink "SmallHarbourModel" 342 ⟨"SmallHarbourModel", "partIsThrough", "()V"⟩) ∈ tbg := tb_in (List.mem_append_right _ (List.mem_append_right _ (List.mem_append_right _ (List.mem_append_right _ (List.mem_append_right _ (List.mem_of_getElem? (i := 85) rfl)))))) rfl
set_option maxRecDepth 20000 in
theorem w_1296 : (Cond.methodLink "SmallHarbourModel" 345 ⟨"SmallHarbourModel", "push", "(I)V"⟩) ∈ tbg := tb_in (List.mem_append_right _ (List.mem_append_right _ (List.mem_append_right _ (List.mem_append_right _ (List.mem_append_right _ (List.mem_of_getElem? (i := 96) rfl)))))) rfl
set_option maxRecDepth 20000 in
theorem w_1170 : (Cond.static ⟨"SmallHarbourModel", "two", "(III)I"⟩) ∈ tbg := tb_in (List.mem_append_right _ (List.mem_append_right _ (List.mem_append_right _ (List.mem_append_right _ (List.mem_append_left _ (List.mem_of_getElem? (i := 210) rfl)))))) rfl
set_option maxRecDepth 20000 in
theorem w_1169 : (Cond.methodLink "SmallHarbourModel" 363 ⟨"SmallHarbourModel", "two", "(III)I"⟩) ∈ tbg := tb_in (List.mem_append_right _ (List.mem_append_right _ (List.mem_append_right _ (List.mem_append_right _ (List.mem_append_left _ (List.mem_of_getElem? (i := 209) rfl)))))) rfl
set_option maxRecDepth 20000 in
theorem w_1165 : (Cond.methodLink "SmallHarbourModel" 247 ⟨"SmallHarbourModel", "work", "(IIII)I"⟩) ∈ tbg := tb_in (List.mem_append_right _ (List.mem_append_right _ (List.mem_append_right _ (List.mem_append_right _ (List.mem_append_left _ (List.mem_of_getElem? (i := 205) rfl)))))) rfl
set_option maxRecDepth 20000 in
theorem w_1068 : (Cond.methodLink "SmallHarbourModel" 158 ⟨"SmallHarbourModel", "isFit", "(IIII)Z"⟩) ∈ tbg := tb_in (List.mem_append_right _ (List.mem_append_right _ (List.mem_append_right _ (List.mem_append_right _ (List.mem_append_left _ (List.mem_of_getElem? (i := 108) rfl)))))) rfl
set_option maxRecDepth 20000 in
theorem w_1064 : (Cond.methodLink "SmallHarbourModel" 162 ⟨"SmallHarbourModel", "canBeHome", "(III)Z"⟩) ∈ tbg := tb_in (List.mem_append_right _ (List.mem_append_right _ (List.mem_append_right _ (List.mem_append_right _ (List.mem_append_left _ (List.mem_of_getElem? (i := 104) rfl)))))) rfl
set_option maxRecDepth 20000 in
theorem w_1232 : (Cond.methodLink "SmallHarbourModel" 276 ⟨"SmallHarbourModel", "four", "(I)V"⟩) ∈ tbg := tb_in (List.mem_append_right _ (List.mem_append_right _ (List.mem_append_right _ (List.mem_append_right _ (List.mem_append_right _ (List.mem_of_getElem? (i := 32) rfl)))))) rfl
set_option maxRecDepth 20000 in
theorem w_1220 : (Cond.methodLink "SmallHarbourModel" 266 ⟨"SmallHarbourModel", "movesOf", "()I"⟩) ∈ tbg := tb_in (List.mem_append_right _ (List.mem_append_right _ (List.mem_append_right _ (List.mem_append_right _ (List.mem_append_right _ (List.mem_of_getElem? (i := 20) rfl)))))) rfl
set_option maxRecDepth 20000 in
theorem w_861 : (Cond.fieldLink "SmallHarbourModel" 199 "SmallHarbourModel" "comesOn" "I") ∈ tbg := tb_in (List.mem_append_right _ (List.mem_append_right _ (List.mem_append_right _ (List.mem_append_left _ (List.mem_of_getElem? (i := 141) rfl))))) rfl
set_option maxRecDepth 20000 in
theorem w_868 : (Cond.fieldLink "SmallHarbourModel" 254 "SmallHarbourModel" "leastLevel" "I") ∈ tbg := tb_in (List.mem_append_right _ (List.mem_append_right _ (List.mem_append_right _ (List.mem_append_left _ (List.mem_of_getElem? (i := 148) rfl))))) rfl
set_option maxRecDepth 20000 in
theorem w_856 : (Cond.fieldLink "SmallHarbourModel" 212 "SmallHarbourModel" "many" "I") ∈ tbg := tb_in (List.mem_append_right _ (List.mem_append_right _ (List.mem_append_right _ (List.mem_append_left _ (List.mem_of_getElem? (i := 136) rfl))))) rfl
set_option maxRecDepth 20000 in
theorem w_1112 : (Cond.methodLink "SmallHarbourModel" 195 ⟨"SmallHarbourModel", "putStay", "(IIII)V"⟩) ∈ tbg := tb_in (List.mem_append_right _ (List.mem_append_right _ (List.mem_append_right _ (List.mem_append_right _ (List.mem_append_left _ (List.mem_of_getElem? (i := 152) rfl)))))) rfl
set_option maxRecDepth 20000 in
theorem w_1140 : (Cond.methodLink "SmallHarbourModel" 202 ⟨"SmallHarbourModel", "firstNight", "(I)I"⟩) ∈ tbg := tb_in (List.mem_append_right _ (List.mem_append_right _ (List.mem_append_right _ (List.mem_append_right _ (List.mem_append_left _ (List.mem_of_getElem? (i := 180) rfl)))))) rfl
set_option maxRecDepth 20000 in
theorem w_1092 : (Cond.methodLink "SmallHarbourModel" 189 ⟨"SmallHarbourModel", "fitsAll", "(IIII)Z"⟩) ∈ tbg := tb_in (List.mem_append_right _ (List.mem_append_right _ (List.mem_append_right _ (List.mem_append_right _ (List.mem_append_left _ (List.mem_of_getElem? (i := 132) rfl)))))) rfl
set_option maxRecDepth 20000 in
theorem w_862 : (Cond.fieldLink "SmallHarbourModel" 206 "SmallHarbourModel" "coming" "I") ∈ tbg := tb_in (List.mem_append_right _ (List.mem_append_right _ (List.mem_append_right _ (List.mem_append_left _ (List.mem_of_getElem? (i := 142) rfl))))) rfl
set_option maxRecDepth 20000 in
theorem w_863 : (Cond.fieldLink "SmallHarbourModel" 209 "SmallHarbourModel" "comesTo" "I") ∈ tbg := tb_in (List.mem_append_right _ (List.mem_append_right _ (List.mem_append_right _ (List.mem_append_left _ (List.mem_of_getElem? (i := 143) rfl))))) rfl
set_option maxRecDepth 20000 in
theorem w_1132 : (Cond.methodLink "SmallHarbourModel" 215 ⟨"SmallHarbourModel", "movesTo", "(I)I"⟩) ∈ tbg := tb_in (List.mem_append_right _ (List.mem_append_right _ (List.mem_append_right _ (List.mem_append_right _ (List.mem_append_left _ (List.mem_of_getElem? (i := 172) rfl)))))) rfl
set_option maxRecDepth 20000 in
theorem w_859 : (Cond.fieldLink "SmallHarbourModel" 218 "SmallHarbourModel" "bestMoves" "I") ∈ tbg := tb_in (List.mem_append_right _ (List.mem_append_right _ (List.mem_append_right _ (List.mem_append_left _ (List.mem_of_getElem? (i := 139) rfl))))) rfl
set_option maxRecDepth 20000 in
theorem w_860 : (Cond.fieldLink "SmallHarbourModel" 221 "SmallHarbourModel" "tries" "I") ∈ tbg := tb_in (List.mem_append_right _ (List.mem_append_right _ (List.mem_append_right _ (List.mem_append_left _ (List.mem_of_getElem? (i := 140) rfl))))) rfl
set_option maxRecDepth 20000 in
theorem w_1136 : (Cond.methodLink "SmallHarbourModel" 227 ⟨"SmallHarbourModel", "isTry", "(II)Z"⟩) ∈ tbg := tb_in (List.mem_append_right _ (List.mem_append_right _ (List.mem_append_right _ (List.mem_append_right _ (List.mem_append_left _ (List.mem_of_getElem? (i := 176) rfl)))))) rfl
set_option maxRecDepth 20000 in
theorem w_1144 : (Cond.constant "SmallHarbourModel" 230 (50000 : Int32)) ∈ tbg := tb_in (List.mem_append_right _ (List.mem_append_right _ (List.mem_append_right _ (List.mem_append_right _ (List.mem_append_left _ (List.mem_of_getElem? (i := 184) rfl)))))) rfl
set_option maxRecDepth 20000 in
theorem w_1128 : (Cond.methodLink "SmallHarbourModel" 224 ⟨"SmallHarbourModel", "keep", "()V"⟩) ∈ tbg := tb_in (List.mem_append_right _ (List.mem_append_right _ (List.mem_append_right _ (List.mem_append_right _ (List.mem_append_left _ (List.mem_of_getElem? (i := 168) rfl)))))) rfl
set_option maxRecDepth 20000 in
theorem w_1124 : (Cond.methodLink "SmallHarbourModel" 231 ⟨"SmallHarbourModel", "walk", "()Z"⟩) ∈ tbg := tb_in (List.mem_append_right _ (List.mem_append_right _ (List.mem_append_right _ (List.mem_append_right _ (List.mem_append_left _ (List.mem_of_getElem? (i := 164) rfl)))))) rfl
set_option maxRecDepth 20000 in
theorem w_1145 : (Cond.methodLink "SmallHarbourModel" 234 ⟨"SmallHarbourModel", "endSpan", "(II)V"⟩) ∈ tbg := tb_in (List.mem_append_right _ (List.mem_append_right _ (List.mem_append_right _ (List.mem_append_right _ (List.mem_append_left _ (List.mem_of_getElem? (i := 185) rfl)))))) rfl
set_option maxRecDepth 20000 in
theorem w_1149 : (Cond.methodLink "SmallHarbourModel" 238 ⟨"SmallHarbourModel", "moveAll", "(I)I"⟩) ∈ tbg := tb_in (List.mem_append_right _ (List.mem_append_right _ (List.mem_append_right _ (List.mem_append_right _ (List.mem_append_left _ (List.mem_of_getElem? (i := 189) rfl)))))) rfl
set_option maxRecDepth 20000 in
theorem w_1100 : (Cond.methodLink "SmallHarbourModel" 183 ⟨"SmallHarbourModel", "at", "(II)I"⟩) ∈ tbg := tb_in (List.mem_append_right _ (List.mem_append_right _ (List.mem_append_right _ (List.mem_append_right _ (List.mem_append_left _ (List.mem_of_getElem? (i := 140) rfl)))))) rfl
set_option maxRecDepth 20000 in
theorem w_1216 : (Cond.methodLink "SmallHarbourModel" 270 ⟨"SmallHarbourModel", "fewest", "()I"⟩) ∈ tbg := tb_in (List.mem_append_right _ (List.mem_append_right _ (List.mem_append_right _ (List.mem_append_right _ (List.mem_append_right _ (List.mem_of_getElem? (i := 16) rfl)))))) rfl
set_option maxRecDepth 20000 in
theorem w_1048 : (Cond.methodLink "SmallHarbourModel" 151 ⟨"SmallHarbourModel", "isBound", "()Z"⟩) ∈ tbg := tb_in (List.mem_append_right _ (List.mem_append_right _ (List.mem_append_right _ (List.mem_append_right _ (List.mem_append_left _ (List.mem_of_getElem? (i := 88) rfl)))))) rfl
set_option maxRecDepth 20000 in
theorem w_1200 : (Cond.methodLink "SmallHarbourModel" 260 ⟨"SmallHarbourModel", "left", "(II)I"⟩) ∈ tbg := tb_in (List.mem_append_right _ (List.mem_append_right _ (List.mem_append_right _ (List.mem_append_right _ (List.mem_append_right _ (List.mem_of_getElem? (i := 0) rfl)))))) rfl
set_option maxRecDepth 20000 in
theorem w_1267 : (Cond.constant "SmallHarbourModel" 308 (1952998766 : Int32)) ∈ tbg := tb_in (List.mem_append_right _ (List.mem_append_right _ (List.mem_append_right _ (List.mem_append_right _ (List.mem_append_right _ (List.mem_of_getElem? (i := 67) rfl)))))) rfl
set_option maxRecDepth 20000 in
theorem w_1268 : (Cond.constant "SmallHarbourModel" 309 (1701606245 : Int32)) ∈ tbg := tb_in (List.mem_append_right _ (List.mem_append_right _ (List.mem_append_right _ (List.mem_append_right _ (List.mem_append_right _ (List.mem_of_getElem? (i := 68) rfl)))))) rfl
set_option maxRecDepth 20000 in
theorem w_886 : (Cond.fieldLink "SmallHarbourModel" 280 "SmallHarbourModel" "at" "I") ∈ tbg := tb_in (List.mem_append_right _ (List.mem_append_right _ (List.mem_append_right _ (List.mem_append_left _ (List.mem_of_getElem? (i := 166) rfl))))) rfl
set_option maxRecDepth 20000 in
theorem w_1252 : (Cond.methodLink "SmallHarbourModel" 282 ⟨"SmallHarbourModel", "see", "(I)I"⟩) ∈ tbg := tb_in (List.mem_append_right _ (List.mem_append_right _ (List.mem_append_right _ (List.mem_append_right _ (List.mem_append_right _ (List.mem_of_getElem? (i := 52) rfl)))))) rfl
set_option maxRecDepth 20000 in
theorem w_887 : (Cond.fieldLink "SmallHarbourModel" 285 "SmallHarbourModel" "place" "I") ∈ tbg := tb_in (List.mem_append_right _ (List.mem_append_right _ (List.mem_append_right _ (List.mem_append_left _ (List.mem_of_getElem? (i := 167) rfl))))) rfl
set_option maxRecDepth 20000 in
theorem w_1257 : (Cond.static ⟨"SmallHarbourModel", "isDigit", "(I)Z"⟩) ∈ tbg := tb_in (List.mem_append_right _ (List.mem_append_right _ (List.mem_append_right _ (List.mem_append_right _ (List.mem_append_right _ (List.mem_of_getElem? (i := 57) rfl)))))) rfl
set_option maxRecDepth 20000 in
theorem w_1256 : (Cond.methodLink "SmallHarbourModel" 291 ⟨"SmallHarbourModel", "isDigit", "(I)Z"⟩) ∈ tbg := tb_in (List.mem_append_right _ (List.mem_append_right _ (List.mem_append_right _ (List.mem_append_right _ (List.mem_append_right _ (List.mem_of_getElem? (i := 56) rfl)))))) rfl
set_option maxRecDepth 20000 in
theorem w_1261 : (Cond.static ⟨"SmallHarbourModel", "isLetter", "(I)Z"⟩) ∈ tbg := tb_in (List.mem_append_right _ (List.mem_append_right _ (List.mem_append_right _ (List.mem_append_right _ (List.mem_append_right _ (List.mem_of_getElem? (i := 61) rfl)))))) rfl
set_option maxRecDepth 20000 in
theorem w_1260 : (Cond.methodLink "SmallHarbourModel" 298 ⟨"SmallHarbourModel", "isLetter", "(I)Z"⟩) ∈ tbg := tb_in (List.mem_append_right _ (List.mem_append_right _ (List.mem_append_right _ (List.mem_append_right _ (List.mem_append_right _ (List.mem_of_getElem? (i := 60) rfl)))))) rfl
set_option maxRecDepth 20000 in
theorem w_1270 : (Cond.static ⟨"SmallHarbourModel", "signOf", "(I)I"⟩) ∈ tbg := tb_in (List.mem_append_right _ (List.mem_append_right _ (List.mem_append_right _ (List.mem_append_right _ (List.mem_append_right _ (List.mem_of_getElem? (i := 70) rfl)))))) rfl
set_option maxRecDepth 20000 in
theorem w_1269 : (Cond.methodLink "SmallHarbourModel" 305 ⟨"SmallHarbourModel", "signOf", "(I)I"⟩) ∈ tbg := tb_in (List.mem_append_right _ (List.mem_append_right _ (List.mem_append_right _ (List.mem_append_right _ (List.mem_append_right _ (List.mem_of_getElem? (i := 69) rfl)))))) rfl
set_option maxRecDepth 20000 in
theorem w_1265 : (Cond.static ⟨"SmallHarbourModel", "wordOf", "(I)I"⟩) ∈ tbg := tb_in (List.mem_append_right _ (List.mem_append_right _ (List.mem_append_right _ (List.mem_append_right _ (List.mem_append_right _ (List.mem_of_getElem? (i := 65) rfl)))))) rfl
set_option maxRecDepth 20000 in
theorem w_1264 : (Cond.methodLink "SmallHarbourModel" 302 ⟨"SmallHarbourModel", "wordOf", "(I)I"⟩) ∈ tbg := tb_in (List.mem_append_right _ (List.mem_append_right _ (List.mem_append_right _ (List.mem_append_right _ (List.mem_append_right _ (List.mem_of_getElem? (i := 64) rfl)))))) rfl
set_option maxRecDepth 20000 in
theorem w_1263 : (Cond.constant "SmallHarbourModel" 301 (16777216 : Int32)) ∈ tbg := tb_in (List.mem_append_right _ (List.mem_append_right _ (List.mem_append_right _ (List.mem_append_right _ (List.mem_append_right _ (List.mem_of_getElem? (i := 63) rfl)))))) rfl
set_option maxRecDepth 20000 in
theorem w_889 : (Cond.fieldLink "SmallHarbourModel" 294 "SmallHarbourModel" "number" "I") ∈ tbg := tb_in (List.mem_append_right _ (List.mem_append_right _ (List.mem_append_right _ (List.mem_append_left _ (List.mem_of_getElem? (i := 169) rfl))))) rfl
set_option maxRecDepth 20000 in
theorem w_1259 : (Cond.constant "SmallHarbourModel" 297 (100000 : Int32)) ∈ tbg := tb_in (List.mem_append_right _ (List.mem_append_right _ (List.mem_append_right _ (List.mem_append_right _ (List.mem_append_right _ (List.mem_of_getElem? (i := 59) rfl)))))) rfl
set_option maxRecDepth 20000 in
theorem w_1161 : (Cond.methodLink "SmallHarbourModel" 251 ⟨"SmallHarbourModel", "bill", "(I)I"⟩) ∈ tbg := tb_in (List.mem_append_right _ (List.mem_append_right _ (List.mem_append_right _ (List.mem_append_right _ (List.mem_append_left _ (List.mem_of_getElem? (i := 201) rfl)))))) rfl
set_option maxRecDepth 20000 in
theorem w_1276 : (Cond.constant "SmallHarbourModel" 338 (99999 : Int32)) ∈ tbg := tb_in (List.mem_append_right _ (List.mem_append_right _ (List.mem_append_right _ (List.mem_append_right _ (List.mem_append_right _ (List.mem_of_getElem? (i := 76) rfl)))))) rfl
set_option maxRecDepth 20000 in
theorem w_1248 : (Cond.methodLink "SmallHarbourModel" 351 ⟨"SmallHarbourModel", "nextToken", "()V"⟩) ∈ tbg := tb_in (List.mem_append_right _ (List.mem_append_right _ (List.mem_append_right _ (List.mem_append_right _ (List.mem_append_right _ (List.mem_of_getElem? (i := 48) rfl)))))) rfl
set_option maxRecDepth 20000 in
theorem w_1300 : (Cond.methodLink "SmallHarbourModel" 357 ⟨"SmallHarbourModel", "behind", "()I"⟩) ∈ tbg := tb_in (List.mem_append_right _ (List.mem_append_right _ (List.mem_append_right _ (List.mem_append_right _ (List.mem_append_right _ (List.mem_of_getElem? (i := 100) rfl)))))) rfl
set_option maxRecDepth 20000 in
theorem w_1272 : (Cond.methodLink "SmallHarbourModel" 354 ⟨"SmallHarbourModel", "part", "()I"⟩) ∈ tbg := tb_in (List.mem_append_right _ (List.mem_append_right _ (List.mem_append_right _ (List.mem_append_right _ (List.mem_append_right _ (List.mem_of_getElem? (i := 72) rfl)))))) rfl
set_option maxRecDepth 20000 in
theorem w_1244 : (Cond.methodLink "SmallHarbourModel" 360 ⟨"SmallHarbourModel", "read", "()I"⟩) ∈ tbg := tb_in (List.mem_append_right _ (List.mem_append_right _ (List.mem_append_right _ (List.mem_append_right _ (List.mem_append_right _ (List.mem_of_getElem? (i := 44) rfl)))))) rfl
set_option maxRecDepth 20000 in
theorem w_1088 : (Cond.methodLink "SmallHarbourModel" 186 ⟨"SmallHarbourModel", "hasStay", "(III)Z"⟩) ∈ tbg := tb_in (List.mem_append_right _ (List.mem_append_right _ (List.mem_append_right _ (List.mem_append_right _ (List.mem_append_left _ (List.mem_of_getElem? (i := 128) rfl)))))) rfl
set_option maxRecDepth 20000 in
theorem w_1096 : (Cond.methodLink "SmallHarbourModel" 192 ⟨"SmallHarbourModel", "isEmpty", "(III)Z"⟩) ∈ tbg := tb_in (List.mem_append_right _ (List.mem_append_right _ (List.mem_append_right _ (List.mem_append_right _ (List.mem_append_left _ (List.mem_of_getElem? (i := 136) rfl)))))) rfl
set_option maxRecDepth 20000 in
theorem w_423 : (Cond.static ⟨"SmallHarbour", "isWithin", "(III)Z"⟩) ∈ tbg := tb_in (List.mem_append_right _ (List.mem_append_left _ (List.mem_of_getElem? (i := 183) rfl))) rfl
set_option maxRecDepth 20000 in
theorem w_422 : (Cond.methodLinkNest "SmallHarbour$Berths" 25 ⟨"SmallHarbour", "isWithin", "(III)Z"⟩ "SmallHarbour") ∈ tables_1 := List.mem_append_right _ (List.mem_append_left _ (List.mem_of_getElem? (i := 182) rfl))
set_option maxRecDepth 20000 in
theorem w_50 : (Cond.fieldLink "SmallHarbour" 177 "SmallHarbour$Berths" "count" "I") ∈ tbg := tb_in (List.mem_append_left _ (List.mem_of_getElem? (i := 50) rfl)) rfl
set_option maxRecDepth 20000 in
theorem w_75 : (Cond.fieldLink "SmallHarbour" 117 "SmallHarbour$Boats" "count" "I") ∈ tbg := tb_in (List.mem_append_left _ (List.mem_of_getElem? (i := 75) rfl)) rfl
set_option maxRecDepth 20000 in
theorem w_124 : (Cond.fieldLink "SmallHarbour" 260 "SmallHarbour$Stays" "count" "I") ∈ tbg := tb_in (List.mem_append_left _ (List.mem_of_getElem? (i := 124) rfl)) rfl
set_option maxRecDepth 20000 in
theorem w_99 : (Cond.fieldLink "SmallHarbour" 261 "SmallHarbour$Spans" "count" "I") ∈ tbg := tb_in (List.mem_append_left _ (List.mem_of_getElem? (i := 99) rfl)) rfl
set_option maxRecDepth 20000 in
theorem w_194 : (Cond.fieldLink "SmallHarbour" 262 "SmallHarbour$Hoist" "count" "I") ∈ tbg := tb_in (List.mem_append_left _ (List.mem_of_getElem? (i := 194) rfl)) rfl
set_option maxRecDepth 20000 in
theorem w_226 : (Cond.fieldLink "SmallHarbour" 230 "SmallHarbour$Shed" "count" "I") ∈ tbg := tb_in (List.mem_append_left _ (List.mem_of_getElem? (i := 226) rfl)) rfl
set_option maxRecDepth 20000 in
theorem w_326 : (Cond.fieldLink "SmallHarbour" 238 "SmallHarbour$Rules" "count" "I") ∈ tbg := tb_in (List.mem_append_right _ (List.mem_append_left _ (List.mem_of_getElem? (i := 86) rfl))) rfl
set_option maxRecDepth 20000 in
theorem w_269 : (Cond.fieldLink "SmallHarbour" 234 "SmallHarbour$Tape" "count" "I") ∈ tbg := tb_in (List.mem_append_right _ (List.mem_append_left _ (List.mem_of_getElem? (i := 29) rfl))) rfl
set_option maxRecDepth 20000 in
theorem w_504 : (Cond.methodLink "SmallHarbour$Spans" 25 ⟨"java/lang/Math", "min", "(II)I"⟩) ∈ tbg := tb_in (List.mem_append_right _ (List.mem_append_right _ (List.mem_append_left _ (List.mem_of_getElem? (i := 24) rfl)))) rfl
set_option maxRecDepth 20000 in
theorem w_451 : (Cond.static ⟨"java/lang/Math", "min", "(II)I"⟩) ∈ tbg := tb_in (List.mem_append_right _ (List.mem_append_left _ (List.mem_of_getElem? (i := 211) rfl))) rfl
set_option maxRecDepth 20000 in
theorem w_15 : (Cond.initialized "java/lang/Math") ∈ tbg := tb_in (List.mem_append_left _ (List.mem_of_getElem? (i := 15) rfl)) rfl
set_option maxRecDepth 20000 in
theorem w_452 : (Cond.code ⟨"java/lang/Math", "min", "(II)I"⟩ prog_15_method_69_code 2 (Option.some FieldType.int)) ∈ tbg := tb_in (List.mem_append_right _ (List.mem_append_left _ (List.mem_of_getElem? (i := 212) rfl))) rfl
set_option maxRecDepth 20000 in
theorem w_505 : (Cond.methodLink "SmallHarbour$Spans" 31 ⟨"java/lang/Math", "max", "(II)I"⟩) ∈ tbg := tb_in (List.mem_append_right _ (List.mem_append_right _ (List.mem_append_left _ (List.mem_of_getElem? (i := 25) rfl)))) rfl
set_option maxRecDepth 20000 in
theorem w_506 : (Cond.static ⟨"java/lang/Math", "max", "(II)I"⟩) ∈ tbg := tb_in (List.mem_append_right _ (List.mem_append_right _ (List.mem_append_left _ (List.mem_of_getElem? (i := 26) rfl)))) rfl
set_option maxRecDepth 20000 in
theorem w_507 : (Cond.code ⟨"java/lang/Math", "max", "(II)I"⟩ prog_15_method_65_code 2 (Option.some FieldType.int)) ∈ tbg := tb_in (List.mem_append_right _ (List.mem_append_right _ (List.mem_append_left _ (List.mem_of_getElem? (i := 27) rfl)))) rfl
set_option maxRecDepth 20000 in
theorem w_465 : (Cond.methodLink "SmallHarbour" 130 ⟨"SmallHarbour$Boats", "has", "(I)Z"⟩) ∈ tbg := tb_in (List.mem_append_right _ (List.mem_append_left _ (List.mem_of_getElem? (i := 225) rfl))) rfl
set_option maxRecDepth 20000 in
theorem w_73 : (Cond.fieldLink "SmallHarbour" 142 "SmallHarbour$Boats" "home" "[I") ∈ tbg := tb_in (List.mem_append_left _ (List.mem_of_getElem? (i := 73) rfl)) rfl
set_option maxRecDepth 20000 in
theorem w_513 : (Cond.static ⟨"SmallHarbour", "areNights", "(II)Z"⟩) ∈ tbg := tb_in (List.mem_append_right _ (List.mem_append_right _ (List.mem_append_left _ (List.mem_of_getElem? (i := 33) rfl)))) rfl
set_option maxRecDepth 20000 in
theorem w_512 : (Cond.methodLink "SmallHarbour" 166 ⟨"SmallHarbour", "areNights", "(II)Z"⟩) ∈ tbg := tb_in (List.mem_append_right _ (List.mem_append_right _ (List.mem_append_left _ (List.mem_of_getElem? (i := 32) rfl)))) rfl
set_option maxRecDepth 20000 in
theorem w_500 : (Cond.methodLink "SmallHarbour" 169 ⟨"SmallHarbour$Spans", "nightsAway", "(III)I"⟩) ∈ tbg := tb_in (List.mem_append_right _ (List.mem_append_right _ (List.mem_append_left _ (List.mem_of_getElem? (i := 20) rfl)))) rfl
set_option maxRecDepth 20000 in
theorem w_515 : (Cond.methodLink "SmallHarbour" 172 ⟨"SmallHarbour$Spans", "add", "(III)Z"⟩) ∈ tbg := tb_in (List.mem_append_right _ (List.mem_append_right _ (List.mem_append_left _ (List.mem_of_getElem? (i := 35) rfl)))) rfl
set_option maxRecDepth 20000 in
theorem w_418 : (Cond.methodLink "SmallHarbour" 109 ⟨"SmallHarbour$Berths", "add", "(II)I"⟩) ∈ tbg := tb_in (List.mem_append_right _ (List.mem_append_left _ (List.mem_of_getElem? (i := 178) rfl))) rfl
set_option maxRecDepth 20000 in
theorem w_474 : (Cond.static ⟨"SmallHarbour", "isDay", "(I)Z"⟩) ∈ tbg := tb_in (List.mem_append_right _ (List.mem_append_left _ (List.mem_of_getElem? (i := 234) rfl))) rfl
set_option maxRecDepth 20000 in
theorem w_473 : (Cond.methodLink "SmallHarbour" 149 ⟨"SmallHarbour", "isDay", "(I)Z"⟩) ∈ tbg := tb_in (List.mem_append_right _ (List.mem_append_left _ (List.mem_of_getElem? (i := 233) rfl))) rfl
set_option maxRecDepth 20000 in
theorem w_480 : (Cond.methodLink "SmallHarbour" 174 ⟨"SmallHarbour$Stays", "ofBoat", "(III)I"⟩) ∈ tbg := tb_in (List.mem_append_right _ (List.mem_append_right _ (List.mem_append_left _ (List.mem_of_getElem? (i := 0) rfl)))) rfl
set_option maxRecDepth 20000 in
theorem w_118 : (Cond.fieldLink "SmallHarbour" 202 "SmallHarbour$Stays" "berth" "[I") ∈ tbg := tb_in (List.mem_append_left _ (List.mem_of_getElem? (i := 118) rfl)) rfl
set_option maxRecDepth 20000 in
theorem w_476 : (Cond.methodLink "SmallHarbour" 189 ⟨"SmallHarbour$Spans", "find", "(II)I"⟩) ∈ tbg := tb_in (List.mem_append_right _ (List.mem_append_left _ (List.mem_of_getElem? (i := 236) rfl))) rfl
set_option maxRecDepth 20000 in
theorem w_632 : (Cond.methodLink "SmallHarbour$Rules" 44 ⟨"SmallHarbour$Rules", "pop", "()I"⟩) ∈ tbg := tb_in (List.mem_append_right _ (List.mem_append_right _ (List.mem_append_left _ (List.mem_of_getElem? (i := 152) rfl)))) rfl
set_option maxRecDepth 20000 in
theorem w_637 : (Cond.static ⟨"SmallHarbour$Rules", "join", "(III)I"⟩) ∈ tbg := tb_in (List.mem_append_right _ (List.mem_append_right _ (List.mem_append_left _ (List.mem_of_getElem? (i := 157) rfl)))) rfl
set_option maxRecDepth 20000 in
theorem w_636 : (Cond.methodLink "SmallHarbour$Rules" 48 ⟨"SmallHarbour$Rules", "join", "(III)I"⟩) ∈ tbg := tb_in (List.mem_append_right _ (List.mem_append_right _ (List.mem_append_left _ (List.mem_of_getElem? (i := 156) rfl)))) rfl
set_option maxRecDepth 20000 in
theorem w_624 : (Cond.methodLink "SmallHarbour$Rules" 37 ⟨"SmallHarbour$Rules", "push", "(I)V"⟩) ∈ tbg := tb_in (List.mem_append_right _ (List.mem_append_right _ (List.mem_append_left _ (List.mem_of_getElem? (i := 144) rfl)))) rfl
set_option maxRecDepth 20000 in
theorem w_628 : (Cond.methodLink "SmallHarbour$Rules" 41 ⟨"SmallHarbour$Rules", "workOn", "(I)V"⟩) ∈ tbg := tb_in (List.mem_append_right _ (List.mem_append_right _ (List.mem_append_left _ (List.mem_of_getElem? (i := 148) rfl)))) rfl
set_option maxRecDepth 20000 in
theorem w_120 : (Cond.fieldLink "SmallHarbour" 183 "SmallHarbour$Stays" "from" "[I") ∈ tbg := tb_in (List.mem_append_left _ (List.mem_of_getElem? (i := 120) rfl)) rfl
set_option maxRecDepth 20000 in
theorem w_122 : (Cond.fieldLink "SmallHarbour" 186 "SmallHarbour$Stays" "to" "[I") ∈ tbg := tb_in (List.mem_append_left _ (List.mem_of_getElem? (i := 122) rfl)) rfl
set_option maxRecDepth 20000 in
theorem w_616 : (Cond.methodLink "SmallHarbour" 311 ⟨"SmallHarbour$Rules", "inForce", "(I)I"⟩) ∈ tbg := tb_in (List.mem_append_right _ (List.mem_append_right _ (List.mem_append_left _ (List.mem_of_getElem? (i := 136) rfl)))) rfl
set_option maxRecDepth 20000 in
theorem w_67 : (Cond.fieldLink "SmallHarbour" 133 "SmallHarbour$Boats" "length" "[I") ∈ tbg := tb_in (List.mem_append_left _ (List.mem_of_getElem? (i := 67) rfl)) rfl
set_option maxRecDepth 20000 in
theorem w_116 : (Cond.fieldLink "SmallHarbour" 163 "SmallHarbour$Stays" "boat" "[I") ∈ tbg := tb_in (List.mem_append_left _ (List.mem_of_getElem? (i := 116) rfl)) rfl
set_option maxRecDepth 20000 in
theorem w_620 : (Cond.methodLink "SmallHarbour" 257 ⟨"SmallHarbour$Rules", "reckon", "(IIII)I"⟩) ∈ tbg := tb_in (List.mem_append_right _ (List.mem_append_right _ (List.mem_append_left _ (List.mem_of_getElem? (i := 140) rfl)))) rfl
set_option maxRecDepth 20000 in
theorem w_450 : (Cond.methodLink "SmallHarbour$Tide" 25 ⟨"java/lang/Math", "min", "(II)I"⟩) ∈ tbg := tb_in (List.mem_append_right _ (List.mem_append_left _ (List.mem_of_getElem? (i := 210) rfl))) rfl
set_option maxRecDepth 20000 in
theorem w_453 : (Cond.methodLink "SmallHarbour$Tide" 31 ⟨"SmallHarbour$Tide", "on", "(I)I"⟩) ∈ tbg := tb_in (List.mem_append_right _ (List.mem_append_left _ (List.mem_of_getElem? (i := 213) rfl))) rfl
set_option maxRecDepth 20000 in
theorem w_438 : (Cond.methodLink "SmallHarbour" 148 ⟨"SmallHarbour$Berths", "has", "(I)Z"⟩) ∈ tbg := tb_in (List.mem_append_right _ (List.mem_append_left _ (List.mem_of_getElem? (i := 198) rfl))) rfl
set_option maxRecDepth 20000 in
theorem w_48 : (Cond.fieldLink "SmallHarbour" 126 "SmallHarbour$Berths" "holder" "[I") ∈ tbg := tb_in (List.mem_append_left _ (List.mem_of_getElem? (i := 48) rfl)) rfl
set_option maxRecDepth 20000 in
theorem w_442 : (Cond.methodLink "SmallHarbour" 159 ⟨"SmallHarbour$Stays", "atBerth", "(III)I"⟩) ∈ tbg := tb_in (List.mem_append_right _ (List.mem_append_left _ (List.mem_of_getElem? (i := 202) rfl))) rfl
set_option maxRecDepth 20000 in
theorem w_446 : (Cond.methodLink "SmallHarbour" 266 ⟨"SmallHarbour$Tide", "lowest", "(II)I"⟩) ∈ tbg := tb_in (List.mem_append_right _ (List.mem_append_left _ (List.mem_of_getElem? (i := 206) rfl))) rfl
set_option maxRecDepth 20000 in
theorem w_457 : (Cond.methodLink "SmallHarbour" 269 ⟨"SmallHarbour$Berths", "takes", "(IIII)Z"⟩) ∈ tbg := tb_in (List.mem_append_right _ (List.mem_append_left _ (List.mem_of_getElem? (i := 217) rfl))) rfl
set_option maxRecDepth 20000 in
theorem w_429 : (Cond.methodLink "SmallHarbour" 113 ⟨"SmallHarbour", "isWithin", "(III)Z"⟩) ∈ tbg := tb_in (List.mem_append_right _ (List.mem_append_left _ (List.mem_of_getElem? (i := 189) rfl))) rfl
set_option maxRecDepth 20000 in
theorem w_434 : (Cond.methodLink "SmallHarbour" 123 ⟨"SmallHarbour", "canBeHome", "(III)Z"⟩) ∈ tbg := tb_in (List.mem_append_right _ (List.mem_append_left _ (List.mem_of_getElem? (i := 194) rfl))) rfl
set_option maxRecDepth 20000 in
theorem w_430 : (Cond.methodLink "SmallHarbour" 120 ⟨"SmallHarbour$Boats", "add", "(IIII)I"⟩) ∈ tbg := tb_in (List.mem_append_right _ (List.mem_append_left _ (List.mem_of_getElem? (i := 190) rfl))) rfl
set_option maxRecDepth 20000 in
theorem w_69 : (Cond.fieldLink "SmallHarbour" 136 "SmallHarbour$Boats" "draught" "[I") ∈ tbg := tb_in (List.mem_append_left _ (List.mem_of_getElem? (i := 69) rfl)) rfl
set_option maxRecDepth 20000 in
theorem w_71 : (Cond.fieldLink "SmallHarbour" 139 "SmallHarbour$Boats" "weight" "[I") ∈ tbg := tb_in (List.mem_append_left _ (List.mem_of_getElem? (i := 71) rfl)) rfl
set_option maxRecDepth 20000 in
theorem w_469 : (Cond.methodLink "SmallHarbour" 145 ⟨"SmallHarbour", "berthOf", "(II)I"⟩) ∈ tbg := tb_in (List.mem_append_right _ (List.mem_append_left _ (List.mem_of_getElem? (i := 229) rfl))) rfl
set_option maxRecDepth 20000 in
theorem w_192 : (Cond.fieldLink "SmallHarbour" 211 "SmallHarbour$Hoist" "isBroken" "[Z") ∈ tbg := tb_in (List.mem_append_left _ (List.mem_of_getElem? (i := 192) rfl)) rfl
set_option maxRecDepth 20000 in
theorem w_488 : (Cond.methodLink "SmallHarbour" 152 ⟨"SmallHarbour", "fitsAllNights", "(IIII)Z"⟩) ∈ tbg := tb_in (List.mem_append_right _ (List.mem_append_right _ (List.mem_append_left _ (List.mem_of_getElem? (i := 8) rfl)))) rfl
set_option maxRecDepth 20000 in
theorem w_496 : (Cond.methodLink "SmallHarbour" 156 ⟨"SmallHarbour", "isOwnerThere", "(III)Z"⟩) ∈ tbg := tb_in (List.mem_append_right _ (List.mem_append_right _ (List.mem_append_left _ (List.mem_of_getElem? (i := 16) rfl)))) rfl
set_option maxRecDepth 20000 in
theorem w_147 : (Cond.fieldLink "SmallHarbour" 292 "SmallHarbour$Walk" "size" "I") ∈ tbg := tb_in (List.mem_append_left _ (List.mem_of_getElem? (i := 147) rfl)) rfl
set_option maxRecDepth 20000 in
theorem w_599 : (Cond.methodLink "SmallHarbour" 304 ⟨"SmallHarbour$Walk", "isMoved", "(I)Z"⟩) ∈ tbg := tb_in (List.mem_append_right _ (List.mem_append_right _ (List.mem_append_left _ (List.mem_of_getElem? (i := 119) rfl)))) rfl
set_option maxRecDepth 20000 in
theorem w_143 : (Cond.fieldLink "SmallHarbour" 307 "SmallHarbour$Walk" "stay" "[I") ∈ tbg := tb_in (List.mem_append_left _ (List.mem_of_getElem? (i := 143) rfl)) rfl
set_option maxRecDepth 20000 in
theorem w_145 : (Cond.fieldLink "SmallHarbour" 310 "SmallHarbour$Walk" "best" "[I") ∈ tbg := tb_in (List.mem_append_left _ (List.mem_of_getElem? (i := 145) rfl)) rfl
set_option maxRecDepth 20000 in
theorem w_527 : (Cond.methodLink "SmallHarbour" 181 ⟨"SmallHarbour$Stays", "add", "(IIII)I"⟩) ∈ tbg := tb_in (List.mem_append_right _ (List.mem_append_right _ (List.mem_append_left _ (List.mem_of_getElem? (i := 47) rfl)))) rfl
set_option maxRecDepth 20000 in
theorem w_286 : (Cond.fieldLink "SmallHarbour" 251 "SmallHarbour$Reader" "flaw" "I") ∈ tbg := tb_in (List.mem_append_right _ (List.mem_append_left _ (List.mem_of_getElem? (i := 46) rfl))) rfl
set_option maxRecDepth 20000 in
theorem w_288 : (Cond.fieldLink "SmallHarbour" 254 "SmallHarbour$Reader" "place" "I") ∈ tbg := tb_in (List.mem_append_right _ (List.mem_append_left _ (List.mem_of_getElem? (i := 48) rfl))) rfl
set_option maxRecDepth 20000 in
theorem w_721 : (Cond.methodLink "SmallHarbour" 235 ⟨"SmallHarbour$Tape", "addFour", "(I)V"⟩) ∈ tbg := tb_in (List.mem_append_right _ (List.mem_append_right _ (List.mem_append_right _ (List.mem_append_left _ (List.mem_of_getElem? (i := 1) rfl))))) rfl
set_option maxRecDepth 20000 in
theorem w_555 : (Cond.methodLink "SmallHarbour$Walk" 52 ⟨"java/lang/Math", "min", "(II)I"⟩) ∈ tbg := tb_in (List.mem_append_right _ (List.mem_append_right _ (List.mem_append_left _ (List.mem_of_getElem? (i := 75) rfl)))) rfl
set_option maxRecDepth 20000 in
theorem w_404 : (Cond.static ⟨"java/util/Arrays", "fill", "([II)V"⟩) ∈ tbg := tb_in (List.mem_append_right _ (List.mem_append_left _ (List.mem_of_getElem? (i := 164) rfl))) rfl
set_option maxRecDepth 20000 in
theorem w_556 : (Cond.methodLink "SmallHarbour$Walk" 58 ⟨"java/util/Arrays", "fill", "([II)V"⟩) ∈ tbg := tb_in (List.mem_append_right _ (List.mem_append_right _ (List.mem_append_left _ (List.mem_of_getElem? (i := 76) rfl)))) rfl
set_option maxRecDepth 20000 in
theorem w_551 : (Cond.methodLink "SmallHarbour" 290 ⟨"SmallHarbour$Walk", "restart", "(I)V"⟩) ∈ tbg := tb_in (List.mem_append_right _ (List.mem_append_right _ (List.mem_append_left _ (List.mem_of_getElem? (i := 71) rfl)))) rfl
set_option maxRecDepth 20000 in
theorem w_557 : (Cond.methodLink "SmallHarbour" 293 ⟨"java/lang/Math", "max", "(II)I"⟩) ∈ tbg := tb_in (List.mem_append_right _ (List.mem_append_right _ (List.mem_append_left _ (List.mem_of_getElem? (i := 77) rfl)))) rfl
set_option maxRecDepth 20000 in
theorem w_558 : (Cond.methodLink "SmallHarbour" 298 ⟨"SmallHarbour$Walk", "add", "(IIII)V"⟩) ∈ tbg := tb_in (List.mem_append_right _ (List.mem_append_right _ (List.mem_append_left _ (List.mem_of_getElem? (i := 78) rfl)))) rfl
set_option maxRecDepth 20000 in
theorem w_523 : (Cond.methodLink "SmallHarbour" 178 ⟨"SmallHarbour", "canLie", "(IIII)Z"⟩) ∈ tbg := tb_in (List.mem_append_right _ (List.mem_append_right _ (List.mem_append_left _ (List.mem_of_getElem? (i := 43) rfl)))) rfl
set_option maxRecDepth 20000 in
theorem w_562 : (Cond.methodLink "SmallHarbour" 301 ⟨"SmallHarbour$Walk", "allow", "(I)V"⟩) ∈ tbg := tb_in (List.mem_append_right _ (List.mem_append_right _ (List.mem_append_left _ (List.mem_of_getElem? (i := 82) rfl)))) rfl
set_option maxRecDepth 20000 in
theorem w_581 : (Cond.constant "SmallHarbour$Walk" 68 (50000 : Int32)) ∈ tbg := tb_in (List.mem_append_right _ (List.mem_append_right _ (List.mem_append_left _ (List.mem_of_getElem? (i := 101) rfl)))) rfl
set_option maxRecDepth 20000 in
theorem w_591 : (Cond.methodLink "SmallHarbour$Walk" 69 ⟨"SmallHarbour$Walk", "isMoved", "(I)Z"⟩) ∈ tbg := tb_in (List.mem_append_right _ (List.mem_append_right _ (List.mem_append_left _ (List.mem_of_getElem? (i := 111) rfl)))) rfl
set_option maxRecDepth 20000 in
theorem w_577 : (Cond.methodLink "SmallHarbour$Walk" 79 ⟨"SmallHarbour$Walk", "isSpent", "()Z"⟩) ∈ tbg := tb_in (List.mem_append_right _ (List.mem_append_right _ (List.mem_append_left _ (List.mem_of_getElem? (i := 97) rfl)))) rfl
set_option maxRecDepth 20000 in
theorem w_570 : (Cond.methodLink "SmallHarbour$Walk" 64 ⟨"SmallHarbour$Walk", "putFrom", "(II)V"⟩) ∈ tbg := tb_in (List.mem_append_right _ (List.mem_append_right _ (List.mem_append_left _ (List.mem_of_getElem? (i := 90) rfl)))) rfl
set_option maxRecDepth 20000 in
theorem w_574 : (Cond.methodLink "SmallHarbour$Walk" 73 ⟨"java/lang/System", "arraycopy", "(Ljava/lang/Object;ILjava/lang/Object;II)V"⟩) ∈ tbg := tb_in (List.mem_append_right _ (List.mem_append_right _ (List.mem_append_left _ (List.mem_of_getElem? (i := 94) rfl)))) rfl
set_option maxRecDepth 20000 in
theorem w_576 : (Cond.native ⟨"java/lang/System", "arraycopy", "(Ljava/lang/Object;ILjava/lang/Object;II)V"⟩) ∈ tbg := tb_in (List.mem_append_right _ (List.mem_append_right _ (List.mem_append_left _ (List.mem_of_getElem? (i := 96) rfl)))) rfl
set_option maxRecDepth 20000 in
theorem w_575 : (Cond.static ⟨"java/lang/System", "arraycopy", "(Ljava/lang/Object;ILjava/lang/Object;II)V"⟩) ∈ tbg := tb_in (List.mem_append_right _ (List.mem_append_right _ (List.mem_append_left _ (List.mem_of_getElem? (i := 95) rfl)))) rfl
set_option maxRecDepth 20000 in
theorem w_16 : (Cond.initialized "java/lang/System") ∈ tbg := tb_in (List.mem_append_left _ (List.mem_of_getElem? (i := 16) rfl)) rfl
set_option maxRecDepth 20000 in
theorem w_547 : (Cond.methodLink "SmallHarbour" 272 ⟨"SmallHarbour", "lineUp", "(I)Z"⟩) ∈ tbg := tb_in (List.mem_append_right _ (List.mem_append_right _ (List.mem_append_left _ (List.mem_of_getElem? (i := 67) rfl)))) rfl
set_option maxRecDepth 20000 in
theorem w_566 : (Cond.methodLink "SmallHarbour" 275 ⟨"SmallHarbour$Walk", "search", "()V"⟩) ∈ tbg := tb_in (List.mem_append_right _ (List.mem_append_right _ (List.mem_append_left _ (List.mem_of_getElem? (i := 86) rfl)))) rfl
set_option maxRecDepth 20000 in
theorem w_582 : (Cond.methodLink "SmallHarbour" 278 ⟨"SmallHarbour$Walk", "isSpent", "()Z"⟩) ∈ tbg := tb_in (List.mem_append_right _ (List.mem_append_right _ (List.mem_append_left _ (List.mem_of_getElem? (i := 102) rfl)))) rfl
set_option maxRecDepth 20000 in
theorem w_583 : (Cond.methodLink "SmallHarbour" 281 ⟨"SmallHarbour$Walk", "isFound", "()Z"⟩) ∈ tbg := tb_in (List.mem_append_right _ (List.mem_append_right _ (List.mem_append_left _ (List.mem_of_getElem? (i := 103) rfl)))) rfl
set_option maxRecDepth 20000 in
theorem w_587 : (Cond.methodLink "SmallHarbour" 284 ⟨"SmallHarbour$Walk", "movedFromAhead", "(I)I"⟩) ∈ tbg := tb_in (List.mem_append_right _ (List.mem_append_right _ (List.mem_append_left _ (List.mem_of_getElem? (i := 107) rfl)))) rfl
set_option maxRecDepth 20000 in
theorem w_595 : (Cond.methodLink "SmallHarbour" 287 ⟨"SmallHarbour", "carryOut", "(I)V"⟩) ∈ tbg := tb_in (List.mem_append_right _ (List.mem_append_right _ (List.mem_append_left _ (List.mem_of_getElem? (i := 115) rfl)))) rfl
set_option maxRecDepth 20000 in
theorem w_647 : (Cond.methodLinkNest "SmallHarbour$Hoist" 38 ⟨"SmallHarbour", "isWithin", "(III)Z"⟩ "SmallHarbour") ∈ tables_1 := List.mem_append_right _ (List.mem_append_right _ (List.mem_append_left _ (List.mem_of_getElem? (i := 167) rfl)))
set_option maxRecDepth 20000 in
theorem w_643 : (Cond.methodLink "SmallHarbour" 208 ⟨"SmallHarbour$Hoist", "set", "(III)Z"⟩) ∈ tbg := tb_in (List.mem_append_right _ (List.mem_append_right _ (List.mem_append_left _ (List.mem_of_getElem? (i := 163) rfl)))) rfl
set_option maxRecDepth 20000 in
theorem w_97 : (Cond.fieldLink "SmallHarbour" 192 "SmallHarbour$Spans" "to" "[I") ∈ tbg := tb_in (List.mem_append_left _ (List.mem_of_getElem? (i := 97) rfl)) rfl
set_option maxRecDepth 20000 in
theorem w_543 : (Cond.methodLink "SmallHarbour" 193 ⟨"SmallHarbour", "findRoom", "(I)I"⟩) ∈ tbg := tb_in (List.mem_append_right _ (List.mem_append_right _ (List.mem_append_left _ (List.mem_of_getElem? (i := 63) rfl)))) rfl
set_option maxRecDepth 20000 in
theorem w_95 : (Cond.fieldLink "SmallHarbour" 197 "SmallHarbour$Spans" "from" "[I") ∈ tbg := tb_in (List.mem_append_left _ (List.mem_of_getElem? (i := 95) rfl)) rfl
set_option maxRecDepth 20000 in
theorem w_600 : (Cond.methodLink "SmallHarbour" 198 ⟨"SmallHarbour$Spans", "remove", "(I)V"⟩) ∈ tbg := tb_in (List.mem_append_right _ (List.mem_append_right _ (List.mem_append_left _ (List.mem_of_getElem? (i := 120) rfl)))) rfl
set_option maxRecDepth 20000 in
theorem w_395 : (Cond.methodLink "SmallHarbour" 263 ⟨"SmallHarbour$Berths", "isAnyHeld", "()Z"⟩) ∈ tbg := tb_in (List.mem_append_right _ (List.mem_append_left _ (List.mem_of_getElem? (i := 155) rfl))) rfl
set_option maxRecDepth 20000 in
theorem w_709 : (Cond.methodLink "SmallHarbour" 224 ⟨"SmallHarbour$Shed", "isFilled", "()Z"⟩) ∈ tbg := tb_in (List.mem_append_right _ (List.mem_append_right _ (List.mem_append_left _ (List.mem_of_getElem? (i := 229) rfl)))) rfl
set_option maxRecDepth 20000 in
theorem w_230 : (Cond.fieldLink "SmallHarbour" 231 "SmallHarbour$Shed" "best" "[I") ∈ tbg := tb_in (List.mem_append_left _ (List.mem_of_getElem? (i := 230) rfl)) rfl
set_option maxRecDepth 20000 in
theorem w_535 : (Cond.methodLink "SmallHarbour" 182 ⟨"SmallHarbour$Stays", "has", "(I)Z"⟩) ∈ tbg := tb_in (List.mem_append_right _ (List.mem_append_right _ (List.mem_append_left _ (List.mem_of_getElem? (i := 55) rfl)))) rfl
set_option maxRecDepth 20000 in
theorem w_391 : (Cond.methodLink "SmallHarbour" 97 ⟨"SmallHarbour", "isTideFixed", "()Z"⟩) ∈ tbg := tb_in (List.mem_append_right _ (List.mem_append_left _ (List.mem_of_getElem? (i := 151) rfl))) rfl
set_option maxRecDepth 20000 in
theorem w_410 : (Cond.methodLink "SmallHarbour" 105 ⟨"SmallHarbour$Tide", "put", "(II)Z"⟩) ∈ tbg := tb_in (List.mem_append_right _ (List.mem_append_left _ (List.mem_of_getElem? (i := 170) rfl))) rfl
set_option maxRecDepth 20000 in
theorem w_403 : (Cond.methodLink "SmallHarbour$Tide" 19 ⟨"java/util/Arrays", "fill", "([II)V"⟩) ∈ tbg := tb_in (List.mem_append_right _ (List.mem_append_left _ (List.mem_of_getElem? (i := 163) rfl))) rfl
set_option maxRecDepth 20000 in
theorem w_399 : (Cond.methodLink "SmallHarbour" 101 ⟨"SmallHarbour$Tide", "restart", "(I)Z"⟩) ∈ tbg := tb_in (List.mem_append_right _ (List.mem_append_left _ (List.mem_of_getElem? (i := 159) rfl))) rfl
set_option maxRecDepth 20000 in
theorem w_656 : (Cond.methodLink "SmallHarbour" 215 ⟨"SmallHarbour$Hoist", "add", "(III)I"⟩) ∈ tbg := tb_in (List.mem_append_right _ (List.mem_append_right _ (List.mem_append_left _ (List.mem_of_getElem? (i := 176) rfl)))) rfl
set_option maxRecDepth 20000 in
theorem w_672 : (Cond.methodLink "SmallHarbour$Hoist" 46 ⟨"java/lang/Math", "max", "(II)I"⟩) ∈ tbg := tb_in (List.mem_append_right _ (List.mem_append_right _ (List.mem_append_left _ (List.mem_of_getElem? (i := 192) rfl)))) rfl
set_option maxRecDepth 20000 in
theorem w_673 : (Cond.methodLink "SmallHarbour$Hoist" 52 ⟨"SmallHarbour$Tide", "on", "(I)I"⟩) ∈ tbg := tb_in (List.mem_append_right _ (List.mem_append_right _ (List.mem_append_left _ (List.mem_of_getElem? (i := 193) rfl)))) rfl
set_option maxRecDepth 20000 in
theorem w_668 : (Cond.methodLink "SmallHarbour$Hoist" 42 ⟨"SmallHarbour$Hoist", "firstDay", "(IIILSmallHarbour$Tide;)I"⟩) ∈ tbg := tb_in (List.mem_append_right _ (List.mem_append_right _ (List.mem_append_left _ (List.mem_of_getElem? (i := 188) rfl)))) rfl
set_option maxRecDepth 20000 in
theorem w_664 : (Cond.methodLink "SmallHarbour" 217 ⟨"SmallHarbour$Hoist", "dayOf", "(ILSmallHarbour$Tide;)I"⟩) ∈ tbg := tb_in (List.mem_append_right _ (List.mem_append_right _ (List.mem_append_left _ (List.mem_of_getElem? (i := 184) rfl)))) rfl
set_option maxRecDepth 20000 in
theorem w_228 : (Cond.fieldLink "SmallHarbour" 227 "SmallHarbour$Shed" "fewest" "I") ∈ tbg := tb_in (List.mem_append_left _ (List.mem_of_getElem? (i := 228) rfl)) rfl
set_option maxRecDepth 20000 in
theorem w_612 : (Cond.methodLink "SmallHarbour" 205 ⟨"SmallHarbour", "billOf", "(I)I"⟩) ∈ tbg := tb_in (List.mem_append_right _ (List.mem_append_right _ (List.mem_append_left _ (List.mem_of_getElem? (i := 132) rfl)))) rfl
set_option maxRecDepth 20000 in
theorem w_292 : (Cond.fieldLink "SmallHarbour$Reader" 44 "SmallHarbour$Reader" "kind" "I") ∈ tbg := tb_in (List.mem_append_right _ (List.mem_append_left _ (List.mem_of_getElem? (i := 52) rfl))) rfl
set_option maxRecDepth 20000 in
theorem w_293 : (Cond.fieldLink "SmallHarbour$Reader" 81 "SmallHarbour$Reader" "value" "I") ∈ tbg := tb_in (List.mem_append_right _ (List.mem_append_left _ (List.mem_of_getElem? (i := 53) rfl))) rfl
set_option maxRecDepth 20000 in
theorem w_291 : (Cond.fieldLink "SmallHarbour$Reader" 29 "SmallHarbour$Reader" "next" "I") ∈ tbg := tb_in (List.mem_append_right _ (List.mem_append_left _ (List.mem_of_getElem? (i := 51) rfl))) rfl
set_option maxRecDepth 20000 in
theorem w_268 : (Cond.fieldLink "SmallHarbour$Reader" 88 "SmallHarbour$Tape" "count" "I") ∈ tbg := tb_in (List.mem_append_right _ (List.mem_append_left _ (List.mem_of_getElem? (i := 28) rfl))) rfl
set_option maxRecDepth 20000 in
theorem w_266 : (Cond.fieldLink "SmallHarbour$Reader" 93 "SmallHarbour$Tape" "bytes" "[I") ∈ tbg := tb_in (List.mem_append_right _ (List.mem_append_left _ (List.mem_of_getElem? (i := 26) rfl))) rfl
set_option maxRecDepth 20000 in
theorem w_742 : (Cond.static ⟨"SmallHarbour$Reader", "isDigit", "(I)Z"⟩) ∈ tbg := tb_in (List.mem_append_right _ (List.mem_append_right _ (List.mem_append_right _ (List.mem_append_left _ (List.mem_of_getElem? (i := 22) rfl))))) rfl
set_option maxRecDepth 20000 in
theorem w_741 : (Cond.methodLink "SmallHarbour$Reader" 96 ⟨"SmallHarbour$Reader", "isDigit", "(I)Z"⟩) ∈ tbg := tb_in (List.mem_append_right _ (List.mem_append_right _ (List.mem_append_right _ (List.mem_append_left _ (List.mem_of_getElem? (i := 21) rfl))))) rfl
set_option maxRecDepth 20000 in
theorem w_748 : (Cond.constant "SmallHarbour$Reader" 111 (100000 : Int32)) ∈ tbg := tb_in (List.mem_append_right _ (List.mem_append_right _ (List.mem_append_right _ (List.mem_append_left _ (List.mem_of_getElem? (i := 28) rfl))))) rfl
set_option maxRecDepth 20000 in
theorem w_749 : (Cond.methodLink "SmallHarbour$Reader" 112 ⟨"java/lang/Math", "min", "(II)I"⟩) ∈ tbg := tb_in (List.mem_append_right _ (List.mem_append_right _ (List.mem_append_right _ (List.mem_append_left _ (List.mem_of_getElem? (i := 29) rfl))))) rfl
set_option maxRecDepth 20000 in
theorem w_290 : (Cond.fieldLink "SmallHarbour$Reader" 85 "SmallHarbour$Reader" "start" "I") ∈ tbg := tb_in (List.mem_append_right _ (List.mem_append_left _ (List.mem_of_getElem? (i := 50) rfl))) rfl
set_option maxRecDepth 20000 in
theorem w_758 : (Cond.static ⟨"SmallHarbour$Reader", "isWord", "(I)Z"⟩) ∈ tbg := tb_in (List.mem_append_right _ (List.mem_append_right _ (List.mem_append_right _ (List.mem_append_left _ (List.mem_of_getElem? (i := 38) rfl))))) rfl
set_option maxRecDepth 20000 in
theorem w_757 : (Cond.methodLink "SmallHarbour$Reader" 118 ⟨"SmallHarbour$Reader", "isWord", "(I)Z"⟩) ∈ tbg := tb_in (List.mem_append_right _ (List.mem_append_right _ (List.mem_append_right _ (List.mem_append_left _ (List.mem_of_getElem? (i := 37) rfl))))) rfl
set_option maxRecDepth 20000 in
theorem w_751 : (Cond.static ⟨"SmallHarbour$Reader", "isLetter", "(I)Z"⟩) ∈ tbg := tb_in (List.mem_append_right _ (List.mem_append_right _ (List.mem_append_right _ (List.mem_append_left _ (List.mem_of_getElem? (i := 31) rfl))))) rfl
set_option maxRecDepth 20000 in
theorem w_750 : (Cond.methodLink "SmallHarbour$Reader" 102 ⟨"SmallHarbour$Reader", "isLetter", "(I)Z"⟩) ∈ tbg := tb_in (List.mem_append_right _ (List.mem_append_right _ (List.mem_append_right _ (List.mem_append_left _ (List.mem_of_getElem? (i := 30) rfl))))) rfl
set_option maxRecDepth 20000 in
theorem w_761 : (Cond.static ⟨"SmallHarbour$Reader", "isSign", "(I)Z"⟩) ∈ tbg := tb_in (List.mem_append_right _ (List.mem_append_right _ (List.mem_append_right _ (List.mem_append_left _ (List.mem_of_getElem? (i := 41) rfl))))) rfl
set_option maxRecDepth 20000 in
theorem w_760 : (Cond.methodLink "SmallHarbour$Reader" 108 ⟨"SmallHarbour$Reader", "isSign", "(I)Z"⟩) ∈ tbg := tb_in (List.mem_append_right _ (List.mem_append_right _ (List.mem_append_right _ (List.mem_append_left _ (List.mem_of_getElem? (i := 40) rfl))))) rfl
set_option maxRecDepth 20000 in
theorem w_753 : (Cond.methodLink "SmallHarbour$Reader" 105 ⟨"SmallHarbour$Reader", "comeToWord", "()V"⟩) ∈ tbg := tb_in (List.mem_append_right _ (List.mem_append_right _ (List.mem_append_right _ (List.mem_append_left _ (List.mem_of_getElem? (i := 33) rfl))))) rfl
set_option maxRecDepth 20000 in
theorem w_744 : (Cond.methodLink "SmallHarbour$Reader" 99 ⟨"SmallHarbour$Reader", "comeToNumber", "()V"⟩) ∈ tbg := tb_in (List.mem_append_right _ (List.mem_append_right _ (List.mem_append_right _ (List.mem_append_left _ (List.mem_of_getElem? (i := 24) rfl))))) rfl
set_option maxRecDepth 20000 in
theorem w_294 : (Cond.fieldLink "SmallHarbour$Reader" 32 "SmallHarbour$Reader" "taken" "I") ∈ tbg := tb_in (List.mem_append_right _ (List.mem_append_left _ (List.mem_of_getElem? (i := 54) rfl))) rfl
set_option maxRecDepth 20000 in
theorem w_737 : (Cond.methodLink "SmallHarbour$Reader" 38 ⟨"SmallHarbour$Reader", "comeToNext", "()V"⟩) ∈ tbg := tb_in (List.mem_append_right _ (List.mem_append_right _ (List.mem_append_right _ (List.mem_append_left _ (List.mem_of_getElem? (i := 17) rfl))))) rfl
set_option maxRecDepth 20000 in
theorem w_792 : (Cond.methodLink "SmallHarbour$Reader" 47 ⟨"SmallHarbour$Reader", "refuse", "(I)V"⟩) ∈ tbg := tb_in (List.mem_append_right _ (List.mem_append_right _ (List.mem_append_right _ (List.mem_append_left _ (List.mem_of_getElem? (i := 72) rfl))))) rfl
set_option maxRecDepth 20000 in
theorem w_791 : (Cond.constant "SmallHarbour$Reader" 84 (99999 : Int32)) ∈ tbg := tb_in (List.mem_append_right _ (List.mem_append_right _ (List.mem_append_right _ (List.mem_append_left _ (List.mem_of_getElem? (i := 71) rfl))))) rfl
set_option maxRecDepth 20000 in
theorem w_787 : (Cond.methodLink "SmallHarbour$Reader" 68 ⟨"SmallHarbour$Reader", "take", "()V"⟩) ∈ tbg := tb_in (List.mem_append_right _ (List.mem_append_right _ (List.mem_append_right _ (List.mem_append_left _ (List.mem_of_getElem? (i := 67) rfl))))) rfl
set_option maxRecDepth 20000 in
theorem w_295 : (Cond.fieldLink "SmallHarbour$Reader" 35 "SmallHarbour$Reader" "open" "I") ∈ tbg := tb_in (List.mem_append_right _ (List.mem_append_left _ (List.mem_of_getElem? (i := 55) rfl))) rfl
set_option maxRecDepth 20000 in
theorem w_796 : (Cond.methodLink "SmallHarbour$Reader" 54 ⟨"SmallHarbour$Reader", "openOne", "()V"⟩) ∈ tbg := tb_in (List.mem_append_right _ (List.mem_append_right _ (List.mem_append_right _ (List.mem_append_left _ (List.mem_of_getElem? (i := 76) rfl))))) rfl
set_option maxRecDepth 20000 in
theorem w_763 : (Cond.methodLink "SmallHarbour$Reader" 41 ⟨"SmallHarbour$Reader", "readE", "()V"⟩) ∈ tbg := tb_in (List.mem_append_right _ (List.mem_append_right _ (List.mem_append_right _ (List.mem_append_left _ (List.mem_of_getElem? (i := 43) rfl))))) rfl
set_option maxRecDepth 20000 in
theorem w_800 : (Cond.methodLink "SmallHarbour$Reader" 58 ⟨"SmallHarbour$Reader", "expect", "(I)V"⟩) ∈ tbg := tb_in (List.mem_append_right _ (List.mem_append_right _ (List.mem_append_right _ (List.mem_append_left _ (List.mem_of_getElem? (i := 80) rfl))))) rfl
set_option maxRecDepth 20000 in
theorem w_779 : (Cond.methodLink "SmallHarbour$Reader" 74 ⟨"SmallHarbour$Reader", "readU", "()V"⟩) ∈ tbg := tb_in (List.mem_append_right _ (List.mem_append_right _ (List.mem_append_right _ (List.mem_append_left _ (List.mem_of_getElem? (i := 59) rfl))))) rfl
set_option maxRecDepth 20000 in
theorem w_783 : (Cond.methodLink "SmallHarbour$Reader" 62 ⟨"SmallHarbour$Reader", "emit", "(I)V"⟩) ∈ tbg := tb_in (List.mem_append_right _ (List.mem_append_right _ (List.mem_append_right _ (List.mem_append_left _ (List.mem_of_getElem? (i := 63) rfl))))) rfl
set_option maxRecDepth 20000 in
theorem w_805 : (Cond.static ⟨"SmallHarbour$Reader", "isOfT", "(I)Z"⟩) ∈ tbg := tb_in (List.mem_append_right _ (List.mem_append_right _ (List.mem_append_right _ (List.mem_append_left _ (List.mem_of_getElem? (i := 85) rfl))))) rfl
set_option maxRecDepth 20000 in
theorem w_804 : (Cond.methodLink "SmallHarbour$Reader" 77 ⟨"SmallHarbour$Reader", "isOfT", "(I)Z"⟩) ∈ tbg := tb_in (List.mem_append_right _ (List.mem_append_right _ (List.mem_append_right _ (List.mem_append_left _ (List.mem_of_getElem? (i := 84) rfl))))) rfl
set_option maxRecDepth 20000 in
theorem w_775 : (Cond.methodLink "SmallHarbour$Reader" 71 ⟨"SmallHarbour$Reader", "readT", "()V"⟩) ∈ tbg := tb_in (List.mem_append_right _ (List.mem_append_right _ (List.mem_append_right _ (List.mem_append_left _ (List.mem_of_getElem? (i := 55) rfl))))) rfl
set_option maxRecDepth 20000 in
theorem w_771 : (Cond.methodLink "SmallHarbour$Reader" 65 ⟨"SmallHarbour$Reader", "readS", "()V"⟩) ∈ tbg := tb_in (List.mem_append_right _ (List.mem_append_right _ (List.mem_append_right _ (List.mem_append_left _ (List.mem_of_getElem? (i := 51) rfl))))) rfl
set_option maxRecDepth 20000 in
theorem w_807 : (Cond.constant "SmallHarbour$Reader" 57 (1952998766 : Int32)) ∈ tbg := tb_in (List.mem_append_right _ (List.mem_append_right _ (List.mem_append_right _ (List.mem_append_left _ (List.mem_of_getElem? (i := 87) rfl))))) rfl
set_option maxRecDepth 20000 in
theorem w_808 : (Cond.constant "SmallHarbour$Reader" 61 (1701606245 : Int32)) ∈ tbg := tb_in (List.mem_append_right _ (List.mem_append_right _ (List.mem_append_right _ (List.mem_append_left _ (List.mem_of_getElem? (i := 88) rfl))))) rfl
set_option maxRecDepth 20000 in
theorem w_767 : (Cond.methodLink "SmallHarbour$Reader" 51 ⟨"SmallHarbour$Reader", "readC", "()V"⟩) ∈ tbg := tb_in (List.mem_append_right _ (List.mem_append_right _ (List.mem_append_right _ (List.mem_append_left _ (List.mem_of_getElem? (i := 47) rfl))))) rfl
set_option maxRecDepth 20000 in
theorem w_813 : (Cond.methodLink "SmallHarbour$Rules" 31 ⟨"java/lang/System", "arraycopy", "(Ljava/lang/Object;ILjava/lang/Object;II)V"⟩) ∈ tbg := tb_in (List.mem_append_right _ (List.mem_append_right _ (List.mem_append_right _ (List.mem_append_left _ (List.mem_of_getElem? (i := 93) rfl))))) rfl
set_option maxRecDepth 20000 in
theorem w_733 : (Cond.methodLink "SmallHarbour" 239 ⟨"SmallHarbour$Reader", "readTape", "()Z"⟩) ∈ tbg := tb_in (List.mem_append_right _ (List.mem_append_right _ (List.mem_append_right _ (List.mem_append_left _ (List.mem_of_getElem? (i := 13) rfl))))) rfl
set_option maxRecDepth 20000 in
theorem w_282 : (Cond.fieldLink "SmallHarbour" 242 "SmallHarbour$Reader" "code" "[I") ∈ tbg := tb_in (List.mem_append_right _ (List.mem_append_left _ (List.mem_of_getElem? (i := 42) rfl))) rfl
set_option maxRecDepth 20000 in
theorem w_284 : (Cond.fieldLink "SmallHarbour" 245 "SmallHarbour$Reader" "size" "I") ∈ tbg := tb_in (List.mem_append_right _ (List.mem_append_left _ (List.mem_of_getElem? (i := 44) rfl))) rfl
set_option maxRecDepth 20000 in
theorem w_809 : (Cond.methodLink "SmallHarbour" 248 ⟨"SmallHarbour$Rules", "add", "(I[II)I"⟩) ∈ tbg := tb_in (List.mem_append_right _ (List.mem_append_right _ (List.mem_append_right _ (List.mem_append_left _ (List.mem_of_getElem? (i := 89) rfl))))) rfl
set_option maxRecDepth 20000 in
theorem w_682 : (Cond.methodLinkNest "SmallHarbour$Shed" 43 ⟨"SmallHarbour", "isWithin", "(III)Z"⟩ "SmallHarbour") ∈ tables_1 := List.mem_append_right _ (List.mem_append_right _ (List.mem_append_left _ (List.mem_of_getElem? (i := 202) rfl)))
set_option maxRecDepth 20000 in
theorem w_678 : (Cond.methodLink "SmallHarbour" 221 ⟨"SmallHarbour$Shed", "restart", "(II)Z"⟩) ∈ tbg := tb_in (List.mem_append_right _ (List.mem_append_right _ (List.mem_append_left _ (List.mem_of_getElem? (i := 198) rfl)))) rfl
set_option maxRecDepth 20000 in
theorem w_700 : (Cond.methodLink "SmallHarbour$Shed" 61 ⟨"SmallHarbour$Shed", "movesBy", "(II)I"⟩) ∈ tbg := tb_in (List.mem_append_right _ (List.mem_append_right _ (List.mem_append_left _ (List.mem_of_getElem? (i := 220) rfl)))) rfl
set_option maxRecDepth 20000 in
theorem w_704 : (Cond.methodLink "SmallHarbour$Shed" 65 ⟨"java/lang/Math", "max", "(II)I"⟩) ∈ tbg := tb_in (List.mem_append_right _ (List.mem_append_right _ (List.mem_append_left _ (List.mem_of_getElem? (i := 224) rfl)))) rfl
set_option maxRecDepth 20000 in
theorem w_695 : (Cond.methodLink "SmallHarbour$Shed" 51 ⟨"SmallHarbour$Shed", "putFrom", "(III)V"⟩) ∈ tbg := tb_in (List.mem_append_right _ (List.mem_append_right _ (List.mem_append_left _ (List.mem_of_getElem? (i := 215) rfl)))) rfl
set_option maxRecDepth 20000 in
theorem w_699 : (Cond.methodLink "SmallHarbour$Shed" 55 ⟨"java/lang/System", "arraycopy", "(Ljava/lang/Object;ILjava/lang/Object;II)V"⟩) ∈ tbg := tb_in (List.mem_append_right _ (List.mem_append_right _ (List.mem_append_left _ (List.mem_of_getElem? (i := 219) rfl)))) rfl
set_option maxRecDepth 20000 in
theorem w_691 : (Cond.methodLink "SmallHarbour$Shed" 47 ⟨"SmallHarbour$Shed", "isIn", "(I)Z"⟩) ∈ tbg := tb_in (List.mem_append_right _ (List.mem_append_right _ (List.mem_append_left _ (List.mem_of_getElem? (i := 211) rfl)))) rfl
set_option maxRecDepth 20000 in
theorem w_687 : (Cond.methodLink "SmallHarbour" 223 ⟨"SmallHarbour$Shed", "add", "(III)I"⟩) ∈ tbg := tb_in (List.mem_append_right _ (List.mem_append_right _ (List.mem_append_left _ (List.mem_of_getElem? (i := 207) rfl)))) rfl
set_option maxRecDepth 20000 in
theorem w_1327 : (Cond.code ⟨"SmallHarbourModel", "about", "(I)I"⟩ prog_14_method_73_code 2 (Option.some FieldType.int)) ∈ tbg := tb_in (List.mem_append_right _ (List.mem_append_right _ (List.mem_append_right _ (List.mem_append_right _ (List.mem_append_right _ (List.mem_of_getElem? (i := 127) rfl)))))) rfl
set_option maxRecDepth 20000 in
theorem w_1325 : (Cond.instanceMethod ⟨"SmallHarbourModel", "about", "(I)I"⟩) ∈ tbg := tb_in (List.mem_append_right _ (List.mem_append_right _ (List.mem_append_right _ (List.mem_append_right _ (List.mem_append_right _ (List.mem_of_getElem? (i := 125) rfl)))))) rfl
set_option maxRecDepth 20000 in
theorem w_1326 : (Cond.selects "SmallHarbourModel" ⟨"SmallHarbourModel", "about", "(I)I"⟩ ⟨"SmallHarbourModel", "about", "(I)I"⟩) ∈ tbg := tb_in (List.mem_append_right _ (List.mem_append_right _ (List.mem_append_right _ (List.mem_append_right _ (List.mem_append_right _ (List.mem_of_getElem? (i := 126) rfl)))))) rfl
set_option maxRecDepth 20000 in
theorem w_1083 : (Cond.code ⟨"SmallHarbourModel", "isAway", "(II)Z"⟩ prog_14_method_12_code 4 (Option.some FieldType.boolean)) ∈ tbg := tb_in (List.mem_append_right _ (List.mem_append_right _ (List.mem_append_right _ (List.mem_append_right _ (List.mem_append_left _ (List.mem_of_getElem? (i := 123) rfl)))))) rfl
set_option maxRecDepth 20000 in
theorem w_1082 : (Cond.instanceMethod ⟨"SmallHarbourModel", "isAway", "(II)Z"⟩) ∈ tbg := tb_in (List.mem_append_right _ (List.mem_append_right _ (List.mem_append_right _ (List.mem_append_right _ (List.mem_append_left _ (List.mem_of_getElem? (i := 122) rfl)))))) rfl
set_option maxRecDepth 20000 in
theorem w_s3_3 : (Cond.selects "SmallHarbourModel" ⟨"SmallHarbourModel", "isAway", "(II)Z"⟩ ⟨"SmallHarbourModel", "isAway", "(II)Z"⟩) ∈ tbg := tb_sel (List.mem_map_of_mem (f := fun q : MethodName × Nat => Cond.selects q.1.cls q.1 q.1) (a := (⟨"SmallHarbourModel", "isAway", "(II)Z"⟩, 68)) (List.mem_append_right _ (List.mem_append_right _ (List.mem_append_left _ (List.mem_of_getElem? (i := 3) rfl))))) rfl
set_option maxRecDepth 20000 in
theorem w_1107 : (Cond.code ⟨"SmallHarbourModel", "atHome", "(II)I"⟩ prog_14_method_13_code 4 (Option.some FieldType.int)) ∈ tbg := tb_in (List.mem_append_right _ (List.mem_append_right _ (List.mem_append_right _ (List.mem_append_right _ (List.mem_append_left _ (List.mem_of_getElem? (i := 147) rfl)))))) rfl
set_option maxRecDepth 20000 in
theorem w_1106 : (Cond.instanceMethod ⟨"SmallHarbourModel", "atHome", "(II)I"⟩) ∈ tbg := tb_in (List.mem_append_right _ (List.mem_append_right _ (List.mem_append_right _ (List.mem_append_right _ (List.mem_append_left _ (List.mem_of_getElem? (i := 146) rfl)))))) rfl
set_option maxRecDepth 20000 in
theorem w_s3_8 : (Cond.selects "SmallHarbourModel" ⟨"SmallHarbourModel", "atHome", "(II)I"⟩ ⟨"SmallHarbourModel", "atHome", "(II)I"⟩) ∈ tbg := tb_sel (List.mem_map_of_mem (f := fun q : MethodName × Nat => Cond.selects q.1.cls q.1 q.1) (a := (⟨"SmallHarbourModel", "atHome", "(II)I"⟩, 68)) (List.mem_append_right _ (List.mem_append_right _ (List.mem_append_left _ (List.mem_of_getElem? (i := 8) rfl))))) rfl
set_option maxRecDepth 20000 in
theorem w_1111 : (Cond.code ⟨"SmallHarbourModel", "isNight", "(II)Z"⟩ prog_14_method_14_code 3 (Option.some FieldType.boolean)) ∈ tbg := tb_in (List.mem_append_right _ (List.mem_append_right _ (List.mem_append_right _ (List.mem_append_right _ (List.mem_append_left _ (List.mem_of_getElem? (i := 151) rfl)))))) rfl
set_option maxRecDepth 20000 in
theorem w_1110 : (Cond.instanceMethod ⟨"SmallHarbourModel", "isNight", "(II)Z"⟩) ∈ tbg := tb_in (List.mem_append_right _ (List.mem_append_right _ (List.mem_append_right _ (List.mem_append_right _ (List.mem_append_left _ (List.mem_of_getElem? (i := 150) rfl)))))) rfl
set_option maxRecDepth 20000 in
theorem w_s3_9 : (Cond.selects "SmallHarbourModel" ⟨"SmallHarbourModel", "isNight", "(II)Z"⟩ ⟨"SmallHarbourModel", "isNight", "(II)Z"⟩) ∈ tbg := tb_sel (List.mem_map_of_mem (f := fun q : MethodName × Nat => Cond.selects q.1.cls q.1 q.1) (a := (⟨"SmallHarbourModel", "isNight", "(II)Z"⟩, 68)) (List.mem_append_right _ (List.mem_append_right _ (List.mem_append_left _ (List.mem_of_getElem? (i := 9) rfl))))) rfl
set_option maxRecDepth 20000 in
theorem w_1103 : (Cond.code ⟨"SmallHarbourModel", "at", "(II)I"⟩ prog_14_method_15_code 5 (Option.some FieldType.int)) ∈ tbg := tb_in (List.mem_append_right _ (List.mem_append_right _ (List.mem_append_right _ (List.mem_append_right _ (List.mem_append_left _ (List.mem_of_getElem? (i := 143) rfl)))))) rfl
set_option maxRecDepth 20000 in
theorem w_1102 : (Cond.instanceMethod ⟨"SmallHarbourModel", "at", "(II)I"⟩) ∈ tbg := tb_in (List.mem_append_right _ (List.mem_append_right _ (List.mem_append_right _ (List.mem_append_right _ (List.mem_append_left _ (List.mem_of_getElem? (i := 142) rfl)))))) rfl
set_option maxRecDepth 20000 in
theorem w_s3_7 : (Cond.selects "SmallHarbourModel" ⟨"SmallHarbourModel", "at", "(II)I"⟩ ⟨"SmallHarbourModel", "at", "(II)I"⟩) ∈ tbg := tb_sel (List.mem_map_of_mem (f := fun q : MethodName × Nat => Cond.selects q.1.cls q.1 q.1) (a := (⟨"SmallHarbourModel", "at", "(II)I"⟩, 68)) (List.mem_append_right _ (List.mem_append_right _ (List.mem_append_left _ (List.mem_of_getElem? (i := 7) rfl))))) rfl
set_option maxRecDepth 20000 in
theorem w_1047 : (Cond.code ⟨"SmallHarbourModel", "isIn", "(III)Z"⟩ prog_14_method_2_code 3 (Option.some FieldType.boolean)) ∈ tbg := tb_in (List.mem_append_right _ (List.mem_append_right _ (List.mem_append_right _ (List.mem_append_right _ (List.mem_append_left _ (List.mem_of_getElem? (i := 87) rfl)))))) rfl
set_option maxRecDepth 20000 in
theorem w_1079 : (Cond.code ⟨"SmallHarbourModel", "isBoat", "(I)Z"⟩ prog_14_method_3_code 2 (Option.some FieldType.boolean)) ∈ tbg := tb_in (List.mem_append_right _ (List.mem_append_right _ (List.mem_append_right _ (List.mem_append_right _ (List.mem_append_left _ (List.mem_of_getElem? (i := 119) rfl)))))) rfl
set_option maxRecDepth 20000 in
theorem w_1078 : (Cond.instanceMethod ⟨"SmallHarbourModel", "isBoat", "(I)Z"⟩) ∈ tbg := tb_in (List.mem_append_right _ (List.mem_append_right _ (List.mem_append_right _ (List.mem_append_right _ (List.mem_append_left _ (List.mem_of_getElem? (i := 118) rfl)))))) rfl
set_option maxRecDepth 20000 in
theorem w_s3_2 : (Cond.selects "SmallHarbourModel" ⟨"SmallHarbourModel", "isBoat", "(I)Z"⟩ ⟨"SmallHarbourModel", "isBoat", "(I)Z"⟩) ∈ tbg := tb_sel (List.mem_map_of_mem (f := fun q : MethodName × Nat => Cond.selects q.1.cls q.1 q.1) (a := (⟨"SmallHarbourModel", "isBoat", "(I)Z"⟩, 68)) (List.mem_append_right _ (List.mem_append_right _ (List.mem_append_left _ (List.mem_of_getElem? (i := 2) rfl))))) rfl
set_option maxRecDepth 20000 in
theorem w_1075 : (Cond.code ⟨"SmallHarbourModel", "away", "(III)Z"⟩ prog_14_method_16_code 5 (Option.some FieldType.boolean)) ∈ tbg := tb_in (List.mem_append_right _ (List.mem_append_right _ (List.mem_append_right _ (List.mem_append_right _ (List.mem_append_left _ (List.mem_of_getElem? (i := 115) rfl)))))) rfl
set_option maxRecDepth 20000 in
theorem w_1073 : (Cond.instanceMethod ⟨"SmallHarbourModel", "away", "(III)Z"⟩) ∈ tbg := tb_in (List.mem_append_right _ (List.mem_append_right _ (List.mem_append_right _ (List.mem_append_right _ (List.mem_append_left _ (List.mem_of_getElem? (i := 113) rfl)))))) rfl
set_option maxRecDepth 20000 in
theorem w_1074 : (Cond.selects "SmallHarbourModel" ⟨"SmallHarbourModel", "away", "(III)Z"⟩ ⟨"SmallHarbourModel", "away", "(III)Z"⟩) ∈ tbg := tb_in (List.mem_append_right _ (List.mem_append_right _ (List.mem_append_right _ (List.mem_append_right _ (List.mem_append_left _ (List.mem_of_getElem? (i := 114) rfl)))))) rfl
set_option maxRecDepth 20000 in
theorem w_1280 : (Cond.code ⟨"SmallHarbourModel", "isMany", "()Z"⟩ prog_14_method_63_code 1 (Option.some FieldType.boolean)) ∈ tbg := tb_in (List.mem_append_right _ (List.mem_append_right _ (List.mem_append_right _ (List.mem_append_right _ (List.mem_append_right _ (List.mem_of_getElem? (i := 80) rfl)))))) rfl
set_option maxRecDepth 20000 in
theorem w_1279 : (Cond.instanceMethod ⟨"SmallHarbourModel", "isMany", "()Z"⟩) ∈ tbg := tb_in (List.mem_append_right _ (List.mem_append_right _ (List.mem_append_right _ (List.mem_append_right _ (List.mem_append_right _ (List.mem_of_getElem? (i := 79) rfl)))))) rfl
set_option maxRecDepth 20000 in
theorem w_s4_12 : (Cond.selects "SmallHarbourModel" ⟨"SmallHarbourModel", "isMany", "()Z"⟩ ⟨"SmallHarbourModel", "isMany", "()Z"⟩) ∈ tbg := tb_sel (List.mem_map_of_mem (f := fun q : MethodName × Nat => Cond.selects q.1.cls q.1 q.1) (a := (⟨"SmallHarbourModel", "isMany", "()Z"⟩, 68)) (List.mem_append_right _ (List.mem_append_right _ (List.mem_append_right _ (List.mem_append_left _ (List.mem_of_getElem? (i := 12) rfl)))))) rfl
set_option maxRecDepth 20000 in
theorem w_1284 : (Cond.code ⟨"SmallHarbourModel", "emit", "(II)V"⟩ prog_14_method_56_code 3 (Option.none : Option FieldType)) ∈ tbg := tb_in (List.mem_append_right _ (List.mem_append_right _ (List.mem_append_right _ (List.mem_append_right _ (List.mem_append_right _ (List.mem_of_getElem? (i := 84) rfl)))))) rfl
set_option maxRecDepth 20000 in
theorem w_1283 : (Cond.instanceMethod ⟨"SmallHarbourModel", "emit", "(II)V"⟩) ∈ tbg := tb_in (List.mem_append_right _ (List.mem_append_right _ (List.mem_append_right _ (List.mem_append_right _ (List.mem_append_right _ (List.mem_of_getElem? (i := 83) rfl)))))) rfl
set_option maxRecDepth 20000 in
theorem w_s4_13 : (Cond.selects "SmallHarbourModel" ⟨"SmallHarbourModel", "emit", "(II)V"⟩ ⟨"SmallHarbourModel", "emit", "(II)V"⟩) ∈ tbg := tb_sel (List.mem_map_of_mem (f := fun q : MethodName × Nat => Cond.selects q.1.cls q.1 q.1) (a := (⟨"SmallHarbourModel", "emit", "(II)V"⟩, 68)) (List.mem_append_right _ (List.mem_append_right _ (List.mem_append_right _ (List.mem_append_left _ (List.mem_of_getElem? (i := 13) rfl)))))) rfl
set_option maxRecDepth 20000 in
theorem w_1292 : (Cond.code ⟨"SmallHarbourModel", "top", "()I"⟩ prog_14_method_58_code 1 (Option.some FieldType.int)) ∈ tbg := tb_in (List.mem_append_right _ (List.mem_append_right _ (List.mem_append_right _ (List.mem_append_right _ (List.mem_append_right _ (List.mem_of_getElem? (i := 92) rfl)))))) rfl
set_option maxRecDepth 20000 in
theorem w_1291 : (Cond.instanceMethod ⟨"SmallHarbourModel", "top", "()I"⟩) ∈ tbg := tb_in (List.mem_append_right _ (List.mem_append_right _ (List.mem_append_right _ (List.mem_append_right _ (List.mem_append_right _ (List.mem_of_getElem? (i := 91) rfl)))))) rfl
set_option maxRecDepth 20000 in
theorem w_s4_15 : (Cond.selects "SmallHarbourModel" ⟨"SmallHarbourModel", "top", "()I"⟩ ⟨"SmallHarbourModel", "top", "()I"⟩) ∈ tbg := tb_sel (List.mem_map_of_mem (f := fun q : MethodName × Nat => Cond.selects q.1.cls q.1 q.1) (a := (⟨"SmallHarbourModel", "top", "()I"⟩, 68)) (List.mem_append_right _ (List.mem_append_right _ (List.mem_append_right _ (List.mem_append_left _ (List.mem_of_getElem? (i := 15) rfl)))))) rfl
set_option maxRecDepth 20000 in
theorem w_1288 : (Cond.code ⟨"SmallHarbourModel", "partIsThrough", "()V"⟩ prog_14_method_61_code 1 (Option.none : Option FieldType)) ∈ tbg := tb_in (List.mem_append_right _ (List.mem_append_right _ (List.mem_append_right _ (List.mem_append_right _ (List.mem_append_right _ (List.mem_of_getElem? (i := 88) rfl)))))) rfl
set_option maxRecDepth 20000 in
theorem w_1287 : (Cond.instanceMethod ⟨"SmallHarbourModel", "partIsThrough", "()V"⟩) ∈ tbg := tb_in (List.mem_append_right _ (List.mem_append_right _ (List.mem_append_right _ (List.mem_append_right _ (List.mem_append_right _ (List.mem_of_getElem? (i := 87) rfl)))))) rfl
set_option maxRecDepth 20000 in
theorem w_s4_14 : (Cond.selects "SmallHarbourModel" ⟨"SmallHarbourModel", "partIsThrough", "()V"⟩ ⟨"SmallHarbourModel", "partIsThrough", "()V"⟩) ∈ tbg := tb_sel (List.mem_map_of_mem (f := fun q : MethodName × Nat => Cond.selects q.1.cls q.1 q.1) (a := (⟨"SmallHarbourModel", "partIsThrough", "()V"⟩, 68)) (List.mem_append_right _ (List.mem_append_right _ (List.mem_append_right _ (List.mem_append_left _ (List.mem_of_getElem? (i := 14) rfl)))))) rfl
set_option maxRecDepth 20000 in
theorem w_1299 : (Cond.code ⟨"SmallHarbourModel", "push", "(I)V"⟩ prog_14_method_62_code 2 (Option.none : Option FieldType)) ∈ tbg := tb_in (List.mem_append_right _ (List.mem_append_right _ (List.mem_append_right _ (List.mem_append_right _ (List.mem_append_right _ (List.mem_of_getElem? (i := 99) rfl)))))) rfl
set_option maxRecDepth 20000 in
theorem w_1298 : (Cond.instanceMethod ⟨"SmallHarbourModel", "push", "(I)V"⟩) ∈ tbg := tb_in (List.mem_append_right _ (List.mem_append_right _ (List.mem_append_right _ (List.mem_append_right _ (List.mem_append_right _ (List.mem_of_getElem? (i := 98) rfl)))))) rfl
set_option maxRecDepth 20000 in
theorem w_s5_0 : (Cond.selects "SmallHarbourModel" ⟨"SmallHarbourModel", "push", "(I)V"⟩ ⟨"SmallHarbourModel", "push", "(I)V"⟩) ∈ tbg := tb_sel (List.mem_map_of_mem (f := fun q : MethodName × Nat => Cond.selects q.1.cls q.1 q.1) (a := (⟨"SmallHarbourModel", "push", "(I)V"⟩, 68)) (List.mem_append_right _ (List.mem_append_right _ (List.mem_append_right _ (List.mem_append_right _ (List.mem_of_getElem? (i := 0) rfl)))))) rfl
set_option maxRecDepth 20000 in
theorem w_1295 : (Cond.code ⟨"SmallHarbourModel", "rankOf", "(I)I"⟩ prog_14_method_57_code 1 (Option.some FieldType.int)) ∈ tbg := tb_in (List.mem_append_right _ (List.mem_append_right _ (List.mem_append_right _ (List.mem_append_right _ (List.mem_append_right _ (List.mem_of_getElem? (i := 95) rfl)))))) rfl
set_option maxRecDepth 20000 in
theorem w_1307 : (Cond.code ⟨"SmallHarbourModel", "reduce", "(I)V"⟩ prog_14_method_59_code 2 (Option.none : Option FieldType)) ∈ tbg := tb_in (List.mem_append_right _ (List.mem_append_right _ (List.mem_append_right _ (List.mem_append_right _ (List.mem_append_right _ (List.mem_of_getElem? (i := 107) rfl)))))) rfl
set_option maxRecDepth 20000 in
theorem w_1306 : (Cond.instanceMethod ⟨"SmallHarbourModel", "reduce", "(I)V"⟩) ∈ tbg := tb_in (List.mem_append_right _ (List.mem_append_right _ (List.mem_append_right _ (List.mem_append_right _ (List.mem_append_right _ (List.mem_of_getElem? (i := 106) rfl)))))) rfl
set_option maxRecDepth 20000 in
theorem w_s5_2 : (Cond.selects "SmallHarbourModel" ⟨"SmallHarbourModel", "reduce", "(I)V"⟩ ⟨"SmallHarbourModel", "reduce", "(I)V"⟩) ∈ tbg := tb_sel (List.mem_map_of_mem (f := fun q : MethodName × Nat => Cond.selects q.1.cls q.1 q.1) (a := (⟨"SmallHarbourModel", "reduce", "(I)V"⟩, 68)) (List.mem_append_right _ (List.mem_append_right _ (List.mem_append_right _ (List.mem_append_right _ (List.mem_of_getElem? (i := 2) rfl)))))) rfl
set_option maxRecDepth 20000 in
theorem w_1311 : (Cond.code ⟨"SmallHarbourModel", "through", "()I"⟩ prog_14_method_60_code 1 (Option.some FieldType.int)) ∈ tbg := tb_in (List.mem_append_right _ (List.mem_append_right _ (List.mem_append_right _ (List.mem_append_right _ (List.mem_append_right _ (List.mem_of_getElem? (i := 111) rfl)))))) rfl
set_option maxRecDepth 20000 in
theorem w_1310 : (Cond.instanceMethod ⟨"SmallHarbourModel", "through", "()I"⟩) ∈ tbg := tb_in (List.mem_append_right _ (List.mem_append_right _ (List.mem_append_right _ (List.mem_append_right _ (List.mem_append_right _ (List.mem_of_getElem? (i := 110) rfl)))))) rfl
set_option maxRecDepth 20000 in
theorem w_s5_3 : (Cond.selects "SmallHarbourModel" ⟨"SmallHarbourModel", "through", "()I"⟩ ⟨"SmallHarbourModel", "through", "()I"⟩) ∈ tbg := tb_sel (List.mem_map_of_mem (f := fun q : MethodName × Nat => Cond.selects q.1.cls q.1 q.1) (a := (⟨"SmallHarbourModel", "through", "()I"⟩, 68)) (List.mem_append_right _ (List.mem_append_right _ (List.mem_append_right _ (List.mem_append_right _ (List.mem_of_getElem? (i := 3) rfl)))))) rfl
set_option maxRecDepth 20000 in
theorem w_1303 : (Cond.code ⟨"SmallHarbourModel", "behind", "()I"⟩ prog_14_method_65_code 3 (Option.some FieldType.int)) ∈ tbg := tb_in (List.mem_append_right _ (List.mem_append_right _ (List.mem_append_right _ (List.mem_append_right _ (List.mem_append_right _ (List.mem_of_getElem? (i := 103) rfl)))))) rfl
set_option maxRecDepth 20000 in
theorem w_1302 : (Cond.instanceMethod ⟨"SmallHarbourModel", "behind", "()I"⟩) ∈ tbg := tb_in (List.mem_append_right _ (List.mem_append_right _ (List.mem_append_right _ (List.mem_append_right _ (List.mem_append_right _ (List.mem_of_getElem? (i := 102) rfl)))))) rfl
set_option maxRecDepth 20000 in
theorem w_s5_1 : (Cond.selects "SmallHarbourModel" ⟨"SmallHarbourModel", "behind", "()I"⟩ ⟨"SmallHarbourModel", "behind", "()I"⟩) ∈ tbg := tb_sel (List.mem_map_of_mem (f := fun q : MethodName × Nat => Cond.selects q.1.cls q.1 q.1) (a := (⟨"SmallHarbourModel", "behind", "()I"⟩, 68)) (List.mem_append_right _ (List.mem_append_right _ (List.mem_append_right _ (List.mem_append_right _ (List.mem_of_getElem? (i := 1) rfl)))))) rfl
set_option maxRecDepth 20000 in
theorem w_1059 : (Cond.code ⟨"SmallHarbourModel", "berth", "(II)I"⟩ prog_14_method_7_code 3 (Option.some FieldType.int)) ∈ tbg := tb_in (List.mem_append_right _ (List.mem_append_right _ (List.mem_append_right _ (List.mem_append_right _ (List.mem_append_left _ (List.mem_of_getElem? (i := 99) rfl)))))) rfl
set_option maxRecDepth 20000 in
theorem w_1057 : (Cond.instanceMethod ⟨"SmallHarbourModel", "berth", "(II)I"⟩) ∈ tbg := tb_in (List.mem_append_right _ (List.mem_append_right _ (List.mem_append_right _ (List.mem_append_right _ (List.mem_append_left _ (List.mem_of_getElem? (i := 97) rfl)))))) rfl
set_option maxRecDepth 20000 in
theorem w_1058 : (Cond.selects "SmallHarbourModel" ⟨"SmallHarbourModel", "berth", "(II)I"⟩ ⟨"SmallHarbourModel", "berth", "(II)I"⟩) ∈ tbg := tb_in (List.mem_append_right _ (List.mem_append_right _ (List.mem_append_right _ (List.mem_append_right _ (List.mem_append_left _ (List.mem_of_getElem? (i := 98) rfl)))))) rfl
set_option maxRecDepth 20000 in
theorem w_1171 : (Cond.code ⟨"SmallHarbourModel", "two", "(III)I"⟩ prog_14_method_69_code 3 (Option.some FieldType.int)) ∈ tbg := tb_in (List.mem_append_right _ (List.mem_append_right _ (List.mem_append_right _ (List.mem_append_right _ (List.mem_append_left _ (List.mem_of_getElem? (i := 211) rfl)))))) rfl
set_option maxRecDepth 20000 in
theorem w_1168 : (Cond.code ⟨"SmallHarbourModel", "work", "(IIII)I"⟩ prog_14_method_70_code 8 (Option.some FieldType.int)) ∈ tbg := tb_in (List.mem_append_right _ (List.mem_append_right _ (List.mem_append_right _ (List.mem_append_right _ (List.mem_append_left _ (List.mem_of_getElem? (i := 208) rfl)))))) rfl
set_option maxRecDepth 20000 in
theorem w_1167 : (Cond.instanceMethod ⟨"SmallHarbourModel", "work", "(IIII)I"⟩) ∈ tbg := tb_in (List.mem_append_right _ (List.mem_append_right _ (List.mem_append_right _ (List.mem_append_right _ (List.mem_append_left _ (List.mem_of_getElem? (i := 207) rfl)))))) rfl
set_option maxRecDepth 20000 in
theorem w_s4_3 : (Cond.selects "SmallHarbourModel" ⟨"SmallHarbourModel", "work", "(IIII)I"⟩ ⟨"SmallHarbourModel", "work", "(IIII)I"⟩) ∈ tbg := tb_sel (List.mem_map_of_mem (f := fun q : MethodName × Nat => Cond.selects q.1.cls q.1 q.1) (a := (⟨"SmallHarbourModel", "work", "(IIII)I"⟩, 68)) (List.mem_append_right _ (List.mem_append_right _ (List.mem_append_right _ (List.mem_append_left _ (List.mem_of_getElem? (i := 3) rfl)))))) rfl
set_option maxRecDepth 20000 in
theorem w_1164 : (Cond.code ⟨"SmallHarbourModel", "bill", "(I)I"⟩ prog_14_method_31_code 4 (Option.some FieldType.int)) ∈ tbg := tb_in (List.mem_append_right _ (List.mem_append_right _ (List.mem_append_right _ (List.mem_append_right _ (List.mem_append_left _ (List.mem_of_getElem? (i := 204) rfl)))))) rfl
set_option maxRecDepth 20000 in
theorem w_1163 : (Cond.instanceMethod ⟨"SmallHarbourModel", "bill", "(I)I"⟩) ∈ tbg := tb_in (List.mem_append_right _ (List.mem_append_right _ (List.mem_append_right _ (List.mem_append_right _ (List.mem_append_left _ (List.mem_of_getElem? (i := 203) rfl)))))) rfl
set_option maxRecDepth 20000 in
theorem w_s4_2 : (Cond.selects "SmallHarbourModel" ⟨"SmallHarbourModel", "bill", "(I)I"⟩ ⟨"SmallHarbourModel", "bill", "(I)I"⟩) ∈ tbg := tb_sel (List.mem_map_of_mem (f := fun q : MethodName × Nat => Cond.selects q.1.cls q.1 q.1) (a := (⟨"SmallHarbourModel", "bill", "(I)I"⟩, 68)) (List.mem_append_right _ (List.mem_append_right _ (List.mem_append_right _ (List.mem_append_left _ (List.mem_of_getElem? (i := 2) rfl)))))) rfl
set_option maxRecDepth 20000 in
theorem w_1071 : (Cond.code ⟨"SmallHarbourModel", "isFit", "(IIII)Z"⟩ prog_14_method_8_code 5 (Option.some FieldType.boolean)) ∈ tbg := tb_in (List.mem_append_right _ (List.mem_append_right _ (List.mem_append_right _ (List.mem_append_right _ (List.mem_append_left _ (List.mem_of_getElem? (i := 111) rfl)))))) rfl
set_option maxRecDepth 20000 in
theorem w_1070 : (Cond.instanceMethod ⟨"SmallHarbourModel", "isFit", "(IIII)Z"⟩) ∈ tbg := tb_in (List.mem_append_right _ (List.mem_append_right _ (List.mem_append_right _ (List.mem_append_right _ (List.mem_append_left _ (List.mem_of_getElem? (i := 110) rfl)))))) rfl
set_option maxRecDepth 20000 in
theorem w_s3_1 : (Cond.selects "SmallHarbourModel" ⟨"SmallHarbourModel", "isFit", "(IIII)Z"⟩ ⟨"SmallHarbourModel", "isFit", "(IIII)Z"⟩) ∈ tbg := tb_sel (List.mem_map_of_mem (f := fun q : MethodName × Nat => Cond.selects q.1.cls q.1 q.1) (a := (⟨"SmallHarbourModel", "isFit", "(IIII)Z"⟩, 68)) (List.mem_append_right _ (List.mem_append_right _ (List.mem_append_left _ (List.mem_of_getElem? (i := 1) rfl))))) rfl
set_option maxRecDepth 20000 in
theorem w_1067 : (Cond.code ⟨"SmallHarbourModel", "canBeHome", "(III)Z"⟩ prog_14_method_10_code 5 (Option.some FieldType.boolean)) ∈ tbg := tb_in (List.mem_append_right _ (List.mem_append_right _ (List.mem_append_right _ (List.mem_append_right _ (List.mem_append_left _ (List.mem_of_getElem? (i := 107) rfl)))))) rfl
set_option maxRecDepth 20000 in
theorem w_1066 : (Cond.instanceMethod ⟨"SmallHarbourModel", "canBeHome", "(III)Z"⟩) ∈ tbg := tb_in (List.mem_append_right _ (List.mem_append_right _ (List.mem_append_right _ (List.mem_append_right _ (List.mem_append_left _ (List.mem_of_getElem? (i := 106) rfl)))))) rfl
set_option maxRecDepth 20000 in
theorem w_s3_0 : (Cond.selects "SmallHarbourModel" ⟨"SmallHarbourModel", "canBeHome", "(III)Z"⟩ ⟨"SmallHarbourModel", "canBeHome", "(III)Z"⟩) ∈ tbg := tb_sel (List.mem_map_of_mem (f := fun q : MethodName × Nat => Cond.selects q.1.cls q.1 q.1) (a := (⟨"SmallHarbourModel", "canBeHome", "(III)Z"⟩, 68)) (List.mem_append_right _ (List.mem_append_right _ (List.mem_append_left _ (List.mem_of_getElem? (i := 0) rfl))))) rfl
set_option maxRecDepth 20000 in
theorem w_1063 : (Cond.code ⟨"SmallHarbourModel", "boat", "(IIII)I"⟩ prog_14_method_11_code 5 (Option.some FieldType.int)) ∈ tbg := tb_in (List.mem_append_right _ (List.mem_append_right _ (List.mem_append_right _ (List.mem_append_right _ (List.mem_append_left _ (List.mem_of_getElem? (i := 103) rfl)))))) rfl
set_option maxRecDepth 20000 in
theorem w_1061 : (Cond.instanceMethod ⟨"SmallHarbourModel", "boat", "(IIII)I"⟩) ∈ tbg := tb_in (List.mem_append_right _ (List.mem_append_right _ (List.mem_append_right _ (List.mem_append_right _ (List.mem_append_left _ (List.mem_of_getElem? (i := 101) rfl)))))) rfl
set_option maxRecDepth 20000 in
theorem w_1062 : (Cond.selects "SmallHarbourModel" ⟨"SmallHarbourModel", "boat", "(IIII)I"⟩ ⟨"SmallHarbourModel", "boat", "(IIII)I"⟩) ∈ tbg := tb_in (List.mem_append_right _ (List.mem_append_right _ (List.mem_append_right _ (List.mem_append_right _ (List.mem_append_left _ (List.mem_of_getElem? (i := 102) rfl)))))) rfl
set_option maxRecDepth 20000 in
theorem w_1179 : (Cond.code ⟨"SmallHarbourModel", "boatOf", "(II)I"⟩ prog_14_method_34_code 5 (Option.some FieldType.int)) ∈ tbg := tb_in (List.mem_append_right _ (List.mem_append_right _ (List.mem_append_right _ (List.mem_append_right _ (List.mem_append_left _ (List.mem_of_getElem? (i := 219) rfl)))))) rfl
set_option maxRecDepth 20000 in
theorem w_1177 : (Cond.instanceMethod ⟨"SmallHarbourModel", "boatOf", "(II)I"⟩) ∈ tbg := tb_in (List.mem_append_right _ (List.mem_append_right _ (List.mem_append_right _ (List.mem_append_right _ (List.mem_append_left _ (List.mem_of_getElem? (i := 217) rfl)))))) rfl
set_option maxRecDepth 20000 in
theorem w_1178 : (Cond.selects "SmallHarbourModel" ⟨"SmallHarbourModel", "boatOf", "(II)I"⟩ ⟨"SmallHarbourModel", "boatOf", "(II)I"⟩) ∈ tbg := tb_in (List.mem_append_right _ (List.mem_append_right _ (List.mem_append_right _ (List.mem_append_right _ (List.mem_append_left _ (List.mem_of_getElem? (i := 218) rfl)))))) rfl
set_option maxRecDepth 20000 in
theorem w_1191 : (Cond.code ⟨"SmallHarbourModel", "broken", "(IZ)Z"⟩ prog_14_method_37_code 3 (Option.some FieldType.boolean)) ∈ tbg := tb_in (List.mem_append_right _ (List.mem_append_right _ (List.mem_append_right _ (List.mem_append_right _ (List.mem_append_left _ (List.mem_of_getElem? (i := 231) rfl)))))) rfl
set_option maxRecDepth 20000 in
theorem w_1189 : (Cond.instanceMethod ⟨"SmallHarbourModel", "broken", "(IZ)Z"⟩) ∈ tbg := tb_in (List.mem_append_right _ (List.mem_append_right _ (List.mem_append_right _ (List.mem_append_right _ (List.mem_append_left _ (List.mem_of_getElem? (i := 229) rfl)))))) rfl
set_option maxRecDepth 20000 in
theorem w_1190 : (Cond.selects "SmallHarbourModel" ⟨"SmallHarbourModel", "broken", "(IZ)Z"⟩ ⟨"SmallHarbourModel", "broken", "(IZ)Z"⟩) ∈ tbg := tb_in (List.mem_append_right _ (List.mem_append_right _ (List.mem_append_right _ (List.mem_append_right _ (List.mem_append_left _ (List.mem_of_getElem? (i := 230) rfl)))))) rfl
set_option maxRecDepth 20000 in
theorem w_1239 : (Cond.code ⟨"SmallHarbourModel", "end", "(I)I"⟩ prog_14_method_49_code 2 (Option.some FieldType.int)) ∈ tbg := tb_in (List.mem_append_right _ (List.mem_append_right _ (List.mem_append_right _ (List.mem_append_right _ (List.mem_append_right _ (List.mem_of_getElem? (i := 39) rfl)))))) rfl
set_option maxRecDepth 20000 in
theorem w_1237 : (Cond.instanceMethod ⟨"SmallHarbourModel", "end", "(I)I"⟩) ∈ tbg := tb_in (List.mem_append_right _ (List.mem_append_right _ (List.mem_append_right _ (List.mem_append_right _ (List.mem_append_right _ (List.mem_of_getElem? (i := 37) rfl)))))) rfl
set_option maxRecDepth 20000 in
theorem w_1238 : (Cond.selects "SmallHarbourModel" ⟨"SmallHarbourModel", "end", "(I)I"⟩ ⟨"SmallHarbourModel", "end", "(I)I"⟩) ∈ tbg := tb_in (List.mem_append_right _ (List.mem_append_right _ (List.mem_append_right _ (List.mem_append_right _ (List.mem_append_right _ (List.mem_of_getElem? (i := 38) rfl)))))) rfl
set_option maxRecDepth 20000 in
theorem w_1148 : (Cond.code ⟨"SmallHarbourModel", "endSpan", "(II)V"⟩ prog_14_method_28_code 4 (Option.none : Option FieldType)) ∈ tbg := tb_in (List.mem_append_right _ (List.mem_append_right _ (List.mem_append_right _ (List.mem_append_right _ (List.mem_append_left _ (List.mem_of_getElem? (i := 188) rfl)))))) rfl
set_option maxRecDepth 20000 in
theorem w_1147 : (Cond.instanceMethod ⟨"SmallHarbourModel", "endSpan", "(II)V"⟩) ∈ tbg := tb_in (List.mem_append_right _ (List.mem_append_right _ (List.mem_append_right _ (List.mem_append_right _ (List.mem_append_left _ (List.mem_of_getElem? (i := 187) rfl)))))) rfl
set_option maxRecDepth 20000 in
theorem w_s4_0 : (Cond.selects "SmallHarbourModel" ⟨"SmallHarbourModel", "endSpan", "(II)V"⟩ ⟨"SmallHarbourModel", "endSpan", "(II)V"⟩) ∈ tbg := tb_sel (List.mem_map_of_mem (f := fun q : MethodName × Nat => Cond.selects q.1.cls q.1 q.1) (a := (⟨"SmallHarbourModel", "endSpan", "(II)V"⟩, 68)) (List.mem_append_right _ (List.mem_append_right _ (List.mem_append_right _ (List.mem_append_left _ (List.mem_of_getElem? (i := 0) rfl)))))) rfl
set_option maxRecDepth 20000 in
theorem w_1315 : (Cond.code ⟨"SmallHarbourModel", "fault", "(I)I"⟩ prog_14_method_68_code 2 (Option.some FieldType.int)) ∈ tbg := tb_in (List.mem_append_right _ (List.mem_append_right _ (List.mem_append_right _ (List.mem_append_right _ (List.mem_append_right _ (List.mem_of_getElem? (i := 115) rfl)))))) rfl
set_option maxRecDepth 20000 in
theorem w_1313 : (Cond.instanceMethod ⟨"SmallHarbourModel", "fault", "(I)I"⟩) ∈ tbg := tb_in (List.mem_append_right _ (List.mem_append_right _ (List.mem_append_right _ (List.mem_append_right _ (List.mem_append_right _ (List.mem_of_getElem? (i := 113) rfl)))))) rfl
set_option maxRecDepth 20000 in
theorem w_1314 : (Cond.selects "SmallHarbourModel" ⟨"SmallHarbourModel", "fault", "(I)I"⟩ ⟨"SmallHarbourModel", "fault", "(I)I"⟩) ∈ tbg := tb_in (List.mem_append_right _ (List.mem_append_right _ (List.mem_append_right _ (List.mem_append_right _ (List.mem_append_right _ (List.mem_of_getElem? (i := 114) rfl)))))) rfl
set_option maxRecDepth 20000 in
theorem w_1235 : (Cond.code ⟨"SmallHarbourModel", "four", "(I)V"⟩ prog_14_method_47_code 3 (Option.none : Option FieldType)) ∈ tbg := tb_in (List.mem_append_right _ (List.mem_append_right _ (List.mem_append_right _ (List.mem_append_right _ (List.mem_append_right _ (List.mem_of_getElem? (i := 35) rfl)))))) rfl
set_option maxRecDepth 20000 in
theorem w_1234 : (Cond.instanceMethod ⟨"SmallHarbourModel", "four", "(I)V"⟩) ∈ tbg := tb_in (List.mem_append_right _ (List.mem_append_right _ (List.mem_append_right _ (List.mem_append_right _ (List.mem_append_right _ (List.mem_of_getElem? (i := 34) rfl)))))) rfl
set_option maxRecDepth 20000 in
theorem w_s4_7 : (Cond.selects "SmallHarbourModel" ⟨"SmallHarbourModel", "four", "(I)V"⟩ ⟨"SmallHarbourModel", "four", "(I)V"⟩) ∈ tbg := tb_sel (List.mem_map_of_mem (f := fun q : MethodName × Nat => Cond.selects q.1.cls q.1 q.1) (a := (⟨"SmallHarbourModel", "four", "(I)V"⟩, 68)) (List.mem_append_right _ (List.mem_append_right _ (List.mem_append_right _ (List.mem_append_left _ (List.mem_of_getElem? (i := 7) rfl)))))) rfl
set_option maxRecDepth 20000 in
theorem w_1231 : (Cond.code ⟨"SmallHarbourModel", "feed", "(IIIII)I"⟩ prog_14_method_48_code 6 (Option.some FieldType.int)) ∈ tbg := tb_in (List.mem_append_right _ (List.mem_append_right _ (List.mem_append_right _ (List.mem_append_right _ (List.mem_append_right _ (List.mem_of_getElem? (i := 31) rfl)))))) rfl
set_option maxRecDepth 20000 in
theorem w_1229 : (Cond.instanceMethod ⟨"SmallHarbourModel", "feed", "(IIIII)I"⟩) ∈ tbg := tb_in (List.mem_append_right _ (List.mem_append_right _ (List.mem_append_right _ (List.mem_append_right _ (List.mem_append_right _ (List.mem_of_getElem? (i := 29) rfl)))))) rfl
set_option maxRecDepth 20000 in
theorem w_1230 : (Cond.selects "SmallHarbourModel" ⟨"SmallHarbourModel", "feed", "(IIIII)I"⟩ ⟨"SmallHarbourModel", "feed", "(IIIII)I"⟩) ∈ tbg := tb_in (List.mem_append_right _ (List.mem_append_right _ (List.mem_append_right _ (List.mem_append_right _ (List.mem_append_right _ (List.mem_of_getElem? (i := 30) rfl)))))) rfl
set_option maxRecDepth 20000 in
theorem w_1223 : (Cond.code ⟨"SmallHarbourModel", "movesOf", "()I"⟩ prog_14_method_43_code 5 (Option.some FieldType.int)) ∈ tbg := tb_in (List.mem_append_right _ (List.mem_append_right _ (List.mem_append_right _ (List.mem_append_right _ (List.mem_append_right _ (List.mem_of_getElem? (i := 23) rfl)))))) rfl
set_option maxRecDepth 20000 in
theorem w_1222 : (Cond.instanceMethod ⟨"SmallHarbourModel", "movesOf", "()I"⟩) ∈ tbg := tb_in (List.mem_append_right _ (List.mem_append_right _ (List.mem_append_right _ (List.mem_append_right _ (List.mem_append_right _ (List.mem_of_getElem? (i := 22) rfl)))))) rfl
set_option maxRecDepth 20000 in
theorem w_s4_6 : (Cond.selects "SmallHarbourModel" ⟨"SmallHarbourModel", "movesOf", "()I"⟩ ⟨"SmallHarbourModel", "movesOf", "()I"⟩) ∈ tbg := tb_sel (List.mem_map_of_mem (f := fun q : MethodName × Nat => Cond.selects q.1.cls q.1 q.1) (a := (⟨"SmallHarbourModel", "movesOf", "()I"⟩, 68)) (List.mem_append_right _ (List.mem_append_right _ (List.mem_append_right _ (List.mem_append_left _ (List.mem_of_getElem? (i := 6) rfl)))))) rfl
set_option maxRecDepth 20000 in
theorem w_1219 : (Cond.code ⟨"SmallHarbourModel", "fewest", "()I"⟩ prog_14_method_44_code 5 (Option.some FieldType.int)) ∈ tbg := tb_in (List.mem_append_right _ (List.mem_append_right _ (List.mem_append_right _ (List.mem_append_right _ (List.mem_append_right _ (List.mem_of_getElem? (i := 19) rfl)))))) rfl
set_option maxRecDepth 20000 in
theorem w_1218 : (Cond.instanceMethod ⟨"SmallHarbourModel", "fewest", "()I"⟩) ∈ tbg := tb_in (List.mem_append_right _ (List.mem_append_right _ (List.mem_append_right _ (List.mem_append_right _ (List.mem_append_right _ (List.mem_of_getElem? (i := 18) rfl)))))) rfl
set_option maxRecDepth 20000 in
theorem w_s4_5 : (Cond.selects "SmallHarbourModel" ⟨"SmallHarbourModel", "fewest", "()I"⟩ ⟨"SmallHarbourModel", "fewest", "()I"⟩) ∈ tbg := tb_sel (List.mem_map_of_mem (f := fun q : MethodName × Nat => Cond.selects q.1.cls q.1 q.1) (a := (⟨"SmallHarbourModel", "fewest", "()I"⟩, 68)) (List.mem_append_right _ (List.mem_append_right _ (List.mem_append_right _ (List.mem_append_left _ (List.mem_of_getElem? (i := 5) rfl)))))) rfl
set_option maxRecDepth 20000 in
theorem w_1143 : (Cond.code ⟨"SmallHarbourModel", "firstNight", "(I)I"⟩ prog_14_method_22_code 2 (Option.some FieldType.int)) ∈ tbg := tb_in (List.mem_append_right _ (List.mem_append_right _ (List.mem_append_right _ (List.mem_append_right _ (List.mem_append_left _ (List.mem_of_getElem? (i := 183) rfl)))))) rfl
set_option maxRecDepth 20000 in
theorem w_1142 : (Cond.instanceMethod ⟨"SmallHarbourModel", "firstNight", "(I)I"⟩) ∈ tbg := tb_in (List.mem_append_right _ (List.mem_append_right _ (List.mem_append_right _ (List.mem_append_right _ (List.mem_append_left _ (List.mem_of_getElem? (i := 182) rfl)))))) rfl
set_option maxRecDepth 20000 in
theorem w_s3_15 : (Cond.selects "SmallHarbourModel" ⟨"SmallHarbourModel", "firstNight", "(I)I"⟩ ⟨"SmallHarbourModel", "firstNight", "(I)I"⟩) ∈ tbg := tb_sel (List.mem_map_of_mem (f := fun q : MethodName × Nat => Cond.selects q.1.cls q.1 q.1) (a := (⟨"SmallHarbourModel", "firstNight", "(I)I"⟩, 68)) (List.mem_append_right _ (List.mem_append_right _ (List.mem_append_left _ (List.mem_of_getElem? (i := 15) rfl))))) rfl
set_option maxRecDepth 20000 in
theorem w_1183 : (Cond.code ⟨"SmallHarbourModel", "fits", "(III)I"⟩ prog_14_method_35_code 4 (Option.some FieldType.int)) ∈ tbg := tb_in (List.mem_append_right _ (List.mem_append_right _ (List.mem_append_right _ (List.mem_append_right _ (List.mem_append_left _ (List.mem_of_getElem? (i := 223) rfl)))))) rfl
set_option maxRecDepth 20000 in
theorem w_1181 : (Cond.instanceMethod ⟨"SmallHarbourModel", "fits", "(III)I"⟩) ∈ tbg := tb_in (List.mem_append_right _ (List.mem_append_right _ (List.mem_append_right _ (List.mem_append_right _ (List.mem_append_left _ (List.mem_of_getElem? (i := 221) rfl)))))) rfl
set_option maxRecDepth 20000 in
theorem w_1182 : (Cond.selects "SmallHarbourModel" ⟨"SmallHarbourModel", "fits", "(III)I"⟩ ⟨"SmallHarbourModel", "fits", "(III)I"⟩) ∈ tbg := tb_in (List.mem_append_right _ (List.mem_append_right _ (List.mem_append_right _ (List.mem_append_right _ (List.mem_append_left _ (List.mem_of_getElem? (i := 222) rfl)))))) rfl
set_option maxRecDepth 20000 in
theorem w_1095 : (Cond.code ⟨"SmallHarbourModel", "fitsAll", "(IIII)Z"⟩ prog_14_method_9_code 6 (Option.some FieldType.boolean)) ∈ tbg := tb_in (List.mem_append_right _ (List.mem_append_right _ (List.mem_append_right _ (List.mem_append_right _ (List.mem_append_left _ (List.mem_of_getElem? (i := 135) rfl)))))) rfl
set_option maxRecDepth 20000 in
theorem w_1094 : (Cond.instanceMethod ⟨"SmallHarbourModel", "fitsAll", "(IIII)Z"⟩) ∈ tbg := tb_in (List.mem_append_right _ (List.mem_append_right _ (List.mem_append_right _ (List.mem_append_right _ (List.mem_append_left _ (List.mem_of_getElem? (i := 134) rfl)))))) rfl
set_option maxRecDepth 20000 in
theorem w_s3_5 : (Cond.selects "SmallHarbourModel" ⟨"SmallHarbourModel", "fitsAll", "(IIII)Z"⟩ ⟨"SmallHarbourModel", "fitsAll", "(IIII)Z"⟩) ∈ tbg := tb_sel (List.mem_map_of_mem (f := fun q : MethodName × Nat => Cond.selects q.1.cls q.1 q.1) (a := (⟨"SmallHarbourModel", "fitsAll", "(IIII)Z"⟩, 68)) (List.mem_append_right _ (List.mem_append_right _ (List.mem_append_left _ (List.mem_of_getElem? (i := 5) rfl))))) rfl
set_option maxRecDepth 20000 in
theorem w_1091 : (Cond.code ⟨"SmallHarbourModel", "hasStay", "(III)Z"⟩ prog_14_method_17_code 5 (Option.some FieldType.boolean)) ∈ tbg := tb_in (List.mem_append_right _ (List.mem_append_right _ (List.mem_append_right _ (List.mem_append_right _ (List.mem_append_left _ (List.mem_of_getElem? (i := 131) rfl)))))) rfl
set_option maxRecDepth 20000 in
theorem w_1090 : (Cond.instanceMethod ⟨"SmallHarbourModel", "hasStay", "(III)Z"⟩) ∈ tbg := tb_in (List.mem_append_right _ (List.mem_append_right _ (List.mem_append_right _ (List.mem_append_right _ (List.mem_append_left _ (List.mem_of_getElem? (i := 130) rfl)))))) rfl
set_option maxRecDepth 20000 in
theorem w_s3_4 : (Cond.selects "SmallHarbourModel" ⟨"SmallHarbourModel", "hasStay", "(III)Z"⟩ ⟨"SmallHarbourModel", "hasStay", "(III)Z"⟩) ∈ tbg := tb_sel (List.mem_map_of_mem (f := fun q : MethodName × Nat => Cond.selects q.1.cls q.1 q.1) (a := (⟨"SmallHarbourModel", "hasStay", "(III)Z"⟩, 68)) (List.mem_append_right _ (List.mem_append_right _ (List.mem_append_left _ (List.mem_of_getElem? (i := 4) rfl))))) rfl
set_option maxRecDepth 20000 in
theorem w_1187 : (Cond.code ⟨"SmallHarbourModel", "hoist", "(III)Z"⟩ prog_14_method_36_code 4 (Option.some FieldType.boolean)) ∈ tbg := tb_in (List.mem_append_right _ (List.mem_append_right _ (List.mem_append_right _ (List.mem_append_right _ (List.mem_append_left _ (List.mem_of_getElem? (i := 227) rfl)))))) rfl
set_option maxRecDepth 20000 in
theorem w_1185 : (Cond.instanceMethod ⟨"SmallHarbourModel", "hoist", "(III)Z"⟩) ∈ tbg := tb_in (List.mem_append_right _ (List.mem_append_right _ (List.mem_append_right _ (List.mem_append_right _ (List.mem_append_left _ (List.mem_of_getElem? (i := 225) rfl)))))) rfl
set_option maxRecDepth 20000 in
theorem w_1186 : (Cond.selects "SmallHarbourModel" ⟨"SmallHarbourModel", "hoist", "(III)Z"⟩ ⟨"SmallHarbourModel", "hoist", "(III)Z"⟩) ∈ tbg := tb_in (List.mem_append_right _ (List.mem_append_right _ (List.mem_append_right _ (List.mem_append_right _ (List.mem_append_left _ (List.mem_of_getElem? (i := 226) rfl)))))) rfl
set_option maxRecDepth 20000 in
theorem w_1115 : (Cond.code ⟨"SmallHarbourModel", "putStay", "(IIII)V"⟩ prog_14_method_20_code 5 (Option.none : Option FieldType)) ∈ tbg := tb_in (List.mem_append_right _ (List.mem_append_right _ (List.mem_append_right _ (List.mem_append_right _ (List.mem_append_left _ (List.mem_of_getElem? (i := 155) rfl)))))) rfl
set_option maxRecDepth 20000 in
theorem w_1114 : (Cond.instanceMethod ⟨"SmallHarbourModel", "putStay", "(IIII)V"⟩) ∈ tbg := tb_in (List.mem_append_right _ (List.mem_append_right _ (List.mem_append_right _ (List.mem_append_right _ (List.mem_append_left _ (List.mem_of_getElem? (i := 154) rfl)))))) rfl
set_option maxRecDepth 20000 in
theorem w_s3_10 : (Cond.selects "SmallHarbourModel" ⟨"SmallHarbourModel", "putStay", "(IIII)V"⟩ ⟨"SmallHarbourModel", "putStay", "(IIII)V"⟩) ∈ tbg := tb_sel (List.mem_map_of_mem (f := fun q : MethodName × Nat => Cond.selects q.1.cls q.1 q.1) (a := (⟨"SmallHarbourModel", "putStay", "(IIII)V"⟩, 68)) (List.mem_append_right _ (List.mem_append_right _ (List.mem_append_left _ (List.mem_of_getElem? (i := 10) rfl))))) rfl
set_option maxRecDepth 20000 in
theorem w_1152 : (Cond.code ⟨"SmallHarbourModel", "moveAll", "(I)I"⟩ prog_14_method_29_code 4 (Option.some FieldType.int)) ∈ tbg := tb_in (List.mem_append_right _ (List.mem_append_right _ (List.mem_append_right _ (List.mem_append_right _ (List.mem_append_left _ (List.mem_of_getElem? (i := 192) rfl)))))) rfl
set_option maxRecDepth 20000 in
theorem w_1151 : (Cond.instanceMethod ⟨"SmallHarbourModel", "moveAll", "(I)I"⟩) ∈ tbg := tb_in (List.mem_append_right _ (List.mem_append_right _ (List.mem_append_right _ (List.mem_append_right _ (List.mem_append_left _ (List.mem_of_getElem? (i := 191) rfl)))))) rfl
set_option maxRecDepth 20000 in
theorem w_s4_1 : (Cond.selects "SmallHarbourModel" ⟨"SmallHarbourModel", "moveAll", "(I)I"⟩ ⟨"SmallHarbourModel", "moveAll", "(I)I"⟩) ∈ tbg := tb_sel (List.mem_map_of_mem (f := fun q : MethodName × Nat => Cond.selects q.1.cls q.1 q.1) (a := (⟨"SmallHarbourModel", "moveAll", "(I)I"⟩, 68)) (List.mem_append_right _ (List.mem_append_right _ (List.mem_append_right _ (List.mem_append_left _ (List.mem_of_getElem? (i := 1) rfl)))))) rfl
set_option maxRecDepth 20000 in
theorem w_1139 : (Cond.code ⟨"SmallHarbourModel", "isTry", "(II)Z"⟩ prog_14_method_23_code 5 (Option.some FieldType.boolean)) ∈ tbg := tb_in (List.mem_append_right _ (List.mem_append_right _ (List.mem_append_right _ (List.mem_append_right _ (List.mem_append_left _ (List.mem_of_getElem? (i := 179) rfl)))))) rfl
set_option maxRecDepth 20000 in
theorem w_1138 : (Cond.instanceMethod ⟨"SmallHarbourModel", "isTry", "(II)Z"⟩) ∈ tbg := tb_in (List.mem_append_right _ (List.mem_append_right _ (List.mem_append_right _ (List.mem_append_right _ (List.mem_append_left _ (List.mem_of_getElem? (i := 178) rfl)))))) rfl
set_option maxRecDepth 20000 in
theorem w_s3_14 : (Cond.selects "SmallHarbourModel" ⟨"SmallHarbourModel", "isTry", "(II)Z"⟩ ⟨"SmallHarbourModel", "isTry", "(II)Z"⟩) ∈ tbg := tb_sel (List.mem_map_of_mem (f := fun q : MethodName × Nat => Cond.selects q.1.cls q.1 q.1) (a := (⟨"SmallHarbourModel", "isTry", "(II)Z"⟩, 68)) (List.mem_append_right _ (List.mem_append_right _ (List.mem_append_left _ (List.mem_of_getElem? (i := 14) rfl))))) rfl
set_option maxRecDepth 20000 in
theorem w_1135 : (Cond.code ⟨"SmallHarbourModel", "movesTo", "(I)I"⟩ prog_14_method_24_code 4 (Option.some FieldType.int)) ∈ tbg := tb_in (List.mem_append_right _ (List.mem_append_right _ (List.mem_append_right _ (List.mem_append_right _ (List.mem_append_left _ (List.mem_of_getElem? (i := 175) rfl)))))) rfl
set_option maxRecDepth 20000 in
theorem w_1134 : (Cond.instanceMethod ⟨"SmallHarbourModel", "movesTo", "(I)I"⟩) ∈ tbg := tb_in (List.mem_append_right _ (List.mem_append_right _ (List.mem_append_right _ (List.mem_append_right _ (List.mem_append_left _ (List.mem_of_getElem? (i := 174) rfl)))))) rfl
set_option maxRecDepth 20000 in
theorem w_s3_13 : (Cond.selects "SmallHarbourModel" ⟨"SmallHarbourModel", "movesTo", "(I)I"⟩ ⟨"SmallHarbourModel", "movesTo", "(I)I"⟩) ∈ tbg := tb_sel (List.mem_map_of_mem (f := fun q : MethodName × Nat => Cond.selects q.1.cls q.1 q.1) (a := (⟨"SmallHarbourModel", "movesTo", "(I)I"⟩, 68)) (List.mem_append_right _ (List.mem_append_right _ (List.mem_append_left _ (List.mem_of_getElem? (i := 13) rfl))))) rfl
set_option maxRecDepth 20000 in
theorem w_1131 : (Cond.code ⟨"SmallHarbourModel", "keep", "()V"⟩ prog_14_method_25_code 2 (Option.none : Option FieldType)) ∈ tbg := tb_in (List.mem_append_right _ (List.mem_append_right _ (List.mem_append_right _ (List.mem_append_right _ (List.mem_append_left _ (List.mem_of_getElem? (i := 171) rfl)))))) rfl
set_option maxRecDepth 20000 in
theorem w_1130 : (Cond.instanceMethod ⟨"SmallHarbourModel", "keep", "()V"⟩) ∈ tbg := tb_in (List.mem_append_right _ (List.mem_append_right _ (List.mem_append_right _ (List.mem_append_right _ (List.mem_append_left _ (List.mem_of_getElem? (i := 170) rfl)))))) rfl
set_option maxRecDepth 20000 in
theorem w_s3_12 : (Cond.selects "SmallHarbourModel" ⟨"SmallHarbourModel", "keep", "()V"⟩ ⟨"SmallHarbourModel", "keep", "()V"⟩) ∈ tbg := tb_sel (List.mem_map_of_mem (f := fun q : MethodName × Nat => Cond.selects q.1.cls q.1 q.1) (a := (⟨"SmallHarbourModel", "keep", "()V"⟩, 68)) (List.mem_append_right _ (List.mem_append_right _ (List.mem_append_left _ (List.mem_of_getElem? (i := 12) rfl))))) rfl
set_option maxRecDepth 20000 in
theorem w_1127 : (Cond.code ⟨"SmallHarbourModel", "walk", "()Z"⟩ prog_14_method_26_code 2 (Option.some FieldType.boolean)) ∈ tbg := tb_in (List.mem_append_right _ (List.mem_append_right _ (List.mem_append_right _ (List.mem_append_right _ (List.mem_append_left _ (List.mem_of_getElem? (i := 167) rfl)))))) rfl
set_option maxRecDepth 20000 in
theorem w_1126 : (Cond.instanceMethod ⟨"SmallHarbourModel", "walk", "()Z"⟩) ∈ tbg := tb_in (List.mem_append_right _ (List.mem_append_right _ (List.mem_append_right _ (List.mem_append_right _ (List.mem_append_left _ (List.mem_of_getElem? (i := 166) rfl)))))) rfl
set_option maxRecDepth 20000 in
theorem w_s3_11 : (Cond.selects "SmallHarbourModel" ⟨"SmallHarbourModel", "walk", "()Z"⟩ ⟨"SmallHarbourModel", "walk", "()Z"⟩) ∈ tbg := tb_sel (List.mem_map_of_mem (f := fun q : MethodName × Nat => Cond.selects q.1.cls q.1 q.1) (a := (⟨"SmallHarbourModel", "walk", "()Z"⟩, 68)) (List.mem_append_right _ (List.mem_append_right _ (List.mem_append_left _ (List.mem_of_getElem? (i := 11) rfl))))) rfl
set_option maxRecDepth 20000 in
theorem w_1123 : (Cond.code ⟨"SmallHarbourModel", "home", "(II)I"⟩ prog_14_method_27_code 6 (Option.some FieldType.int)) ∈ tbg := tb_in (List.mem_append_right _ (List.mem_append_right _ (List.mem_append_right _ (List.mem_append_right _ (List.mem_append_left _ (List.mem_of_getElem? (i := 163) rfl)))))) rfl
set_option maxRecDepth 20000 in
theorem w_1121 : (Cond.instanceMethod ⟨"SmallHarbourModel", "home", "(II)I"⟩) ∈ tbg := tb_in (List.mem_append_right _ (List.mem_append_right _ (List.mem_append_right _ (List.mem_append_right _ (List.mem_append_left _ (List.mem_of_getElem? (i := 161) rfl)))))) rfl
set_option maxRecDepth 20000 in
theorem w_1122 : (Cond.selects "SmallHarbourModel" ⟨"SmallHarbourModel", "home", "(II)I"⟩ ⟨"SmallHarbourModel", "home", "(II)I"⟩) ∈ tbg := tb_in (List.mem_append_right _ (List.mem_append_right _ (List.mem_append_right _ (List.mem_append_right _ (List.mem_append_left _ (List.mem_of_getElem? (i := 162) rfl)))))) rfl
set_option maxRecDepth 20000 in
theorem w_1051 : (Cond.code ⟨"SmallHarbourModel", "isBound", "()Z"⟩ prog_14_method_4_code 2 (Option.some FieldType.boolean)) ∈ tbg := tb_in (List.mem_append_right _ (List.mem_append_right _ (List.mem_append_right _ (List.mem_append_right _ (List.mem_append_left _ (List.mem_of_getElem? (i := 91) rfl)))))) rfl
set_option maxRecDepth 20000 in
theorem w_1050 : (Cond.instanceMethod ⟨"SmallHarbourModel", "isBound", "()Z"⟩) ∈ tbg := tb_in (List.mem_append_right _ (List.mem_append_right _ (List.mem_append_right _ (List.mem_append_right _ (List.mem_append_left _ (List.mem_of_getElem? (i := 90) rfl)))))) rfl
set_option maxRecDepth 20000 in
theorem w_s2_15 : (Cond.selects "SmallHarbourModel" ⟨"SmallHarbourModel", "isBound", "()Z"⟩ ⟨"SmallHarbourModel", "isBound", "()Z"⟩) ∈ tbg := tb_sel (List.mem_map_of_mem (f := fun q : MethodName × Nat => Cond.selects q.1.cls q.1 q.1) (a := (⟨"SmallHarbourModel", "isBound", "()Z"⟩, 68)) (List.mem_append_right _ (List.mem_append_left _ (List.mem_of_getElem? (i := 15) rfl)))) rfl
set_option maxRecDepth 20000 in
theorem w_1258 : (Cond.code ⟨"SmallHarbourModel", "isDigit", "(I)Z"⟩ prog_14_method_52_code 1 (Option.some FieldType.boolean)) ∈ tbg := tb_in (List.mem_append_right _ (List.mem_append_right _ (List.mem_append_right _ (List.mem_append_right _ (List.mem_append_right _ (List.mem_of_getElem? (i := 58) rfl)))))) rfl
set_option maxRecDepth 20000 in
theorem w_1099 : (Cond.code ⟨"SmallHarbourModel", "isEmpty", "(III)Z"⟩ prog_14_method_18_code 5 (Option.some FieldType.boolean)) ∈ tbg := tb_in (List.mem_append_right _ (List.mem_append_right _ (List.mem_append_right _ (List.mem_append_right _ (List.mem_append_left _ (List.mem_of_getElem? (i := 139) rfl)))))) rfl
set_option maxRecDepth 20000 in
theorem w_1098 : (Cond.instanceMethod ⟨"SmallHarbourModel", "isEmpty", "(III)Z"⟩) ∈ tbg := tb_in (List.mem_append_right _ (List.mem_append_right _ (List.mem_append_right _ (List.mem_append_right _ (List.mem_append_left _ (List.mem_of_getElem? (i := 138) rfl)))))) rfl
set_option maxRecDepth 20000 in
theorem w_s3_6 : (Cond.selects "SmallHarbourModel" ⟨"SmallHarbourModel", "isEmpty", "(III)Z"⟩ ⟨"SmallHarbourModel", "isEmpty", "(III)Z"⟩) ∈ tbg := tb_sel (List.mem_map_of_mem (f := fun q : MethodName × Nat => Cond.selects q.1.cls q.1 q.1) (a := (⟨"SmallHarbourModel", "isEmpty", "(III)Z"⟩, 68)) (List.mem_append_right _ (List.mem_append_right _ (List.mem_append_left _ (List.mem_of_getElem? (i := 6) rfl))))) rfl
set_option maxRecDepth 20000 in
theorem w_1262 : (Cond.code ⟨"SmallHarbourModel", "isLetter", "(I)Z"⟩ prog_14_method_51_code 1 (Option.some FieldType.boolean)) ∈ tbg := tb_in (List.mem_append_right _ (List.mem_append_right _ (List.mem_append_right _ (List.mem_append_right _ (List.mem_append_right _ (List.mem_of_getElem? (i := 62) rfl)))))) rfl
set_option maxRecDepth 20000 in
theorem w_1227 : (Cond.code ⟨"SmallHarbourModel", "lane", "(I)I"⟩ prog_14_method_46_code 2 (Option.some FieldType.int)) ∈ tbg := tb_in (List.mem_append_right _ (List.mem_append_right _ (List.mem_append_right _ (List.mem_append_right _ (List.mem_append_right _ (List.mem_of_getElem? (i := 27) rfl)))))) rfl
set_option maxRecDepth 20000 in
theorem w_1225 : (Cond.instanceMethod ⟨"SmallHarbourModel", "lane", "(I)I"⟩) ∈ tbg := tb_in (List.mem_append_right _ (List.mem_append_right _ (List.mem_append_right _ (List.mem_append_right _ (List.mem_append_right _ (List.mem_of_getElem? (i := 25) rfl)))))) rfl
set_option maxRecDepth 20000 in
theorem w_1226 : (Cond.selects "SmallHarbourModel" ⟨"SmallHarbourModel", "lane", "(I)I"⟩ ⟨"SmallHarbourModel", "lane", "(I)I"⟩) ∈ tbg := tb_in (List.mem_append_right _ (List.mem_append_right _ (List.mem_append_right _ (List.mem_append_right _ (List.mem_append_right _ (List.mem_of_getElem? (i := 26) rfl)))))) rfl
set_option maxRecDepth 20000 in
theorem w_1119 : (Cond.code ⟨"SmallHarbourModel", "leaves", "(II)Z"⟩ prog_14_method_21_code 3 (Option.some FieldType.boolean)) ∈ tbg := tb_in (List.mem_append_right _ (List.mem_append_right _ (List.mem_append_right _ (List.mem_append_right _ (List.mem_append_left _ (List.mem_of_getElem? (i := 159) rfl)))))) rfl
set_option maxRecDepth 20000 in
theorem w_1117 : (Cond.instanceMethod ⟨"SmallHarbourModel", "leaves", "(II)Z"⟩) ∈ tbg := tb_in (List.mem_append_right _ (List.mem_append_right _ (List.mem_append_right _ (List.mem_append_right _ (List.mem_append_left _ (List.mem_of_getElem? (i := 157) rfl)))))) rfl
set_option maxRecDepth 20000 in
theorem w_1118 : (Cond.selects "SmallHarbourModel" ⟨"SmallHarbourModel", "leaves", "(II)Z"⟩ ⟨"SmallHarbourModel", "leaves", "(II)Z"⟩) ∈ tbg := tb_in (List.mem_append_right _ (List.mem_append_right _ (List.mem_append_right _ (List.mem_append_right _ (List.mem_append_left _ (List.mem_of_getElem? (i := 158) rfl)))))) rfl
set_option maxRecDepth 20000 in
theorem w_1203 : (Cond.code ⟨"SmallHarbourModel", "left", "(II)I"⟩ prog_14_method_39_code 5 (Option.some FieldType.int)) ∈ tbg := tb_in (List.mem_append_right _ (List.mem_append_right _ (List.mem_append_right _ (List.mem_append_right _ (List.mem_append_right _ (List.mem_of_getElem? (i := 3) rfl)))))) rfl
set_option maxRecDepth 20000 in
theorem w_1202 : (Cond.instanceMethod ⟨"SmallHarbourModel", "left", "(II)I"⟩) ∈ tbg := tb_in (List.mem_append_right _ (List.mem_append_right _ (List.mem_append_right _ (List.mem_append_right _ (List.mem_append_right _ (List.mem_of_getElem? (i := 2) rfl)))))) rfl
set_option maxRecDepth 20000 in
theorem w_s4_4 : (Cond.selects "SmallHarbourModel" ⟨"SmallHarbourModel", "left", "(II)I"⟩ ⟨"SmallHarbourModel", "left", "(II)I"⟩) ∈ tbg := tb_sel (List.mem_map_of_mem (f := fun q : MethodName × Nat => Cond.selects q.1.cls q.1 q.1) (a := (⟨"SmallHarbourModel", "left", "(II)I"⟩, 68)) (List.mem_append_right _ (List.mem_append_right _ (List.mem_append_right _ (List.mem_append_left _ (List.mem_of_getElem? (i := 4) rfl)))))) rfl
set_option maxRecDepth 20000 in
theorem w_1055 : (Cond.code ⟨"SmallHarbourModel", "level", "(II)Z"⟩ prog_14_method_6_code 3 (Option.some FieldType.boolean)) ∈ tbg := tb_in (List.mem_append_right _ (List.mem_append_right _ (List.mem_append_right _ (List.mem_append_right _ (List.mem_append_left _ (List.mem_of_getElem? (i := 95) rfl)))))) rfl
set_option maxRecDepth 20000 in
theorem w_1053 : (Cond.instanceMethod ⟨"SmallHarbourModel", "level", "(II)Z"⟩) ∈ tbg := tb_in (List.mem_append_right _ (List.mem_append_right _ (List.mem_append_right _ (List.mem_append_right _ (List.mem_append_left _ (List.mem_of_getElem? (i := 93) rfl)))))) rfl
set_option maxRecDepth 20000 in
theorem w_1054 : (Cond.selects "SmallHarbourModel" ⟨"SmallHarbourModel", "level", "(II)Z"⟩ ⟨"SmallHarbourModel", "level", "(II)Z"⟩) ∈ tbg := tb_in (List.mem_append_right _ (List.mem_append_right _ (List.mem_append_right _ (List.mem_append_right _ (List.mem_append_left _ (List.mem_of_getElem? (i := 94) rfl)))))) rfl
set_option maxRecDepth 20000 in
theorem w_1044 : (Cond.code ⟨"SmallHarbourModel", "levels", "(I)Z"⟩ prog_14_method_5_code 3 (Option.some FieldType.boolean)) ∈ tbg := tb_in (List.mem_append_right _ (List.mem_append_right _ (List.mem_append_right _ (List.mem_append_right _ (List.mem_append_left _ (List.mem_of_getElem? (i := 84) rfl)))))) rfl
set_option maxRecDepth 20000 in
theorem w_1042 : (Cond.instanceMethod ⟨"SmallHarbourModel", "levels", "(I)Z"⟩) ∈ tbg := tb_in (List.mem_append_right _ (List.mem_append_right _ (List.mem_append_right _ (List.mem_append_right _ (List.mem_append_left _ (List.mem_of_getElem? (i := 82) rfl)))))) rfl
set_option maxRecDepth 20000 in
theorem w_1043 : (Cond.selects "SmallHarbourModel" ⟨"SmallHarbourModel", "levels", "(I)Z"⟩ ⟨"SmallHarbourModel", "levels", "(I)Z"⟩) ∈ tbg := tb_in (List.mem_append_right _ (List.mem_append_right _ (List.mem_append_right _ (List.mem_append_right _ (List.mem_append_left _ (List.mem_of_getElem? (i := 83) rfl)))))) rfl
set_option maxRecDepth 20000 in
theorem w_1175 : (Cond.code ⟨"SmallHarbourModel", "lies", "(II)I"⟩ prog_14_method_33_code 3 (Option.some FieldType.int)) ∈ tbg := tb_in (List.mem_append_right _ (List.mem_append_right _ (List.mem_append_right _ (List.mem_append_right _ (List.mem_append_left _ (List.mem_of_getElem? (i := 215) rfl)))))) rfl
set_option maxRecDepth 20000 in
theorem w_1173 : (Cond.instanceMethod ⟨"SmallHarbourModel", "lies", "(II)I"⟩) ∈ tbg := tb_in (List.mem_append_right _ (List.mem_append_right _ (List.mem_append_right _ (List.mem_append_right _ (List.mem_append_left _ (List.mem_of_getElem? (i := 213) rfl)))))) rfl
set_option maxRecDepth 20000 in
theorem w_1174 : (Cond.selects "SmallHarbourModel" ⟨"SmallHarbourModel", "lies", "(II)I"⟩ ⟨"SmallHarbourModel", "lies", "(II)I"⟩) ∈ tbg := tb_in (List.mem_append_right _ (List.mem_append_right _ (List.mem_append_right _ (List.mem_append_right _ (List.mem_append_left _ (List.mem_of_getElem? (i := 214) rfl)))))) rfl
set_option maxRecDepth 20000 in
theorem w_1195 : (Cond.code ⟨"SmallHarbourModel", "lift", "(III)I"⟩ prog_14_method_38_code 4 (Option.some FieldType.int)) ∈ tbg := tb_in (List.mem_append_right _ (List.mem_append_right _ (List.mem_append_right _ (List.mem_append_right _ (List.mem_append_left _ (List.mem_of_getElem? (i := 235) rfl)))))) rfl
set_option maxRecDepth 20000 in
theorem w_1193 : (Cond.instanceMethod ⟨"SmallHarbourModel", "lift", "(III)I"⟩) ∈ tbg := tb_in (List.mem_append_right _ (List.mem_append_right _ (List.mem_append_right _ (List.mem_append_right _ (List.mem_append_left _ (List.mem_of_getElem? (i := 233) rfl)))))) rfl
set_option maxRecDepth 20000 in
theorem w_1194 : (Cond.selects "SmallHarbourModel" ⟨"SmallHarbourModel", "lift", "(III)I"⟩ ⟨"SmallHarbourModel", "lift", "(III)I"⟩) ∈ tbg := tb_in (List.mem_append_right _ (List.mem_append_right _ (List.mem_append_right _ (List.mem_append_right _ (List.mem_append_left _ (List.mem_of_getElem? (i := 234) rfl)))))) rfl
set_option maxRecDepth 20000 in
theorem w_1199 : (Cond.code ⟨"SmallHarbourModel", "lifted", "(I)I"⟩ prog_14_method_40_code 5 (Option.some FieldType.int)) ∈ tbg := tb_in (List.mem_append_right _ (List.mem_append_right _ (List.mem_append_right _ (List.mem_append_right _ (List.mem_append_left _ (List.mem_of_getElem? (i := 239) rfl)))))) rfl
set_option maxRecDepth 20000 in
theorem w_1197 : (Cond.instanceMethod ⟨"SmallHarbourModel", "lifted", "(I)I"⟩) ∈ tbg := tb_in (List.mem_append_right _ (List.mem_append_right _ (List.mem_append_right _ (List.mem_append_right _ (List.mem_append_left _ (List.mem_of_getElem? (i := 237) rfl)))))) rfl
set_option maxRecDepth 20000 in
theorem w_1198 : (Cond.selects "SmallHarbourModel" ⟨"SmallHarbourModel", "lifted", "(I)I"⟩ ⟨"SmallHarbourModel", "lifted", "(I)I"⟩) ∈ tbg := tb_in (List.mem_append_right _ (List.mem_append_right _ (List.mem_append_right _ (List.mem_append_right _ (List.mem_append_left _ (List.mem_of_getElem? (i := 238) rfl)))))) rfl
set_option maxRecDepth 20000 in
theorem w_1156 : (Cond.code ⟨"SmallHarbourModel", "moved", "(II)I"⟩ prog_14_method_30_code 3 (Option.some FieldType.int)) ∈ tbg := tb_in (List.mem_append_right _ (List.mem_append_right _ (List.mem_append_right _ (List.mem_append_right _ (List.mem_append_left _ (List.mem_of_getElem? (i := 196) rfl)))))) rfl
set_option maxRecDepth 20000 in
theorem w_1154 : (Cond.instanceMethod ⟨"SmallHarbourModel", "moved", "(II)I"⟩) ∈ tbg := tb_in (List.mem_append_right _ (List.mem_append_right _ (List.mem_append_right _ (List.mem_append_right _ (List.mem_append_left _ (List.mem_of_getElem? (i := 194) rfl)))))) rfl
set_option maxRecDepth 20000 in
theorem w_1155 : (Cond.selects "SmallHarbourModel" ⟨"SmallHarbourModel", "moved", "(II)I"⟩ ⟨"SmallHarbourModel", "moved", "(II)I"⟩) ∈ tbg := tb_in (List.mem_append_right _ (List.mem_append_right _ (List.mem_append_right _ (List.mem_append_right _ (List.mem_append_left _ (List.mem_of_getElem? (i := 195) rfl)))))) rfl
set_option maxRecDepth 20000 in
theorem w_1215 : (Cond.code ⟨"SmallHarbourModel", "moves", "()I"⟩ prog_14_method_45_code 1 (Option.some FieldType.int)) ∈ tbg := tb_in (List.mem_append_right _ (List.mem_append_right _ (List.mem_append_right _ (List.mem_append_right _ (List.mem_append_right _ (List.mem_of_getElem? (i := 15) rfl)))))) rfl
set_option maxRecDepth 20000 in
theorem w_1213 : (Cond.instanceMethod ⟨"SmallHarbourModel", "moves", "()I"⟩) ∈ tbg := tb_in (List.mem_append_right _ (List.mem_append_right _ (List.mem_append_right _ (List.mem_append_right _ (List.mem_append_right _ (List.mem_of_getElem? (i := 13) rfl)))))) rfl
set_option maxRecDepth 20000 in
theorem w_1214 : (Cond.selects "SmallHarbourModel" ⟨"SmallHarbourModel", "moves", "()I"⟩ ⟨"SmallHarbourModel", "moves", "()I"⟩) ∈ tbg := tb_in (List.mem_append_right _ (List.mem_append_right _ (List.mem_append_right _ (List.mem_append_right _ (List.mem_append_right _ (List.mem_of_getElem? (i := 14) rfl)))))) rfl
set_option maxRecDepth 20000 in
theorem w_1255 : (Cond.code ⟨"SmallHarbourModel", "see", "(I)I"⟩ prog_14_method_50_code 2 (Option.some FieldType.int)) ∈ tbg := tb_in (List.mem_append_right _ (List.mem_append_right _ (List.mem_append_right _ (List.mem_append_right _ (List.mem_append_right _ (List.mem_of_getElem? (i := 55) rfl)))))) rfl
set_option maxRecDepth 20000 in
theorem w_1254 : (Cond.instanceMethod ⟨"SmallHarbourModel", "see", "(I)I"⟩) ∈ tbg := tb_in (List.mem_append_right _ (List.mem_append_right _ (List.mem_append_right _ (List.mem_append_right _ (List.mem_append_right _ (List.mem_of_getElem? (i := 54) rfl)))))) rfl
set_option maxRecDepth 20000 in
theorem w_s4_10 : (Cond.selects "SmallHarbourModel" ⟨"SmallHarbourModel", "see", "(I)I"⟩ ⟨"SmallHarbourModel", "see", "(I)I"⟩) ∈ tbg := tb_sel (List.mem_map_of_mem (f := fun q : MethodName × Nat => Cond.selects q.1.cls q.1 q.1) (a := (⟨"SmallHarbourModel", "see", "(I)I"⟩, 68)) (List.mem_append_right _ (List.mem_append_right _ (List.mem_append_right _ (List.mem_append_left _ (List.mem_of_getElem? (i := 10) rfl)))))) rfl
set_option maxRecDepth 20000 in
theorem w_1271 : (Cond.code ⟨"SmallHarbourModel", "signOf", "(I)I"⟩ prog_14_method_53_code 1 (Option.some FieldType.int)) ∈ tbg := tb_in (List.mem_append_right _ (List.mem_append_right _ (List.mem_append_right _ (List.mem_append_right _ (List.mem_append_right _ (List.mem_of_getElem? (i := 71) rfl)))))) rfl
set_option maxRecDepth 20000 in
theorem w_1266 : (Cond.code ⟨"SmallHarbourModel", "wordOf", "(I)I"⟩ prog_14_method_55_code 1 (Option.some FieldType.int)) ∈ tbg := tb_in (List.mem_append_right _ (List.mem_append_right _ (List.mem_append_right _ (List.mem_append_right _ (List.mem_append_right _ (List.mem_of_getElem? (i := 66) rfl)))))) rfl
set_option maxRecDepth 20000 in
theorem w_1251 : (Cond.code ⟨"SmallHarbourModel", "nextToken", "()V"⟩ prog_14_method_54_code 3 (Option.none : Option FieldType)) ∈ tbg := tb_in (List.mem_append_right _ (List.mem_append_right _ (List.mem_append_right _ (List.mem_append_right _ (List.mem_append_right _ (List.mem_of_getElem? (i := 51) rfl)))))) rfl
set_option maxRecDepth 20000 in
theorem w_1250 : (Cond.instanceMethod ⟨"SmallHarbourModel", "nextToken", "()V"⟩) ∈ tbg := tb_in (List.mem_append_right _ (List.mem_append_right _ (List.mem_append_right _ (List.mem_append_right _ (List.mem_append_right _ (List.mem_of_getElem? (i := 50) rfl)))))) rfl
set_option maxRecDepth 20000 in
theorem w_s4_9 : (Cond.selects "SmallHarbourModel" ⟨"SmallHarbourModel", "nextToken", "()V"⟩ ⟨"SmallHarbourModel", "nextToken", "()V"⟩) ∈ tbg := tb_sel (List.mem_map_of_mem (f := fun q : MethodName × Nat => Cond.selects q.1.cls q.1 q.1) (a := (⟨"SmallHarbourModel", "nextToken", "()V"⟩, 68)) (List.mem_append_right _ (List.mem_append_right _ (List.mem_append_right _ (List.mem_append_left _ (List.mem_of_getElem? (i := 9) rfl)))))) rfl
set_option maxRecDepth 20000 in
theorem w_1323 : (Cond.code ⟨"SmallHarbourModel", "owes", "(I)I"⟩ prog_14_method_72_code 4 (Option.some FieldType.int)) ∈ tbg := tb_in (List.mem_append_right _ (List.mem_append_right _ (List.mem_append_right _ (List.mem_append_right _ (List.mem_append_right _ (List.mem_of_getElem? (i := 123) rfl)))))) rfl
set_option maxRecDepth 20000 in
theorem w_1321 : (Cond.instanceMethod ⟨"SmallHarbourModel", "owes", "(I)I"⟩) ∈ tbg := tb_in (List.mem_append_right _ (List.mem_append_right _ (List.mem_append_right _ (List.mem_append_right _ (List.mem_append_right _ (List.mem_of_getElem? (i := 121) rfl)))))) rfl
set_option maxRecDepth 20000 in
theorem w_1322 : (Cond.selects "SmallHarbourModel" ⟨"SmallHarbourModel", "owes", "(I)I"⟩ ⟨"SmallHarbourModel", "owes", "(I)I"⟩) ∈ tbg := tb_in (List.mem_append_right _ (List.mem_append_right _ (List.mem_append_right _ (List.mem_append_right _ (List.mem_append_right _ (List.mem_of_getElem? (i := 122) rfl)))))) rfl
set_option maxRecDepth 20000 in
theorem w_1275 : (Cond.code ⟨"SmallHarbourModel", "part", "()I"⟩ prog_14_method_64_code 2 (Option.some FieldType.int)) ∈ tbg := tb_in (List.mem_append_right _ (List.mem_append_right _ (List.mem_append_right _ (List.mem_append_right _ (List.mem_append_right _ (List.mem_of_getElem? (i := 75) rfl)))))) rfl
set_option maxRecDepth 20000 in
theorem w_1274 : (Cond.instanceMethod ⟨"SmallHarbourModel", "part", "()I"⟩) ∈ tbg := tb_in (List.mem_append_right _ (List.mem_append_right _ (List.mem_append_right _ (List.mem_append_right _ (List.mem_append_right _ (List.mem_of_getElem? (i := 74) rfl)))))) rfl
set_option maxRecDepth 20000 in
theorem w_s4_11 : (Cond.selects "SmallHarbourModel" ⟨"SmallHarbourModel", "part", "()I"⟩ ⟨"SmallHarbourModel", "part", "()I"⟩) ∈ tbg := tb_sel (List.mem_map_of_mem (f := fun q : MethodName × Nat => Cond.selects q.1.cls q.1 q.1) (a := (⟨"SmallHarbourModel", "part", "()I"⟩, 68)) (List.mem_append_right _ (List.mem_append_right _ (List.mem_append_right _ (List.mem_append_left _ (List.mem_of_getElem? (i := 11) rfl)))))) rfl
set_option maxRecDepth 20000 in
theorem w_1247 : (Cond.code ⟨"SmallHarbourModel", "read", "()I"⟩ prog_14_method_66_code 2 (Option.some FieldType.int)) ∈ tbg := tb_in (List.mem_append_right _ (List.mem_append_right _ (List.mem_append_right _ (List.mem_append_right _ (List.mem_append_right _ (List.mem_of_getElem? (i := 47) rfl)))))) rfl
set_option maxRecDepth 20000 in
theorem w_1246 : (Cond.instanceMethod ⟨"SmallHarbourModel", "read", "()I"⟩) ∈ tbg := tb_in (List.mem_append_right _ (List.mem_append_right _ (List.mem_append_right _ (List.mem_append_right _ (List.mem_append_right _ (List.mem_of_getElem? (i := 46) rfl)))))) rfl
set_option maxRecDepth 20000 in
theorem w_s4_8 : (Cond.selects "SmallHarbourModel" ⟨"SmallHarbourModel", "read", "()I"⟩ ⟨"SmallHarbourModel", "read", "()I"⟩) ∈ tbg := tb_sel (List.mem_map_of_mem (f := fun q : MethodName × Nat => Cond.selects q.1.cls q.1 q.1) (a := (⟨"SmallHarbourModel", "read", "()I"⟩, 68)) (List.mem_append_right _ (List.mem_append_right _ (List.mem_append_right _ (List.mem_append_left _ (List.mem_of_getElem? (i := 8) rfl)))))) rfl
set_option maxRecDepth 20000 in
theorem w_1243 : (Cond.code ⟨"SmallHarbourModel", "rule", "(I)I"⟩ prog_14_method_67_code 2 (Option.some FieldType.int)) ∈ tbg := tb_in (List.mem_append_right _ (List.mem_append_right _ (List.mem_append_right _ (List.mem_append_right _ (List.mem_append_right _ (List.mem_of_getElem? (i := 43) rfl)))))) rfl
set_option maxRecDepth 20000 in
theorem w_1241 : (Cond.instanceMethod ⟨"SmallHarbourModel", "rule", "(I)I"⟩) ∈ tbg := tb_in (List.mem_append_right _ (List.mem_append_right _ (List.mem_append_right _ (List.mem_append_right _ (List.mem_append_right _ (List.mem_of_getElem? (i := 41) rfl)))))) rfl
set_option maxRecDepth 20000 in
theorem w_1242 : (Cond.selects "SmallHarbourModel" ⟨"SmallHarbourModel", "rule", "(I)I"⟩ ⟨"SmallHarbourModel", "rule", "(I)I"⟩) ∈ tbg := tb_in (List.mem_append_right _ (List.mem_append_right _ (List.mem_append_right _ (List.mem_append_right _ (List.mem_append_right _ (List.mem_of_getElem? (i := 42) rfl)))))) rfl
set_option maxRecDepth 20000 in
theorem w_1319 : (Cond.code ⟨"SmallHarbourModel", "says", "(IIII)I"⟩ prog_14_method_71_code 5 (Option.some FieldType.int)) ∈ tbg := tb_in (List.mem_append_right _ (List.mem_append_right _ (List.mem_append_right _ (List.mem_append_right _ (List.mem_append_right _ (List.mem_of_getElem? (i := 119) rfl)))))) rfl
set_option maxRecDepth 20000 in
theorem w_1317 : (Cond.instanceMethod ⟨"SmallHarbourModel", "says", "(IIII)I"⟩) ∈ tbg := tb_in (List.mem_append_right _ (List.mem_append_right _ (List.mem_append_right _ (List.mem_append_right _ (List.mem_append_right _ (List.mem_of_getElem? (i := 117) rfl)))))) rfl
set_option maxRecDepth 20000 in
theorem w_1318 : (Cond.selects "SmallHarbourModel" ⟨"SmallHarbourModel", "says", "(IIII)I"⟩ ⟨"SmallHarbourModel", "says", "(IIII)I"⟩) ∈ tbg := tb_in (List.mem_append_right _ (List.mem_append_right _ (List.mem_append_right _ (List.mem_append_right _ (List.mem_append_right _ (List.mem_of_getElem? (i := 118) rfl)))))) rfl
set_option maxRecDepth 20000 in
theorem w_1207 : (Cond.code ⟨"SmallHarbourModel", "shed", "(II)Z"⟩ prog_14_method_41_code 3 (Option.some FieldType.boolean)) ∈ tbg := tb_in (List.mem_append_right _ (List.mem_append_right _ (List.mem_append_right _ (List.mem_append_right _ (List.mem_append_right _ (List.mem_of_getElem? (i := 7) rfl)))))) rfl
set_option maxRecDepth 20000 in
theorem w_1205 : (Cond.instanceMethod ⟨"SmallHarbourModel", "shed", "(II)Z"⟩) ∈ tbg := tb_in (List.mem_append_right _ (List.mem_append_right _ (List.mem_append_right _ (List.mem_append_right _ (List.mem_append_right _ (List.mem_of_getElem? (i := 5) rfl)))))) rfl
set_option maxRecDepth 20000 in
theorem w_1206 : (Cond.selects "SmallHarbourModel" ⟨"SmallHarbourModel", "shed", "(II)Z"⟩ ⟨"SmallHarbourModel", "shed", "(II)Z"⟩) ∈ tbg := tb_in (List.mem_append_right _ (List.mem_append_right _ (List.mem_append_right _ (List.mem_append_right _ (List.mem_append_right _ (List.mem_of_getElem? (i := 6) rfl)))))) rfl
set_option maxRecDepth 20000 in
theorem w_1087 : (Cond.code ⟨"SmallHarbourModel", "stay", "(III)I"⟩ prog_14_method_19_code 5 (Option.some FieldType.int)) ∈ tbg := tb_in (List.mem_append_right _ (List.mem_append_right _ (List.mem_append_right _ (List.mem_append_right _ (List.mem_append_left _ (List.mem_of_getElem? (i := 127) rfl)))))) rfl
set_option maxRecDepth 20000 in
theorem w_1085 : (Cond.instanceMethod ⟨"SmallHarbourModel", "stay", "(III)I"⟩) ∈ tbg := tb_in (List.mem_append_right _ (List.mem_append_right _ (List.mem_append_right _ (List.mem_append_right _ (List.mem_append_left _ (List.mem_of_getElem? (i := 125) rfl)))))) rfl
set_option maxRecDepth 20000 in
theorem w_1086 : (Cond.selects "SmallHarbourModel" ⟨"SmallHarbourModel", "stay", "(III)I"⟩ ⟨"SmallHarbourModel", "stay", "(III)I"⟩) ∈ tbg := tb_in (List.mem_append_right _ (List.mem_append_right _ (List.mem_append_right _ (List.mem_append_right _ (List.mem_append_left _ (List.mem_of_getElem? (i := 126) rfl)))))) rfl
set_option maxRecDepth 20000 in
theorem w_1160 : (Cond.code ⟨"SmallHarbourModel", "stayOf", "(II)I"⟩ prog_14_method_32_code 3 (Option.some FieldType.int)) ∈ tbg := tb_in (List.mem_append_right _ (List.mem_append_right _ (List.mem_append_right _ (List.mem_append_right _ (List.mem_append_left _ (List.mem_of_getElem? (i := 200) rfl)))))) rfl
set_option maxRecDepth 20000 in
theorem w_1158 : (Cond.instanceMethod ⟨"SmallHarbourModel", "stayOf", "(II)I"⟩) ∈ tbg := tb_in (List.mem_append_right _ (List.mem_append_right _ (List.mem_append_right _ (List.mem_append_right _ (List.mem_append_left _ (List.mem_of_getElem? (i := 198) rfl)))))) rfl
set_option maxRecDepth 20000 in
theorem w_1159 : (Cond.selects "SmallHarbourModel" ⟨"SmallHarbourModel", "stayOf", "(II)I"⟩ ⟨"SmallHarbourModel", "stayOf", "(II)I"⟩) ∈ tbg := tb_in (List.mem_append_right _ (List.mem_append_right _ (List.mem_append_right _ (List.mem_append_right _ (List.mem_append_left _ (List.mem_of_getElem? (i := 199) rfl)))))) rfl
set_option maxRecDepth 20000 in
theorem w_1211 : (Cond.code ⟨"SmallHarbourModel", "winter", "(II)I"⟩ prog_14_method_42_code 4 (Option.some FieldType.int)) ∈ tbg := tb_in (List.mem_append_right _ (List.mem_append_right _ (List.mem_append_right _ (List.mem_append_right _ (List.mem_append_right _ (List.mem_of_getElem? (i := 11) rfl)))))) rfl
set_option maxRecDepth 20000 in
theorem w_1209 : (Cond.instanceMethod ⟨"SmallHarbourModel", "winter", "(II)I"⟩) ∈ tbg := tb_in (List.mem_append_right _ (List.mem_append_right _ (List.mem_append_right _ (List.mem_append_right _ (List.mem_append_right _ (List.mem_of_getElem? (i := 9) rfl)))))) rfl
set_option maxRecDepth 20000 in
theorem w_1210 : (Cond.selects "SmallHarbourModel" ⟨"SmallHarbourModel", "winter", "(II)I"⟩ ⟨"SmallHarbourModel", "winter", "(II)I"⟩) ∈ tbg := tb_in (List.mem_append_right _ (List.mem_append_right _ (List.mem_append_right _ (List.mem_append_right _ (List.mem_append_right _ (List.mem_of_getElem? (i := 10) rfl)))))) rfl
set_option maxRecDepth 20000 in
theorem w_405 : (Cond.code ⟨"java/util/Arrays", "fill", "([II)V"⟩ prog_17_method_103_code 4 (Option.none : Option FieldType)) ∈ tbg := tb_in (List.mem_append_right _ (List.mem_append_left _ (List.mem_of_getElem? (i := 165) rfl))) rfl
set_option maxRecDepth 20000 in
theorem w_14 : (Cond.initialized "java/util/Arrays") ∈ tbg := tb_in (List.mem_append_left _ (List.mem_of_getElem? (i := 14) rfl)) rfl
set_option maxRecDepth 20000 in
theorem w_424 : (Cond.code ⟨"SmallHarbour", "isWithin", "(III)Z"⟩ prog_1_method_30_code 3 (Option.some FieldType.boolean)) ∈ tbg := tb_in (List.mem_append_right _ (List.mem_append_left _ (List.mem_of_getElem? (i := 184) rfl))) rfl
set_option maxRecDepth 20000 in
theorem w_421 : (Cond.code ⟨"SmallHarbour$Berths", "add", "(II)I"⟩ prog_2_method_3_code 3 (Option.some FieldType.int)) ∈ tbg := tb_in (List.mem_append_right _ (List.mem_append_left _ (List.mem_of_getElem? (i := 181) rfl))) rfl
set_option maxRecDepth 20000 in
theorem w_419 : (Cond.instanceMethod ⟨"SmallHarbour$Berths", "add", "(II)I"⟩) ∈ tbg := tb_in (List.mem_append_right _ (List.mem_append_left _ (List.mem_of_getElem? (i := 179) rfl))) rfl
set_option maxRecDepth 20000 in
theorem w_420 : (Cond.selects "SmallHarbour$Berths" ⟨"SmallHarbour$Berths", "add", "(II)I"⟩ ⟨"SmallHarbour$Berths", "add", "(II)I"⟩) ∈ tbg := tb_in (List.mem_append_right _ (List.mem_append_left _ (List.mem_of_getElem? (i := 180) rfl))) rfl
set_option maxRecDepth 20000 in
theorem w_441 : (Cond.code ⟨"SmallHarbour$Berths", "has", "(I)Z"⟩ prog_2_method_2_code 2 (Option.some FieldType.boolean)) ∈ tbg := tb_in (List.mem_append_right _ (List.mem_append_left _ (List.mem_of_getElem? (i := 201) rfl))) rfl
set_option maxRecDepth 20000 in
theorem w_439 : (Cond.instanceMethod ⟨"SmallHarbour$Berths", "has", "(I)Z"⟩) ∈ tbg := tb_in (List.mem_append_right _ (List.mem_append_left _ (List.mem_of_getElem? (i := 199) rfl))) rfl
set_option maxRecDepth 20000 in
theorem w_440 : (Cond.selects "SmallHarbour$Berths" ⟨"SmallHarbour$Berths", "has", "(I)Z"⟩ ⟨"SmallHarbour$Berths", "has", "(I)Z"⟩) ∈ tbg := tb_in (List.mem_append_right _ (List.mem_append_left _ (List.mem_of_getElem? (i := 200) rfl))) rfl
set_option maxRecDepth 20000 in
theorem w_398 : (Cond.code ⟨"SmallHarbour$Berths", "isAnyHeld", "()Z"⟩ prog_2_method_4_code 2 (Option.some FieldType.boolean)) ∈ tbg := tb_in (List.mem_append_right _ (List.mem_append_left _ (List.mem_of_getElem? (i := 158) rfl))) rfl
set_option maxRecDepth 20000 in
theorem w_396 : (Cond.instanceMethod ⟨"SmallHarbour$Berths", "isAnyHeld", "()Z"⟩) ∈ tbg := tb_in (List.mem_append_right _ (List.mem_append_left _ (List.mem_of_getElem? (i := 156) rfl))) rfl
set_option maxRecDepth 20000 in
theorem w_397 : (Cond.selects "SmallHarbour$Berths" ⟨"SmallHarbour$Berths", "isAnyHeld", "()Z"⟩ ⟨"SmallHarbour$Berths", "isAnyHeld", "()Z"⟩) ∈ tbg := tb_in (List.mem_append_right _ (List.mem_append_left _ (List.mem_of_getElem? (i := 157) rfl))) rfl
set_option maxRecDepth 20000 in
theorem w_460 : (Cond.code ⟨"SmallHarbour$Berths", "takes", "(IIII)Z"⟩ prog_2_method_5_code 5 (Option.some FieldType.boolean)) ∈ tbg := tb_in (List.mem_append_right _ (List.mem_append_left _ (List.mem_of_getElem? (i := 220) rfl))) rfl
set_option maxRecDepth 20000 in
theorem w_458 : (Cond.instanceMethod ⟨"SmallHarbour$Berths", "takes", "(IIII)Z"⟩) ∈ tbg := tb_in (List.mem_append_right _ (List.mem_append_left _ (List.mem_of_getElem? (i := 218) rfl))) rfl
set_option maxRecDepth 20000 in
theorem w_459 : (Cond.selects "SmallHarbour$Berths" ⟨"SmallHarbour$Berths", "takes", "(IIII)Z"⟩ ⟨"SmallHarbour$Berths", "takes", "(IIII)Z"⟩) ∈ tbg := tb_in (List.mem_append_right _ (List.mem_append_left _ (List.mem_of_getElem? (i := 219) rfl))) rfl
set_option maxRecDepth 20000 in
theorem w_433 : (Cond.code ⟨"SmallHarbour$Boats", "add", "(IIII)I"⟩ prog_3_method_3_code 5 (Option.some FieldType.int)) ∈ tbg := tb_in (List.mem_append_right _ (List.mem_append_left _ (List.mem_of_getElem? (i := 193) rfl))) rfl
set_option maxRecDepth 20000 in
theorem w_431 : (Cond.instanceMethod ⟨"SmallHarbour$Boats", "add", "(IIII)I"⟩) ∈ tbg := tb_in (List.mem_append_right _ (List.mem_append_left _ (List.mem_of_getElem? (i := 191) rfl))) rfl
set_option maxRecDepth 20000 in
theorem w_432 : (Cond.selects "SmallHarbour$Boats" ⟨"SmallHarbour$Boats", "add", "(IIII)I"⟩ ⟨"SmallHarbour$Boats", "add", "(IIII)I"⟩) ∈ tbg := tb_in (List.mem_append_right _ (List.mem_append_left _ (List.mem_of_getElem? (i := 192) rfl))) rfl
set_option maxRecDepth 20000 in
theorem w_468 : (Cond.code ⟨"SmallHarbour$Boats", "has", "(I)Z"⟩ prog_3_method_2_code 2 (Option.some FieldType.boolean)) ∈ tbg := tb_in (List.mem_append_right _ (List.mem_append_left _ (List.mem_of_getElem? (i := 228) rfl))) rfl
set_option maxRecDepth 20000 in
theorem w_466 : (Cond.instanceMethod ⟨"SmallHarbour$Boats", "has", "(I)Z"⟩) ∈ tbg := tb_in (List.mem_append_right _ (List.mem_append_left _ (List.mem_of_getElem? (i := 226) rfl))) rfl
set_option maxRecDepth 20000 in
theorem w_467 : (Cond.selects "SmallHarbour$Boats" ⟨"SmallHarbour$Boats", "has", "(I)Z"⟩ ⟨"SmallHarbour$Boats", "has", "(I)Z"⟩) ∈ tbg := tb_in (List.mem_append_right _ (List.mem_append_left _ (List.mem_of_getElem? (i := 227) rfl))) rfl
set_option maxRecDepth 20000 in
theorem w_829 : (Cond.code ⟨"SmallHarbour", "about", "(I)I"⟩ prog_1_method_29_code 2 (Option.some FieldType.int)) ∈ tbg := tb_in (List.mem_append_right _ (List.mem_append_right _ (List.mem_append_right _ (List.mem_append_left _ (List.mem_of_getElem? (i := 109) rfl))))) rfl
set_option maxRecDepth 20000 in
theorem w_827 : (Cond.instanceMethod ⟨"SmallHarbour", "about", "(I)I"⟩) ∈ tbg := tb_in (List.mem_append_right _ (List.mem_append_right _ (List.mem_append_right _ (List.mem_append_left _ (List.mem_of_getElem? (i := 107) rfl))))) rfl
set_option maxRecDepth 20000 in
theorem w_828 : (Cond.selects "SmallHarbour" ⟨"SmallHarbour", "about", "(I)I"⟩ ⟨"SmallHarbour", "about", "(I)I"⟩) ∈ tbg := tb_in (List.mem_append_right _ (List.mem_append_right _ (List.mem_append_right _ (List.mem_append_left _ (List.mem_of_getElem? (i := 108) rfl))))) rfl
set_option maxRecDepth 20000 in
theorem w_514 : (Cond.code ⟨"SmallHarbour", "areNights", "(II)Z"⟩ prog_1_method_32_code 2 (Option.some FieldType.boolean)) ∈ tbg := tb_in (List.mem_append_right _ (List.mem_append_right _ (List.mem_append_left _ (List.mem_of_getElem? (i := 34) rfl)))) rfl
set_option maxRecDepth 20000 in
theorem w_518 : (Cond.code ⟨"SmallHarbour$Spans", "add", "(III)Z"⟩ prog_8_method_2_code 4 (Option.some FieldType.boolean)) ∈ tbg := tb_in (List.mem_append_right _ (List.mem_append_right _ (List.mem_append_left _ (List.mem_of_getElem? (i := 38) rfl)))) rfl
set_option maxRecDepth 20000 in
theorem w_516 : (Cond.instanceMethod ⟨"SmallHarbour$Spans", "add", "(III)Z"⟩) ∈ tbg := tb_in (List.mem_append_right _ (List.mem_append_right _ (List.mem_append_left _ (List.mem_of_getElem? (i := 36) rfl)))) rfl
set_option maxRecDepth 20000 in
theorem w_517 : (Cond.selects "SmallHarbour$Spans" ⟨"SmallHarbour$Spans", "add", "(III)Z"⟩ ⟨"SmallHarbour$Spans", "add", "(III)Z"⟩) ∈ tbg := tb_in (List.mem_append_right _ (List.mem_append_right _ (List.mem_append_left _ (List.mem_of_getElem? (i := 37) rfl)))) rfl
set_option maxRecDepth 20000 in
theorem w_503 : (Cond.code ⟨"SmallHarbour$Spans", "nightsAway", "(III)I"⟩ prog_8_method_5_code 6 (Option.some FieldType.int)) ∈ tbg := tb_in (List.mem_append_right _ (List.mem_append_right _ (List.mem_append_left _ (List.mem_of_getElem? (i := 23) rfl)))) rfl
set_option maxRecDepth 20000 in
theorem w_501 : (Cond.instanceMethod ⟨"SmallHarbour$Spans", "nightsAway", "(III)I"⟩) ∈ tbg := tb_in (List.mem_append_right _ (List.mem_append_right _ (List.mem_append_left _ (List.mem_of_getElem? (i := 21) rfl)))) rfl
set_option maxRecDepth 20000 in
theorem w_502 : (Cond.selects "SmallHarbour$Spans" ⟨"SmallHarbour$Spans", "nightsAway", "(III)I"⟩ ⟨"SmallHarbour$Spans", "nightsAway", "(III)I"⟩) ∈ tbg := tb_in (List.mem_append_right _ (List.mem_append_right _ (List.mem_append_left _ (List.mem_of_getElem? (i := 22) rfl)))) rfl
set_option maxRecDepth 20000 in
theorem w_511 : (Cond.code ⟨"SmallHarbour", "away", "(III)Z"⟩ prog_1_method_9_code 4 (Option.some FieldType.boolean)) ∈ tbg := tb_in (List.mem_append_right _ (List.mem_append_right _ (List.mem_append_left _ (List.mem_of_getElem? (i := 31) rfl)))) rfl
set_option maxRecDepth 20000 in
theorem w_509 : (Cond.instanceMethod ⟨"SmallHarbour", "away", "(III)Z"⟩) ∈ tbg := tb_in (List.mem_append_right _ (List.mem_append_right _ (List.mem_append_left _ (List.mem_of_getElem? (i := 29) rfl)))) rfl
set_option maxRecDepth 20000 in
theorem w_510 : (Cond.selects "SmallHarbour" ⟨"SmallHarbour", "away", "(III)Z"⟩ ⟨"SmallHarbour", "away", "(III)Z"⟩) ∈ tbg := tb_in (List.mem_append_right _ (List.mem_append_right _ (List.mem_append_left _ (List.mem_of_getElem? (i := 30) rfl)))) rfl
set_option maxRecDepth 20000 in
theorem w_417 : (Cond.code ⟨"SmallHarbour", "berth", "(II)I"⟩ prog_1_method_4_code 3 (Option.some FieldType.int)) ∈ tbg := tb_in (List.mem_append_right _ (List.mem_append_left _ (List.mem_of_getElem? (i := 177) rfl))) rfl
set_option maxRecDepth 20000 in
theorem w_415 : (Cond.instanceMethod ⟨"SmallHarbour", "berth", "(II)I"⟩) ∈ tbg := tb_in (List.mem_append_right _ (List.mem_append_left _ (List.mem_of_getElem? (i := 175) rfl))) rfl
set_option maxRecDepth 20000 in
theorem w_416 : (Cond.selects "SmallHarbour" ⟨"SmallHarbour", "berth", "(II)I"⟩ ⟨"SmallHarbour", "berth", "(II)I"⟩) ∈ tbg := tb_in (List.mem_append_right _ (List.mem_append_left _ (List.mem_of_getElem? (i := 176) rfl))) rfl
set_option maxRecDepth 20000 in
theorem w_475 : (Cond.code ⟨"SmallHarbour", "isDay", "(I)Z"⟩ prog_1_method_31_code 1 (Option.some FieldType.boolean)) ∈ tbg := tb_in (List.mem_append_right _ (List.mem_append_left _ (List.mem_of_getElem? (i := 235) rfl))) rfl
set_option maxRecDepth 20000 in
theorem w_479 : (Cond.code ⟨"SmallHarbour$Spans", "find", "(II)I"⟩ prog_8_method_4_code 4 (Option.some FieldType.int)) ∈ tbg := tb_in (List.mem_append_right _ (List.mem_append_left _ (List.mem_of_getElem? (i := 239) rfl))) rfl
set_option maxRecDepth 20000 in
theorem w_477 : (Cond.instanceMethod ⟨"SmallHarbour$Spans", "find", "(II)I"⟩) ∈ tbg := tb_in (List.mem_append_right _ (List.mem_append_left _ (List.mem_of_getElem? (i := 237) rfl))) rfl
set_option maxRecDepth 20000 in
theorem w_478 : (Cond.selects "SmallHarbour$Spans" ⟨"SmallHarbour$Spans", "find", "(II)I"⟩ ⟨"SmallHarbour$Spans", "find", "(II)I"⟩) ∈ tbg := tb_in (List.mem_append_right _ (List.mem_append_left _ (List.mem_of_getElem? (i := 238) rfl))) rfl
set_option maxRecDepth 20000 in
theorem w_483 : (Cond.code ⟨"SmallHarbour$Stays", "ofBoat", "(III)I"⟩ prog_9_method_5_code 5 (Option.some FieldType.int)) ∈ tbg := tb_in (List.mem_append_right _ (List.mem_append_right _ (List.mem_append_left _ (List.mem_of_getElem? (i := 3) rfl)))) rfl
set_option maxRecDepth 20000 in
theorem w_481 : (Cond.instanceMethod ⟨"SmallHarbour$Stays", "ofBoat", "(III)I"⟩) ∈ tbg := tb_in (List.mem_append_right _ (List.mem_append_right _ (List.mem_append_left _ (List.mem_of_getElem? (i := 1) rfl)))) rfl
set_option maxRecDepth 20000 in
theorem w_482 : (Cond.selects "SmallHarbour$Stays" ⟨"SmallHarbour$Stays", "ofBoat", "(III)I"⟩ ⟨"SmallHarbour$Stays", "ofBoat", "(III)I"⟩) ∈ tbg := tb_in (List.mem_append_right _ (List.mem_append_right _ (List.mem_append_left _ (List.mem_of_getElem? (i := 2) rfl)))) rfl
set_option maxRecDepth 20000 in
theorem w_472 : (Cond.code ⟨"SmallHarbour", "berthOf", "(II)I"⟩ prog_1_method_38_code 5 (Option.some FieldType.int)) ∈ tbg := tb_in (List.mem_append_right _ (List.mem_append_left _ (List.mem_of_getElem? (i := 232) rfl))) rfl
set_option maxRecDepth 20000 in
theorem w_471 : (Cond.instanceMethod ⟨"SmallHarbour", "berthOf", "(II)I"⟩) ∈ tbg := tb_in (List.mem_append_right _ (List.mem_append_left _ (List.mem_of_getElem? (i := 231) rfl))) rfl
set_option maxRecDepth 20000 in
theorem w_s1_2 : (Cond.selects "SmallHarbour" ⟨"SmallHarbour", "berthOf", "(II)I"⟩ ⟨"SmallHarbour", "berthOf", "(II)I"⟩) ∈ tbg := tb_sel (List.mem_map_of_mem (f := fun q : MethodName × Nat => Cond.selects q.1.cls q.1 q.1) (a := (⟨"SmallHarbour", "berthOf", "(II)I"⟩, 13)) (List.mem_append_left _ (List.mem_of_getElem? (i := 2) rfl))) rfl
set_option maxRecDepth 20000 in
theorem w_619 : (Cond.code ⟨"SmallHarbour$Rules", "inForce", "(I)I"⟩ prog_6_method_3_code 4 (Option.some FieldType.int)) ∈ tbg := tb_in (List.mem_append_right _ (List.mem_append_right _ (List.mem_append_left _ (List.mem_of_getElem? (i := 139) rfl)))) rfl
set_option maxRecDepth 20000 in
theorem w_617 : (Cond.instanceMethod ⟨"SmallHarbour$Rules", "inForce", "(I)I"⟩) ∈ tbg := tb_in (List.mem_append_right _ (List.mem_append_right _ (List.mem_append_left _ (List.mem_of_getElem? (i := 137) rfl)))) rfl
set_option maxRecDepth 20000 in
theorem w_618 : (Cond.selects "SmallHarbour$Rules" ⟨"SmallHarbour$Rules", "inForce", "(I)I"⟩ ⟨"SmallHarbour$Rules", "inForce", "(I)I"⟩) ∈ tbg := tb_in (List.mem_append_right _ (List.mem_append_right _ (List.mem_append_left _ (List.mem_of_getElem? (i := 138) rfl)))) rfl
set_option maxRecDepth 20000 in
theorem w_635 : (Cond.code ⟨"SmallHarbour$Rules", "pop", "()I"⟩ prog_6_method_8_code 1 (Option.some FieldType.int)) ∈ tbg := tb_in (List.mem_append_right _ (List.mem_append_right _ (List.mem_append_left _ (List.mem_of_getElem? (i := 155) rfl)))) rfl
set_option maxRecDepth 20000 in
theorem w_634 : (Cond.instanceMethod ⟨"SmallHarbour$Rules", "pop", "()I"⟩) ∈ tbg := tb_in (List.mem_append_right _ (List.mem_append_right _ (List.mem_append_left _ (List.mem_of_getElem? (i := 154) rfl)))) rfl
set_option maxRecDepth 20000 in
theorem w_s1_13 : (Cond.selects "SmallHarbour$Rules" ⟨"SmallHarbour$Rules", "pop", "()I"⟩ ⟨"SmallHarbour$Rules", "pop", "()I"⟩) ∈ tbg := tb_sel (List.mem_map_of_mem (f := fun q : MethodName × Nat => Cond.selects q.1.cls q.1 q.1) (a := (⟨"SmallHarbour$Rules", "pop", "()I"⟩, 6)) (List.mem_append_left _ (List.mem_of_getElem? (i := 13) rfl))) rfl
set_option maxRecDepth 20000 in
theorem w_627 : (Cond.code ⟨"SmallHarbour$Rules", "push", "(I)V"⟩ prog_6_method_7_code 2 (Option.none : Option FieldType)) ∈ tbg := tb_in (List.mem_append_right _ (List.mem_append_right _ (List.mem_append_left _ (List.mem_of_getElem? (i := 147) rfl)))) rfl
set_option maxRecDepth 20000 in
theorem w_626 : (Cond.instanceMethod ⟨"SmallHarbour$Rules", "push", "(I)V"⟩) ∈ tbg := tb_in (List.mem_append_right _ (List.mem_append_right _ (List.mem_append_left _ (List.mem_of_getElem? (i := 146) rfl)))) rfl
set_option maxRecDepth 20000 in
theorem w_s1_11 : (Cond.selects "SmallHarbour$Rules" ⟨"SmallHarbour$Rules", "push", "(I)V"⟩ ⟨"SmallHarbour$Rules", "push", "(I)V"⟩) ∈ tbg := tb_sel (List.mem_map_of_mem (f := fun q : MethodName × Nat => Cond.selects q.1.cls q.1 q.1) (a := (⟨"SmallHarbour$Rules", "push", "(I)V"⟩, 6)) (List.mem_append_left _ (List.mem_of_getElem? (i := 11) rfl))) rfl
set_option maxRecDepth 20000 in
theorem w_638 : (Cond.code ⟨"SmallHarbour$Rules", "join", "(III)I"⟩ prog_6_method_6_code 3 (Option.some FieldType.int)) ∈ tbg := tb_in (List.mem_append_right _ (List.mem_append_right _ (List.mem_append_left _ (List.mem_of_getElem? (i := 158) rfl)))) rfl
set_option maxRecDepth 20000 in
theorem w_631 : (Cond.code ⟨"SmallHarbour$Rules", "workOn", "(I)V"⟩ prog_6_method_5_code 4 (Option.none : Option FieldType)) ∈ tbg := tb_in (List.mem_append_right _ (List.mem_append_right _ (List.mem_append_left _ (List.mem_of_getElem? (i := 151) rfl)))) rfl
set_option maxRecDepth 20000 in
theorem w_630 : (Cond.instanceMethod ⟨"SmallHarbour$Rules", "workOn", "(I)V"⟩) ∈ tbg := tb_in (List.mem_append_right _ (List.mem_append_right _ (List.mem_append_left _ (List.mem_of_getElem? (i := 150) rfl)))) rfl
set_option maxRecDepth 20000 in
theorem w_s1_12 : (Cond.selects "SmallHarbour$Rules" ⟨"SmallHarbour$Rules", "workOn", "(I)V"⟩ ⟨"SmallHarbour$Rules", "workOn", "(I)V"⟩) ∈ tbg := tb_sel (List.mem_map_of_mem (f := fun q : MethodName × Nat => Cond.selects q.1.cls q.1 q.1) (a := (⟨"SmallHarbour$Rules", "workOn", "(I)V"⟩, 6)) (List.mem_append_left _ (List.mem_of_getElem? (i := 12) rfl))) rfl
set_option maxRecDepth 20000 in
theorem w_623 : (Cond.code ⟨"SmallHarbour$Rules", "reckon", "(IIII)I"⟩ prog_6_method_4_code 8 (Option.some FieldType.int)) ∈ tbg := tb_in (List.mem_append_right _ (List.mem_append_right _ (List.mem_append_left _ (List.mem_of_getElem? (i := 143) rfl)))) rfl
set_option maxRecDepth 20000 in
theorem w_621 : (Cond.instanceMethod ⟨"SmallHarbour$Rules", "reckon", "(IIII)I"⟩) ∈ tbg := tb_in (List.mem_append_right _ (List.mem_append_right _ (List.mem_append_left _ (List.mem_of_getElem? (i := 141) rfl)))) rfl
set_option maxRecDepth 20000 in
theorem w_622 : (Cond.selects "SmallHarbour$Rules" ⟨"SmallHarbour$Rules", "reckon", "(IIII)I"⟩ ⟨"SmallHarbour$Rules", "reckon", "(IIII)I"⟩) ∈ tbg := tb_in (List.mem_append_right _ (List.mem_append_right _ (List.mem_append_left _ (List.mem_of_getElem? (i := 142) rfl)))) rfl
set_option maxRecDepth 20000 in
theorem w_615 : (Cond.code ⟨"SmallHarbour", "billOf", "(I)I"⟩ prog_1_method_42_code 4 (Option.some FieldType.int)) ∈ tbg := tb_in (List.mem_append_right _ (List.mem_append_right _ (List.mem_append_left _ (List.mem_of_getElem? (i := 135) rfl)))) rfl
set_option maxRecDepth 20000 in
theorem w_614 : (Cond.instanceMethod ⟨"SmallHarbour", "billOf", "(I)I"⟩) ∈ tbg := tb_in (List.mem_append_right _ (List.mem_append_right _ (List.mem_append_left _ (List.mem_of_getElem? (i := 134) rfl)))) rfl
set_option maxRecDepth 20000 in
theorem w_s1_10 : (Cond.selects "SmallHarbour" ⟨"SmallHarbour", "billOf", "(I)I"⟩ ⟨"SmallHarbour", "billOf", "(I)I"⟩) ∈ tbg := tb_sel (List.mem_map_of_mem (f := fun q : MethodName × Nat => Cond.selects q.1.cls q.1 q.1) (a := (⟨"SmallHarbour", "billOf", "(I)I"⟩, 13)) (List.mem_append_left _ (List.mem_of_getElem? (i := 10) rfl))) rfl
set_option maxRecDepth 20000 in
theorem w_445 : (Cond.code ⟨"SmallHarbour$Stays", "atBerth", "(III)I"⟩ prog_9_method_4_code 5 (Option.some FieldType.int)) ∈ tbg := tb_in (List.mem_append_right _ (List.mem_append_left _ (List.mem_of_getElem? (i := 205) rfl))) rfl
set_option maxRecDepth 20000 in
theorem w_443 : (Cond.instanceMethod ⟨"SmallHarbour$Stays", "atBerth", "(III)I"⟩) ∈ tbg := tb_in (List.mem_append_right _ (List.mem_append_left _ (List.mem_of_getElem? (i := 203) rfl))) rfl
set_option maxRecDepth 20000 in
theorem w_444 : (Cond.selects "SmallHarbour$Stays" ⟨"SmallHarbour$Stays", "atBerth", "(III)I"⟩ ⟨"SmallHarbour$Stays", "atBerth", "(III)I"⟩) ∈ tbg := tb_in (List.mem_append_right _ (List.mem_append_left _ (List.mem_of_getElem? (i := 204) rfl))) rfl
set_option maxRecDepth 20000 in
theorem w_456 : (Cond.code ⟨"SmallHarbour$Tide", "on", "(I)I"⟩ prog_11_method_4_code 2 (Option.some FieldType.int)) ∈ tbg := tb_in (List.mem_append_right _ (List.mem_append_left _ (List.mem_of_getElem? (i := 216) rfl))) rfl
set_option maxRecDepth 20000 in
theorem w_454 : (Cond.instanceMethod ⟨"SmallHarbour$Tide", "on", "(I)I"⟩) ∈ tbg := tb_in (List.mem_append_right _ (List.mem_append_left _ (List.mem_of_getElem? (i := 214) rfl))) rfl
set_option maxRecDepth 20000 in
theorem w_455 : (Cond.selects "SmallHarbour$Tide" ⟨"SmallHarbour$Tide", "on", "(I)I"⟩ ⟨"SmallHarbour$Tide", "on", "(I)I"⟩) ∈ tbg := tb_in (List.mem_append_right _ (List.mem_append_left _ (List.mem_of_getElem? (i := 215) rfl))) rfl
set_option maxRecDepth 20000 in
theorem w_449 : (Cond.code ⟨"SmallHarbour$Tide", "lowest", "(II)I"⟩ prog_11_method_5_code 6 (Option.some FieldType.int)) ∈ tbg := tb_in (List.mem_append_right _ (List.mem_append_left _ (List.mem_of_getElem? (i := 209) rfl))) rfl
set_option maxRecDepth 20000 in
theorem w_447 : (Cond.instanceMethod ⟨"SmallHarbour$Tide", "lowest", "(II)I"⟩) ∈ tbg := tb_in (List.mem_append_right _ (List.mem_append_left _ (List.mem_of_getElem? (i := 207) rfl))) rfl
set_option maxRecDepth 20000 in
theorem w_448 : (Cond.selects "SmallHarbour$Tide" ⟨"SmallHarbour$Tide", "lowest", "(II)I"⟩ ⟨"SmallHarbour$Tide", "lowest", "(II)I"⟩) ∈ tbg := tb_in (List.mem_append_right _ (List.mem_append_left _ (List.mem_of_getElem? (i := 208) rfl))) rfl
set_option maxRecDepth 20000 in
theorem w_437 : (Cond.code ⟨"SmallHarbour", "canBeHome", "(III)Z"⟩ prog_1_method_34_code 4 (Option.some FieldType.boolean)) ∈ tbg := tb_in (List.mem_append_right _ (List.mem_append_left _ (List.mem_of_getElem? (i := 197) rfl))) rfl
set_option maxRecDepth 20000 in
theorem w_436 : (Cond.instanceMethod ⟨"SmallHarbour", "canBeHome", "(III)Z"⟩) ∈ tbg := tb_in (List.mem_append_right _ (List.mem_append_left _ (List.mem_of_getElem? (i := 196) rfl))) rfl
set_option maxRecDepth 20000 in
theorem w_s1_1 : (Cond.selects "SmallHarbour" ⟨"SmallHarbour", "canBeHome", "(III)Z"⟩ ⟨"SmallHarbour", "canBeHome", "(III)Z"⟩) ∈ tbg := tb_sel (List.mem_map_of_mem (f := fun q : MethodName × Nat => Cond.selects q.1.cls q.1 q.1) (a := (⟨"SmallHarbour", "canBeHome", "(III)Z"⟩, 13)) (List.mem_append_left _ (List.mem_of_getElem? (i := 1) rfl))) rfl
set_option maxRecDepth 20000 in
theorem w_428 : (Cond.code ⟨"SmallHarbour", "boat", "(IIII)I"⟩ prog_1_method_5_code 6 (Option.some FieldType.int)) ∈ tbg := tb_in (List.mem_append_right _ (List.mem_append_left _ (List.mem_of_getElem? (i := 188) rfl))) rfl
set_option maxRecDepth 20000 in
theorem w_426 : (Cond.instanceMethod ⟨"SmallHarbour", "boat", "(IIII)I"⟩) ∈ tbg := tb_in (List.mem_append_right _ (List.mem_append_left _ (List.mem_of_getElem? (i := 186) rfl))) rfl
set_option maxRecDepth 20000 in
theorem w_427 : (Cond.selects "SmallHarbour" ⟨"SmallHarbour", "boat", "(IIII)I"⟩ ⟨"SmallHarbour", "boat", "(IIII)I"⟩) ∈ tbg := tb_in (List.mem_append_right _ (List.mem_append_left _ (List.mem_of_getElem? (i := 187) rfl))) rfl
set_option maxRecDepth 20000 in
theorem w_464 : (Cond.code ⟨"SmallHarbour", "boatOf", "(II)I"⟩ prog_1_method_6_code 3 (Option.some FieldType.int)) ∈ tbg := tb_in (List.mem_append_right _ (List.mem_append_left _ (List.mem_of_getElem? (i := 224) rfl))) rfl
set_option maxRecDepth 20000 in
theorem w_462 : (Cond.instanceMethod ⟨"SmallHarbour", "boatOf", "(II)I"⟩) ∈ tbg := tb_in (List.mem_append_right _ (List.mem_append_left _ (List.mem_of_getElem? (i := 222) rfl))) rfl
set_option maxRecDepth 20000 in
theorem w_463 : (Cond.selects "SmallHarbour" ⟨"SmallHarbour", "boatOf", "(II)I"⟩ ⟨"SmallHarbour", "boatOf", "(II)I"⟩) ∈ tbg := tb_in (List.mem_append_right _ (List.mem_append_left _ (List.mem_of_getElem? (i := 223) rfl))) rfl
set_option maxRecDepth 20000 in
theorem w_651 : (Cond.code ⟨"SmallHarbour", "broken", "(IZ)Z"⟩ prog_1_method_16_code 3 (Option.some FieldType.boolean)) ∈ tbg := tb_in (List.mem_append_right _ (List.mem_append_right _ (List.mem_append_left _ (List.mem_of_getElem? (i := 171) rfl)))) rfl
set_option maxRecDepth 20000 in
theorem w_649 : (Cond.instanceMethod ⟨"SmallHarbour", "broken", "(IZ)Z"⟩) ∈ tbg := tb_in (List.mem_append_right _ (List.mem_append_right _ (List.mem_append_left _ (List.mem_of_getElem? (i := 169) rfl)))) rfl
set_option maxRecDepth 20000 in
theorem w_650 : (Cond.selects "SmallHarbour" ⟨"SmallHarbour", "broken", "(IZ)Z"⟩ ⟨"SmallHarbour", "broken", "(IZ)Z"⟩) ∈ tbg := tb_in (List.mem_append_right _ (List.mem_append_right _ (List.mem_append_left _ (List.mem_of_getElem? (i := 170) rfl)))) rfl
set_option maxRecDepth 20000 in
theorem w_491 : (Cond.code ⟨"SmallHarbour", "fitsAllNights", "(IIII)Z"⟩ prog_1_method_35_code 5 (Option.some FieldType.boolean)) ∈ tbg := tb_in (List.mem_append_right _ (List.mem_append_right _ (List.mem_append_left _ (List.mem_of_getElem? (i := 11) rfl)))) rfl
set_option maxRecDepth 20000 in
theorem w_490 : (Cond.instanceMethod ⟨"SmallHarbour", "fitsAllNights", "(IIII)Z"⟩) ∈ tbg := tb_in (List.mem_append_right _ (List.mem_append_right _ (List.mem_append_left _ (List.mem_of_getElem? (i := 10) rfl)))) rfl
set_option maxRecDepth 20000 in
theorem w_s1_3 : (Cond.selects "SmallHarbour" ⟨"SmallHarbour", "fitsAllNights", "(IIII)Z"⟩ ⟨"SmallHarbour", "fitsAllNights", "(IIII)Z"⟩) ∈ tbg := tb_sel (List.mem_map_of_mem (f := fun q : MethodName × Nat => Cond.selects q.1.cls q.1 q.1) (a := (⟨"SmallHarbour", "fitsAllNights", "(IIII)Z"⟩, 13)) (List.mem_append_left _ (List.mem_of_getElem? (i := 3) rfl))) rfl
set_option maxRecDepth 20000 in
theorem w_499 : (Cond.code ⟨"SmallHarbour", "isOwnerThere", "(III)Z"⟩ prog_1_method_36_code 5 (Option.some FieldType.boolean)) ∈ tbg := tb_in (List.mem_append_right _ (List.mem_append_right _ (List.mem_append_left _ (List.mem_of_getElem? (i := 19) rfl)))) rfl
set_option maxRecDepth 20000 in
theorem w_498 : (Cond.instanceMethod ⟨"SmallHarbour", "isOwnerThere", "(III)Z"⟩) ∈ tbg := tb_in (List.mem_append_right _ (List.mem_append_right _ (List.mem_append_left _ (List.mem_of_getElem? (i := 18) rfl)))) rfl
set_option maxRecDepth 20000 in
theorem w_s1_4 : (Cond.selects "SmallHarbour" ⟨"SmallHarbour", "isOwnerThere", "(III)Z"⟩ ⟨"SmallHarbour", "isOwnerThere", "(III)Z"⟩) ∈ tbg := tb_sel (List.mem_map_of_mem (f := fun q : MethodName × Nat => Cond.selects q.1.cls q.1 q.1) (a := (⟨"SmallHarbour", "isOwnerThere", "(III)Z"⟩, 13)) (List.mem_append_left _ (List.mem_of_getElem? (i := 4) rfl))) rfl
set_option maxRecDepth 20000 in
theorem w_526 : (Cond.code ⟨"SmallHarbour", "canLie", "(IIII)Z"⟩ prog_1_method_37_code 5 (Option.some FieldType.boolean)) ∈ tbg := tb_in (List.mem_append_right _ (List.mem_append_right _ (List.mem_append_left _ (List.mem_of_getElem? (i := 46) rfl)))) rfl
set_option maxRecDepth 20000 in
theorem w_525 : (Cond.instanceMethod ⟨"SmallHarbour", "canLie", "(IIII)Z"⟩) ∈ tbg := tb_in (List.mem_append_right _ (List.mem_append_right _ (List.mem_append_left _ (List.mem_of_getElem? (i := 45) rfl)))) rfl
set_option maxRecDepth 20000 in
theorem w_s1_5 : (Cond.selects "SmallHarbour" ⟨"SmallHarbour", "canLie", "(IIII)Z"⟩ ⟨"SmallHarbour", "canLie", "(IIII)Z"⟩) ∈ tbg := tb_sel (List.mem_map_of_mem (f := fun q : MethodName × Nat => Cond.selects q.1.cls q.1 q.1) (a := (⟨"SmallHarbour", "canLie", "(IIII)Z"⟩, 13)) (List.mem_append_left _ (List.mem_of_getElem? (i := 5) rfl))) rfl
set_option maxRecDepth 20000 in
theorem w_530 : (Cond.code ⟨"SmallHarbour$Stays", "add", "(IIII)I"⟩ prog_9_method_3_code 5 (Option.some FieldType.int)) ∈ tbg := tb_in (List.mem_append_right _ (List.mem_append_right _ (List.mem_append_left _ (List.mem_of_getElem? (i := 50) rfl)))) rfl
set_option maxRecDepth 20000 in
theorem w_528 : (Cond.instanceMethod ⟨"SmallHarbour$Stays", "add", "(IIII)I"⟩) ∈ tbg := tb_in (List.mem_append_right _ (List.mem_append_right _ (List.mem_append_left _ (List.mem_of_getElem? (i := 48) rfl)))) rfl
set_option maxRecDepth 20000 in
theorem w_529 : (Cond.selects "SmallHarbour$Stays" ⟨"SmallHarbour$Stays", "add", "(IIII)I"⟩ ⟨"SmallHarbour$Stays", "add", "(IIII)I"⟩) ∈ tbg := tb_in (List.mem_append_right _ (List.mem_append_right _ (List.mem_append_left _ (List.mem_of_getElem? (i := 49) rfl)))) rfl
set_option maxRecDepth 20000 in
theorem w_594 : (Cond.code ⟨"SmallHarbour$Walk", "isMoved", "(I)Z"⟩ prog_12_method_8_code 2 (Option.some FieldType.boolean)) ∈ tbg := tb_in (List.mem_append_right _ (List.mem_append_right _ (List.mem_append_left _ (List.mem_of_getElem? (i := 114) rfl)))) rfl
set_option maxRecDepth 20000 in
theorem w_592 : (Cond.instanceMethod ⟨"SmallHarbour$Walk", "isMoved", "(I)Z"⟩) ∈ tbg := tb_in (List.mem_append_right _ (List.mem_append_right _ (List.mem_append_left _ (List.mem_of_getElem? (i := 112) rfl)))) rfl
set_option maxRecDepth 20000 in
theorem w_593 : (Cond.selects "SmallHarbour$Walk" ⟨"SmallHarbour$Walk", "isMoved", "(I)Z"⟩ ⟨"SmallHarbour$Walk", "isMoved", "(I)Z"⟩) ∈ tbg := tb_in (List.mem_append_right _ (List.mem_append_right _ (List.mem_append_left _ (List.mem_of_getElem? (i := 113) rfl)))) rfl
set_option maxRecDepth 20000 in
theorem w_598 : (Cond.code ⟨"SmallHarbour", "carryOut", "(I)V"⟩ prog_1_method_41_code 5 (Option.none : Option FieldType)) ∈ tbg := tb_in (List.mem_append_right _ (List.mem_append_right _ (List.mem_append_left _ (List.mem_of_getElem? (i := 118) rfl)))) rfl
set_option maxRecDepth 20000 in
theorem w_597 : (Cond.instanceMethod ⟨"SmallHarbour", "carryOut", "(I)V"⟩) ∈ tbg := tb_in (List.mem_append_right _ (List.mem_append_right _ (List.mem_append_left _ (List.mem_of_getElem? (i := 117) rfl)))) rfl
set_option maxRecDepth 20000 in
theorem w_s1_9 : (Cond.selects "SmallHarbour" ⟨"SmallHarbour", "carryOut", "(I)V"⟩ ⟨"SmallHarbour", "carryOut", "(I)V"⟩) ∈ tbg := tb_sel (List.mem_map_of_mem (f := fun q : MethodName × Nat => Cond.selects q.1.cls q.1 q.1) (a := (⟨"SmallHarbour", "carryOut", "(I)V"⟩, 13)) (List.mem_append_left _ (List.mem_of_getElem? (i := 9) rfl))) rfl
set_option maxRecDepth 20000 in
theorem w_728 : (Cond.code ⟨"SmallHarbour", "end", "(I)I"⟩ prog_1_method_24_code 2 (Option.some FieldType.int)) ∈ tbg := tb_in (List.mem_append_right _ (List.mem_append_right _ (List.mem_append_right _ (List.mem_append_left _ (List.mem_of_getElem? (i := 8) rfl))))) rfl
set_option maxRecDepth 20000 in
theorem w_726 : (Cond.instanceMethod ⟨"SmallHarbour", "end", "(I)I"⟩) ∈ tbg := tb_in (List.mem_append_right _ (List.mem_append_right _ (List.mem_append_right _ (List.mem_append_left _ (List.mem_of_getElem? (i := 6) rfl))))) rfl
set_option maxRecDepth 20000 in
theorem w_727 : (Cond.selects "SmallHarbour" ⟨"SmallHarbour", "end", "(I)I"⟩ ⟨"SmallHarbour", "end", "(I)I"⟩) ∈ tbg := tb_in (List.mem_append_right _ (List.mem_append_right _ (List.mem_append_right _ (List.mem_append_left _ (List.mem_of_getElem? (i := 7) rfl))))) rfl
set_option maxRecDepth 20000 in
theorem w_817 : (Cond.code ⟨"SmallHarbour", "fault", "(I)I"⟩ prog_1_method_26_code 2 (Option.some FieldType.int)) ∈ tbg := tb_in (List.mem_append_right _ (List.mem_append_right _ (List.mem_append_right _ (List.mem_append_left _ (List.mem_of_getElem? (i := 97) rfl))))) rfl
set_option maxRecDepth 20000 in
theorem w_815 : (Cond.instanceMethod ⟨"SmallHarbour", "fault", "(I)I"⟩) ∈ tbg := tb_in (List.mem_append_right _ (List.mem_append_right _ (List.mem_append_right _ (List.mem_append_left _ (List.mem_of_getElem? (i := 95) rfl))))) rfl
set_option maxRecDepth 20000 in
theorem w_816 : (Cond.selects "SmallHarbour" ⟨"SmallHarbour", "fault", "(I)I"⟩ ⟨"SmallHarbour", "fault", "(I)I"⟩) ∈ tbg := tb_in (List.mem_append_right _ (List.mem_append_right _ (List.mem_append_right _ (List.mem_append_left _ (List.mem_of_getElem? (i := 96) rfl))))) rfl
set_option maxRecDepth 20000 in
theorem w_724 : (Cond.code ⟨"SmallHarbour$Tape", "addFour", "(I)V"⟩ prog_10_method_2_code 3 (Option.none : Option FieldType)) ∈ tbg := tb_in (List.mem_append_right _ (List.mem_append_right _ (List.mem_append_right _ (List.mem_append_left _ (List.mem_of_getElem? (i := 4) rfl))))) rfl
set_option maxRecDepth 20000 in
theorem w_722 : (Cond.instanceMethod ⟨"SmallHarbour$Tape", "addFour", "(I)V"⟩) ∈ tbg := tb_in (List.mem_append_right _ (List.mem_append_right _ (List.mem_append_right _ (List.mem_append_left _ (List.mem_of_getElem? (i := 2) rfl))))) rfl
set_option maxRecDepth 20000 in
theorem w_723 : (Cond.selects "SmallHarbour$Tape" ⟨"SmallHarbour$Tape", "addFour", "(I)V"⟩ ⟨"SmallHarbour$Tape", "addFour", "(I)V"⟩) ∈ tbg := tb_in (List.mem_append_right _ (List.mem_append_right _ (List.mem_append_right _ (List.mem_append_left _ (List.mem_of_getElem? (i := 3) rfl))))) rfl
set_option maxRecDepth 20000 in
theorem w_720 : (Cond.code ⟨"SmallHarbour", "feed", "(IIIII)I"⟩ prog_1_method_23_code 6 (Option.some FieldType.int)) ∈ tbg := tb_in (List.mem_append_right _ (List.mem_append_right _ (List.mem_append_right _ (List.mem_append_left _ (List.mem_of_getElem? (i := 0) rfl))))) rfl
set_option maxRecDepth 20000 in
theorem w_718 : (Cond.instanceMethod ⟨"SmallHarbour", "feed", "(IIIII)I"⟩) ∈ tbg := tb_in (List.mem_append_right _ (List.mem_append_right _ (List.mem_append_left _ (List.mem_of_getElem? (i := 238) rfl)))) rfl
set_option maxRecDepth 20000 in
theorem w_719 : (Cond.selects "SmallHarbour" ⟨"SmallHarbour", "feed", "(IIIII)I"⟩ ⟨"SmallHarbour", "feed", "(IIIII)I"⟩) ∈ tbg := tb_in (List.mem_append_right _ (List.mem_append_right _ (List.mem_append_left _ (List.mem_of_getElem? (i := 239) rfl)))) rfl
set_option maxRecDepth 20000 in
theorem w_561 : (Cond.code ⟨"SmallHarbour$Walk", "add", "(IIII)V"⟩ prog_12_method_3_code 6 (Option.none : Option FieldType)) ∈ tbg := tb_in (List.mem_append_right _ (List.mem_append_right _ (List.mem_append_left _ (List.mem_of_getElem? (i := 81) rfl)))) rfl
set_option maxRecDepth 20000 in
theorem w_559 : (Cond.instanceMethod ⟨"SmallHarbour$Walk", "add", "(IIII)V"⟩) ∈ tbg := tb_in (List.mem_append_right _ (List.mem_append_right _ (List.mem_append_left _ (List.mem_of_getElem? (i := 79) rfl)))) rfl
set_option maxRecDepth 20000 in
theorem w_560 : (Cond.selects "SmallHarbour$Walk" ⟨"SmallHarbour$Walk", "add", "(IIII)V"⟩ ⟨"SmallHarbour$Walk", "add", "(IIII)V"⟩) ∈ tbg := tb_in (List.mem_append_right _ (List.mem_append_right _ (List.mem_append_left _ (List.mem_of_getElem? (i := 80) rfl)))) rfl
set_option maxRecDepth 20000 in
theorem w_565 : (Cond.code ⟨"SmallHarbour$Walk", "allow", "(I)V"⟩ prog_12_method_4_code 2 (Option.none : Option FieldType)) ∈ tbg := tb_in (List.mem_append_right _ (List.mem_append_right _ (List.mem_append_left _ (List.mem_of_getElem? (i := 85) rfl)))) rfl
set_option maxRecDepth 20000 in
theorem w_563 : (Cond.instanceMethod ⟨"SmallHarbour$Walk", "allow", "(I)V"⟩) ∈ tbg := tb_in (List.mem_append_right _ (List.mem_append_right _ (List.mem_append_left _ (List.mem_of_getElem? (i := 83) rfl)))) rfl
set_option maxRecDepth 20000 in
theorem w_564 : (Cond.selects "SmallHarbour$Walk" ⟨"SmallHarbour$Walk", "allow", "(I)V"⟩ ⟨"SmallHarbour$Walk", "allow", "(I)V"⟩) ∈ tbg := tb_in (List.mem_append_right _ (List.mem_append_right _ (List.mem_append_left _ (List.mem_of_getElem? (i := 84) rfl)))) rfl
set_option maxRecDepth 20000 in
theorem w_554 : (Cond.code ⟨"SmallHarbour$Walk", "restart", "(I)V"⟩ prog_12_method_2_code 2 (Option.none : Option FieldType)) ∈ tbg := tb_in (List.mem_append_right _ (List.mem_append_right _ (List.mem_append_left _ (List.mem_of_getElem? (i := 74) rfl)))) rfl
set_option maxRecDepth 20000 in
theorem w_552 : (Cond.instanceMethod ⟨"SmallHarbour$Walk", "restart", "(I)V"⟩) ∈ tbg := tb_in (List.mem_append_right _ (List.mem_append_right _ (List.mem_append_left _ (List.mem_of_getElem? (i := 72) rfl)))) rfl
set_option maxRecDepth 20000 in
theorem w_553 : (Cond.selects "SmallHarbour$Walk" ⟨"SmallHarbour$Walk", "restart", "(I)V"⟩ ⟨"SmallHarbour$Walk", "restart", "(I)V"⟩) ∈ tbg := tb_in (List.mem_append_right _ (List.mem_append_right _ (List.mem_append_left _ (List.mem_of_getElem? (i := 73) rfl)))) rfl
set_option maxRecDepth 20000 in
theorem w_550 : (Cond.code ⟨"SmallHarbour", "lineUp", "(I)Z"⟩ prog_1_method_40_code 5 (Option.some FieldType.boolean)) ∈ tbg := tb_in (List.mem_append_right _ (List.mem_append_right _ (List.mem_append_left _ (List.mem_of_getElem? (i := 70) rfl)))) rfl
set_option maxRecDepth 20000 in
theorem w_549 : (Cond.instanceMethod ⟨"SmallHarbour", "lineUp", "(I)Z"⟩) ∈ tbg := tb_in (List.mem_append_right _ (List.mem_append_right _ (List.mem_append_left _ (List.mem_of_getElem? (i := 69) rfl)))) rfl
set_option maxRecDepth 20000 in
theorem w_s1_7 : (Cond.selects "SmallHarbour" ⟨"SmallHarbour", "lineUp", "(I)Z"⟩ ⟨"SmallHarbour", "lineUp", "(I)Z"⟩) ∈ tbg := tb_sel (List.mem_map_of_mem (f := fun q : MethodName × Nat => Cond.selects q.1.cls q.1 q.1) (a := (⟨"SmallHarbour", "lineUp", "(I)Z"⟩, 13)) (List.mem_append_left _ (List.mem_of_getElem? (i := 7) rfl))) rfl
set_option maxRecDepth 20000 in
theorem w_586 : (Cond.code ⟨"SmallHarbour$Walk", "isFound", "()Z"⟩ prog_12_method_7_code 1 (Option.some FieldType.boolean)) ∈ tbg := tb_in (List.mem_append_right _ (List.mem_append_right _ (List.mem_append_left _ (List.mem_of_getElem? (i := 106) rfl)))) rfl
set_option maxRecDepth 20000 in
theorem w_584 : (Cond.instanceMethod ⟨"SmallHarbour$Walk", "isFound", "()Z"⟩) ∈ tbg := tb_in (List.mem_append_right _ (List.mem_append_right _ (List.mem_append_left _ (List.mem_of_getElem? (i := 104) rfl)))) rfl
set_option maxRecDepth 20000 in
theorem w_585 : (Cond.selects "SmallHarbour$Walk" ⟨"SmallHarbour$Walk", "isFound", "()Z"⟩ ⟨"SmallHarbour$Walk", "isFound", "()Z"⟩) ∈ tbg := tb_in (List.mem_append_right _ (List.mem_append_right _ (List.mem_append_left _ (List.mem_of_getElem? (i := 105) rfl)))) rfl
set_option maxRecDepth 20000 in
theorem w_580 : (Cond.code ⟨"SmallHarbour$Walk", "isSpent", "()Z"⟩ prog_12_method_6_code 1 (Option.some FieldType.boolean)) ∈ tbg := tb_in (List.mem_append_right _ (List.mem_append_right _ (List.mem_append_left _ (List.mem_of_getElem? (i := 100) rfl)))) rfl
set_option maxRecDepth 20000 in
theorem w_578 : (Cond.instanceMethod ⟨"SmallHarbour$Walk", "isSpent", "()Z"⟩) ∈ tbg := tb_in (List.mem_append_right _ (List.mem_append_right _ (List.mem_append_left _ (List.mem_of_getElem? (i := 98) rfl)))) rfl
set_option maxRecDepth 20000 in
theorem w_579 : (Cond.selects "SmallHarbour$Walk" ⟨"SmallHarbour$Walk", "isSpent", "()Z"⟩ ⟨"SmallHarbour$Walk", "isSpent", "()Z"⟩) ∈ tbg := tb_in (List.mem_append_right _ (List.mem_append_right _ (List.mem_append_left _ (List.mem_of_getElem? (i := 99) rfl)))) rfl
set_option maxRecDepth 20000 in
theorem w_590 : (Cond.code ⟨"SmallHarbour$Walk", "movedFromAhead", "(I)I"⟩ prog_12_method_9_code 4 (Option.some FieldType.int)) ∈ tbg := tb_in (List.mem_append_right _ (List.mem_append_right _ (List.mem_append_left _ (List.mem_of_getElem? (i := 110) rfl)))) rfl
set_option maxRecDepth 20000 in
theorem w_588 : (Cond.instanceMethod ⟨"SmallHarbour$Walk", "movedFromAhead", "(I)I"⟩) ∈ tbg := tb_in (List.mem_append_right _ (List.mem_append_right _ (List.mem_append_left _ (List.mem_of_getElem? (i := 108) rfl)))) rfl
set_option maxRecDepth 20000 in
theorem w_589 : (Cond.selects "SmallHarbour$Walk" ⟨"SmallHarbour$Walk", "movedFromAhead", "(I)I"⟩ ⟨"SmallHarbour$Walk", "movedFromAhead", "(I)I"⟩) ∈ tbg := tb_in (List.mem_append_right _ (List.mem_append_right _ (List.mem_append_left _ (List.mem_of_getElem? (i := 109) rfl)))) rfl
set_option maxRecDepth 20000 in
theorem w_573 : (Cond.code ⟨"SmallHarbour$Walk", "putFrom", "(II)V"⟩ prog_12_method_10_code 5 (Option.none : Option FieldType)) ∈ tbg := tb_in (List.mem_append_right _ (List.mem_append_right _ (List.mem_append_left _ (List.mem_of_getElem? (i := 93) rfl)))) rfl
set_option maxRecDepth 20000 in
theorem w_572 : (Cond.instanceMethod ⟨"SmallHarbour$Walk", "putFrom", "(II)V"⟩) ∈ tbg := tb_in (List.mem_append_right _ (List.mem_append_right _ (List.mem_append_left _ (List.mem_of_getElem? (i := 92) rfl)))) rfl
set_option maxRecDepth 20000 in
theorem w_s1_8 : (Cond.selects "SmallHarbour$Walk" ⟨"SmallHarbour$Walk", "putFrom", "(II)V"⟩ ⟨"SmallHarbour$Walk", "putFrom", "(II)V"⟩) ∈ tbg := tb_sel (List.mem_map_of_mem (f := fun q : MethodName × Nat => Cond.selects q.1.cls q.1 q.1) (a := (⟨"SmallHarbour$Walk", "putFrom", "(II)V"⟩, 13)) (List.mem_append_left _ (List.mem_of_getElem? (i := 8) rfl))) rfl
set_option maxRecDepth 20000 in
theorem w_569 : (Cond.code ⟨"SmallHarbour$Walk", "search", "()V"⟩ prog_12_method_5_code 1 (Option.none : Option FieldType)) ∈ tbg := tb_in (List.mem_append_right _ (List.mem_append_right _ (List.mem_append_left _ (List.mem_of_getElem? (i := 89) rfl)))) rfl
set_option maxRecDepth 20000 in
theorem w_567 : (Cond.instanceMethod ⟨"SmallHarbour$Walk", "search", "()V"⟩) ∈ tbg := tb_in (List.mem_append_right _ (List.mem_append_right _ (List.mem_append_left _ (List.mem_of_getElem? (i := 87) rfl)))) rfl
set_option maxRecDepth 20000 in
theorem w_568 : (Cond.selects "SmallHarbour$Walk" ⟨"SmallHarbour$Walk", "search", "()V"⟩ ⟨"SmallHarbour$Walk", "search", "()V"⟩) ∈ tbg := tb_in (List.mem_append_right _ (List.mem_append_right _ (List.mem_append_left _ (List.mem_of_getElem? (i := 88) rfl)))) rfl
set_option maxRecDepth 20000 in
theorem w_546 : (Cond.code ⟨"SmallHarbour", "findRoom", "(I)I"⟩ prog_1_method_39_code 2 (Option.some FieldType.int)) ∈ tbg := tb_in (List.mem_append_right _ (List.mem_append_right _ (List.mem_append_left _ (List.mem_of_getElem? (i := 66) rfl)))) rfl
set_option maxRecDepth 20000 in
theorem w_545 : (Cond.instanceMethod ⟨"SmallHarbour", "findRoom", "(I)I"⟩) ∈ tbg := tb_in (List.mem_append_right _ (List.mem_append_right _ (List.mem_append_left _ (List.mem_of_getElem? (i := 65) rfl)))) rfl
set_option maxRecDepth 20000 in
theorem w_s1_6 : (Cond.selects "SmallHarbour" ⟨"SmallHarbour", "findRoom", "(I)I"⟩ ⟨"SmallHarbour", "findRoom", "(I)I"⟩) ∈ tbg := tb_sel (List.mem_map_of_mem (f := fun q : MethodName × Nat => Cond.selects q.1.cls q.1 q.1) (a := (⟨"SmallHarbour", "findRoom", "(I)I"⟩, 13)) (List.mem_append_left _ (List.mem_of_getElem? (i := 6) rfl))) rfl
set_option maxRecDepth 20000 in
theorem w_487 : (Cond.code ⟨"SmallHarbour", "fits", "(III)I"⟩ prog_1_method_7_code 4 (Option.some FieldType.int)) ∈ tbg := tb_in (List.mem_append_right _ (List.mem_append_right _ (List.mem_append_left _ (List.mem_of_getElem? (i := 7) rfl)))) rfl
set_option maxRecDepth 20000 in
theorem w_485 : (Cond.instanceMethod ⟨"SmallHarbour", "fits", "(III)I"⟩) ∈ tbg := tb_in (List.mem_append_right _ (List.mem_append_right _ (List.mem_append_left _ (List.mem_of_getElem? (i := 5) rfl)))) rfl
set_option maxRecDepth 20000 in
theorem w_486 : (Cond.selects "SmallHarbour" ⟨"SmallHarbour", "fits", "(III)I"⟩ ⟨"SmallHarbour", "fits", "(III)I"⟩) ∈ tbg := tb_in (List.mem_append_right _ (List.mem_append_right _ (List.mem_append_left _ (List.mem_of_getElem? (i := 6) rfl)))) rfl
set_option maxRecDepth 20000 in
theorem w_646 : (Cond.code ⟨"SmallHarbour$Hoist", "set", "(III)Z"⟩ prog_4_method_2_code 4 (Option.some FieldType.boolean)) ∈ tbg := tb_in (List.mem_append_right _ (List.mem_append_right _ (List.mem_append_left _ (List.mem_of_getElem? (i := 166) rfl)))) rfl
set_option maxRecDepth 20000 in
theorem w_644 : (Cond.instanceMethod ⟨"SmallHarbour$Hoist", "set", "(III)Z"⟩) ∈ tbg := tb_in (List.mem_append_right _ (List.mem_append_right _ (List.mem_append_left _ (List.mem_of_getElem? (i := 164) rfl)))) rfl
set_option maxRecDepth 20000 in
theorem w_645 : (Cond.selects "SmallHarbour$Hoist" ⟨"SmallHarbour$Hoist", "set", "(III)Z"⟩ ⟨"SmallHarbour$Hoist", "set", "(III)Z"⟩) ∈ tbg := tb_in (List.mem_append_right _ (List.mem_append_right _ (List.mem_append_left _ (List.mem_of_getElem? (i := 165) rfl)))) rfl
set_option maxRecDepth 20000 in
theorem w_642 : (Cond.code ⟨"SmallHarbour", "hoist", "(III)Z"⟩ prog_1_method_15_code 4 (Option.some FieldType.boolean)) ∈ tbg := tb_in (List.mem_append_right _ (List.mem_append_right _ (List.mem_append_left _ (List.mem_of_getElem? (i := 162) rfl)))) rfl
set_option maxRecDepth 20000 in
theorem w_640 : (Cond.instanceMethod ⟨"SmallHarbour", "hoist", "(III)Z"⟩) ∈ tbg := tb_in (List.mem_append_right _ (List.mem_append_right _ (List.mem_append_left _ (List.mem_of_getElem? (i := 160) rfl)))) rfl
set_option maxRecDepth 20000 in
theorem w_641 : (Cond.selects "SmallHarbour" ⟨"SmallHarbour", "hoist", "(III)Z"⟩ ⟨"SmallHarbour", "hoist", "(III)Z"⟩) ∈ tbg := tb_in (List.mem_append_right _ (List.mem_append_right _ (List.mem_append_left _ (List.mem_of_getElem? (i := 161) rfl)))) rfl
set_option maxRecDepth 20000 in
theorem w_603 : (Cond.code ⟨"SmallHarbour$Spans", "remove", "(I)V"⟩ prog_8_method_3_code 2 (Option.none : Option FieldType)) ∈ tbg := tb_in (List.mem_append_right _ (List.mem_append_right _ (List.mem_append_left _ (List.mem_of_getElem? (i := 123) rfl)))) rfl
set_option maxRecDepth 20000 in
theorem w_601 : (Cond.instanceMethod ⟨"SmallHarbour$Spans", "remove", "(I)V"⟩) ∈ tbg := tb_in (List.mem_append_right _ (List.mem_append_right _ (List.mem_append_left _ (List.mem_of_getElem? (i := 121) rfl)))) rfl
set_option maxRecDepth 20000 in
theorem w_602 : (Cond.selects "SmallHarbour$Spans" ⟨"SmallHarbour$Spans", "remove", "(I)V"⟩ ⟨"SmallHarbour$Spans", "remove", "(I)V"⟩) ∈ tbg := tb_in (List.mem_append_right _ (List.mem_append_right _ (List.mem_append_left _ (List.mem_of_getElem? (i := 122) rfl)))) rfl
set_option maxRecDepth 20000 in
theorem w_542 : (Cond.code ⟨"SmallHarbour", "home", "(II)I"⟩ prog_1_method_12_code 6 (Option.some FieldType.int)) ∈ tbg := tb_in (List.mem_append_right _ (List.mem_append_right _ (List.mem_append_left _ (List.mem_of_getElem? (i := 62) rfl)))) rfl
set_option maxRecDepth 20000 in
theorem w_540 : (Cond.instanceMethod ⟨"SmallHarbour", "home", "(II)I"⟩) ∈ tbg := tb_in (List.mem_append_right _ (List.mem_append_right _ (List.mem_append_left _ (List.mem_of_getElem? (i := 60) rfl)))) rfl
set_option maxRecDepth 20000 in
theorem w_541 : (Cond.selects "SmallHarbour" ⟨"SmallHarbour", "home", "(II)I"⟩ ⟨"SmallHarbour", "home", "(II)I"⟩) ∈ tbg := tb_in (List.mem_append_right _ (List.mem_append_right _ (List.mem_append_left _ (List.mem_of_getElem? (i := 61) rfl)))) rfl
set_option maxRecDepth 20000 in
theorem w_394 : (Cond.code ⟨"SmallHarbour", "isTideFixed", "()Z"⟩ prog_1_method_33_code 1 (Option.some FieldType.boolean)) ∈ tbg := tb_in (List.mem_append_right _ (List.mem_append_left _ (List.mem_of_getElem? (i := 154) rfl))) rfl
set_option maxRecDepth 20000 in
theorem w_393 : (Cond.instanceMethod ⟨"SmallHarbour", "isTideFixed", "()Z"⟩) ∈ tbg := tb_in (List.mem_append_right _ (List.mem_append_left _ (List.mem_of_getElem? (i := 153) rfl))) rfl
set_option maxRecDepth 20000 in
theorem w_s1_0 : (Cond.selects "SmallHarbour" ⟨"SmallHarbour", "isTideFixed", "()Z"⟩ ⟨"SmallHarbour", "isTideFixed", "()Z"⟩) ∈ tbg := tb_sel (List.mem_map_of_mem (f := fun q : MethodName × Nat => Cond.selects q.1.cls q.1 q.1) (a := (⟨"SmallHarbour", "isTideFixed", "()Z"⟩, 13)) (List.mem_append_left _ (List.mem_of_getElem? (i := 0) rfl))) rfl
set_option maxRecDepth 20000 in
theorem w_712 : (Cond.code ⟨"SmallHarbour$Shed", "isFilled", "()Z"⟩ prog_7_method_4_code 1 (Option.some FieldType.boolean)) ∈ tbg := tb_in (List.mem_append_right _ (List.mem_append_right _ (List.mem_append_left _ (List.mem_of_getElem? (i := 232) rfl)))) rfl
set_option maxRecDepth 20000 in
theorem w_710 : (Cond.instanceMethod ⟨"SmallHarbour$Shed", "isFilled", "()Z"⟩) ∈ tbg := tb_in (List.mem_append_right _ (List.mem_append_right _ (List.mem_append_left _ (List.mem_of_getElem? (i := 230) rfl)))) rfl
set_option maxRecDepth 20000 in
theorem w_711 : (Cond.selects "SmallHarbour$Shed" ⟨"SmallHarbour$Shed", "isFilled", "()Z"⟩ ⟨"SmallHarbour$Shed", "isFilled", "()Z"⟩) ∈ tbg := tb_in (List.mem_append_right _ (List.mem_append_right _ (List.mem_append_left _ (List.mem_of_getElem? (i := 231) rfl)))) rfl
set_option maxRecDepth 20000 in
theorem w_716 : (Cond.code ⟨"SmallHarbour", "lane", "(I)I"⟩ prog_1_method_22_code 2 (Option.some FieldType.int)) ∈ tbg := tb_in (List.mem_append_right _ (List.mem_append_right _ (List.mem_append_left _ (List.mem_of_getElem? (i := 236) rfl)))) rfl
set_option maxRecDepth 20000 in
theorem w_714 : (Cond.instanceMethod ⟨"SmallHarbour", "lane", "(I)I"⟩) ∈ tbg := tb_in (List.mem_append_right _ (List.mem_append_right _ (List.mem_append_left _ (List.mem_of_getElem? (i := 234) rfl)))) rfl
set_option maxRecDepth 20000 in
theorem w_715 : (Cond.selects "SmallHarbour" ⟨"SmallHarbour", "lane", "(I)I"⟩ ⟨"SmallHarbour", "lane", "(I)I"⟩) ∈ tbg := tb_in (List.mem_append_right _ (List.mem_append_right _ (List.mem_append_left _ (List.mem_of_getElem? (i := 235) rfl)))) rfl
set_option maxRecDepth 20000 in
theorem w_538 : (Cond.code ⟨"SmallHarbour$Stays", "has", "(I)Z"⟩ prog_9_method_2_code 2 (Option.some FieldType.boolean)) ∈ tbg := tb_in (List.mem_append_right _ (List.mem_append_right _ (List.mem_append_left _ (List.mem_of_getElem? (i := 58) rfl)))) rfl
set_option maxRecDepth 20000 in
theorem w_536 : (Cond.instanceMethod ⟨"SmallHarbour$Stays", "has", "(I)Z"⟩) ∈ tbg := tb_in (List.mem_append_right _ (List.mem_append_right _ (List.mem_append_left _ (List.mem_of_getElem? (i := 56) rfl)))) rfl
set_option maxRecDepth 20000 in
theorem w_537 : (Cond.selects "SmallHarbour$Stays" ⟨"SmallHarbour$Stays", "has", "(I)Z"⟩ ⟨"SmallHarbour$Stays", "has", "(I)Z"⟩) ∈ tbg := tb_in (List.mem_append_right _ (List.mem_append_right _ (List.mem_append_left _ (List.mem_of_getElem? (i := 57) rfl)))) rfl
set_option maxRecDepth 20000 in
theorem w_534 : (Cond.code ⟨"SmallHarbour", "leaves", "(II)Z"⟩ prog_1_method_11_code 3 (Option.some FieldType.boolean)) ∈ tbg := tb_in (List.mem_append_right _ (List.mem_append_right _ (List.mem_append_left _ (List.mem_of_getElem? (i := 54) rfl)))) rfl
set_option maxRecDepth 20000 in
theorem w_532 : (Cond.instanceMethod ⟨"SmallHarbour", "leaves", "(II)Z"⟩) ∈ tbg := tb_in (List.mem_append_right _ (List.mem_append_right _ (List.mem_append_left _ (List.mem_of_getElem? (i := 52) rfl)))) rfl
set_option maxRecDepth 20000 in
theorem w_533 : (Cond.selects "SmallHarbour" ⟨"SmallHarbour", "leaves", "(II)Z"⟩ ⟨"SmallHarbour", "leaves", "(II)Z"⟩) ∈ tbg := tb_in (List.mem_append_right _ (List.mem_append_right _ (List.mem_append_left _ (List.mem_of_getElem? (i := 53) rfl)))) rfl
set_option maxRecDepth 20000 in
theorem w_413 : (Cond.code ⟨"SmallHarbour$Tide", "put", "(II)Z"⟩ prog_11_method_3_code 3 (Option.some FieldType.boolean)) ∈ tbg := tb_in (List.mem_append_right _ (List.mem_append_left _ (List.mem_of_getElem? (i := 173) rfl))) rfl
set_option maxRecDepth 20000 in
theorem w_411 : (Cond.instanceMethod ⟨"SmallHarbour$Tide", "put", "(II)Z"⟩) ∈ tbg := tb_in (List.mem_append_right _ (List.mem_append_left _ (List.mem_of_getElem? (i := 171) rfl))) rfl
set_option maxRecDepth 20000 in
theorem w_412 : (Cond.selects "SmallHarbour$Tide" ⟨"SmallHarbour$Tide", "put", "(II)Z"⟩ ⟨"SmallHarbour$Tide", "put", "(II)Z"⟩) ∈ tbg := tb_in (List.mem_append_right _ (List.mem_append_left _ (List.mem_of_getElem? (i := 172) rfl))) rfl
set_option maxRecDepth 20000 in
theorem w_409 : (Cond.code ⟨"SmallHarbour", "level", "(II)Z"⟩ prog_1_method_3_code 3 (Option.some FieldType.boolean)) ∈ tbg := tb_in (List.mem_append_right _ (List.mem_append_left _ (List.mem_of_getElem? (i := 169) rfl))) rfl
set_option maxRecDepth 20000 in
theorem w_407 : (Cond.instanceMethod ⟨"SmallHarbour", "level", "(II)Z"⟩) ∈ tbg := tb_in (List.mem_append_right _ (List.mem_append_left _ (List.mem_of_getElem? (i := 167) rfl))) rfl
set_option maxRecDepth 20000 in
theorem w_408 : (Cond.selects "SmallHarbour" ⟨"SmallHarbour", "level", "(II)Z"⟩ ⟨"SmallHarbour", "level", "(II)Z"⟩) ∈ tbg := tb_in (List.mem_append_right _ (List.mem_append_left _ (List.mem_of_getElem? (i := 168) rfl))) rfl
set_option maxRecDepth 20000 in
theorem w_402 : (Cond.code ⟨"SmallHarbour$Tide", "restart", "(I)Z"⟩ prog_11_method_2_code 2 (Option.some FieldType.boolean)) ∈ tbg := tb_in (List.mem_append_right _ (List.mem_append_left _ (List.mem_of_getElem? (i := 162) rfl))) rfl
set_option maxRecDepth 20000 in
theorem w_400 : (Cond.instanceMethod ⟨"SmallHarbour$Tide", "restart", "(I)Z"⟩) ∈ tbg := tb_in (List.mem_append_right _ (List.mem_append_left _ (List.mem_of_getElem? (i := 160) rfl))) rfl
set_option maxRecDepth 20000 in
theorem w_401 : (Cond.selects "SmallHarbour$Tide" ⟨"SmallHarbour$Tide", "restart", "(I)Z"⟩ ⟨"SmallHarbour$Tide", "restart", "(I)Z"⟩) ∈ tbg := tb_in (List.mem_append_right _ (List.mem_append_left _ (List.mem_of_getElem? (i := 161) rfl))) rfl
set_option maxRecDepth 20000 in
theorem w_390 : (Cond.code ⟨"SmallHarbour", "levels", "(I)Z"⟩ prog_1_method_2_code 2 (Option.some FieldType.boolean)) ∈ tbg := tb_in (List.mem_append_right _ (List.mem_append_left _ (List.mem_of_getElem? (i := 150) rfl))) rfl
set_option maxRecDepth 20000 in
theorem w_388 : (Cond.instanceMethod ⟨"SmallHarbour", "levels", "(I)Z"⟩) ∈ tbg := tb_in (List.mem_append_right _ (List.mem_append_left _ (List.mem_of_getElem? (i := 148) rfl))) rfl
set_option maxRecDepth 20000 in
theorem w_389 : (Cond.selects "SmallHarbour" ⟨"SmallHarbour", "levels", "(I)Z"⟩ ⟨"SmallHarbour", "levels", "(I)Z"⟩) ∈ tbg := tb_in (List.mem_append_right _ (List.mem_append_left _ (List.mem_of_getElem? (i := 149) rfl))) rfl
set_option maxRecDepth 20000 in
theorem w_495 : (Cond.code ⟨"SmallHarbour", "lies", "(II)I"⟩ prog_1_method_8_code 4 (Option.some FieldType.int)) ∈ tbg := tb_in (List.mem_append_right _ (List.mem_append_right _ (List.mem_append_left _ (List.mem_of_getElem? (i := 15) rfl)))) rfl
set_option maxRecDepth 20000 in
theorem w_493 : (Cond.instanceMethod ⟨"SmallHarbour", "lies", "(II)I"⟩) ∈ tbg := tb_in (List.mem_append_right _ (List.mem_append_right _ (List.mem_append_left _ (List.mem_of_getElem? (i := 13) rfl)))) rfl
set_option maxRecDepth 20000 in
theorem w_494 : (Cond.selects "SmallHarbour" ⟨"SmallHarbour", "lies", "(II)I"⟩ ⟨"SmallHarbour", "lies", "(II)I"⟩) ∈ tbg := tb_in (List.mem_append_right _ (List.mem_append_right _ (List.mem_append_left _ (List.mem_of_getElem? (i := 14) rfl)))) rfl
set_option maxRecDepth 20000 in
theorem w_659 : (Cond.code ⟨"SmallHarbour$Hoist", "add", "(III)I"⟩ prog_4_method_3_code 4 (Option.some FieldType.int)) ∈ tbg := tb_in (List.mem_append_right _ (List.mem_append_right _ (List.mem_append_left _ (List.mem_of_getElem? (i := 179) rfl)))) rfl
set_option maxRecDepth 20000 in
theorem w_657 : (Cond.instanceMethod ⟨"SmallHarbour$Hoist", "add", "(III)I"⟩) ∈ tbg := tb_in (List.mem_append_right _ (List.mem_append_right _ (List.mem_append_left _ (List.mem_of_getElem? (i := 177) rfl)))) rfl
set_option maxRecDepth 20000 in
theorem w_658 : (Cond.selects "SmallHarbour$Hoist" ⟨"SmallHarbour$Hoist", "add", "(III)I"⟩ ⟨"SmallHarbour$Hoist", "add", "(III)I"⟩) ∈ tbg := tb_in (List.mem_append_right _ (List.mem_append_right _ (List.mem_append_left _ (List.mem_of_getElem? (i := 178) rfl)))) rfl
set_option maxRecDepth 20000 in
theorem w_655 : (Cond.code ⟨"SmallHarbour", "lift", "(III)I"⟩ prog_1_method_17_code 4 (Option.some FieldType.int)) ∈ tbg := tb_in (List.mem_append_right _ (List.mem_append_right _ (List.mem_append_left _ (List.mem_of_getElem? (i := 175) rfl)))) rfl
set_option maxRecDepth 20000 in
theorem w_653 : (Cond.instanceMethod ⟨"SmallHarbour", "lift", "(III)I"⟩) ∈ tbg := tb_in (List.mem_append_right _ (List.mem_append_right _ (List.mem_append_left _ (List.mem_of_getElem? (i := 173) rfl)))) rfl
set_option maxRecDepth 20000 in
theorem w_654 : (Cond.selects "SmallHarbour" ⟨"SmallHarbour", "lift", "(III)I"⟩ ⟨"SmallHarbour", "lift", "(III)I"⟩) ∈ tbg := tb_in (List.mem_append_right _ (List.mem_append_right _ (List.mem_append_left _ (List.mem_of_getElem? (i := 174) rfl)))) rfl
set_option maxRecDepth 20000 in
theorem w_671 : (Cond.code ⟨"SmallHarbour$Hoist", "firstDay", "(IIILSmallHarbour$Tide;)I"⟩ prog_4_method_5_code 7 (Option.some FieldType.int)) ∈ tbg := tb_in (List.mem_append_right _ (List.mem_append_right _ (List.mem_append_left _ (List.mem_of_getElem? (i := 191) rfl)))) rfl
set_option maxRecDepth 20000 in
theorem w_670 : (Cond.instanceMethod ⟨"SmallHarbour$Hoist", "firstDay", "(IIILSmallHarbour$Tide;)I"⟩) ∈ tbg := tb_in (List.mem_append_right _ (List.mem_append_right _ (List.mem_append_left _ (List.mem_of_getElem? (i := 190) rfl)))) rfl
set_option maxRecDepth 20000 in
theorem w_s1_14 : (Cond.selects "SmallHarbour$Hoist" ⟨"SmallHarbour$Hoist", "firstDay", "(IIILSmallHarbour$Tide;)I"⟩ ⟨"SmallHarbour$Hoist", "firstDay", "(IIILSmallHarbour$Tide;)I"⟩) ∈ tbg := tb_sel (List.mem_map_of_mem (f := fun q : MethodName × Nat => Cond.selects q.1.cls q.1 q.1) (a := (⟨"SmallHarbour$Hoist", "firstDay", "(IIILSmallHarbour$Tide;)I"⟩, 8)) (List.mem_append_left _ (List.mem_of_getElem? (i := 14) rfl))) rfl
set_option maxRecDepth 20000 in
theorem w_667 : (Cond.code ⟨"SmallHarbour$Hoist", "dayOf", "(ILSmallHarbour$Tide;)I"⟩ prog_4_method_4_code 7 (Option.some FieldType.int)) ∈ tbg := tb_in (List.mem_append_right _ (List.mem_append_right _ (List.mem_append_left _ (List.mem_of_getElem? (i := 187) rfl)))) rfl
set_option maxRecDepth 20000 in
theorem w_665 : (Cond.instanceMethod ⟨"SmallHarbour$Hoist", "dayOf", "(ILSmallHarbour$Tide;)I"⟩) ∈ tbg := tb_in (List.mem_append_right _ (List.mem_append_right _ (List.mem_append_left _ (List.mem_of_getElem? (i := 185) rfl)))) rfl
set_option maxRecDepth 20000 in
theorem w_666 : (Cond.selects "SmallHarbour$Hoist" ⟨"SmallHarbour$Hoist", "dayOf", "(ILSmallHarbour$Tide;)I"⟩ ⟨"SmallHarbour$Hoist", "dayOf", "(ILSmallHarbour$Tide;)I"⟩) ∈ tbg := tb_in (List.mem_append_right _ (List.mem_append_right _ (List.mem_append_left _ (List.mem_of_getElem? (i := 186) rfl)))) rfl
set_option maxRecDepth 20000 in
theorem w_663 : (Cond.code ⟨"SmallHarbour", "lifted", "(I)I"⟩ prog_1_method_18_code 2 (Option.some FieldType.int)) ∈ tbg := tb_in (List.mem_append_right _ (List.mem_append_right _ (List.mem_append_left _ (List.mem_of_getElem? (i := 183) rfl)))) rfl
set_option maxRecDepth 20000 in
theorem w_661 : (Cond.instanceMethod ⟨"SmallHarbour", "lifted", "(I)I"⟩) ∈ tbg := tb_in (List.mem_append_right _ (List.mem_append_right _ (List.mem_append_left _ (List.mem_of_getElem? (i := 181) rfl)))) rfl
set_option maxRecDepth 20000 in
theorem w_662 : (Cond.selects "SmallHarbour" ⟨"SmallHarbour", "lifted", "(I)I"⟩ ⟨"SmallHarbour", "lifted", "(I)I"⟩) ∈ tbg := tb_in (List.mem_append_right _ (List.mem_append_right _ (List.mem_append_left _ (List.mem_of_getElem? (i := 182) rfl)))) rfl
set_option maxRecDepth 20000 in
theorem w_607 : (Cond.code ⟨"SmallHarbour", "moved", "(II)I"⟩ prog_1_method_13_code 3 (Option.some FieldType.int)) ∈ tbg := tb_in (List.mem_append_right _ (List.mem_append_right _ (List.mem_append_left _ (List.mem_of_getElem? (i := 127) rfl)))) rfl
set_option maxRecDepth 20000 in
theorem w_605 : (Cond.instanceMethod ⟨"SmallHarbour", "moved", "(II)I"⟩) ∈ tbg := tb_in (List.mem_append_right _ (List.mem_append_right _ (List.mem_append_left _ (List.mem_of_getElem? (i := 125) rfl)))) rfl
set_option maxRecDepth 20000 in
theorem w_606 : (Cond.selects "SmallHarbour" ⟨"SmallHarbour", "moved", "(II)I"⟩ ⟨"SmallHarbour", "moved", "(II)I"⟩) ∈ tbg := tb_in (List.mem_append_right _ (List.mem_append_right _ (List.mem_append_left _ (List.mem_of_getElem? (i := 126) rfl)))) rfl
set_option maxRecDepth 20000 in
theorem w_708 : (Cond.code ⟨"SmallHarbour", "moves", "()I"⟩ prog_1_method_21_code 1 (Option.some FieldType.int)) ∈ tbg := tb_in (List.mem_append_right _ (List.mem_append_right _ (List.mem_append_left _ (List.mem_of_getElem? (i := 228) rfl)))) rfl
set_option maxRecDepth 20000 in
theorem w_706 : (Cond.instanceMethod ⟨"SmallHarbour", "moves", "()I"⟩) ∈ tbg := tb_in (List.mem_append_right _ (List.mem_append_right _ (List.mem_append_left _ (List.mem_of_getElem? (i := 226) rfl)))) rfl
set_option maxRecDepth 20000 in
theorem w_707 : (Cond.selects "SmallHarbour" ⟨"SmallHarbour", "moves", "()I"⟩ ⟨"SmallHarbour", "moves", "()I"⟩) ∈ tbg := tb_in (List.mem_append_right _ (List.mem_append_right _ (List.mem_append_left _ (List.mem_of_getElem? (i := 227) rfl)))) rfl
set_option maxRecDepth 20000 in
theorem w_825 : (Cond.code ⟨"SmallHarbour", "owes", "(I)I"⟩ prog_1_method_28_code 4 (Option.some FieldType.int)) ∈ tbg := tb_in (List.mem_append_right _ (List.mem_append_right _ (List.mem_append_right _ (List.mem_append_left _ (List.mem_of_getElem? (i := 105) rfl))))) rfl
set_option maxRecDepth 20000 in
theorem w_823 : (Cond.instanceMethod ⟨"SmallHarbour", "owes", "(I)I"⟩) ∈ tbg := tb_in (List.mem_append_right _ (List.mem_append_right _ (List.mem_append_right _ (List.mem_append_left _ (List.mem_of_getElem? (i := 103) rfl))))) rfl
set_option maxRecDepth 20000 in
theorem w_824 : (Cond.selects "SmallHarbour" ⟨"SmallHarbour", "owes", "(I)I"⟩ ⟨"SmallHarbour", "owes", "(I)I"⟩) ∈ tbg := tb_in (List.mem_append_right _ (List.mem_append_right _ (List.mem_append_right _ (List.mem_append_left _ (List.mem_of_getElem? (i := 104) rfl))))) rfl
set_option maxRecDepth 20000 in
theorem w_743 : (Cond.code ⟨"SmallHarbour$Reader", "isDigit", "(I)Z"⟩ prog_5_method_18_code 1 (Option.some FieldType.boolean)) ∈ tbg := tb_in (List.mem_append_right _ (List.mem_append_right _ (List.mem_append_right _ (List.mem_append_left _ (List.mem_of_getElem? (i := 23) rfl))))) rfl
set_option maxRecDepth 20000 in
theorem w_747 : (Cond.code ⟨"SmallHarbour$Reader", "comeToNumber", "()V"⟩ prog_5_method_15_code 1 (Option.none : Option FieldType)) ∈ tbg := tb_in (List.mem_append_right _ (List.mem_append_right _ (List.mem_append_right _ (List.mem_append_left _ (List.mem_of_getElem? (i := 27) rfl))))) rfl
set_option maxRecDepth 20000 in
theorem w_746 : (Cond.instanceMethod ⟨"SmallHarbour$Reader", "comeToNumber", "()V"⟩) ∈ tbg := tb_in (List.mem_append_right _ (List.mem_append_right _ (List.mem_append_right _ (List.mem_append_left _ (List.mem_of_getElem? (i := 26) rfl))))) rfl
set_option maxRecDepth 20000 in
theorem w_s2_3 : (Cond.selects "SmallHarbour$Reader" ⟨"SmallHarbour$Reader", "comeToNumber", "()V"⟩ ⟨"SmallHarbour$Reader", "comeToNumber", "()V"⟩) ∈ tbg := tb_sel (List.mem_map_of_mem (f := fun q : MethodName × Nat => Cond.selects q.1.cls q.1 q.1) (a := (⟨"SmallHarbour$Reader", "comeToNumber", "()V"⟩, 11)) (List.mem_append_right _ (List.mem_append_left _ (List.mem_of_getElem? (i := 3) rfl)))) rfl
set_option maxRecDepth 20000 in
theorem w_752 : (Cond.code ⟨"SmallHarbour$Reader", "isLetter", "(I)Z"⟩ prog_5_method_19_code 1 (Option.some FieldType.boolean)) ∈ tbg := tb_in (List.mem_append_right _ (List.mem_append_right _ (List.mem_append_right _ (List.mem_append_left _ (List.mem_of_getElem? (i := 32) rfl))))) rfl
set_option maxRecDepth 20000 in
theorem w_759 : (Cond.code ⟨"SmallHarbour$Reader", "isWord", "(I)Z"⟩ prog_5_method_17_code 1 (Option.some FieldType.boolean)) ∈ tbg := tb_in (List.mem_append_right _ (List.mem_append_right _ (List.mem_append_right _ (List.mem_append_left _ (List.mem_of_getElem? (i := 39) rfl))))) rfl
set_option maxRecDepth 20000 in
theorem w_756 : (Cond.code ⟨"SmallHarbour$Reader", "comeToWord", "()V"⟩ prog_5_method_16_code 3 (Option.none : Option FieldType)) ∈ tbg := tb_in (List.mem_append_right _ (List.mem_append_right _ (List.mem_append_right _ (List.mem_append_left _ (List.mem_of_getElem? (i := 36) rfl))))) rfl
set_option maxRecDepth 20000 in
theorem w_755 : (Cond.instanceMethod ⟨"SmallHarbour$Reader", "comeToWord", "()V"⟩) ∈ tbg := tb_in (List.mem_append_right _ (List.mem_append_right _ (List.mem_append_right _ (List.mem_append_left _ (List.mem_of_getElem? (i := 35) rfl))))) rfl
set_option maxRecDepth 20000 in
theorem w_s2_4 : (Cond.selects "SmallHarbour$Reader" ⟨"SmallHarbour$Reader", "comeToWord", "()V"⟩ ⟨"SmallHarbour$Reader", "comeToWord", "()V"⟩) ∈ tbg := tb_sel (List.mem_map_of_mem (f := fun q : MethodName × Nat => Cond.selects q.1.cls q.1 q.1) (a := (⟨"SmallHarbour$Reader", "comeToWord", "()V"⟩, 11)) (List.mem_append_right _ (List.mem_append_left _ (List.mem_of_getElem? (i := 4) rfl)))) rfl
set_option maxRecDepth 20000 in
theorem w_762 : (Cond.code ⟨"SmallHarbour$Reader", "isSign", "(I)Z"⟩ prog_5_method_20_code 1 (Option.some FieldType.boolean)) ∈ tbg := tb_in (List.mem_append_right _ (List.mem_append_right _ (List.mem_append_right _ (List.mem_append_left _ (List.mem_of_getElem? (i := 42) rfl))))) rfl
set_option maxRecDepth 20000 in
theorem w_740 : (Cond.code ⟨"SmallHarbour$Reader", "comeToNext", "()V"⟩ prog_5_method_14_code 2 (Option.none : Option FieldType)) ∈ tbg := tb_in (List.mem_append_right _ (List.mem_append_right _ (List.mem_append_right _ (List.mem_append_left _ (List.mem_of_getElem? (i := 20) rfl))))) rfl
set_option maxRecDepth 20000 in
theorem w_739 : (Cond.instanceMethod ⟨"SmallHarbour$Reader", "comeToNext", "()V"⟩) ∈ tbg := tb_in (List.mem_append_right _ (List.mem_append_right _ (List.mem_append_right _ (List.mem_append_left _ (List.mem_of_getElem? (i := 19) rfl))))) rfl
set_option maxRecDepth 20000 in
theorem w_s2_2 : (Cond.selects "SmallHarbour$Reader" ⟨"SmallHarbour$Reader", "comeToNext", "()V"⟩ ⟨"SmallHarbour$Reader", "comeToNext", "()V"⟩) ∈ tbg := tb_sel (List.mem_map_of_mem (f := fun q : MethodName × Nat => Cond.selects q.1.cls q.1 q.1) (a := (⟨"SmallHarbour$Reader", "comeToNext", "()V"⟩, 11)) (List.mem_append_right _ (List.mem_append_left _ (List.mem_of_getElem? (i := 2) rfl)))) rfl
set_option maxRecDepth 20000 in
theorem w_786 : (Cond.code ⟨"SmallHarbour$Reader", "emit", "(I)V"⟩ prog_5_method_13_code 2 (Option.none : Option FieldType)) ∈ tbg := tb_in (List.mem_append_right _ (List.mem_append_right _ (List.mem_append_right _ (List.mem_append_left _ (List.mem_of_getElem? (i := 66) rfl))))) rfl
set_option maxRecDepth 20000 in
theorem w_785 : (Cond.instanceMethod ⟨"SmallHarbour$Reader", "emit", "(I)V"⟩) ∈ tbg := tb_in (List.mem_append_right _ (List.mem_append_right _ (List.mem_append_right _ (List.mem_append_left _ (List.mem_of_getElem? (i := 65) rfl))))) rfl
set_option maxRecDepth 20000 in
theorem w_s2_10 : (Cond.selects "SmallHarbour$Reader" ⟨"SmallHarbour$Reader", "emit", "(I)V"⟩ ⟨"SmallHarbour$Reader", "emit", "(I)V"⟩) ∈ tbg := tb_sel (List.mem_map_of_mem (f := fun q : MethodName × Nat => Cond.selects q.1.cls q.1 q.1) (a := (⟨"SmallHarbour$Reader", "emit", "(I)V"⟩, 11)) (List.mem_append_right _ (List.mem_append_left _ (List.mem_of_getElem? (i := 10) rfl)))) rfl
set_option maxRecDepth 20000 in
theorem w_795 : (Cond.code ⟨"SmallHarbour$Reader", "refuse", "(I)V"⟩ prog_5_method_12_code 2 (Option.none : Option FieldType)) ∈ tbg := tb_in (List.mem_append_right _ (List.mem_append_right _ (List.mem_append_right _ (List.mem_append_left _ (List.mem_of_getElem? (i := 75) rfl))))) rfl
set_option maxRecDepth 20000 in
theorem w_794 : (Cond.instanceMethod ⟨"SmallHarbour$Reader", "refuse", "(I)V"⟩) ∈ tbg := tb_in (List.mem_append_right _ (List.mem_append_right _ (List.mem_append_right _ (List.mem_append_left _ (List.mem_of_getElem? (i := 74) rfl))))) rfl
set_option maxRecDepth 20000 in
theorem w_s2_12 : (Cond.selects "SmallHarbour$Reader" ⟨"SmallHarbour$Reader", "refuse", "(I)V"⟩ ⟨"SmallHarbour$Reader", "refuse", "(I)V"⟩) ∈ tbg := tb_sel (List.mem_map_of_mem (f := fun q : MethodName × Nat => Cond.selects q.1.cls q.1 q.1) (a := (⟨"SmallHarbour$Reader", "refuse", "(I)V"⟩, 11)) (List.mem_append_right _ (List.mem_append_left _ (List.mem_of_getElem? (i := 12) rfl)))) rfl
set_option maxRecDepth 20000 in
theorem w_790 : (Cond.code ⟨"SmallHarbour$Reader", "take", "()V"⟩ prog_5_method_11_code 1 (Option.none : Option FieldType)) ∈ tbg := tb_in (List.mem_append_right _ (List.mem_append_right _ (List.mem_append_right _ (List.mem_append_left _ (List.mem_of_getElem? (i := 70) rfl))))) rfl
set_option maxRecDepth 20000 in
theorem w_789 : (Cond.instanceMethod ⟨"SmallHarbour$Reader", "take", "()V"⟩) ∈ tbg := tb_in (List.mem_append_right _ (List.mem_append_right _ (List.mem_append_right _ (List.mem_append_left _ (List.mem_of_getElem? (i := 69) rfl))))) rfl
set_option maxRecDepth 20000 in
theorem w_s2_11 : (Cond.selects "SmallHarbour$Reader" ⟨"SmallHarbour$Reader", "take", "()V"⟩ ⟨"SmallHarbour$Reader", "take", "()V"⟩) ∈ tbg := tb_sel (List.mem_map_of_mem (f := fun q : MethodName × Nat => Cond.selects q.1.cls q.1 q.1) (a := (⟨"SmallHarbour$Reader", "take", "()V"⟩, 11)) (List.mem_append_right _ (List.mem_append_left _ (List.mem_of_getElem? (i := 11) rfl)))) rfl
set_option maxRecDepth 20000 in
theorem w_803 : (Cond.code ⟨"SmallHarbour$Reader", "expect", "(I)V"⟩ prog_5_method_9_code 2 (Option.none : Option FieldType)) ∈ tbg := tb_in (List.mem_append_right _ (List.mem_append_right _ (List.mem_append_right _ (List.mem_append_left _ (List.mem_of_getElem? (i := 83) rfl))))) rfl
set_option maxRecDepth 20000 in
theorem w_802 : (Cond.instanceMethod ⟨"SmallHarbour$Reader", "expect", "(I)V"⟩) ∈ tbg := tb_in (List.mem_append_right _ (List.mem_append_right _ (List.mem_append_right _ (List.mem_append_left _ (List.mem_of_getElem? (i := 82) rfl))))) rfl
set_option maxRecDepth 20000 in
theorem w_s2_14 : (Cond.selects "SmallHarbour$Reader" ⟨"SmallHarbour$Reader", "expect", "(I)V"⟩ ⟨"SmallHarbour$Reader", "expect", "(I)V"⟩) ∈ tbg := tb_sel (List.mem_map_of_mem (f := fun q : MethodName × Nat => Cond.selects q.1.cls q.1 q.1) (a := (⟨"SmallHarbour$Reader", "expect", "(I)V"⟩, 11)) (List.mem_append_right _ (List.mem_append_left _ (List.mem_of_getElem? (i := 14) rfl)))) rfl
set_option maxRecDepth 20000 in
theorem w_799 : (Cond.code ⟨"SmallHarbour$Reader", "openOne", "()V"⟩ prog_5_method_10_code 1 (Option.none : Option FieldType)) ∈ tbg := tb_in (List.mem_append_right _ (List.mem_append_right _ (List.mem_append_right _ (List.mem_append_left _ (List.mem_of_getElem? (i := 79) rfl))))) rfl
set_option maxRecDepth 20000 in
theorem w_798 : (Cond.instanceMethod ⟨"SmallHarbour$Reader", "openOne", "()V"⟩) ∈ tbg := tb_in (List.mem_append_right _ (List.mem_append_right _ (List.mem_append_right _ (List.mem_append_left _ (List.mem_of_getElem? (i := 78) rfl))))) rfl
set_option maxRecDepth 20000 in
theorem w_s2_13 : (Cond.selects "SmallHarbour$Reader" ⟨"SmallHarbour$Reader", "openOne", "()V"⟩ ⟨"SmallHarbour$Reader", "openOne", "()V"⟩) ∈ tbg := tb_sel (List.mem_map_of_mem (f := fun q : MethodName × Nat => Cond.selects q.1.cls q.1 q.1) (a := (⟨"SmallHarbour$Reader", "openOne", "()V"⟩, 11)) (List.mem_append_right _ (List.mem_append_left _ (List.mem_of_getElem? (i := 13) rfl)))) rfl
set_option maxRecDepth 20000 in
theorem w_806 : (Cond.code ⟨"SmallHarbour$Reader", "isOfT", "(I)Z"⟩ prog_5_method_8_code 1 (Option.some FieldType.boolean)) ∈ tbg := tb_in (List.mem_append_right _ (List.mem_append_right _ (List.mem_append_right _ (List.mem_append_left _ (List.mem_of_getElem? (i := 86) rfl))))) rfl
set_option maxRecDepth 20000 in
theorem w_782 : (Cond.code ⟨"SmallHarbour$Reader", "readU", "()V"⟩ prog_5_method_7_code 1 (Option.none : Option FieldType)) ∈ tbg := tb_in (List.mem_append_right _ (List.mem_append_right _ (List.mem_append_right _ (List.mem_append_left _ (List.mem_of_getElem? (i := 62) rfl))))) rfl
set_option maxRecDepth 20000 in
theorem w_781 : (Cond.instanceMethod ⟨"SmallHarbour$Reader", "readU", "()V"⟩) ∈ tbg := tb_in (List.mem_append_right _ (List.mem_append_right _ (List.mem_append_right _ (List.mem_append_left _ (List.mem_of_getElem? (i := 61) rfl))))) rfl
set_option maxRecDepth 20000 in
theorem w_s2_9 : (Cond.selects "SmallHarbour$Reader" ⟨"SmallHarbour$Reader", "readU", "()V"⟩ ⟨"SmallHarbour$Reader", "readU", "()V"⟩) ∈ tbg := tb_sel (List.mem_map_of_mem (f := fun q : MethodName × Nat => Cond.selects q.1.cls q.1 q.1) (a := (⟨"SmallHarbour$Reader", "readU", "()V"⟩, 11)) (List.mem_append_right _ (List.mem_append_left _ (List.mem_of_getElem? (i := 9) rfl)))) rfl
set_option maxRecDepth 20000 in
theorem w_778 : (Cond.code ⟨"SmallHarbour$Reader", "readT", "()V"⟩ prog_5_method_6_code 3 (Option.none : Option FieldType)) ∈ tbg := tb_in (List.mem_append_right _ (List.mem_append_right _ (List.mem_append_right _ (List.mem_append_left _ (List.mem_of_getElem? (i := 58) rfl))))) rfl
set_option maxRecDepth 20000 in
theorem w_777 : (Cond.instanceMethod ⟨"SmallHarbour$Reader", "readT", "()V"⟩) ∈ tbg := tb_in (List.mem_append_right _ (List.mem_append_right _ (List.mem_append_right _ (List.mem_append_left _ (List.mem_of_getElem? (i := 57) rfl))))) rfl
set_option maxRecDepth 20000 in
theorem w_s2_8 : (Cond.selects "SmallHarbour$Reader" ⟨"SmallHarbour$Reader", "readT", "()V"⟩ ⟨"SmallHarbour$Reader", "readT", "()V"⟩) ∈ tbg := tb_sel (List.mem_map_of_mem (f := fun q : MethodName × Nat => Cond.selects q.1.cls q.1 q.1) (a := (⟨"SmallHarbour$Reader", "readT", "()V"⟩, 11)) (List.mem_append_right _ (List.mem_append_left _ (List.mem_of_getElem? (i := 8) rfl)))) rfl
set_option maxRecDepth 20000 in
theorem w_774 : (Cond.code ⟨"SmallHarbour$Reader", "readS", "()V"⟩ prog_5_method_5_code 3 (Option.none : Option FieldType)) ∈ tbg := tb_in (List.mem_append_right _ (List.mem_append_right _ (List.mem_append_right _ (List.mem_append_left _ (List.mem_of_getElem? (i := 54) rfl))))) rfl
set_option maxRecDepth 20000 in
theorem w_773 : (Cond.instanceMethod ⟨"SmallHarbour$Reader", "readS", "()V"⟩) ∈ tbg := tb_in (List.mem_append_right _ (List.mem_append_right _ (List.mem_append_right _ (List.mem_append_left _ (List.mem_of_getElem? (i := 53) rfl))))) rfl
set_option maxRecDepth 20000 in
theorem w_s2_7 : (Cond.selects "SmallHarbour$Reader" ⟨"SmallHarbour$Reader", "readS", "()V"⟩ ⟨"SmallHarbour$Reader", "readS", "()V"⟩) ∈ tbg := tb_sel (List.mem_map_of_mem (f := fun q : MethodName × Nat => Cond.selects q.1.cls q.1 q.1) (a := (⟨"SmallHarbour$Reader", "readS", "()V"⟩, 11)) (List.mem_append_right _ (List.mem_append_left _ (List.mem_of_getElem? (i := 7) rfl)))) rfl
set_option maxRecDepth 20000 in
theorem w_770 : (Cond.code ⟨"SmallHarbour$Reader", "readC", "()V"⟩ prog_5_method_4_code 2 (Option.none : Option FieldType)) ∈ tbg := tb_in (List.mem_append_right _ (List.mem_append_right _ (List.mem_append_right _ (List.mem_append_left _ (List.mem_of_getElem? (i := 50) rfl))))) rfl
set_option maxRecDepth 20000 in
theorem w_769 : (Cond.instanceMethod ⟨"SmallHarbour$Reader", "readC", "()V"⟩) ∈ tbg := tb_in (List.mem_append_right _ (List.mem_append_right _ (List.mem_append_right _ (List.mem_append_left _ (List.mem_of_getElem? (i := 49) rfl))))) rfl
set_option maxRecDepth 20000 in
theorem w_s2_6 : (Cond.selects "SmallHarbour$Reader" ⟨"SmallHarbour$Reader", "readC", "()V"⟩ ⟨"SmallHarbour$Reader", "readC", "()V"⟩) ∈ tbg := tb_sel (List.mem_map_of_mem (f := fun q : MethodName × Nat => Cond.selects q.1.cls q.1 q.1) (a := (⟨"SmallHarbour$Reader", "readC", "()V"⟩, 11)) (List.mem_append_right _ (List.mem_append_left _ (List.mem_of_getElem? (i := 6) rfl)))) rfl
set_option maxRecDepth 20000 in
theorem w_766 : (Cond.code ⟨"SmallHarbour$Reader", "readE", "()V"⟩ prog_5_method_3_code 1 (Option.none : Option FieldType)) ∈ tbg := tb_in (List.mem_append_right _ (List.mem_append_right _ (List.mem_append_right _ (List.mem_append_left _ (List.mem_of_getElem? (i := 46) rfl))))) rfl
set_option maxRecDepth 20000 in
theorem w_765 : (Cond.instanceMethod ⟨"SmallHarbour$Reader", "readE", "()V"⟩) ∈ tbg := tb_in (List.mem_append_right _ (List.mem_append_right _ (List.mem_append_right _ (List.mem_append_left _ (List.mem_of_getElem? (i := 45) rfl))))) rfl
set_option maxRecDepth 20000 in
theorem w_s2_5 : (Cond.selects "SmallHarbour$Reader" ⟨"SmallHarbour$Reader", "readE", "()V"⟩ ⟨"SmallHarbour$Reader", "readE", "()V"⟩) ∈ tbg := tb_sel (List.mem_map_of_mem (f := fun q : MethodName × Nat => Cond.selects q.1.cls q.1 q.1) (a := (⟨"SmallHarbour$Reader", "readE", "()V"⟩, 11)) (List.mem_append_right _ (List.mem_append_left _ (List.mem_of_getElem? (i := 5) rfl)))) rfl
set_option maxRecDepth 20000 in
theorem w_736 : (Cond.code ⟨"SmallHarbour$Reader", "readTape", "()Z"⟩ prog_5_method_2_code 1 (Option.some FieldType.boolean)) ∈ tbg := tb_in (List.mem_append_right _ (List.mem_append_right _ (List.mem_append_right _ (List.mem_append_left _ (List.mem_of_getElem? (i := 16) rfl))))) rfl
set_option maxRecDepth 20000 in
theorem w_734 : (Cond.instanceMethod ⟨"SmallHarbour$Reader", "readTape", "()Z"⟩) ∈ tbg := tb_in (List.mem_append_right _ (List.mem_append_right _ (List.mem_append_right _ (List.mem_append_left _ (List.mem_of_getElem? (i := 14) rfl))))) rfl
set_option maxRecDepth 20000 in
theorem w_735 : (Cond.selects "SmallHarbour$Reader" ⟨"SmallHarbour$Reader", "readTape", "()Z"⟩ ⟨"SmallHarbour$Reader", "readTape", "()Z"⟩) ∈ tbg := tb_in (List.mem_append_right _ (List.mem_append_right _ (List.mem_append_right _ (List.mem_append_left _ (List.mem_of_getElem? (i := 15) rfl))))) rfl
set_option maxRecDepth 20000 in
theorem w_812 : (Cond.code ⟨"SmallHarbour$Rules", "add", "(I[II)I"⟩ prog_6_method_2_code 4 (Option.some FieldType.int)) ∈ tbg := tb_in (List.mem_append_right _ (List.mem_append_right _ (List.mem_append_right _ (List.mem_append_left _ (List.mem_of_getElem? (i := 92) rfl))))) rfl
set_option maxRecDepth 20000 in
theorem w_810 : (Cond.instanceMethod ⟨"SmallHarbour$Rules", "add", "(I[II)I"⟩) ∈ tbg := tb_in (List.mem_append_right _ (List.mem_append_right _ (List.mem_append_right _ (List.mem_append_left _ (List.mem_of_getElem? (i := 90) rfl))))) rfl
set_option maxRecDepth 20000 in
theorem w_811 : (Cond.selects "SmallHarbour$Rules" ⟨"SmallHarbour$Rules", "add", "(I[II)I"⟩ ⟨"SmallHarbour$Rules", "add", "(I[II)I"⟩) ∈ tbg := tb_in (List.mem_append_right _ (List.mem_append_right _ (List.mem_append_right _ (List.mem_append_left _ (List.mem_of_getElem? (i := 91) rfl))))) rfl
set_option maxRecDepth 20000 in
theorem w_732 : (Cond.code ⟨"SmallHarbour", "rule", "(I)I"⟩ prog_1_method_25_code 3 (Option.some FieldType.int)) ∈ tbg := tb_in (List.mem_append_right _ (List.mem_append_right _ (List.mem_append_right _ (List.mem_append_left _ (List.mem_of_getElem? (i := 12) rfl))))) rfl
set_option maxRecDepth 20000 in
theorem w_730 : (Cond.instanceMethod ⟨"SmallHarbour", "rule", "(I)I"⟩) ∈ tbg := tb_in (List.mem_append_right _ (List.mem_append_right _ (List.mem_append_right _ (List.mem_append_left _ (List.mem_of_getElem? (i := 10) rfl))))) rfl
set_option maxRecDepth 20000 in
theorem w_731 : (Cond.selects "SmallHarbour" ⟨"SmallHarbour", "rule", "(I)I"⟩ ⟨"SmallHarbour", "rule", "(I)I"⟩) ∈ tbg := tb_in (List.mem_append_right _ (List.mem_append_right _ (List.mem_append_right _ (List.mem_append_left _ (List.mem_of_getElem? (i := 11) rfl))))) rfl
set_option maxRecDepth 20000 in
theorem w_821 : (Cond.code ⟨"SmallHarbour", "says", "(IIII)I"⟩ prog_1_method_27_code 5 (Option.some FieldType.int)) ∈ tbg := tb_in (List.mem_append_right _ (List.mem_append_right _ (List.mem_append_right _ (List.mem_append_left _ (List.mem_of_getElem? (i := 101) rfl))))) rfl
set_option maxRecDepth 20000 in
theorem w_819 : (Cond.instanceMethod ⟨"SmallHarbour", "says", "(IIII)I"⟩) ∈ tbg := tb_in (List.mem_append_right _ (List.mem_append_right _ (List.mem_append_right _ (List.mem_append_left _ (List.mem_of_getElem? (i := 99) rfl))))) rfl
set_option maxRecDepth 20000 in
theorem w_820 : (Cond.selects "SmallHarbour" ⟨"SmallHarbour", "says", "(IIII)I"⟩ ⟨"SmallHarbour", "says", "(IIII)I"⟩) ∈ tbg := tb_in (List.mem_append_right _ (List.mem_append_right _ (List.mem_append_right _ (List.mem_append_left _ (List.mem_of_getElem? (i := 100) rfl))))) rfl
set_option maxRecDepth 20000 in
theorem w_681 : (Cond.code ⟨"SmallHarbour$Shed", "restart", "(II)Z"⟩ prog_7_method_2_code 3 (Option.some FieldType.boolean)) ∈ tbg := tb_in (List.mem_append_right _ (List.mem_append_right _ (List.mem_append_left _ (List.mem_of_getElem? (i := 201) rfl)))) rfl
set_option maxRecDepth 20000 in
theorem w_679 : (Cond.instanceMethod ⟨"SmallHarbour$Shed", "restart", "(II)Z"⟩) ∈ tbg := tb_in (List.mem_append_right _ (List.mem_append_right _ (List.mem_append_left _ (List.mem_of_getElem? (i := 199) rfl)))) rfl
set_option maxRecDepth 20000 in
theorem w_680 : (Cond.selects "SmallHarbour$Shed" ⟨"SmallHarbour$Shed", "restart", "(II)Z"⟩ ⟨"SmallHarbour$Shed", "restart", "(II)Z"⟩) ∈ tbg := tb_in (List.mem_append_right _ (List.mem_append_right _ (List.mem_append_left _ (List.mem_of_getElem? (i := 200) rfl)))) rfl
set_option maxRecDepth 20000 in
theorem w_677 : (Cond.code ⟨"SmallHarbour", "shed", "(II)Z"⟩ prog_1_method_19_code 3 (Option.some FieldType.boolean)) ∈ tbg := tb_in (List.mem_append_right _ (List.mem_append_right _ (List.mem_append_left _ (List.mem_of_getElem? (i := 197) rfl)))) rfl
set_option maxRecDepth 20000 in
theorem w_675 : (Cond.instanceMethod ⟨"SmallHarbour", "shed", "(II)Z"⟩) ∈ tbg := tb_in (List.mem_append_right _ (List.mem_append_right _ (List.mem_append_left _ (List.mem_of_getElem? (i := 195) rfl)))) rfl
set_option maxRecDepth 20000 in
theorem w_676 : (Cond.selects "SmallHarbour" ⟨"SmallHarbour", "shed", "(II)Z"⟩ ⟨"SmallHarbour", "shed", "(II)Z"⟩) ∈ tbg := tb_in (List.mem_append_right _ (List.mem_append_right _ (List.mem_append_left _ (List.mem_of_getElem? (i := 196) rfl)))) rfl
set_option maxRecDepth 20000 in
theorem w_522 : (Cond.code ⟨"SmallHarbour", "stay", "(III)I"⟩ prog_1_method_10_code 5 (Option.some FieldType.int)) ∈ tbg := tb_in (List.mem_append_right _ (List.mem_append_right _ (List.mem_append_left _ (List.mem_of_getElem? (i := 42) rfl)))) rfl
set_option maxRecDepth 20000 in
theorem w_520 : (Cond.instanceMethod ⟨"SmallHarbour", "stay", "(III)I"⟩) ∈ tbg := tb_in (List.mem_append_right _ (List.mem_append_right _ (List.mem_append_left _ (List.mem_of_getElem? (i := 40) rfl)))) rfl
set_option maxRecDepth 20000 in
theorem w_521 : (Cond.selects "SmallHarbour" ⟨"SmallHarbour", "stay", "(III)I"⟩ ⟨"SmallHarbour", "stay", "(III)I"⟩) ∈ tbg := tb_in (List.mem_append_right _ (List.mem_append_right _ (List.mem_append_left _ (List.mem_of_getElem? (i := 41) rfl)))) rfl
set_option maxRecDepth 20000 in
theorem w_611 : (Cond.code ⟨"SmallHarbour", "stayOf", "(II)I"⟩ prog_1_method_14_code 3 (Option.some FieldType.int)) ∈ tbg := tb_in (List.mem_append_right _ (List.mem_append_right _ (List.mem_append_left _ (List.mem_of_getElem? (i := 131) rfl)))) rfl
set_option maxRecDepth 20000 in
theorem w_609 : (Cond.instanceMethod ⟨"SmallHarbour", "stayOf", "(II)I"⟩) ∈ tbg := tb_in (List.mem_append_right _ (List.mem_append_right _ (List.mem_append_left _ (List.mem_of_getElem? (i := 129) rfl)))) rfl
set_option maxRecDepth 20000 in
theorem w_610 : (Cond.selects "SmallHarbour" ⟨"SmallHarbour", "stayOf", "(II)I"⟩ ⟨"SmallHarbour", "stayOf", "(II)I"⟩) ∈ tbg := tb_in (List.mem_append_right _ (List.mem_append_right _ (List.mem_append_left _ (List.mem_of_getElem? (i := 130) rfl)))) rfl
set_option maxRecDepth 20000 in
theorem w_694 : (Cond.code ⟨"SmallHarbour$Shed", "isIn", "(I)Z"⟩ prog_7_method_5_code 3 (Option.some FieldType.boolean)) ∈ tbg := tb_in (List.mem_append_right _ (List.mem_append_right _ (List.mem_append_left _ (List.mem_of_getElem? (i := 214) rfl)))) rfl
set_option maxRecDepth 20000 in
theorem w_693 : (Cond.instanceMethod ⟨"SmallHarbour$Shed", "isIn", "(I)Z"⟩) ∈ tbg := tb_in (List.mem_append_right _ (List.mem_append_right _ (List.mem_append_left _ (List.mem_of_getElem? (i := 213) rfl)))) rfl
set_option maxRecDepth 20000 in
theorem w_s1_15 : (Cond.selects "SmallHarbour$Shed" ⟨"SmallHarbour$Shed", "isIn", "(I)Z"⟩ ⟨"SmallHarbour$Shed", "isIn", "(I)Z"⟩) ∈ tbg := tb_sel (List.mem_map_of_mem (f := fun q : MethodName × Nat => Cond.selects q.1.cls q.1 q.1) (a := (⟨"SmallHarbour$Shed", "isIn", "(I)Z"⟩, 10)) (List.mem_append_left _ (List.mem_of_getElem? (i := 15) rfl))) rfl
set_option maxRecDepth 20000 in
theorem w_703 : (Cond.code ⟨"SmallHarbour$Shed", "movesBy", "(II)I"⟩ prog_7_method_7_code 5 (Option.some FieldType.int)) ∈ tbg := tb_in (List.mem_append_right _ (List.mem_append_right _ (List.mem_append_left _ (List.mem_of_getElem? (i := 223) rfl)))) rfl
set_option maxRecDepth 20000 in
theorem w_702 : (Cond.instanceMethod ⟨"SmallHarbour$Shed", "movesBy", "(II)I"⟩) ∈ tbg := tb_in (List.mem_append_right _ (List.mem_append_right _ (List.mem_append_left _ (List.mem_of_getElem? (i := 222) rfl)))) rfl
set_option maxRecDepth 20000 in
theorem w_s2_1 : (Cond.selects "SmallHarbour$Shed" ⟨"SmallHarbour$Shed", "movesBy", "(II)I"⟩ ⟨"SmallHarbour$Shed", "movesBy", "(II)I"⟩) ∈ tbg := tb_sel (List.mem_map_of_mem (f := fun q : MethodName × Nat => Cond.selects q.1.cls q.1 q.1) (a := (⟨"SmallHarbour$Shed", "movesBy", "(II)I"⟩, 10)) (List.mem_append_right _ (List.mem_append_left _ (List.mem_of_getElem? (i := 1) rfl)))) rfl
set_option maxRecDepth 20000 in
theorem w_698 : (Cond.code ⟨"SmallHarbour$Shed", "putFrom", "(III)V"⟩ prog_7_method_6_code 6 (Option.none : Option FieldType)) ∈ tbg := tb_in (List.mem_append_right _ (List.mem_append_right _ (List.mem_append_left _ (List.mem_of_getElem? (i := 218) rfl)))) rfl
set_option maxRecDepth 20000 in
theorem w_697 : (Cond.instanceMethod ⟨"SmallHarbour$Shed", "putFrom", "(III)V"⟩) ∈ tbg := tb_in (List.mem_append_right _ (List.mem_append_right _ (List.mem_append_left _ (List.mem_of_getElem? (i := 217) rfl)))) rfl
set_option maxRecDepth 20000 in
theorem w_s2_0 : (Cond.selects "SmallHarbour$Shed" ⟨"SmallHarbour$Shed", "putFrom", "(III)V"⟩ ⟨"SmallHarbour$Shed", "putFrom", "(III)V"⟩) ∈ tbg := tb_sel (List.mem_map_of_mem (f := fun q : MethodName × Nat => Cond.selects q.1.cls q.1 q.1) (a := (⟨"SmallHarbour$Shed", "putFrom", "(III)V"⟩, 10)) (List.mem_append_right _ (List.mem_append_left _ (List.mem_of_getElem? (i := 0) rfl)))) rfl
set_option maxRecDepth 20000 in
theorem w_690 : (Cond.code ⟨"SmallHarbour$Shed", "add", "(III)I"⟩ prog_7_method_3_code 4 (Option.some FieldType.int)) ∈ tbg := tb_in (List.mem_append_right _ (List.mem_append_right _ (List.mem_append_left _ (List.mem_of_getElem? (i := 210) rfl)))) rfl
set_option maxRecDepth 20000 in
theorem w_688 : (Cond.instanceMethod ⟨"SmallHarbour$Shed", "add", "(III)I"⟩) ∈ tbg := tb_in (List.mem_append_right _ (List.mem_append_right _ (List.mem_append_left _ (List.mem_of_getElem? (i := 208) rfl)))) rfl
set_option maxRecDepth 20000 in
theorem w_689 : (Cond.selects "SmallHarbour$Shed" ⟨"SmallHarbour$Shed", "add", "(III)I"⟩ ⟨"SmallHarbour$Shed", "add", "(III)I"⟩) ∈ tbg := tb_in (List.mem_append_right _ (List.mem_append_right _ (List.mem_append_left _ (List.mem_of_getElem? (i := 209) rfl)))) rfl
set_option maxRecDepth 20000 in
theorem w_686 : (Cond.code ⟨"SmallHarbour", "winter", "(II)I"⟩ prog_1_method_20_code 3 (Option.some FieldType.int)) ∈ tbg := tb_in (List.mem_append_right _ (List.mem_append_right _ (List.mem_append_left _ (List.mem_of_getElem? (i := 206) rfl)))) rfl
set_option maxRecDepth 20000 in
theorem w_684 : (Cond.instanceMethod ⟨"SmallHarbour", "winter", "(II)I"⟩) ∈ tbg := tb_in (List.mem_append_right _ (List.mem_append_right _ (List.mem_append_left _ (List.mem_of_getElem? (i := 204) rfl)))) rfl
set_option maxRecDepth 20000 in
theorem w_685 : (Cond.selects "SmallHarbour" ⟨"SmallHarbour", "winter", "(II)I"⟩ ⟨"SmallHarbour", "winter", "(II)I"⟩) ∈ tbg := tb_in (List.mem_append_right _ (List.mem_append_right _ (List.mem_append_left _ (List.mem_of_getElem? (i := 205) rfl)))) rfl
theorem lt_bipush_m126 : (Int8.ofInt (-126)).toInt32 = (-126 : Int32) := by decide
theorem lt_bipush_m63 : (Int8.ofInt (-63)).toInt32 = (-63 : Int32) := by decide
theorem lt_bipush_m3 : (Int8.ofInt (-3)).toInt32 = (-3 : Int32) := by decide
theorem lt_bipush_m2 : (Int8.ofInt (-2)).toInt32 = (-2 : Int32) := by decide
theorem lt_bipush_6 : (Int8.ofInt (6)).toInt32 = (6 : Int32) := by decide
theorem lt_bipush_7 : (Int8.ofInt (7)).toInt32 = (7 : Int32) := by decide
theorem lt_bipush_8 : (Int8.ofInt (8)).toInt32 = (8 : Int32) := by decide
theorem lt_bipush_9 : (Int8.ofInt (9)).toInt32 = (9 : Int32) := by decide
theorem lt_bipush_10 : (Int8.ofInt (10)).toInt32 = (10 : Int32) := by decide
theorem lt_bipush_11 : (Int8.ofInt (11)).toInt32 = (11 : Int32) := by decide
theorem lt_bipush_12 : (Int8.ofInt (12)).toInt32 = (12 : Int32) := by decide
theorem lt_bipush_13 : (Int8.ofInt (13)).toInt32 = (13 : Int32) := by decide
theorem lt_bipush_14 : (Int8.ofInt (14)).toInt32 = (14 : Int32) := by decide
theorem lt_bipush_15 : (Int8.ofInt (15)).toInt32 = (15 : Int32) := by decide
theorem lt_bipush_16 : (Int8.ofInt (16)).toInt32 = (16 : Int32) := by decide
theorem lt_bipush_17 : (Int8.ofInt (17)).toInt32 = (17 : Int32) := by decide
theorem lt_bipush_18 : (Int8.ofInt (18)).toInt32 = (18 : Int32) := by decide
theorem lt_bipush_19 : (Int8.ofInt (19)).toInt32 = (19 : Int32) := by decide
theorem lt_bipush_20 : (Int8.ofInt (20)).toInt32 = (20 : Int32) := by decide
theorem lt_bipush_24 : (Int8.ofInt (24)).toInt32 = (24 : Int32) := by decide
theorem lt_bipush_30 : (Int8.ofInt (30)).toInt32 = (30 : Int32) := by decide
theorem lt_bipush_31 : (Int8.ofInt (31)).toInt32 = (31 : Int32) := by decide
theorem lt_bipush_32 : (Int8.ofInt (32)).toInt32 = (32 : Int32) := by decide
theorem lt_bipush_37 : (Int8.ofInt (37)).toInt32 = (37 : Int32) := by decide
theorem lt_bipush_40 : (Int8.ofInt (40)).toInt32 = (40 : Int32) := by decide
theorem lt_bipush_41 : (Int8.ofInt (41)).toInt32 = (41 : Int32) := by decide
theorem lt_bipush_42 : (Int8.ofInt (42)).toInt32 = (42 : Int32) := by decide
theorem lt_bipush_43 : (Int8.ofInt (43)).toInt32 = (43 : Int32) := by decide
theorem lt_bipush_45 : (Int8.ofInt (45)).toInt32 = (45 : Int32) := by decide
theorem lt_bipush_47 : (Int8.ofInt (47)).toInt32 = (47 : Int32) := by decide
theorem lt_bipush_48 : (Int8.ofInt (48)).toInt32 = (48 : Int32) := by decide
theorem lt_bipush_57 : (Int8.ofInt (57)).toInt32 = (57 : Int32) := by decide
theorem lt_bipush_60 : (Int8.ofInt (60)).toInt32 = (60 : Int32) := by decide
theorem lt_bipush_61 : (Int8.ofInt (61)).toInt32 = (61 : Int32) := by decide
theorem lt_bipush_65 : (Int8.ofInt (65)).toInt32 = (65 : Int32) := by decide
theorem lt_bipush_81 : (Int8.ofInt (81)).toInt32 = (81 : Int32) := by decide
theorem lt_bipush_90 : (Int8.ofInt (90)).toInt32 = (90 : Int32) := by decide
theorem lt_bipush_97 : (Int8.ofInt (97)).toInt32 = (97 : Int32) := by decide
theorem lt_bipush_100 : (Int8.ofInt (100)).toInt32 = (100 : Int32) := by decide
theorem lt_bipush_102 : (Int8.ofInt (102)).toInt32 = (102 : Int32) := by decide
theorem lt_bipush_110 : (Int8.ofInt (110)).toInt32 = (110 : Int32) := by decide
theorem lt_bipush_122 : (Int8.ofInt (122)).toInt32 = (122 : Int32) := by decide
theorem lt_iconst_m8 : Int32.ofInt (-8) = (-8 : Int32) := by decide
theorem lt_iconst_m2 : Int32.ofInt (-2) = (-2 : Int32) := by decide
theorem lt_iconst_m1 : Int32.ofInt (-1) = (-1 : Int32) := by decide
theorem lt_iconst_0 : Int32.ofInt (0) = (0 : Int32) := by decide
theorem lt_iconst_1 : Int32.ofInt (1) = (1 : Int32) := by decide
theorem lt_iconst_2 : Int32.ofInt (2) = (2 : Int32) := by decide
theorem lt_iconst_3 : Int32.ofInt (3) = (3 : Int32) := by decide
theorem lt_iconst_4 : Int32.ofInt (4) = (4 : Int32) := by decide
theorem lt_iconst_5 : Int32.ofInt (5) = (5 : Int32) := by decide
theorem lt_iconst_6 : Int32.ofInt (6) = (6 : Int32) := by decide
theorem lt_sipush_130 : (Int16.ofInt (130)).toInt32 = (130 : Int32) := by decide
theorem lt_sipush_200 : (Int16.ofInt (200)).toInt32 = (200 : Int32) := by decide
theorem lt_sipush_255 : (Int16.ofInt (255)).toInt32 = (255 : Int32) := by decide
theorem lt_sipush_300 : (Int16.ofInt (300)).toInt32 = (300 : Int32) := by decide
theorem lt_sipush_399 : (Int16.ofInt (399)).toInt32 = (399 : Int32) := by decide
theorem lt_sipush_400 : (Int16.ofInt (400)).toInt32 = (400 : Int32) := by decide
theorem lt_sipush_480 : (Int16.ofInt (480)).toInt32 = (480 : Int32) := by decide
theorem lt_sipush_499 : (Int16.ofInt (499)).toInt32 = (499 : Int32) := by decide
theorem lt_sipush_500 : (Int16.ofInt (500)).toInt32 = (500 : Int32) := by decide
theorem lt_sipush_600 : (Int16.ofInt (600)).toInt32 = (600 : Int32) := by decide
theorem lt_sipush_1000 : (Int16.ofInt (1000)).toInt32 = (1000 : Int32) := by decide
theorem lt_sipush_2000 : (Int16.ofInt (2000)).toInt32 = (2000 : Int32) := by decide
theorem lt_sipush_26982 : (Int16.ofInt (26982)).toInt32 = (26982 : Int32) := by decide
