theorem zq_7 : Cond.constantLong RL 19 (4294967295) ∈ zG := List.mem_of_getElem? (i := 7) (by decide +kernel)
theorem zq_234 : Cond.methodLink RL 21 yX11_feed ∈ zG := List.mem_of_getElem? (i := 234) (by decide +kernel)
theorem zq_244 : Cond.methodLink RL 25 yX12_feed ∈ zG := List.mem_of_getElem? (i := 244) (by decide +kernel)
theorem zq_254 : Cond.methodLink RL 26 yX11_book ∈ zG := List.mem_of_getElem? (i := 254) (by decide +kernel)
theorem zq_580 : Cond.methodLink RL 30 yX12_book ∈ zG := List.mem_of_getElem? (i := 580) (by decide +kernel)
theorem zq_712 : Cond.methodLink RL 31 yX11_notes ∈ zG := List.mem_of_getElem? (i := 712) (by decide +kernel)
theorem zq_741 : Cond.methodLink RL 34 yX12_notes ∈ zG := List.mem_of_getElem? (i := 741) (by decide +kernel)
theorem zq_749 : Cond.methodLink RL 35 yX11_term ∈ zG := List.mem_of_getElem? (i := 749) (by decide +kernel)
theorem zq_765 : Cond.methodLink RL 39 yX12_term ∈ zG := List.mem_of_getElem? (i := 765) (by decide +kernel)
theorem zq_776 : Cond.methodLink RL 40 yX11_line ∈ zG := List.mem_of_getElem? (i := 776) (by decide +kernel)
theorem zq_829 : Cond.methodLink RL 43 yX12_line ∈ zG := List.mem_of_getElem? (i := 829) (by decide +kernel)
theorem zq_860 : Cond.methodLink RL 44 yX11_there ∈ zG := List.mem_of_getElem? (i := 860) (by decide +kernel)
theorem zq_865 : Cond.methodLink RL 47 yX12_there ∈ zG := List.mem_of_getElem? (i := 865) (by decide +kernel)
theorem zq_869 : Cond.methodLink RL 48 yX11_guess ∈ zG := List.mem_of_getElem? (i := 869) (by decide +kernel)
theorem zq_902 : Cond.methodLink RL 52 yX12_guess ∈ zG := List.mem_of_getElem? (i := 902) (by decide +kernel)
theorem zq_918 : Cond.methodLink RL 53 yX11_forget ∈ zG := List.mem_of_getElem? (i := 918) (by decide +kernel)
theorem zq_922 : Cond.methodLink RL 57 yX12_forget ∈ zG := List.mem_of_getElem? (i := 922) (by decide +kernel)
theorem zq_926 : Cond.methodLink RL 58 yX11_tell ∈ zG := List.mem_of_getElem? (i := 926) (by decide +kernel)
theorem zq_933 : Cond.methodLink RL 61 yX12_tell ∈ zG := List.mem_of_getElem? (i := 933) (by decide +kernel)
theorem zq_937 : Cond.methodLink RL 62 yX11_drop ∈ zG := List.mem_of_getElem? (i := 937) (by decide +kernel)
theorem zq_941 : Cond.methodLink RL 65 yX12_drop ∈ zG := List.mem_of_getElem? (i := 941) (by decide +kernel)
theorem zq_945 : Cond.methodLink RL 66 yX11_undo ∈ zG := List.mem_of_getElem? (i := 945) (by decide +kernel)
theorem zq_954 : Cond.methodLink RL 70 yX12_undo ∈ zG := List.mem_of_getElem? (i := 954) (by decide +kernel)
theorem zq_958 : Cond.methodLink RL 71 yX11_judged ∈ zG := List.mem_of_getElem? (i := 958) (by decide +kernel)
theorem zq_1056 : Cond.methodLink RL 74 yX12_judged ∈ zG := List.mem_of_getElem? (i := 1056) (by decide +kernel)
theorem zq_1100 : Cond.methodLink RL 75 yX11_fits ∈ zG := List.mem_of_getElem? (i := 1100) (by decide +kernel)
theorem zq_1114 : Cond.methodLink RL 78 yX12_fits ∈ zG := List.mem_of_getElem? (i := 1114) (by decide +kernel)
theorem zq_1118 : Cond.methodLink RL 79 yX11_entry ∈ zG := List.mem_of_getElem? (i := 1118) (by decide +kernel)
theorem zq_1124 : Cond.methodLink RL 82 yX12_entry ∈ zG := List.mem_of_getElem? (i := 1124) (by decide +kernel)
theorem zq_1128 : Cond.methodLink RL 83 yX11_could ∈ zG := List.mem_of_getElem? (i := 1128) (by decide +kernel)
theorem zq_1154 : Cond.methodLink RL 86 yX12_could ∈ zG := List.mem_of_getElem? (i := 1154) (by decide +kernel)
theorem zq_1158 : Cond.methodLink RL 87 yX11_sure ∈ zG := List.mem_of_getElem? (i := 1158) (by decide +kernel)
theorem zq_1174 : Cond.methodLink RL 90 yX12_sure ∈ zG := List.mem_of_getElem? (i := 1174) (by decide +kernel)
theorem zq_1182 : Cond.methodLink RL 91 yX11_fixed ∈ zG := List.mem_of_getElem? (i := 1182) (by decide +kernel)
theorem zq_1186 : Cond.methodLink RL 94 yX12_fixed ∈ zG := List.mem_of_getElem? (i := 1186) (by decide +kernel)
theorem zq_1190 : Cond.methodLink RL 95 yX11_with ∈ zG := List.mem_of_getElem? (i := 1190) (by decide +kernel)
theorem zq_1198 : Cond.methodLink RL 98 yX12_with ∈ zG := List.mem_of_getElem? (i := 1198) (by decide +kernel)
theorem zq_1202 : Cond.methodLink RL 99 yX11_least ∈ zG := List.mem_of_getElem? (i := 1202) (by decide +kernel)
theorem zq_1216 : Cond.methodLink RL 102 yX12_least ∈ zG := List.mem_of_getElem? (i := 1216) (by decide +kernel)
theorem zq_1224 : Cond.methodLink RL 103 yX11_most ∈ zG := List.mem_of_getElem? (i := 1224) (by decide +kernel)
theorem zq_1229 : Cond.methodLink RL 106 yX12_most ∈ zG := List.mem_of_getElem? (i := 1229) (by decide +kernel)
theorem zq_1237 : Cond.methodLink RL 107 yX11_kinds ∈ zG := List.mem_of_getElem? (i := 1237) (by decide +kernel)
theorem zq_1245 : Cond.methodLink RL 110 yX12_kinds ∈ zG := List.mem_of_getElem? (i := 1245) (by decide +kernel)
theorem zq_1253 : Cond.methodLink RL 111 yX11_open ∈ zG := List.mem_of_getElem? (i := 1253) (by decide +kernel)
theorem zq_1257 : Cond.methodLink RL 114 yX12_open ∈ zG := List.mem_of_getElem? (i := 1257) (by decide +kernel)
theorem zq_1261 : Cond.methodLink RL 115 yX11_has ∈ zG := List.mem_of_getElem? (i := 1261) (by decide +kernel)
theorem zq_1265 : Cond.methodLink RL 118 yX12_has ∈ zG := List.mem_of_getElem? (i := 1265) (by decide +kernel)
theorem zq_1269 : Cond.methodLink RL 119 yX11_ask ∈ zG := List.mem_of_getElem? (i := 1269) (by decide +kernel)
theorem zq_1278 : Cond.methodLink RL 122 yX12_ask ∈ zG := List.mem_of_getElem? (i := 1278) (by decide +kernel)
theorem zq_1282 : Cond.methodLink RL 123 yX11_learn ∈ zG := List.mem_of_getElem? (i := 1282) (by decide +kernel)
theorem zq_1286 : Cond.methodLink RL 126 yX12_learn ∈ zG := List.mem_of_getElem? (i := 1286) (by decide +kernel)
theorem zq_1290 : Cond.methodLink RL 127 yX11_bad ∈ zG := List.mem_of_getElem? (i := 1290) (by decide +kernel)
theorem zq_1313 : Cond.methodLink RL 130 yX12_bad ∈ zG := List.mem_of_getElem? (i := 1313) (by decide +kernel)
theorem zq_1325 : Cond.methodLink RL 131 yX11_off ∈ zG := List.mem_of_getElem? (i := 1325) (by decide +kernel)
theorem zq_1330 : Cond.methodLink RL 134 yX12_off ∈ zG := List.mem_of_getElem? (i := 1330) (by decide +kernel)
theorem zq_1334 : Cond.methodLink RL 135 yX11_behind ∈ zG := List.mem_of_getElem? (i := 1334) (by decide +kernel)
theorem zq_1338 : Cond.methodLink RL 138 yX12_behind ∈ zG := List.mem_of_getElem? (i := 1338) (by decide +kernel)
theorem zq_1342 : Cond.methodLink RL 139 yX11_twins ∈ zG := List.mem_of_getElem? (i := 1342) (by decide +kernel)
theorem zq_1350 : Cond.methodLink RL 142 yX12_twins ∈ zG := List.mem_of_getElem? (i := 1350) (by decide +kernel)
theorem zq_1354 : Cond.methodLink RL 143 yX11_idle ∈ zG := List.mem_of_getElem? (i := 1354) (by decide +kernel)
theorem zq_1358 : Cond.methodLink RL 146 yX12_idle ∈ zG := List.mem_of_getElem? (i := 1358) (by decide +kernel)
theorem zq_1362 : Cond.methodLink RL 147 yX11_drops ∈ zG := List.mem_of_getElem? (i := 1362) (by decide +kernel)
theorem zq_1376 : Cond.methodLink RL 150 yX12_drops ∈ zG := List.mem_of_getElem? (i := 1376) (by decide +kernel)
theorem zq_1380 : Cond.methodLink RL 151 yX11_misprints ∈ zG := List.mem_of_getElem? (i := 1380) (by decide +kernel)
theorem zq_1440 : Cond.methodLink RL 154 yX12_misprints ∈ zG := List.mem_of_getElem? (i := 1440) (by decide +kernel)
theorem zq_1452 : Cond.methodLink RL 155 yX11_misprint ∈ zG := List.mem_of_getElem? (i := 1452) (by decide +kernel)
theorem zq_1459 : Cond.methodLink RL 158 yX12_misprint ∈ zG := List.mem_of_getElem? (i := 1459) (by decide +kernel)
theorem zq_1463 : Cond.methodLink RL 159 yX11_turned ∈ zG := List.mem_of_getElem? (i := 1463) (by decide +kernel)
theorem zq_1471 : Cond.methodLink RL 163 yX12_turned ∈ zG := List.mem_of_getElem? (i := 1471) (by decide +kernel)
theorem zq_1475 : Cond.methodLink RL 164 yX11_alike ∈ zG := List.mem_of_getElem? (i := 1475) (by decide +kernel)
theorem zq_1483 : Cond.methodLink RL 168 yX12_alike ∈ zG := List.mem_of_getElem? (i := 1483) (by decide +kernel)
theorem zq_1487 : Cond.methodLink RL 169 yX11_spare ∈ zG := List.mem_of_getElem? (i := 1487) (by decide +kernel)
theorem zq_1500 : Cond.methodLink RL 172 yX12_spare ∈ zG := List.mem_of_getElem? (i := 1500) (by decide +kernel)
theorem zq_1504 : Cond.methodLink RL 173 yX11_strict ∈ zG := List.mem_of_getElem? (i := 1504) (by decide +kernel)
theorem zq_1513 : Cond.methodLink RL 176 yX12_strict ∈ zG := List.mem_of_getElem? (i := 1513) (by decide +kernel)
theorem zq_1517 : Cond.methodLink RL 177 yX11_chance ∈ zG := List.mem_of_getElem? (i := 1517) (by decide +kernel)
theorem zq_1526 : Cond.methodLink RL 180 yX12_chance ∈ zG := List.mem_of_getElem? (i := 1526) (by decide +kernel)
theorem zq_1531 : Cond.methodLink RL 181 yL_rests ∈ zG := List.mem_of_getElem? (i := 1531) (by decide +kernel)
theorem zq_1551 : Cond.methodLink RL 186 yX12_rests ∈ zG := List.mem_of_getElem? (i := 1551) (by decide +kernel)
theorem zq_1558 : Cond.methodLink RL 187 yX12_thrown ∈ zG := List.mem_of_getElem? (i := 1558) (by decide +kernel)
theorem zq_1562 : Cond.methodLink RL 190 yX11_drafts ∈ zG := List.mem_of_getElem? (i := 1562) (by decide +kernel)
theorem zq_1577 : Cond.methodLink RL 193 yX12_drafts ∈ zG := List.mem_of_getElem? (i := 1577) (by decide +kernel)
theorem zq_1598 : Cond.methodLink RL 194 yX11_mark ∈ zG := List.mem_of_getElem? (i := 1598) (by decide +kernel)
theorem zq_1606 : Cond.methodLink RL 198 yX12_mark ∈ zG := List.mem_of_getElem? (i := 1606) (by decide +kernel)
theorem zq_1610 : Cond.methodLink RL 199 yX11_count ∈ zG := List.mem_of_getElem? (i := 1610) (by decide +kernel)
theorem zq_1617 : Cond.methodLink RL 202 yX12_count ∈ zG := List.mem_of_getElem? (i := 1617) (by decide +kernel)
theorem zq_1478 : Cond.code yX11_alike cX11_alike 3 (some .boolean) ∈ zG := List.mem_of_getElem? (i := 1478) (by decide +kernel)
theorem zq_1476 : Cond.instanceMethod yX11_alike ∈ zG := List.mem_of_getElem? (i := 1476) (by decide +kernel)
theorem zq_1477 : Cond.selects RX11 yX11_alike yX11_alike ∈ zG := List.mem_of_getElem? (i := 1477) (by decide +kernel)
theorem zy_X11_alike : zyV yX11_alike cX11_alike 3 (some .boolean) 2 := ⟨zq_1478, zq_1476, zq_1477, zq_2, ⟨by decide, by decide⟩, by decide +kernel, by decide⟩
theorem zq_1272 : Cond.code yX11_ask cX11_ask 4 (some .int) ∈ zG := List.mem_of_getElem? (i := 1272) (by decide +kernel)
theorem zq_1270 : Cond.instanceMethod yX11_ask ∈ zG := List.mem_of_getElem? (i := 1270) (by decide +kernel)
theorem zq_1271 : Cond.selects RX11 yX11_ask yX11_ask ∈ zG := List.mem_of_getElem? (i := 1271) (by decide +kernel)
theorem zy_X11_ask : zyV yX11_ask cX11_ask 4 (some .int) 0 := ⟨zq_1272, zq_1270, zq_1271, zq_2, ⟨by decide, by decide⟩, by decide +kernel, by decide⟩
theorem zq_1337 : Cond.code yX11_behind cX11_behind 3 (some .int) ∈ zG := List.mem_of_getElem? (i := 1337) (by decide +kernel)
theorem zq_1335 : Cond.instanceMethod yX11_behind ∈ zG := List.mem_of_getElem? (i := 1335) (by decide +kernel)
theorem zq_1336 : Cond.selects RX11 yX11_behind yX11_behind ∈ zG := List.mem_of_getElem? (i := 1336) (by decide +kernel)
theorem zy_X11_behind : zyV yX11_behind cX11_behind 3 (some .int) 1 := ⟨zq_1337, zq_1335, zq_1336, zq_2, ⟨by decide, by decide⟩, by decide +kernel, by decide⟩
theorem zq_257 : Cond.code yX11_book cX11_book 4 (some .int) ∈ zG := List.mem_of_getElem? (i := 257) (by decide +kernel)
theorem zq_255 : Cond.instanceMethod yX11_book ∈ zG := List.mem_of_getElem? (i := 255) (by decide +kernel)
theorem zq_256 : Cond.selects RX11 yX11_book yX11_book ∈ zG := List.mem_of_getElem? (i := 256) (by decide +kernel)
theorem zy_X11_book : zyV yX11_book cX11_book 4 (some .int) 0 := ⟨zq_257, zq_255, zq_256, zq_2, ⟨by decide, by decide⟩, by decide +kernel, by decide⟩
theorem zq_1520 : Cond.code yX11_chance cX11_chance 6 (some .int) ∈ zG := List.mem_of_getElem? (i := 1520) (by decide +kernel)
theorem zq_1518 : Cond.instanceMethod yX11_chance ∈ zG := List.mem_of_getElem? (i := 1518) (by decide +kernel)
theorem zq_1519 : Cond.selects RX11 yX11_chance yX11_chance ∈ zG := List.mem_of_getElem? (i := 1519) (by decide +kernel)
theorem zy_X11_chance : zyV yX11_chance cX11_chance 6 (some .int) 2 := ⟨zq_1520, zq_1518, zq_1519, zq_2, ⟨by decide, by decide⟩, by decide +kernel, by decide⟩
theorem zq_1131 : Cond.code yX11_could cX11_could 2 (some .int) ∈ zG := List.mem_of_getElem? (i := 1131) (by decide +kernel)
theorem zq_1129 : Cond.instanceMethod yX11_could ∈ zG := List.mem_of_getElem? (i := 1129) (by decide +kernel)
theorem zq_1130 : Cond.selects RX11 yX11_could yX11_could ∈ zG := List.mem_of_getElem? (i := 1130) (by decide +kernel)
theorem zy_X11_could : zyV yX11_could cX11_could 2 (some .int) 1 := ⟨zq_1131, zq_1129, zq_1130, zq_2, ⟨by decide, by decide⟩, by decide +kernel, by decide⟩
theorem zq_1613 : Cond.code yX11_count cX11_count 2 (some .int) ∈ zG := List.mem_of_getElem? (i := 1613) (by decide +kernel)
theorem zq_1611 : Cond.instanceMethod yX11_count ∈ zG := List.mem_of_getElem? (i := 1611) (by decide +kernel)
theorem zq_1612 : Cond.selects RX11 yX11_count yX11_count ∈ zG := List.mem_of_getElem? (i := 1612) (by decide +kernel)
theorem zy_X11_count : zyV yX11_count cX11_count 2 (some .int) 1 := ⟨zq_1613, zq_1611, zq_1612, zq_2, ⟨by decide, by decide⟩, by decide +kernel, by decide⟩
theorem zq_1565 : Cond.code yX11_drafts cX11_drafts 12 (some .int) ∈ zG := List.mem_of_getElem? (i := 1565) (by decide +kernel)
theorem zq_1563 : Cond.instanceMethod yX11_drafts ∈ zG := List.mem_of_getElem? (i := 1563) (by decide +kernel)
theorem zq_1564 : Cond.selects RX11 yX11_drafts yX11_drafts ∈ zG := List.mem_of_getElem? (i := 1564) (by decide +kernel)
theorem zy_X11_drafts : zyV yX11_drafts cX11_drafts 12 (some .int) 3 := ⟨zq_1565, zq_1563, zq_1564, zq_2, ⟨by decide, by decide⟩, by decide +kernel, by decide⟩
theorem zq_940 : Cond.code yX11_drop cX11_drop 3 (some .int) ∈ zG := List.mem_of_getElem? (i := 940) (by decide +kernel)
theorem zq_938 : Cond.instanceMethod yX11_drop ∈ zG := List.mem_of_getElem? (i := 938) (by decide +kernel)
theorem zq_939 : Cond.selects RX11 yX11_drop yX11_drop ∈ zG := List.mem_of_getElem? (i := 939) (by decide +kernel)
theorem zy_X11_drop : zyV yX11_drop cX11_drop 3 (some .int) 1 := ⟨zq_940, zq_938, zq_939, zq_2, ⟨by decide, by decide⟩, by decide +kernel, by decide⟩
theorem zq_1365 : Cond.code yX11_drops cX11_drops 1 (some .int) ∈ zG := List.mem_of_getElem? (i := 1365) (by decide +kernel)
theorem zq_1363 : Cond.instanceMethod yX11_drops ∈ zG := List.mem_of_getElem? (i := 1363) (by decide +kernel)
theorem zq_1364 : Cond.selects RX11 yX11_drops yX11_drops ∈ zG := List.mem_of_getElem? (i := 1364) (by decide +kernel)
theorem zy_X11_drops : zyV yX11_drops cX11_drops 1 (some .int) 0 := ⟨zq_1365, zq_1363, zq_1364, zq_2, ⟨by decide, by decide⟩, by decide +kernel, by decide⟩
theorem zq_1121 : Cond.code yX11_entry cX11_entry 4 (some .int) ∈ zG := List.mem_of_getElem? (i := 1121) (by decide +kernel)
theorem zq_1119 : Cond.instanceMethod yX11_entry ∈ zG := List.mem_of_getElem? (i := 1119) (by decide +kernel)
theorem zq_1120 : Cond.selects RX11 yX11_entry yX11_entry ∈ zG := List.mem_of_getElem? (i := 1120) (by decide +kernel)
theorem zy_X11_entry : zyV yX11_entry cX11_entry 4 (some .int) 2 := ⟨zq_1121, zq_1119, zq_1120, zq_2, ⟨by decide, by decide⟩, by decide +kernel, by decide⟩
theorem zq_237 : Cond.code yX11_feed cX11_feed 7 (some .int) ∈ zG := List.mem_of_getElem? (i := 237) (by decide +kernel)
theorem zq_235 : Cond.instanceMethod yX11_feed ∈ zG := List.mem_of_getElem? (i := 235) (by decide +kernel)
theorem zq_236 : Cond.selects RX11 yX11_feed yX11_feed ∈ zG := List.mem_of_getElem? (i := 236) (by decide +kernel)
theorem zy_X11_feed : zyV yX11_feed cX11_feed 7 (some .int) 3 := ⟨zq_237, zq_235, zq_236, zq_2, ⟨by decide, by decide⟩, by decide +kernel, by decide⟩
theorem zq_1103 : Cond.code yX11_fits cX11_fits 1 (some .int) ∈ zG := List.mem_of_getElem? (i := 1103) (by decide +kernel)
theorem zq_1101 : Cond.instanceMethod yX11_fits ∈ zG := List.mem_of_getElem? (i := 1101) (by decide +kernel)
theorem zq_1102 : Cond.selects RX11 yX11_fits yX11_fits ∈ zG := List.mem_of_getElem? (i := 1102) (by decide +kernel)
theorem zy_X11_fits : zyV yX11_fits cX11_fits 1 (some .int) 0 := ⟨zq_1103, zq_1101, zq_1102, zq_2, ⟨by decide, by decide⟩, by decide +kernel, by decide⟩
theorem zq_1185 : Cond.code yX11_fixed cX11_fixed 3 (some .int) ∈ zG := List.mem_of_getElem? (i := 1185) (by decide +kernel)
theorem zq_1183 : Cond.instanceMethod yX11_fixed ∈ zG := List.mem_of_getElem? (i := 1183) (by decide +kernel)
theorem zq_1184 : Cond.selects RX11 yX11_fixed yX11_fixed ∈ zG := List.mem_of_getElem? (i := 1184) (by decide +kernel)
theorem zy_X11_fixed : zyV yX11_fixed cX11_fixed 3 (some .int) 0 := ⟨zq_1185, zq_1183, zq_1184, zq_2, ⟨by decide, by decide⟩, by decide +kernel, by decide⟩
theorem zq_921 : Cond.code yX11_forget cX11_forget 3 (some .int) ∈ zG := List.mem_of_getElem? (i := 921) (by decide +kernel)
theorem zq_919 : Cond.instanceMethod yX11_forget ∈ zG := List.mem_of_getElem? (i := 919) (by decide +kernel)
theorem zq_920 : Cond.selects RX11 yX11_forget yX11_forget ∈ zG := List.mem_of_getElem? (i := 920) (by decide +kernel)
theorem zy_X11_forget : zyV yX11_forget cX11_forget 3 (some .int) 1 := ⟨zq_921, zq_919, zq_920, zq_2, ⟨by decide, by decide⟩, by decide +kernel, by decide⟩
theorem zq_872 : Cond.code yX11_guess cX11_guess 5 (some .int) ∈ zG := List.mem_of_getElem? (i := 872) (by decide +kernel)
theorem zq_870 : Cond.instanceMethod yX11_guess ∈ zG := List.mem_of_getElem? (i := 870) (by decide +kernel)
theorem zq_871 : Cond.selects RX11 yX11_guess yX11_guess ∈ zG := List.mem_of_getElem? (i := 871) (by decide +kernel)
theorem zy_X11_guess : zyV yX11_guess cX11_guess 5 (some .int) 3 := ⟨zq_872, zq_870, zq_871, zq_2, ⟨by decide, by decide⟩, by decide +kernel, by decide⟩
theorem zq_1264 : Cond.code yX11_has cX11_has 3 (some .int) ∈ zG := List.mem_of_getElem? (i := 1264) (by decide +kernel)
theorem zq_1262 : Cond.instanceMethod yX11_has ∈ zG := List.mem_of_getElem? (i := 1262) (by decide +kernel)
theorem zq_1263 : Cond.selects RX11 yX11_has yX11_has ∈ zG := List.mem_of_getElem? (i := 1263) (by decide +kernel)
theorem zy_X11_has : zyV yX11_has cX11_has 3 (some .int) 2 := ⟨zq_1264, zq_1262, zq_1263, zq_2, ⟨by decide, by decide⟩, by decide +kernel, by decide⟩
theorem zq_1357 : Cond.code yX11_idle cX11_idle 3 (some .int) ∈ zG := List.mem_of_getElem? (i := 1357) (by decide +kernel)
theorem zq_1355 : Cond.instanceMethod yX11_idle ∈ zG := List.mem_of_getElem? (i := 1355) (by decide +kernel)
theorem zq_1356 : Cond.selects RX11 yX11_idle yX11_idle ∈ zG := List.mem_of_getElem? (i := 1356) (by decide +kernel)
theorem zy_X11_idle : zyV yX11_idle cX11_idle 3 (some .int) 0 := ⟨zq_1357, zq_1355, zq_1356, zq_2, ⟨by decide, by decide⟩, by decide +kernel, by decide⟩
theorem zq_961 : Cond.code yX11_judged cX11_judged 2 (some .int) ∈ zG := List.mem_of_getElem? (i := 961) (by decide +kernel)
theorem zq_959 : Cond.instanceMethod yX11_judged ∈ zG := List.mem_of_getElem? (i := 959) (by decide +kernel)
theorem zq_960 : Cond.selects RX11 yX11_judged yX11_judged ∈ zG := List.mem_of_getElem? (i := 960) (by decide +kernel)
theorem zy_X11_judged : zyV yX11_judged cX11_judged 2 (some .int) 1 := ⟨zq_961, zq_959, zq_960, zq_2, ⟨by decide, by decide⟩, by decide +kernel, by decide⟩
theorem zq_1240 : Cond.code yX11_kinds cX11_kinds 2 (some .int) ∈ zG := List.mem_of_getElem? (i := 1240) (by decide +kernel)
theorem zq_1238 : Cond.instanceMethod yX11_kinds ∈ zG := List.mem_of_getElem? (i := 1238) (by decide +kernel)
theorem zq_1239 : Cond.selects RX11 yX11_kinds yX11_kinds ∈ zG := List.mem_of_getElem? (i := 1239) (by decide +kernel)
theorem zy_X11_kinds : zyV yX11_kinds cX11_kinds 2 (some .int) 1 := ⟨zq_1240, zq_1238, zq_1239, zq_2, ⟨by decide, by decide⟩, by decide +kernel, by decide⟩
theorem zq_1285 : Cond.code yX11_learn cX11_learn 4 (some .int) ∈ zG := List.mem_of_getElem? (i := 1285) (by decide +kernel)
theorem zq_1283 : Cond.instanceMethod yX11_learn ∈ zG := List.mem_of_getElem? (i := 1283) (by decide +kernel)
theorem zq_1284 : Cond.selects RX11 yX11_learn yX11_learn ∈ zG := List.mem_of_getElem? (i := 1284) (by decide +kernel)
theorem zy_X11_learn : zyV yX11_learn cX11_learn 4 (some .int) 0 := ⟨zq_1285, zq_1283, zq_1284, zq_2, ⟨by decide, by decide⟩, by decide +kernel, by decide⟩
theorem zq_1205 : Cond.code yX11_least cX11_least 2 (some .int) ∈ zG := List.mem_of_getElem? (i := 1205) (by decide +kernel)
theorem zq_1203 : Cond.instanceMethod yX11_least ∈ zG := List.mem_of_getElem? (i := 1203) (by decide +kernel)
theorem zq_1204 : Cond.selects RX11 yX11_least yX11_least ∈ zG := List.mem_of_getElem? (i := 1204) (by decide +kernel)
theorem zy_X11_least : zyV yX11_least cX11_least 2 (some .int) 1 := ⟨zq_1205, zq_1203, zq_1204, zq_2, ⟨by decide, by decide⟩, by decide +kernel, by decide⟩
theorem zq_779 : Cond.code yX11_line cX11_line 3 (some .int) ∈ zG := List.mem_of_getElem? (i := 779) (by decide +kernel)
theorem zq_777 : Cond.instanceMethod yX11_line ∈ zG := List.mem_of_getElem? (i := 777) (by decide +kernel)
theorem zq_778 : Cond.selects RX11 yX11_line yX11_line ∈ zG := List.mem_of_getElem? (i := 778) (by decide +kernel)
theorem zy_X11_line : zyV yX11_line cX11_line 3 (some .int) 2 := ⟨zq_779, zq_777, zq_778, zq_2, ⟨by decide, by decide⟩, by decide +kernel, by decide⟩
theorem zq_1601 : Cond.code yX11_mark cX11_mark 3 (some .boolean) ∈ zG := List.mem_of_getElem? (i := 1601) (by decide +kernel)
theorem zq_1599 : Cond.instanceMethod yX11_mark ∈ zG := List.mem_of_getElem? (i := 1599) (by decide +kernel)
theorem zq_1600 : Cond.selects RX11 yX11_mark yX11_mark ∈ zG := List.mem_of_getElem? (i := 1600) (by decide +kernel)
theorem zy_X11_mark : zyV yX11_mark cX11_mark 3 (some .boolean) 2 := ⟨zq_1601, zq_1599, zq_1600, zq_2, ⟨by decide, by decide⟩, by decide +kernel, by decide⟩
theorem zq_1455 : Cond.code yX11_misprint cX11_misprint 3 (some .int) ∈ zG := List.mem_of_getElem? (i := 1455) (by decide +kernel)
theorem zq_1453 : Cond.instanceMethod yX11_misprint ∈ zG := List.mem_of_getElem? (i := 1453) (by decide +kernel)
theorem zq_1454 : Cond.selects RX11 yX11_misprint yX11_misprint ∈ zG := List.mem_of_getElem? (i := 1454) (by decide +kernel)
theorem zy_X11_misprint : zyV yX11_misprint cX11_misprint 3 (some .int) 1 := ⟨zq_1455, zq_1453, zq_1454, zq_2, ⟨by decide, by decide⟩, by decide +kernel, by decide⟩
theorem zq_1383 : Cond.code yX11_misprints cX11_misprints 1 (some .int) ∈ zG := List.mem_of_getElem? (i := 1383) (by decide +kernel)
theorem zq_1381 : Cond.instanceMethod yX11_misprints ∈ zG := List.mem_of_getElem? (i := 1381) (by decide +kernel)
theorem zq_1382 : Cond.selects RX11 yX11_misprints yX11_misprints ∈ zG := List.mem_of_getElem? (i := 1382) (by decide +kernel)
theorem zy_X11_misprints : zyV yX11_misprints cX11_misprints 1 (some .int) 0 := ⟨zq_1383, zq_1381, zq_1382, zq_2, ⟨by decide, by decide⟩, by decide +kernel, by decide⟩
theorem zq_1227 : Cond.code yX11_most cX11_most 2 (some .int) ∈ zG := List.mem_of_getElem? (i := 1227) (by decide +kernel)
theorem zq_1225 : Cond.instanceMethod yX11_most ∈ zG := List.mem_of_getElem? (i := 1225) (by decide +kernel)
theorem zq_1226 : Cond.selects RX11 yX11_most yX11_most ∈ zG := List.mem_of_getElem? (i := 1226) (by decide +kernel)
theorem zy_X11_most : zyV yX11_most cX11_most 2 (some .int) 1 := ⟨zq_1227, zq_1225, zq_1226, zq_2, ⟨by decide, by decide⟩, by decide +kernel, by decide⟩
theorem zq_715 : Cond.code yX11_notes cX11_notes 3 (some .int) ∈ zG := List.mem_of_getElem? (i := 715) (by decide +kernel)
theorem zq_713 : Cond.instanceMethod yX11_notes ∈ zG := List.mem_of_getElem? (i := 713) (by decide +kernel)
theorem zq_714 : Cond.selects RX11 yX11_notes yX11_notes ∈ zG := List.mem_of_getElem? (i := 714) (by decide +kernel)
theorem zy_X11_notes : zyV yX11_notes cX11_notes 3 (some .int) 0 := ⟨zq_715, zq_713, zq_714, zq_2, ⟨by decide, by decide⟩, by decide +kernel, by decide⟩
theorem zq_1328 : Cond.code yX11_off cX11_off 2 (some .int) ∈ zG := List.mem_of_getElem? (i := 1328) (by decide +kernel)
theorem zq_1326 : Cond.instanceMethod yX11_off ∈ zG := List.mem_of_getElem? (i := 1326) (by decide +kernel)
theorem zq_1327 : Cond.selects RX11 yX11_off yX11_off ∈ zG := List.mem_of_getElem? (i := 1327) (by decide +kernel)
theorem zy_X11_off : zyV yX11_off cX11_off 2 (some .int) 0 := ⟨zq_1328, zq_1326, zq_1327, zq_2, ⟨by decide, by decide⟩, by decide +kernel, by decide⟩
theorem zq_1256 : Cond.code yX11_open cX11_open 3 (some .int) ∈ zG := List.mem_of_getElem? (i := 1256) (by decide +kernel)
theorem zq_1254 : Cond.instanceMethod yX11_open ∈ zG := List.mem_of_getElem? (i := 1254) (by decide +kernel)
theorem zq_1255 : Cond.selects RX11 yX11_open yX11_open ∈ zG := List.mem_of_getElem? (i := 1255) (by decide +kernel)
theorem zy_X11_open : zyV yX11_open cX11_open 3 (some .int) 0 := ⟨zq_1256, zq_1254, zq_1255, zq_2, ⟨by decide, by decide⟩, by decide +kernel, by decide⟩
theorem zq_1490 : Cond.code yX11_spare cX11_spare 2 (some .int) ∈ zG := List.mem_of_getElem? (i := 1490) (by decide +kernel)
theorem zq_1488 : Cond.instanceMethod yX11_spare ∈ zG := List.mem_of_getElem? (i := 1488) (by decide +kernel)
theorem zq_1489 : Cond.selects RX11 yX11_spare yX11_spare ∈ zG := List.mem_of_getElem? (i := 1489) (by decide +kernel)
theorem zy_X11_spare : zyV yX11_spare cX11_spare 2 (some .int) 0 := ⟨zq_1490, zq_1488, zq_1489, zq_2, ⟨by decide, by decide⟩, by decide +kernel, by decide⟩
theorem zq_1507 : Cond.code yX11_strict cX11_strict 2 (some .int) ∈ zG := List.mem_of_getElem? (i := 1507) (by decide +kernel)
theorem zq_1505 : Cond.instanceMethod yX11_strict ∈ zG := List.mem_of_getElem? (i := 1505) (by decide +kernel)
theorem zq_1506 : Cond.selects RX11 yX11_strict yX11_strict ∈ zG := List.mem_of_getElem? (i := 1506) (by decide +kernel)
theorem zy_X11_strict : zyV yX11_strict cX11_strict 2 (some .int) 1 := ⟨zq_1507, zq_1505, zq_1506, zq_2, ⟨by decide, by decide⟩, by decide +kernel, by decide⟩
theorem zq_1161 : Cond.code yX11_sure cX11_sure 2 (some .int) ∈ zG := List.mem_of_getElem? (i := 1161) (by decide +kernel)
theorem zq_1159 : Cond.instanceMethod yX11_sure ∈ zG := List.mem_of_getElem? (i := 1159) (by decide +kernel)
theorem zq_1160 : Cond.selects RX11 yX11_sure yX11_sure ∈ zG := List.mem_of_getElem? (i := 1160) (by decide +kernel)
theorem zy_X11_sure : zyV yX11_sure cX11_sure 2 (some .int) 1 := ⟨zq_1161, zq_1159, zq_1160, zq_2, ⟨by decide, by decide⟩, by decide +kernel, by decide⟩
theorem zq_929 : Cond.code yX11_tell cX11_tell 4 (some .int) ∈ zG := List.mem_of_getElem? (i := 929) (by decide +kernel)
theorem zq_927 : Cond.instanceMethod yX11_tell ∈ zG := List.mem_of_getElem? (i := 927) (by decide +kernel)
theorem zq_928 : Cond.selects RX11 yX11_tell yX11_tell ∈ zG := List.mem_of_getElem? (i := 928) (by decide +kernel)
theorem zy_X11_tell : zyV yX11_tell cX11_tell 4 (some .int) 2 := ⟨zq_929, zq_927, zq_928, zq_2, ⟨by decide, by decide⟩, by decide +kernel, by decide⟩
theorem zq_752 : Cond.code yX11_term cX11_term 3 (some .int) ∈ zG := List.mem_of_getElem? (i := 752) (by decide +kernel)
theorem zq_750 : Cond.instanceMethod yX11_term ∈ zG := List.mem_of_getElem? (i := 750) (by decide +kernel)
theorem zq_751 : Cond.selects RX11 yX11_term yX11_term ∈ zG := List.mem_of_getElem? (i := 751) (by decide +kernel)
theorem zy_X11_term : zyV yX11_term cX11_term 3 (some .int) 2 := ⟨zq_752, zq_750, zq_751, zq_2, ⟨by decide, by decide⟩, by decide +kernel, by decide⟩
theorem zq_863 : Cond.code yX11_there cX11_there 3 (some .int) ∈ zG := List.mem_of_getElem? (i := 863) (by decide +kernel)
theorem zq_861 : Cond.instanceMethod yX11_there ∈ zG := List.mem_of_getElem? (i := 861) (by decide +kernel)
theorem zq_862 : Cond.selects RX11 yX11_there yX11_there ∈ zG := List.mem_of_getElem? (i := 862) (by decide +kernel)
theorem zy_X11_there : zyV yX11_there cX11_there 3 (some .int) 2 := ⟨zq_863, zq_861, zq_862, zq_2, ⟨by decide, by decide⟩, by decide +kernel, by decide⟩
theorem zq_1466 : Cond.code yX11_turned cX11_turned 2 (some .boolean) ∈ zG := List.mem_of_getElem? (i := 1466) (by decide +kernel)
theorem zq_1464 : Cond.instanceMethod yX11_turned ∈ zG := List.mem_of_getElem? (i := 1464) (by decide +kernel)
theorem zq_1465 : Cond.selects RX11 yX11_turned yX11_turned ∈ zG := List.mem_of_getElem? (i := 1465) (by decide +kernel)
theorem zy_X11_turned : zyV yX11_turned cX11_turned 2 (some .boolean) 1 := ⟨zq_1466, zq_1464, zq_1465, zq_2, ⟨by decide, by decide⟩, by decide +kernel, by decide⟩
theorem zq_1345 : Cond.code yX11_twins cX11_twins 5 (some .int) ∈ zG := List.mem_of_getElem? (i := 1345) (by decide +kernel)
theorem zq_1343 : Cond.instanceMethod yX11_twins ∈ zG := List.mem_of_getElem? (i := 1343) (by decide +kernel)
theorem zq_1344 : Cond.selects RX11 yX11_twins yX11_twins ∈ zG := List.mem_of_getElem? (i := 1344) (by decide +kernel)
theorem zy_X11_twins : zyV yX11_twins cX11_twins 5 (some .int) 0 := ⟨zq_1345, zq_1343, zq_1344, zq_2, ⟨by decide, by decide⟩, by decide +kernel, by decide⟩
theorem zq_948 : Cond.code yX11_undo cX11_undo 2 (some .boolean) ∈ zG := List.mem_of_getElem? (i := 948) (by decide +kernel)
theorem zq_946 : Cond.instanceMethod yX11_undo ∈ zG := List.mem_of_getElem? (i := 946) (by decide +kernel)
theorem zq_947 : Cond.selects RX11 yX11_undo yX11_undo ∈ zG := List.mem_of_getElem? (i := 947) (by decide +kernel)
theorem zy_X11_undo : zyV yX11_undo cX11_undo 2 (some .boolean) 0 := ⟨zq_948, zq_946, zq_947, zq_2, ⟨by decide, by decide⟩, by decide +kernel, by decide⟩
theorem zq_1193 : Cond.code yX11_with cX11_with 4 (some .int) ∈ zG := List.mem_of_getElem? (i := 1193) (by decide +kernel)
theorem zq_1191 : Cond.instanceMethod yX11_with ∈ zG := List.mem_of_getElem? (i := 1191) (by decide +kernel)
theorem zq_1192 : Cond.selects RX11 yX11_with yX11_with ∈ zG := List.mem_of_getElem? (i := 1192) (by decide +kernel)
theorem zy_X11_with : zyV yX11_with cX11_with 4 (some .int) 3 := ⟨zq_1193, zq_1191, zq_1192, zq_2, ⟨by decide, by decide⟩, by decide +kernel, by decide⟩
theorem zq_1486 : Cond.code yX12_alike cX12_alike 6 (some .boolean) ∈ zG := List.mem_of_getElem? (i := 1486) (by decide +kernel)
theorem zq_1484 : Cond.instanceMethod yX12_alike ∈ zG := List.mem_of_getElem? (i := 1484) (by decide +kernel)
theorem zq_1485 : Cond.selects RX12 yX12_alike yX12_alike ∈ zG := List.mem_of_getElem? (i := 1485) (by decide +kernel)
theorem zy_X12_alike : zyV yX12_alike cX12_alike 6 (some .boolean) 2 := ⟨zq_1486, zq_1484, zq_1485, zq_5, ⟨by decide, by decide⟩, by decide +kernel, by decide⟩
theorem zq_1281 : Cond.code yX12_ask cX12_ask 6 (some .int) ∈ zG := List.mem_of_getElem? (i := 1281) (by decide +kernel)
theorem zq_1279 : Cond.instanceMethod yX12_ask ∈ zG := List.mem_of_getElem? (i := 1279) (by decide +kernel)
theorem zq_1280 : Cond.selects RX12 yX12_ask yX12_ask ∈ zG := List.mem_of_getElem? (i := 1280) (by decide +kernel)
theorem zy_X12_ask : zyV yX12_ask cX12_ask 6 (some .int) 0 := ⟨zq_1281, zq_1279, zq_1280, zq_5, ⟨by decide, by decide⟩, by decide +kernel, by decide⟩
theorem zq_1316 : Cond.code yX12_bad cX12_bad 1 (some .int) ∈ zG := List.mem_of_getElem? (i := 1316) (by decide +kernel)
theorem zq_1314 : Cond.instanceMethod yX12_bad ∈ zG := List.mem_of_getElem? (i := 1314) (by decide +kernel)
theorem zq_1315 : Cond.selects RX12 yX12_bad yX12_bad ∈ zG := List.mem_of_getElem? (i := 1315) (by decide +kernel)
theorem zy_X12_bad : zyV yX12_bad cX12_bad 1 (some .int) 0 := ⟨zq_1316, zq_1314, zq_1315, zq_5, ⟨by decide, by decide⟩, by decide +kernel, by decide⟩
theorem zq_1341 : Cond.code yX12_behind cX12_behind 2 (some .int) ∈ zG := List.mem_of_getElem? (i := 1341) (by decide +kernel)
theorem zq_1339 : Cond.instanceMethod yX12_behind ∈ zG := List.mem_of_getElem? (i := 1339) (by decide +kernel)
theorem zq_1340 : Cond.selects RX12 yX12_behind yX12_behind ∈ zG := List.mem_of_getElem? (i := 1340) (by decide +kernel)
theorem zy_X12_behind : zyV yX12_behind cX12_behind 2 (some .int) 1 := ⟨zq_1341, zq_1339, zq_1340, zq_5, ⟨by decide, by decide⟩, by decide +kernel, by decide⟩
theorem zq_583 : Cond.code yX12_book cX12_book 2 (some .int) ∈ zG := List.mem_of_getElem? (i := 583) (by decide +kernel)
theorem zq_581 : Cond.instanceMethod yX12_book ∈ zG := List.mem_of_getElem? (i := 581) (by decide +kernel)
theorem zq_582 : Cond.selects RX12 yX12_book yX12_book ∈ zG := List.mem_of_getElem? (i := 582) (by decide +kernel)
theorem zy_X12_book : zyV yX12_book cX12_book 2 (some .int) 0 := ⟨zq_583, zq_581, zq_582, zq_5, ⟨by decide, by decide⟩, by decide +kernel, by decide⟩
theorem zq_1529 : Cond.code yX12_chance cX12_chance 6 (some .int) ∈ zG := List.mem_of_getElem? (i := 1529) (by decide +kernel)
theorem zq_1527 : Cond.instanceMethod yX12_chance ∈ zG := List.mem_of_getElem? (i := 1527) (by decide +kernel)
theorem zq_1528 : Cond.selects RX12 yX12_chance yX12_chance ∈ zG := List.mem_of_getElem? (i := 1528) (by decide +kernel)
theorem zy_X12_chance : zyV yX12_chance cX12_chance 6 (some .int) 2 := ⟨zq_1529, zq_1527, zq_1528, zq_5, ⟨by decide, by decide⟩, by decide +kernel, by decide⟩
theorem zq_1157 : Cond.code yX12_could cX12_could 4 (some .int) ∈ zG := List.mem_of_getElem? (i := 1157) (by decide +kernel)
theorem zq_1155 : Cond.instanceMethod yX12_could ∈ zG := List.mem_of_getElem? (i := 1155) (by decide +kernel)
theorem zq_1156 : Cond.selects RX12 yX12_could yX12_could ∈ zG := List.mem_of_getElem? (i := 1156) (by decide +kernel)
theorem zy_X12_could : zyV yX12_could cX12_could 4 (some .int) 1 := ⟨zq_1157, zq_1155, zq_1156, zq_5, ⟨by decide, by decide⟩, by decide +kernel, by decide⟩
theorem zq_1620 : Cond.code yX12_count cX12_count 4 (some .int) ∈ zG := List.mem_of_getElem? (i := 1620) (by decide +kernel)
theorem zq_1618 : Cond.instanceMethod yX12_count ∈ zG := List.mem_of_getElem? (i := 1618) (by decide +kernel)
theorem zq_1619 : Cond.selects RX12 yX12_count yX12_count ∈ zG := List.mem_of_getElem? (i := 1619) (by decide +kernel)
theorem zy_X12_count : zyV yX12_count cX12_count 4 (some .int) 1 := ⟨zq_1620, zq_1618, zq_1619, zq_5, ⟨by decide, by decide⟩, by decide +kernel, by decide⟩
theorem zq_1580 : Cond.code yX12_drafts cX12_drafts 9 (some .int) ∈ zG := List.mem_of_getElem? (i := 1580) (by decide +kernel)
theorem zq_1578 : Cond.instanceMethod yX12_drafts ∈ zG := List.mem_of_getElem? (i := 1578) (by decide +kernel)
theorem zq_1579 : Cond.selects RX12 yX12_drafts yX12_drafts ∈ zG := List.mem_of_getElem? (i := 1579) (by decide +kernel)
theorem zy_X12_drafts : zyV yX12_drafts cX12_drafts 9 (some .int) 3 := ⟨zq_1580, zq_1578, zq_1579, zq_5, ⟨by decide, by decide⟩, by decide +kernel, by decide⟩
theorem zq_944 : Cond.code yX12_drop cX12_drop 3 (some .int) ∈ zG := List.mem_of_getElem? (i := 944) (by decide +kernel)
theorem zq_942 : Cond.instanceMethod yX12_drop ∈ zG := List.mem_of_getElem? (i := 942) (by decide +kernel)
theorem zq_943 : Cond.selects RX12 yX12_drop yX12_drop ∈ zG := List.mem_of_getElem? (i := 943) (by decide +kernel)
theorem zy_X12_drop : zyV yX12_drop cX12_drop 3 (some .int) 1 := ⟨zq_944, zq_942, zq_943, zq_5, ⟨by decide, by decide⟩, by decide +kernel, by decide⟩
theorem zq_1379 : Cond.code yX12_drops cX12_drops 1 (some .int) ∈ zG := List.mem_of_getElem? (i := 1379) (by decide +kernel)
theorem zq_1377 : Cond.instanceMethod yX12_drops ∈ zG := List.mem_of_getElem? (i := 1377) (by decide +kernel)
theorem zq_1378 : Cond.selects RX12 yX12_drops yX12_drops ∈ zG := List.mem_of_getElem? (i := 1378) (by decide +kernel)
theorem zy_X12_drops : zyV yX12_drops cX12_drops 1 (some .int) 0 := ⟨zq_1379, zq_1377, zq_1378, zq_5, ⟨by decide, by decide⟩, by decide +kernel, by decide⟩
theorem zq_1127 : Cond.code yX12_entry cX12_entry 3 (some .int) ∈ zG := List.mem_of_getElem? (i := 1127) (by decide +kernel)
theorem zq_1125 : Cond.instanceMethod yX12_entry ∈ zG := List.mem_of_getElem? (i := 1125) (by decide +kernel)
theorem zq_1126 : Cond.selects RX12 yX12_entry yX12_entry ∈ zG := List.mem_of_getElem? (i := 1126) (by decide +kernel)
theorem zy_X12_entry : zyV yX12_entry cX12_entry 3 (some .int) 2 := ⟨zq_1127, zq_1125, zq_1126, zq_5, ⟨by decide, by decide⟩, by decide +kernel, by decide⟩
theorem zq_247 : Cond.code yX12_feed cX12_feed 7 (some .int) ∈ zG := List.mem_of_getElem? (i := 247) (by decide +kernel)
theorem zq_245 : Cond.instanceMethod yX12_feed ∈ zG := List.mem_of_getElem? (i := 245) (by decide +kernel)
theorem zq_246 : Cond.selects RX12 yX12_feed yX12_feed ∈ zG := List.mem_of_getElem? (i := 246) (by decide +kernel)
theorem zy_X12_feed : zyV yX12_feed cX12_feed 7 (some .int) 3 := ⟨zq_247, zq_245, zq_246, zq_5, ⟨by decide, by decide⟩, by decide +kernel, by decide⟩
theorem zq_1117 : Cond.code yX12_fits cX12_fits 1 (some .int) ∈ zG := List.mem_of_getElem? (i := 1117) (by decide +kernel)
theorem zq_1115 : Cond.instanceMethod yX12_fits ∈ zG := List.mem_of_getElem? (i := 1115) (by decide +kernel)
theorem zq_1116 : Cond.selects RX12 yX12_fits yX12_fits ∈ zG := List.mem_of_getElem? (i := 1116) (by decide +kernel)
theorem zy_X12_fits : zyV yX12_fits cX12_fits 1 (some .int) 0 := ⟨zq_1117, zq_1115, zq_1116, zq_5, ⟨by decide, by decide⟩, by decide +kernel, by decide⟩
theorem zq_1189 : Cond.code yX12_fixed cX12_fixed 3 (some .int) ∈ zG := List.mem_of_getElem? (i := 1189) (by decide +kernel)
theorem zq_1187 : Cond.instanceMethod yX12_fixed ∈ zG := List.mem_of_getElem? (i := 1187) (by decide +kernel)
theorem zq_1188 : Cond.selects RX12 yX12_fixed yX12_fixed ∈ zG := List.mem_of_getElem? (i := 1188) (by decide +kernel)
theorem zy_X12_fixed : zyV yX12_fixed cX12_fixed 3 (some .int) 0 := ⟨zq_1189, zq_1187, zq_1188, zq_5, ⟨by decide, by decide⟩, by decide +kernel, by decide⟩
theorem zq_925 : Cond.code yX12_forget cX12_forget 3 (some .int) ∈ zG := List.mem_of_getElem? (i := 925) (by decide +kernel)
theorem zq_923 : Cond.instanceMethod yX12_forget ∈ zG := List.mem_of_getElem? (i := 923) (by decide +kernel)
theorem zq_924 : Cond.selects RX12 yX12_forget yX12_forget ∈ zG := List.mem_of_getElem? (i := 924) (by decide +kernel)
theorem zy_X12_forget : zyV yX12_forget cX12_forget 3 (some .int) 1 := ⟨zq_925, zq_923, zq_924, zq_5, ⟨by decide, by decide⟩, by decide +kernel, by decide⟩
theorem zq_905 : Cond.code yX12_guess cX12_guess 5 (some .int) ∈ zG := List.mem_of_getElem? (i := 905) (by decide +kernel)
theorem zq_903 : Cond.instanceMethod yX12_guess ∈ zG := List.mem_of_getElem? (i := 903) (by decide +kernel)
theorem zq_904 : Cond.selects RX12 yX12_guess yX12_guess ∈ zG := List.mem_of_getElem? (i := 904) (by decide +kernel)
theorem zy_X12_guess : zyV yX12_guess cX12_guess 5 (some .int) 3 := ⟨zq_905, zq_903, zq_904, zq_5, ⟨by decide, by decide⟩, by decide +kernel, by decide⟩
theorem zq_1268 : Cond.code yX12_has cX12_has 3 (some .int) ∈ zG := List.mem_of_getElem? (i := 1268) (by decide +kernel)
theorem zq_1266 : Cond.instanceMethod yX12_has ∈ zG := List.mem_of_getElem? (i := 1266) (by decide +kernel)
theorem zq_1267 : Cond.selects RX12 yX12_has yX12_has ∈ zG := List.mem_of_getElem? (i := 1267) (by decide +kernel)
theorem zy_X12_has : zyV yX12_has cX12_has 3 (some .int) 2 := ⟨zq_1268, zq_1266, zq_1267, zq_5, ⟨by decide, by decide⟩, by decide +kernel, by decide⟩
theorem zq_1361 : Cond.code yX12_idle cX12_idle 3 (some .int) ∈ zG := List.mem_of_getElem? (i := 1361) (by decide +kernel)
theorem zq_1359 : Cond.instanceMethod yX12_idle ∈ zG := List.mem_of_getElem? (i := 1359) (by decide +kernel)
theorem zq_1360 : Cond.selects RX12 yX12_idle yX12_idle ∈ zG := List.mem_of_getElem? (i := 1360) (by decide +kernel)
theorem zy_X12_idle : zyV yX12_idle cX12_idle 3 (some .int) 0 := ⟨zq_1361, zq_1359, zq_1360, zq_5, ⟨by decide, by decide⟩, by decide +kernel, by decide⟩
theorem zq_1059 : Cond.code yX12_judged cX12_judged 5 (some .int) ∈ zG := List.mem_of_getElem? (i := 1059) (by decide +kernel)
theorem zq_1057 : Cond.instanceMethod yX12_judged ∈ zG := List.mem_of_getElem? (i := 1057) (by decide +kernel)
theorem zq_1058 : Cond.selects RX12 yX12_judged yX12_judged ∈ zG := List.mem_of_getElem? (i := 1058) (by decide +kernel)
theorem zy_X12_judged : zyV yX12_judged cX12_judged 5 (some .int) 1 := ⟨zq_1059, zq_1057, zq_1058, zq_5, ⟨by decide, by decide⟩, by decide +kernel, by decide⟩
theorem zq_1248 : Cond.code yX12_kinds cX12_kinds 2 (some .int) ∈ zG := List.mem_of_getElem? (i := 1248) (by decide +kernel)
theorem zq_1246 : Cond.instanceMethod yX12_kinds ∈ zG := List.mem_of_getElem? (i := 1246) (by decide +kernel)
theorem zq_1247 : Cond.selects RX12 yX12_kinds yX12_kinds ∈ zG := List.mem_of_getElem? (i := 1247) (by decide +kernel)
theorem zy_X12_kinds : zyV yX12_kinds cX12_kinds 2 (some .int) 1 := ⟨zq_1248, zq_1246, zq_1247, zq_5, ⟨by decide, by decide⟩, by decide +kernel, by decide⟩
theorem zq_1289 : Cond.code yX12_learn cX12_learn 6 (some .int) ∈ zG := List.mem_of_getElem? (i := 1289) (by decide +kernel)
theorem zq_1287 : Cond.instanceMethod yX12_learn ∈ zG := List.mem_of_getElem? (i := 1287) (by decide +kernel)
theorem zq_1288 : Cond.selects RX12 yX12_learn yX12_learn ∈ zG := List.mem_of_getElem? (i := 1288) (by decide +kernel)
theorem zy_X12_learn : zyV yX12_learn cX12_learn 6 (some .int) 0 := ⟨zq_1289, zq_1287, zq_1288, zq_5, ⟨by decide, by decide⟩, by decide +kernel, by decide⟩
theorem zq_1219 : Cond.code yX12_least cX12_least 2 (some .int) ∈ zG := List.mem_of_getElem? (i := 1219) (by decide +kernel)
theorem zq_1217 : Cond.instanceMethod yX12_least ∈ zG := List.mem_of_getElem? (i := 1217) (by decide +kernel)
theorem zq_1218 : Cond.selects RX12 yX12_least yX12_least ∈ zG := List.mem_of_getElem? (i := 1218) (by decide +kernel)
theorem zy_X12_least : zyV yX12_least cX12_least 2 (some .int) 1 := ⟨zq_1219, zq_1217, zq_1218, zq_5, ⟨by decide, by decide⟩, by decide +kernel, by decide⟩
theorem zq_832 : Cond.code yX12_line cX12_line 3 (some .int) ∈ zG := List.mem_of_getElem? (i := 832) (by decide +kernel)
theorem zq_830 : Cond.instanceMethod yX12_line ∈ zG := List.mem_of_getElem? (i := 830) (by decide +kernel)
theorem zq_831 : Cond.selects RX12 yX12_line yX12_line ∈ zG := List.mem_of_getElem? (i := 831) (by decide +kernel)
theorem zy_X12_line : zyV yX12_line cX12_line 3 (some .int) 2 := ⟨zq_832, zq_830, zq_831, zq_5, ⟨by decide, by decide⟩, by decide +kernel, by decide⟩
theorem zq_1609 : Cond.code yX12_mark cX12_mark 3 (some .boolean) ∈ zG := List.mem_of_getElem? (i := 1609) (by decide +kernel)
theorem zq_1607 : Cond.instanceMethod yX12_mark ∈ zG := List.mem_of_getElem? (i := 1607) (by decide +kernel)
theorem zq_1608 : Cond.selects RX12 yX12_mark yX12_mark ∈ zG := List.mem_of_getElem? (i := 1608) (by decide +kernel)
theorem zy_X12_mark : zyV yX12_mark cX12_mark 3 (some .boolean) 2 := ⟨zq_1609, zq_1607, zq_1608, zq_5, ⟨by decide, by decide⟩, by decide +kernel, by decide⟩
theorem zq_1462 : Cond.code yX12_misprint cX12_misprint 6 (some .int) ∈ zG := List.mem_of_getElem? (i := 1462) (by decide +kernel)
theorem zq_1460 : Cond.instanceMethod yX12_misprint ∈ zG := List.mem_of_getElem? (i := 1460) (by decide +kernel)
theorem zq_1461 : Cond.selects RX12 yX12_misprint yX12_misprint ∈ zG := List.mem_of_getElem? (i := 1461) (by decide +kernel)
theorem zy_X12_misprint : zyV yX12_misprint cX12_misprint 6 (some .int) 1 := ⟨zq_1462, zq_1460, zq_1461, zq_5, ⟨by decide, by decide⟩, by decide +kernel, by decide⟩
theorem zq_1443 : Cond.code yX12_misprints cX12_misprints 4 (some .int) ∈ zG := List.mem_of_getElem? (i := 1443) (by decide +kernel)
theorem zq_1441 : Cond.instanceMethod yX12_misprints ∈ zG := List.mem_of_getElem? (i := 1441) (by decide +kernel)
theorem zq_1442 : Cond.selects RX12 yX12_misprints yX12_misprints ∈ zG := List.mem_of_getElem? (i := 1442) (by decide +kernel)
theorem zy_X12_misprints : zyV yX12_misprints cX12_misprints 4 (some .int) 0 := ⟨zq_1443, zq_1441, zq_1442, zq_5, ⟨by decide, by decide⟩, by decide +kernel, by decide⟩
theorem zq_1232 : Cond.code yX12_most cX12_most 2 (some .int) ∈ zG := List.mem_of_getElem? (i := 1232) (by decide +kernel)
theorem zq_1230 : Cond.instanceMethod yX12_most ∈ zG := List.mem_of_getElem? (i := 1230) (by decide +kernel)
theorem zq_1231 : Cond.selects RX12 yX12_most yX12_most ∈ zG := List.mem_of_getElem? (i := 1231) (by decide +kernel)
theorem zy_X12_most : zyV yX12_most cX12_most 2 (some .int) 1 := ⟨zq_1232, zq_1230, zq_1231, zq_5, ⟨by decide, by decide⟩, by decide +kernel, by decide⟩
theorem zq_744 : Cond.code yX12_notes cX12_notes 3 (some .int) ∈ zG := List.mem_of_getElem? (i := 744) (by decide +kernel)
theorem zq_742 : Cond.instanceMethod yX12_notes ∈ zG := List.mem_of_getElem? (i := 742) (by decide +kernel)
theorem zq_743 : Cond.selects RX12 yX12_notes yX12_notes ∈ zG := List.mem_of_getElem? (i := 743) (by decide +kernel)
theorem zy_X12_notes : zyV yX12_notes cX12_notes 3 (some .int) 0 := ⟨zq_744, zq_742, zq_743, zq_5, ⟨by decide, by decide⟩, by decide +kernel, by decide⟩
theorem zq_1333 : Cond.code yX12_off cX12_off 4 (some .int) ∈ zG := List.mem_of_getElem? (i := 1333) (by decide +kernel)
theorem zq_1331 : Cond.instanceMethod yX12_off ∈ zG := List.mem_of_getElem? (i := 1331) (by decide +kernel)
theorem zq_1332 : Cond.selects RX12 yX12_off yX12_off ∈ zG := List.mem_of_getElem? (i := 1332) (by decide +kernel)
theorem zy_X12_off : zyV yX12_off cX12_off 4 (some .int) 0 := ⟨zq_1333, zq_1331, zq_1332, zq_5, ⟨by decide, by decide⟩, by decide +kernel, by decide⟩
theorem zq_1260 : Cond.code yX12_open cX12_open 3 (some .int) ∈ zG := List.mem_of_getElem? (i := 1260) (by decide +kernel)
theorem zq_1258 : Cond.instanceMethod yX12_open ∈ zG := List.mem_of_getElem? (i := 1258) (by decide +kernel)
theorem zq_1259 : Cond.selects RX12 yX12_open yX12_open ∈ zG := List.mem_of_getElem? (i := 1259) (by decide +kernel)
theorem zy_X12_open : zyV yX12_open cX12_open 3 (some .int) 0 := ⟨zq_1260, zq_1258, zq_1259, zq_5, ⟨by decide, by decide⟩, by decide +kernel, by decide⟩
theorem zq_1554 : Cond.code yX12_rests cX12_rests 12 (some .int) ∈ zG := List.mem_of_getElem? (i := 1554) (by decide +kernel)
theorem zq_1552 : Cond.instanceMethod yX12_rests ∈ zG := List.mem_of_getElem? (i := 1552) (by decide +kernel)
theorem zq_1553 : Cond.selects RX12 yX12_rests yX12_rests ∈ zG := List.mem_of_getElem? (i := 1553) (by decide +kernel)
theorem zy_X12_rests : zyV yX12_rests cX12_rests 12 (some .int) 4 := ⟨zq_1554, zq_1552, zq_1553, zq_5, ⟨by decide, by decide⟩, by decide +kernel, by decide⟩
theorem zq_1503 : Cond.code yX12_spare cX12_spare 3 (some .int) ∈ zG := List.mem_of_getElem? (i := 1503) (by decide +kernel)
theorem zq_1501 : Cond.instanceMethod yX12_spare ∈ zG := List.mem_of_getElem? (i := 1501) (by decide +kernel)
theorem zq_1502 : Cond.selects RX12 yX12_spare yX12_spare ∈ zG := List.mem_of_getElem? (i := 1502) (by decide +kernel)
theorem zy_X12_spare : zyV yX12_spare cX12_spare 3 (some .int) 0 := ⟨zq_1503, zq_1501, zq_1502, zq_5, ⟨by decide, by decide⟩, by decide +kernel, by decide⟩
theorem zq_1516 : Cond.code yX12_strict cX12_strict 2 (some .int) ∈ zG := List.mem_of_getElem? (i := 1516) (by decide +kernel)
theorem zq_1514 : Cond.instanceMethod yX12_strict ∈ zG := List.mem_of_getElem? (i := 1514) (by decide +kernel)
theorem zq_1515 : Cond.selects RX12 yX12_strict yX12_strict ∈ zG := List.mem_of_getElem? (i := 1515) (by decide +kernel)
theorem zy_X12_strict : zyV yX12_strict cX12_strict 2 (some .int) 1 := ⟨zq_1516, zq_1514, zq_1515, zq_5, ⟨by decide, by decide⟩, by decide +kernel, by decide⟩
theorem zq_1177 : Cond.code yX12_sure cX12_sure 2 (some .int) ∈ zG := List.mem_of_getElem? (i := 1177) (by decide +kernel)
theorem zq_1175 : Cond.instanceMethod yX12_sure ∈ zG := List.mem_of_getElem? (i := 1175) (by decide +kernel)
theorem zq_1176 : Cond.selects RX12 yX12_sure yX12_sure ∈ zG := List.mem_of_getElem? (i := 1176) (by decide +kernel)
theorem zy_X12_sure : zyV yX12_sure cX12_sure 2 (some .int) 1 := ⟨zq_1177, zq_1175, zq_1176, zq_5, ⟨by decide, by decide⟩, by decide +kernel, by decide⟩
theorem zq_936 : Cond.code yX12_tell cX12_tell 4 (some .int) ∈ zG := List.mem_of_getElem? (i := 936) (by decide +kernel)
theorem zq_934 : Cond.instanceMethod yX12_tell ∈ zG := List.mem_of_getElem? (i := 934) (by decide +kernel)
theorem zq_935 : Cond.selects RX12 yX12_tell yX12_tell ∈ zG := List.mem_of_getElem? (i := 935) (by decide +kernel)
theorem zy_X12_tell : zyV yX12_tell cX12_tell 4 (some .int) 2 := ⟨zq_936, zq_934, zq_935, zq_5, ⟨by decide, by decide⟩, by decide +kernel, by decide⟩
theorem zq_768 : Cond.code yX12_term cX12_term 3 (some .int) ∈ zG := List.mem_of_getElem? (i := 768) (by decide +kernel)
theorem zq_766 : Cond.instanceMethod yX12_term ∈ zG := List.mem_of_getElem? (i := 766) (by decide +kernel)
theorem zq_767 : Cond.selects RX12 yX12_term yX12_term ∈ zG := List.mem_of_getElem? (i := 767) (by decide +kernel)
theorem zy_X12_term : zyV yX12_term cX12_term 3 (some .int) 2 := ⟨zq_768, zq_766, zq_767, zq_5, ⟨by decide, by decide⟩, by decide +kernel, by decide⟩
theorem zq_868 : Cond.code yX12_there cX12_there 3 (some .int) ∈ zG := List.mem_of_getElem? (i := 868) (by decide +kernel)
theorem zq_866 : Cond.instanceMethod yX12_there ∈ zG := List.mem_of_getElem? (i := 866) (by decide +kernel)
theorem zq_867 : Cond.selects RX12 yX12_there yX12_there ∈ zG := List.mem_of_getElem? (i := 867) (by decide +kernel)
theorem zy_X12_there : zyV yX12_there cX12_there 3 (some .int) 2 := ⟨zq_868, zq_866, zq_867, zq_5, ⟨by decide, by decide⟩, by decide +kernel, by decide⟩
theorem zq_1561 : Cond.code yX12_thrown cX12_thrown 1 (some .int) ∈ zG := List.mem_of_getElem? (i := 1561) (by decide +kernel)
theorem zq_1559 : Cond.instanceMethod yX12_thrown ∈ zG := List.mem_of_getElem? (i := 1559) (by decide +kernel)
theorem zq_1560 : Cond.selects RX12 yX12_thrown yX12_thrown ∈ zG := List.mem_of_getElem? (i := 1560) (by decide +kernel)
theorem zy_X12_thrown : zyV yX12_thrown cX12_thrown 1 (some .int) 0 := ⟨zq_1561, zq_1559, zq_1560, zq_5, ⟨by decide, by decide⟩, by decide +kernel, by decide⟩
theorem zq_1474 : Cond.code yX12_turned cX12_turned 4 (some .boolean) ∈ zG := List.mem_of_getElem? (i := 1474) (by decide +kernel)
theorem zq_1472 : Cond.instanceMethod yX12_turned ∈ zG := List.mem_of_getElem? (i := 1472) (by decide +kernel)
theorem zq_1473 : Cond.selects RX12 yX12_turned yX12_turned ∈ zG := List.mem_of_getElem? (i := 1473) (by decide +kernel)
theorem zy_X12_turned : zyV yX12_turned cX12_turned 4 (some .boolean) 1 := ⟨zq_1474, zq_1472, zq_1473, zq_5, ⟨by decide, by decide⟩, by decide +kernel, by decide⟩
theorem zq_1353 : Cond.code yX12_twins cX12_twins 4 (some .int) ∈ zG := List.mem_of_getElem? (i := 1353) (by decide +kernel)
theorem zq_1351 : Cond.instanceMethod yX12_twins ∈ zG := List.mem_of_getElem? (i := 1351) (by decide +kernel)
theorem zq_1352 : Cond.selects RX12 yX12_twins yX12_twins ∈ zG := List.mem_of_getElem? (i := 1352) (by decide +kernel)
theorem zy_X12_twins : zyV yX12_twins cX12_twins 4 (some .int) 0 := ⟨zq_1353, zq_1351, zq_1352, zq_5, ⟨by decide, by decide⟩, by decide +kernel, by decide⟩
theorem zq_957 : Cond.code yX12_undo cX12_undo 1 (some .boolean) ∈ zG := List.mem_of_getElem? (i := 957) (by decide +kernel)
theorem zq_955 : Cond.instanceMethod yX12_undo ∈ zG := List.mem_of_getElem? (i := 955) (by decide +kernel)
theorem zq_956 : Cond.selects RX12 yX12_undo yX12_undo ∈ zG := List.mem_of_getElem? (i := 956) (by decide +kernel)
theorem zy_X12_undo : zyV yX12_undo cX12_undo 1 (some .boolean) 0 := ⟨zq_957, zq_955, zq_956, zq_5, ⟨by decide, by decide⟩, by decide +kernel, by decide⟩
theorem zq_1201 : Cond.code yX12_with cX12_with 4 (some .int) ∈ zG := List.mem_of_getElem? (i := 1201) (by decide +kernel)
theorem zq_1199 : Cond.instanceMethod yX12_with ∈ zG := List.mem_of_getElem? (i := 1199) (by decide +kernel)
theorem zq_1200 : Cond.selects RX12 yX12_with yX12_with ∈ zG := List.mem_of_getElem? (i := 1200) (by decide +kernel)
theorem zy_X12_with : zyV yX12_with cX12_with 4 (some .int) 3 := ⟨zq_1201, zq_1199, zq_1200, zq_5, ⟨by decide, by decide⟩, by decide +kernel, by decide⟩
section ZM
variable {p : Program} {l : Launch} {e : Env} {R : Room} {s : State} {m : MethodId} {args : Array Value} {below : List Frame} {meth : Method} {c : Code} {cells slots : Nat} {Q : State → Prop} {D : va_G} {dA : Nat → ClassId} {ad ad0 : Nat → Nat} {al al0 : Nat → Prop}
variable {b L : Nat} {xs : Nat → Int32}
def fL_law_J1479 (L : Nat) (xs : Nat → Int32) (a3 : Nat) (k : Int32 → zW → Prop) (g23 : Nat → Nat → Int32 → zW → Prop) (mc ms : Nat) (x4 : Int32) (w : zW) : Prop :=
  g23 mc ms (x4 + (7 : Int32)) w
set_option maxHeartbeats 4000000 in
set_option maxRecDepth 100000 in
theorem mL_law_J1479 {k : Int32 → zW → Prop} {g23 : Nat → Nat → Int32 → zW → Prop} {a3 : Nat} (X : zCx p s m args meth c cL_law 7 RL (some .boolean)) (hQ : zRetAI p l e R s m args below meth c Q D dA true ad0 al0 cL_law k) (hsc : va_X b L xs s s.heap ∧ b < s.heap.size ∧ ¬ zA ad0 al0 s.heap.size b) (hl0 : l.stackTraces = false) (hTh : zThE (zA ad0 al0 s.heap.size) s s.heap) (htw : ∀ w ∈ zTw, w.before args s = true) (hg23 : ∀ (cells slots mc ms : Nat) (x4 : Int32) (ad : Nat → Nat) (al : Nat → Prop) (w : zW) (H : Heap) (locs : List Loc) (ls : Array Slot) (ha3 : al a3 ∧ zsh a3 = 21), g23 mc ms x4 w → zExt ad0 al0 ad al → zRm R 145 (cells + mc) (slots + ms) → zSt D dA true ad0 al0 ad al w s H locs → lv_has ls 7 [(0, .ref b), (1, .ref (ad 1)), (2, .ref (ad 200)), (3, .ref (ad a3)), (4, .int x4)] → W p l e R s m args below meth c H locs cells slots Q (F0 m 23 ls [])) {cells slots mc ms : Nat} {x4 : Int32} {ad : Nat → Nat} {al : Nat → Prop} {w : zW} {H : Heap} {locs : List Loc} {ls : Array Slot} (ha3 : al a3 ∧ zsh a3 = 21) (hf : fL_law_J1479 L xs a3 k g23 mc ms x4 w) (hX : zExt ad0 al0 ad al) (hr : zRm R 145 (cells + mc) (slots + ms)) (hR : zSt D dA true ad0 al0 ad al w s H locs) (hl : lv_has ls 7 [(0, .ref b), (1, .ref (ad 1)), (2, .ref (ad 200)), (3, .ref (ad a3)), (4, .int x4)]) : W p l e R s m args below meth c H locs cells slots Q (F0 m 1479 ls []) := by
  have hx := X.1
  have hb := X.2.1
  have hml := X.2.2.1
  have hown := X.2.2.2.1
  have hts := X.2.2.2.2.1
  unfold fL_law_J1479 at hf
  refine lv_iinc (v := x4 + (7 : Int32)) (lv' := [(4, .int (x4 + (7 : Int32))), (0, .ref b), (1, .ref (ad 1)), (2, .ref (ad 200)), (3, .ref (ad a3))]) hx hb dL_law_1479 hl (k := 4) rfl rfl (by decide) rfl (fun ls hl => ?_)
  refine lv_goto (tgt := 23) hx hb dL_law_1482 (by decide) ?_
  exact hg23 _ _ _ _ (x4 + (7 : Int32)) _ _ w _ _ _ ha3 hf hX hr hR (lv_sub hl [1, 2, 3, 4, 0] rfl)
def fL_law_J224 (L : Nat) (xs : Nat → Int32) (a3 : Nat) (k : Int32 → zW → Prop) (g23 : Nat → Nat → Int32 → zW → Prop) (mc ms : Nat) (x4 : Int32) (w : zW) : Prop :=
  vp_in (x4 + (1 : Int32)) L ∧ 
  vp_in (x4 + (2 : Int32)) L ∧ 
  vp_in (x4 + (3 : Int32)) L ∧ 
  vp_in (x4 + (4 : Int32)) L ∧ 
  vp_in (x4 + (5 : Int32)) L ∧ 
  vp_in (x4 + (6 : Int32)) L ∧ 
  fX11_feed ((((xs (x4 + (1 : Int32)).toNatClampNeg).toInt64) <<< ((32 : Int32).toInt64 &&& 63)) ||| (((xs (x4 + (2 : Int32)).toNatClampNeg).toInt64) &&& (4294967295 : Int64))) ((((xs (x4 + (3 : Int32)).toNatClampNeg).toInt64) <<< ((32 : Int32).toInt64 &&& 63)) ||| (((xs (x4 + (4 : Int32)).toNatClampNeg).toInt64) &&& (4294967295 : Int64))) ((((xs (x4 + (5 : Int32)).toNatClampNeg).toInt64) <<< ((32 : Int32).toInt64 &&& 63)) ||| (((xs (x4 + (6 : Int32)).toNatClampNeg).toInt64) &&& (4294967295 : Int64))) w (fun r11 w11 =>
  fX12_feed ((((xs (x4 + (1 : Int32)).toNatClampNeg).toInt64) <<< ((32 : Int32).toInt64 &&& 63)) ||| (((xs (x4 + (2 : Int32)).toNatClampNeg).toInt64) &&& (4294967295 : Int64))) ((((xs (x4 + (3 : Int32)).toNatClampNeg).toInt64) <<< ((32 : Int32).toInt64 &&& 63)) ||| (((xs (x4 + (4 : Int32)).toNatClampNeg).toInt64) &&& (4294967295 : Int64))) ((((xs (x4 + (5 : Int32)).toNatClampNeg).toInt64) <<< ((32 : Int32).toInt64 &&& 63)) ||| (((xs (x4 + (6 : Int32)).toNatClampNeg).toInt64) &&& (4294967295 : Int64))) w11 (fun r12 w12 =>
  ((r11 = r12 →
    fL_law_J1479 L xs a3 k g23 mc ms x4 w12) ∧
   (¬ r11 = r12 →
    k (0 : Int32) w12))))
set_option maxHeartbeats 4000000 in
set_option maxRecDepth 100000 in
theorem mL_law_J224 {k : Int32 → zW → Prop} {g23 : Nat → Nat → Int32 → zW → Prop} {a3 : Nat} (X : zCx p s m args meth c cL_law 7 RL (some .boolean)) (hQ : zRetAI p l e R s m args below meth c Q D dA true ad0 al0 cL_law k) (hsc : va_X b L xs s s.heap ∧ b < s.heap.size ∧ ¬ zA ad0 al0 s.heap.size b) (hl0 : l.stackTraces = false) (hTh : zThE (zA ad0 al0 s.heap.size) s s.heap) (htw : ∀ w ∈ zTw, w.before args s = true) (hg23 : ∀ (cells slots mc ms : Nat) (x4 : Int32) (ad : Nat → Nat) (al : Nat → Prop) (w : zW) (H : Heap) (locs : List Loc) (ls : Array Slot) (ha3 : al a3 ∧ zsh a3 = 21), g23 mc ms x4 w → zExt ad0 al0 ad al → zRm R 145 (cells + mc) (slots + ms) → zSt D dA true ad0 al0 ad al w s H locs → lv_has ls 7 [(0, .ref b), (1, .ref (ad 1)), (2, .ref (ad 200)), (3, .ref (ad a3)), (4, .int x4)] → W p l e R s m args below meth c H locs cells slots Q (F0 m 23 ls [])) {cells slots mc ms : Nat} {x4 : Int32} {ad : Nat → Nat} {al : Nat → Prop} {w : zW} {H : Heap} {locs : List Loc} {ls : Array Slot} (ha3 : al a3 ∧ zsh a3 = 21) (hf : fL_law_J224 L xs a3 k g23 mc ms x4 w) (hX : zExt ad0 al0 ad al) (hr : zRm R 145 (cells + mc) (slots + ms)) (hR : zSt D dA true ad0 al0 ad al w s H locs) (hl : lv_has ls 7 [(0, .ref b), (1, .ref (ad 1)), (2, .ref (ad 200)), (3, .ref (ad a3)), (4, .int x4)]) : W p l e R s m args below meth c H locs cells slots Q (F0 m 224 ls []) := by
  have hx := X.1
  have hb := X.2.1
  have hml := X.2.2.1
  have hown := X.2.2.2.1
  have hts := X.2.2.2.2.1
  unfold fL_law_J224 at hf
  refine lv_aload_n hx hb dL_law_224 rfl (lv_at hl 1 rfl) ?_
  refine lv_aload_n hx hb dL_law_225 rfl (lv_at hl 0 rfl) ?_
  refine lv_iload hx hb dL_law_226 (lv_at hl 4 rfl) ?_
  refine lv_iconst (v := (1 : Int32)) hx hb dL_law_228 (by decide) ?_
  refine lv_iadd hx hb dL_law_229 ?_
  obtain ⟨hb5, hf⟩ := hf
  refine va_sld hx hb hsc.1 hsc.2.1 hsc.2.2 hR.2.2.1 hb5 dL_law_230 ?_
  refine lv_i2l hx hb dL_law_231 rfl ?_
  refine lv_bipush (v := (32 : Int32)) hx hb dL_law_232 (by decide) ?_
  refine lv_lshl hx hb dL_law_234 rfl ?_
  refine lv_aload_n hx hb dL_law_235 rfl (lv_at hl 0 rfl) ?_
  refine lv_iload hx hb dL_law_236 (lv_at hl 4 rfl) ?_
  refine lv_iconst (v := (2 : Int32)) hx hb dL_law_238 (by decide) ?_
  refine lv_iadd hx hb dL_law_239 ?_
  obtain ⟨hb6, hf⟩ := hf
  refine va_sld hx hb hsc.1 hsc.2.1 hsc.2.2 hR.2.2.1 hb6 dL_law_240 ?_
  refine lv_i2l hx hb dL_law_241 rfl ?_
  refine lv_ldc2 (v := (4294967295 : Int64)) hx hb hown (hts _ zq_7) dL_law_242 ?_
  refine lv_land hx hb dL_law_245 ?_
  refine lv_lor hx hb dL_law_246 ?_
  refine lv_aload_n hx hb dL_law_247 rfl (lv_at hl 0 rfl) ?_
  refine lv_iload hx hb dL_law_248 (lv_at hl 4 rfl) ?_
  refine lv_iconst (v := (3 : Int32)) hx hb dL_law_250 (by decide) ?_
  refine lv_iadd hx hb dL_law_251 ?_
  obtain ⟨hb7, hf⟩ := hf
  refine va_sld hx hb hsc.1 hsc.2.1 hsc.2.2 hR.2.2.1 hb7 dL_law_252 ?_
  refine lv_i2l hx hb dL_law_253 rfl ?_
  refine lv_bipush (v := (32 : Int32)) hx hb dL_law_254 (by decide) ?_
  refine lv_lshl hx hb dL_law_256 rfl ?_
  refine lv_aload_n hx hb dL_law_257 rfl (lv_at hl 0 rfl) ?_
  refine lv_iload hx hb dL_law_258 (lv_at hl 4 rfl) ?_
  refine lv_iconst (v := (4 : Int32)) hx hb dL_law_260 (by decide) ?_
  refine lv_iadd hx hb dL_law_261 ?_
  obtain ⟨hb8, hf⟩ := hf
  refine va_sld hx hb hsc.1 hsc.2.1 hsc.2.2 hR.2.2.1 hb8 dL_law_262 ?_
  refine lv_i2l hx hb dL_law_263 rfl ?_
  refine lv_ldc2 (v := (4294967295 : Int64)) hx hb hown (hts _ zq_7) dL_law_264 ?_
  refine lv_land hx hb dL_law_267 ?_
  refine lv_lor hx hb dL_law_268 ?_
  refine lv_aload_n hx hb dL_law_269 rfl (lv_at hl 0 rfl) ?_
  refine lv_iload hx hb dL_law_270 (lv_at hl 4 rfl) ?_
  refine lv_iconst (v := (5 : Int32)) hx hb dL_law_272 (by decide) ?_
  refine lv_iadd hx hb dL_law_273 ?_
  obtain ⟨hb9, hf⟩ := hf
  refine va_sld hx hb hsc.1 hsc.2.1 hsc.2.2 hR.2.2.1 hb9 dL_law_274 ?_
  refine lv_i2l hx hb dL_law_275 rfl ?_
  refine lv_bipush (v := (32 : Int32)) hx hb dL_law_276 (by decide) ?_
  refine lv_lshl hx hb dL_law_278 rfl ?_
  refine lv_aload_n hx hb dL_law_279 rfl (lv_at hl 0 rfl) ?_
  refine lv_iload hx hb dL_law_280 (lv_at hl 4 rfl) ?_
  refine lv_bipush (v := (6 : Int32)) hx hb dL_law_282 (by decide) ?_
  refine lv_iadd hx hb dL_law_284 ?_
  obtain ⟨hb10, hf⟩ := hf
  refine va_sld hx hb hsc.1 hsc.2.1 hsc.2.2 hR.2.2.1 hb10 dL_law_285 ?_
  refine lv_i2l hx hb dL_law_286 rfl ?_
  refine lv_ldc2 (v := (4294967295 : Int64)) hx hb hown (hts _ zq_7) dL_law_287 ?_
  refine lv_land hx hb dL_law_290 ?_
  refine lv_lor hx hb dL_law_291 ?_
  refine z_callVI (fr1 := 1) (b := 1) (As := [.long ((((xs (x4 + (1 : Int32)).toNatClampNeg).toInt64) <<< ((32 : Int32).toInt64 &&& 63)) ||| (((xs (x4 + (2 : Int32)).toNatClampNeg).toInt64) &&& (4294967295 : Int64))), .long ((((xs (x4 + (3 : Int32)).toNatClampNeg).toInt64) <<< ((32 : Int32).toInt64 &&& 63)) ||| (((xs (x4 + (4 : Int32)).toNatClampNeg).toInt64) &&& (4294967295 : Int64))), .long ((((xs (x4 + (5 : Int32)).toNatClampNeg).toInt64) <<< ((32 : Int32).toInt64 &&& 63)) ||| (((xs (x4 + (6 : Int32)).toNatClampNeg).toInt64) &&& (4294967295 : Int64)))]) (rest := []) X (hr.none (by decide)) hR zy_X11_feed zq_234 (zlit hR zf_1) (by rw [zs_1]; rfl) rfl (mX11_feed  hf) rfl hl (Nat.le_of_ble_eq_true rfl) dL_law_292 rfl (fun r11 w11 H locs hf hR => ?_)
  refine lv_aload_n hx hb dL_law_295 rfl (lv_at hl 2 rfl) ?_
  refine lv_aload_n hx hb dL_law_296 rfl (lv_at hl 0 rfl) ?_
  refine lv_iload hx hb dL_law_297 (lv_at hl 4 rfl) ?_
  refine lv_iconst (v := (1 : Int32)) hx hb dL_law_299 (by decide) ?_
  refine lv_iadd hx hb dL_law_300 ?_
  refine va_sld hx hb hsc.1 hsc.2.1 hsc.2.2 hR.2.2.1 hb5 dL_law_301 ?_
  refine lv_i2l hx hb dL_law_302 rfl ?_
  refine lv_bipush (v := (32 : Int32)) hx hb dL_law_303 (by decide) ?_
  refine lv_lshl hx hb dL_law_305 rfl ?_
  refine lv_aload_n hx hb dL_law_306 rfl (lv_at hl 0 rfl) ?_
  refine lv_iload hx hb dL_law_307 (lv_at hl 4 rfl) ?_
  refine lv_iconst (v := (2 : Int32)) hx hb dL_law_309 (by decide) ?_
  refine lv_iadd hx hb dL_law_310 ?_
  refine va_sld hx hb hsc.1 hsc.2.1 hsc.2.2 hR.2.2.1 hb6 dL_law_311 ?_
  refine lv_i2l hx hb dL_law_312 rfl ?_
  refine lv_ldc2 (v := (4294967295 : Int64)) hx hb hown (hts _ zq_7) dL_law_313 ?_
  refine lv_land hx hb dL_law_316 ?_
  refine lv_lor hx hb dL_law_317 ?_
  refine lv_aload_n hx hb dL_law_318 rfl (lv_at hl 0 rfl) ?_
  refine lv_iload hx hb dL_law_319 (lv_at hl 4 rfl) ?_
  refine lv_iconst (v := (3 : Int32)) hx hb dL_law_321 (by decide) ?_
  refine lv_iadd hx hb dL_law_322 ?_
  refine va_sld hx hb hsc.1 hsc.2.1 hsc.2.2 hR.2.2.1 hb7 dL_law_323 ?_
  refine lv_i2l hx hb dL_law_324 rfl ?_
  refine lv_bipush (v := (32 : Int32)) hx hb dL_law_325 (by decide) ?_
  refine lv_lshl hx hb dL_law_327 rfl ?_
  refine lv_aload_n hx hb dL_law_328 rfl (lv_at hl 0 rfl) ?_
  refine lv_iload hx hb dL_law_329 (lv_at hl 4 rfl) ?_
  refine lv_iconst (v := (4 : Int32)) hx hb dL_law_331 (by decide) ?_
  refine lv_iadd hx hb dL_law_332 ?_
  refine va_sld hx hb hsc.1 hsc.2.1 hsc.2.2 hR.2.2.1 hb8 dL_law_333 ?_
  refine lv_i2l hx hb dL_law_334 rfl ?_
  refine lv_ldc2 (v := (4294967295 : Int64)) hx hb hown (hts _ zq_7) dL_law_335 ?_
  refine lv_land hx hb dL_law_338 ?_
  refine lv_lor hx hb dL_law_339 ?_
  refine lv_aload_n hx hb dL_law_340 rfl (lv_at hl 0 rfl) ?_
  refine lv_iload hx hb dL_law_341 (lv_at hl 4 rfl) ?_
  refine lv_iconst (v := (5 : Int32)) hx hb dL_law_343 (by decide) ?_
  refine lv_iadd hx hb dL_law_344 ?_
  refine va_sld hx hb hsc.1 hsc.2.1 hsc.2.2 hR.2.2.1 hb9 dL_law_345 ?_
  refine lv_i2l hx hb dL_law_346 rfl ?_
  refine lv_bipush (v := (32 : Int32)) hx hb dL_law_347 (by decide) ?_
  refine lv_lshl hx hb dL_law_349 rfl ?_
  refine lv_aload_n hx hb dL_law_350 rfl (lv_at hl 0 rfl) ?_
  refine lv_iload hx hb dL_law_351 (lv_at hl 4 rfl) ?_
  refine lv_bipush (v := (6 : Int32)) hx hb dL_law_353 (by decide) ?_
  refine lv_iadd hx hb dL_law_355 ?_
  refine va_sld hx hb hsc.1 hsc.2.1 hsc.2.2 hR.2.2.1 hb10 dL_law_356 ?_
  refine lv_i2l hx hb dL_law_357 rfl ?_
  refine lv_ldc2 (v := (4294967295 : Int64)) hx hb hown (hts _ zq_7) dL_law_358 ?_
  refine lv_land hx hb dL_law_361 ?_
  refine lv_lor hx hb dL_law_362 ?_
  refine z_callVI (fr1 := 1) (b := 200) (As := [.long ((((xs (x4 + (1 : Int32)).toNatClampNeg).toInt64) <<< ((32 : Int32).toInt64 &&& 63)) ||| (((xs (x4 + (2 : Int32)).toNatClampNeg).toInt64) &&& (4294967295 : Int64))), .long ((((xs (x4 + (3 : Int32)).toNatClampNeg).toInt64) <<< ((32 : Int32).toInt64 &&& 63)) ||| (((xs (x4 + (4 : Int32)).toNatClampNeg).toInt64) &&& (4294967295 : Int64))), .long ((((xs (x4 + (5 : Int32)).toNatClampNeg).toInt64) <<< ((32 : Int32).toInt64 &&& 63)) ||| (((xs (x4 + (6 : Int32)).toNatClampNeg).toInt64) &&& (4294967295 : Int64)))]) (rest := [.int r11]) X (hr.none (by decide)) hR zy_X12_feed zq_244 (zlit hR zf_200) (by rw [zs_200]; rfl) rfl (mX12_feed  hf) rfl hl (Nat.le_of_ble_eq_true rfl) dL_law_363 rfl (fun r12 w12 H locs hf hR => ?_)
  refine lv_icmp_eq (tgt := 1479) hx hb dL_law_366 (by decide) (fun c13 => ?_) (fun c13 => ?_)
  · replace hf := hf.1 c13
    exact mL_law_J1479 X hQ hsc hl0 hTh htw hg23 ha3 hf hX hr hR (lv_sub hl [0, 1, 2, 3, 4] rfl)
  · replace hf := hf.2 c13
    refine lv_iconst (v := (0 : Int32)) hx hb dL_law_369 (by decide) ?_
    exact hQ _ _ _ _ _ _ _ _ _ _ hX (by have := hr.2.2.1; omega) (by have := hr.2.2.2; omega) hf hR dL_law_370
def fL_law_J371 (L : Nat) (xs : Nat → Int32) (a3 : Nat) (k : Int32 → zW → Prop) (g23 : Nat → Nat → Int32 → zW → Prop) (mc ms : Nat) (x4 : Int32) (w : zW) : Prop :=
  fX11_book  w (fun r15 w15 =>
  fX12_book  w15 (fun r16 w16 =>
  ((r15 = r16 →
    fL_law_J1479 L xs a3 k g23 mc ms x4 w16) ∧
   (¬ r15 = r16 →
    k (0 : Int32) w16))))
set_option maxHeartbeats 4000000 in
set_option maxRecDepth 100000 in
theorem mL_law_J371 {k : Int32 → zW → Prop} {g23 : Nat → Nat → Int32 → zW → Prop} {a3 : Nat} (X : zCx p s m args meth c cL_law 7 RL (some .boolean)) (hQ : zRetAI p l e R s m args below meth c Q D dA true ad0 al0 cL_law k) (hsc : va_X b L xs s s.heap ∧ b < s.heap.size ∧ ¬ zA ad0 al0 s.heap.size b) (hl0 : l.stackTraces = false) (hTh : zThE (zA ad0 al0 s.heap.size) s s.heap) (htw : ∀ w ∈ zTw, w.before args s = true) (hg23 : ∀ (cells slots mc ms : Nat) (x4 : Int32) (ad : Nat → Nat) (al : Nat → Prop) (w : zW) (H : Heap) (locs : List Loc) (ls : Array Slot) (ha3 : al a3 ∧ zsh a3 = 21), g23 mc ms x4 w → zExt ad0 al0 ad al → zRm R 145 (cells + mc) (slots + ms) → zSt D dA true ad0 al0 ad al w s H locs → lv_has ls 7 [(0, .ref b), (1, .ref (ad 1)), (2, .ref (ad 200)), (3, .ref (ad a3)), (4, .int x4)] → W p l e R s m args below meth c H locs cells slots Q (F0 m 23 ls [])) {cells slots mc ms : Nat} {x4 : Int32} {ad : Nat → Nat} {al : Nat → Prop} {w : zW} {H : Heap} {locs : List Loc} {ls : Array Slot} (ha3 : al a3 ∧ zsh a3 = 21) (hf : fL_law_J371 L xs a3 k g23 mc ms x4 w) (hX : zExt ad0 al0 ad al) (hr : zRm R 145 (cells + mc) (slots + ms)) (hR : zSt D dA true ad0 al0 ad al w s H locs) (hl : lv_has ls 7 [(0, .ref b), (1, .ref (ad 1)), (2, .ref (ad 200)), (3, .ref (ad a3)), (4, .int x4)]) : W p l e R s m args below meth c H locs cells slots Q (F0 m 371 ls []) := by
  have hx := X.1
  have hb := X.2.1
  have hml := X.2.2.1
  have hown := X.2.2.2.1
  have hts := X.2.2.2.2.1
  unfold fL_law_J371 at hf
  refine lv_aload_n hx hb dL_law_371 rfl (lv_at hl 1 rfl) ?_
  refine z_callVI (fr1 := 144) (b := 1) (As := []) (rest := []) X (hr.none (by decide)) hR zy_X11_book zq_254 (zlit hR zf_1) (by rw [zs_1]; rfl) rfl (mX11_book  hf) rfl hl (Nat.le_of_ble_eq_true rfl) dL_law_372 rfl (fun r15 w15 H locs hf hR => ?_)
  refine lv_aload_n hx hb dL_law_375 rfl (lv_at hl 2 rfl) ?_
  refine z_callVI (fr1 := 132) (b := 200) (As := []) (rest := [.int r15]) X (hr.none (by decide)) hR zy_X12_book zq_580 (zlit hR zf_200) (by rw [zs_200]; rfl) rfl (mX12_book  hf) rfl hl (Nat.le_of_ble_eq_true rfl) dL_law_376 rfl (fun r16 w16 H locs hf hR => ?_)
  refine lv_icmp_eq (tgt := 1479) hx hb dL_law_379 (by decide) (fun c17 => ?_) (fun c17 => ?_)
  · replace hf := hf.1 c17
    exact mL_law_J1479 X hQ hsc hl0 hTh htw hg23 ha3 hf hX hr hR (lv_sub hl [0, 1, 2, 3, 4] rfl)
  · replace hf := hf.2 c17
    refine lv_iconst (v := (0 : Int32)) hx hb dL_law_382 (by decide) ?_
    exact hQ _ _ _ _ _ _ _ _ _ _ hX (by have := hr.2.2.1; omega) (by have := hr.2.2.2; omega) hf hR dL_law_383
def fL_law_J384 (L : Nat) (xs : Nat → Int32) (a3 : Nat) (k : Int32 → zW → Prop) (g23 : Nat → Nat → Int32 → zW → Prop) (mc ms : Nat) (x4 : Int32) (w : zW) : Prop :=
  fX11_notes  w (fun r19 w19 =>
  fX12_notes  w19 (fun r20 w20 =>
  ((r19 = r20 →
    fL_law_J1479 L xs a3 k g23 mc ms x4 w20) ∧
   (¬ r19 = r20 →
    k (0 : Int32) w20))))
set_option maxHeartbeats 4000000 in
set_option maxRecDepth 100000 in
theorem mL_law_J384 {k : Int32 → zW → Prop} {g23 : Nat → Nat → Int32 → zW → Prop} {a3 : Nat} (X : zCx p s m args meth c cL_law 7 RL (some .boolean)) (hQ : zRetAI p l e R s m args below meth c Q D dA true ad0 al0 cL_law k) (hsc : va_X b L xs s s.heap ∧ b < s.heap.size ∧ ¬ zA ad0 al0 s.heap.size b) (hl0 : l.stackTraces = false) (hTh : zThE (zA ad0 al0 s.heap.size) s s.heap) (htw : ∀ w ∈ zTw, w.before args s = true) (hg23 : ∀ (cells slots mc ms : Nat) (x4 : Int32) (ad : Nat → Nat) (al : Nat → Prop) (w : zW) (H : Heap) (locs : List Loc) (ls : Array Slot) (ha3 : al a3 ∧ zsh a3 = 21), g23 mc ms x4 w → zExt ad0 al0 ad al → zRm R 145 (cells + mc) (slots + ms) → zSt D dA true ad0 al0 ad al w s H locs → lv_has ls 7 [(0, .ref b), (1, .ref (ad 1)), (2, .ref (ad 200)), (3, .ref (ad a3)), (4, .int x4)] → W p l e R s m args below meth c H locs cells slots Q (F0 m 23 ls [])) {cells slots mc ms : Nat} {x4 : Int32} {ad : Nat → Nat} {al : Nat → Prop} {w : zW} {H : Heap} {locs : List Loc} {ls : Array Slot} (ha3 : al a3 ∧ zsh a3 = 21) (hf : fL_law_J384 L xs a3 k g23 mc ms x4 w) (hX : zExt ad0 al0 ad al) (hr : zRm R 145 (cells + mc) (slots + ms)) (hR : zSt D dA true ad0 al0 ad al w s H locs) (hl : lv_has ls 7 [(0, .ref b), (1, .ref (ad 1)), (2, .ref (ad 200)), (3, .ref (ad a3)), (4, .int x4)]) : W p l e R s m args below meth c H locs cells slots Q (F0 m 384 ls []) := by
  have hx := X.1
  have hb := X.2.1
  have hml := X.2.2.1
  have hown := X.2.2.2.1
  have hts := X.2.2.2.2.1
  unfold fL_law_J384 at hf
  refine lv_aload_n hx hb dL_law_384 rfl (lv_at hl 1 rfl) ?_
  refine z_callVI (fr1 := 10) (b := 1) (As := []) (rest := []) X (hr.none (by decide)) hR zy_X11_notes zq_712 (zlit hR zf_1) (by rw [zs_1]; rfl) rfl (mX11_notes  hf) rfl hl (Nat.le_of_ble_eq_true rfl) dL_law_385 rfl (fun r19 w19 H locs hf hR => ?_)
  refine lv_aload_n hx hb dL_law_388 rfl (lv_at hl 2 rfl) ?_
  refine z_callVI (fr1 := 5) (b := 200) (As := []) (rest := [.int r19]) X (hr.none (by decide)) hR zy_X12_notes zq_741 (zlit hR zf_200) (by rw [zs_200]; rfl) rfl (mX12_notes  hf) rfl hl (Nat.le_of_ble_eq_true rfl) dL_law_389 rfl (fun r20 w20 H locs hf hR => ?_)
  refine lv_icmp_eq (tgt := 1479) hx hb dL_law_392 (by decide) (fun c21 => ?_) (fun c21 => ?_)
  · replace hf := hf.1 c21
    exact mL_law_J1479 X hQ hsc hl0 hTh htw hg23 ha3 hf hX hr hR (lv_sub hl [0, 1, 2, 3, 4] rfl)
  · replace hf := hf.2 c21
    refine lv_iconst (v := (0 : Int32)) hx hb dL_law_395 (by decide) ?_
    exact hQ _ _ _ _ _ _ _ _ _ _ hX (by have := hr.2.2.1; omega) (by have := hr.2.2.2; omega) hf hR dL_law_396
def fL_law_J397 (L : Nat) (xs : Nat → Int32) (a3 : Nat) (k : Int32 → zW → Prop) (g23 : Nat → Nat → Int32 → zW → Prop) (mc ms : Nat) (x4 : Int32) (w : zW) : Prop :=
  vp_in (x4 + (1 : Int32)) L ∧ 
  vp_in (x4 + (2 : Int32)) L ∧ 
  fX11_term (xs (x4 + (1 : Int32)).toNatClampNeg) (xs (x4 + (2 : Int32)).toNatClampNeg) w (fun r25 w25 =>
  fX12_term (xs (x4 + (1 : Int32)).toNatClampNeg) (xs (x4 + (2 : Int32)).toNatClampNeg) w25 (fun r26 w26 =>
  ((r25 = r26 →
    fL_law_J1479 L xs a3 k g23 mc ms x4 w26) ∧
   (¬ r25 = r26 →
    k (0 : Int32) w26))))
set_option maxHeartbeats 4000000 in
set_option maxRecDepth 100000 in
theorem mL_law_J397 {k : Int32 → zW → Prop} {g23 : Nat → Nat → Int32 → zW → Prop} {a3 : Nat} (X : zCx p s m args meth c cL_law 7 RL (some .boolean)) (hQ : zRetAI p l e R s m args below meth c Q D dA true ad0 al0 cL_law k) (hsc : va_X b L xs s s.heap ∧ b < s.heap.size ∧ ¬ zA ad0 al0 s.heap.size b) (hl0 : l.stackTraces = false) (hTh : zThE (zA ad0 al0 s.heap.size) s s.heap) (htw : ∀ w ∈ zTw, w.before args s = true) (hg23 : ∀ (cells slots mc ms : Nat) (x4 : Int32) (ad : Nat → Nat) (al : Nat → Prop) (w : zW) (H : Heap) (locs : List Loc) (ls : Array Slot) (ha3 : al a3 ∧ zsh a3 = 21), g23 mc ms x4 w → zExt ad0 al0 ad al → zRm R 145 (cells + mc) (slots + ms) → zSt D dA true ad0 al0 ad al w s H locs → lv_has ls 7 [(0, .ref b), (1, .ref (ad 1)), (2, .ref (ad 200)), (3, .ref (ad a3)), (4, .int x4)] → W p l e R s m args below meth c H locs cells slots Q (F0 m 23 ls [])) {cells slots mc ms : Nat} {x4 : Int32} {ad : Nat → Nat} {al : Nat → Prop} {w : zW} {H : Heap} {locs : List Loc} {ls : Array Slot} (ha3 : al a3 ∧ zsh a3 = 21) (hf : fL_law_J397 L xs a3 k g23 mc ms x4 w) (hX : zExt ad0 al0 ad al) (hr : zRm R 145 (cells + mc) (slots + ms)) (hR : zSt D dA true ad0 al0 ad al w s H locs) (hl : lv_has ls 7 [(0, .ref b), (1, .ref (ad 1)), (2, .ref (ad 200)), (3, .ref (ad a3)), (4, .int x4)]) : W p l e R s m args below meth c H locs cells slots Q (F0 m 397 ls []) := by
  have hx := X.1
  have hb := X.2.1
  have hml := X.2.2.1
  have hown := X.2.2.2.1
  have hts := X.2.2.2.2.1
  unfold fL_law_J397 at hf
  refine lv_aload_n hx hb dL_law_397 rfl (lv_at hl 1 rfl) ?_
  refine lv_aload_n hx hb dL_law_398 rfl (lv_at hl 0 rfl) ?_
  refine lv_iload hx hb dL_law_399 (lv_at hl 4 rfl) ?_
  refine lv_iconst (v := (1 : Int32)) hx hb dL_law_401 (by decide) ?_
  refine lv_iadd hx hb dL_law_402 ?_
  obtain ⟨hb23, hf⟩ := hf
  refine va_sld hx hb hsc.1 hsc.2.1 hsc.2.2 hR.2.2.1 hb23 dL_law_403 ?_
  refine lv_aload_n hx hb dL_law_404 rfl (lv_at hl 0 rfl) ?_
  refine lv_iload hx hb dL_law_405 (lv_at hl 4 rfl) ?_
  refine lv_iconst (v := (2 : Int32)) hx hb dL_law_407 (by decide) ?_
  refine lv_iadd hx hb dL_law_408 ?_
  obtain ⟨hb24, hf⟩ := hf
  refine va_sld hx hb hsc.1 hsc.2.1 hsc.2.2 hR.2.2.1 hb24 dL_law_409 ?_
  refine z_callVI (fr1 := 1) (b := 1) (As := [.int (xs (x4 + (1 : Int32)).toNatClampNeg), .int (xs (x4 + (2 : Int32)).toNatClampNeg)]) (rest := []) X (hr.none (by decide)) hR zy_X11_term zq_749 (zlit hR zf_1) (by rw [zs_1]; rfl) rfl (mX11_term  hf) rfl hl (Nat.le_of_ble_eq_true rfl) dL_law_410 rfl (fun r25 w25 H locs hf hR => ?_)
  refine lv_aload_n hx hb dL_law_413 rfl (lv_at hl 2 rfl) ?_
  refine lv_aload_n hx hb dL_law_414 rfl (lv_at hl 0 rfl) ?_
  refine lv_iload hx hb dL_law_415 (lv_at hl 4 rfl) ?_
  refine lv_iconst (v := (1 : Int32)) hx hb dL_law_417 (by decide) ?_
  refine lv_iadd hx hb dL_law_418 ?_
  refine va_sld hx hb hsc.1 hsc.2.1 hsc.2.2 hR.2.2.1 hb23 dL_law_419 ?_
  refine lv_aload_n hx hb dL_law_420 rfl (lv_at hl 0 rfl) ?_
  refine lv_iload hx hb dL_law_421 (lv_at hl 4 rfl) ?_
  refine lv_iconst (v := (2 : Int32)) hx hb dL_law_423 (by decide) ?_
  refine lv_iadd hx hb dL_law_424 ?_
  refine va_sld hx hb hsc.1 hsc.2.1 hsc.2.2 hR.2.2.1 hb24 dL_law_425 ?_
  refine z_callVI (fr1 := 2) (b := 200) (As := [.int (xs (x4 + (1 : Int32)).toNatClampNeg), .int (xs (x4 + (2 : Int32)).toNatClampNeg)]) (rest := [.int r25]) X (hr.none (by decide)) hR zy_X12_term zq_765 (zlit hR zf_200) (by rw [zs_200]; rfl) rfl (mX12_term  hf) rfl hl (Nat.le_of_ble_eq_true rfl) dL_law_426 rfl (fun r26 w26 H locs hf hR => ?_)
  refine lv_icmp_eq (tgt := 1479) hx hb dL_law_429 (by decide) (fun c27 => ?_) (fun c27 => ?_)
  · replace hf := hf.1 c27
    exact mL_law_J1479 X hQ hsc hl0 hTh htw hg23 ha3 hf hX hr hR (lv_sub hl [0, 1, 2, 3, 4] rfl)
  · replace hf := hf.2 c27
    refine lv_iconst (v := (0 : Int32)) hx hb dL_law_432 (by decide) ?_
    exact hQ _ _ _ _ _ _ _ _ _ _ hX (by have := hr.2.2.1; omega) (by have := hr.2.2.2; omega) hf hR dL_law_433
def fL_law_J434 (L : Nat) (xs : Nat → Int32) (a3 : Nat) (k : Int32 → zW → Prop) (g23 : Nat → Nat → Int32 → zW → Prop) (mc ms : Nat) (x4 : Int32) (w : zW) : Prop :=
  vp_in (x4 + (1 : Int32)) L ∧ 
  vp_in (x4 + (2 : Int32)) L ∧ 
  ∃ c31 s31, c31 ≤ mc ∧ s31 ≤ ms ∧ fX11_line c31 s31 (xs (x4 + (1 : Int32)).toNatClampNeg) (xs (x4 + (2 : Int32)).toNatClampNeg) w (fun r31 w31 =>
  fX12_line (xs (x4 + (1 : Int32)).toNatClampNeg) (xs (x4 + (2 : Int32)).toNatClampNeg) w31 (fun r32 w32 =>
  ((r31 = r32 →
    fL_law_J1479 L xs a3 k g23 (mc - c31) (ms - s31) x4 w32) ∧
   (¬ r31 = r32 →
    k (0 : Int32) w32))))
set_option maxHeartbeats 4000000 in
set_option maxRecDepth 100000 in
theorem mL_law_J434 {k : Int32 → zW → Prop} {g23 : Nat → Nat → Int32 → zW → Prop} {a3 : Nat} (X : zCx p s m args meth c cL_law 7 RL (some .boolean)) (hQ : zRetAI p l e R s m args below meth c Q D dA true ad0 al0 cL_law k) (hsc : va_X b L xs s s.heap ∧ b < s.heap.size ∧ ¬ zA ad0 al0 s.heap.size b) (hl0 : l.stackTraces = false) (hTh : zThE (zA ad0 al0 s.heap.size) s s.heap) (htw : ∀ w ∈ zTw, w.before args s = true) (hg23 : ∀ (cells slots mc ms : Nat) (x4 : Int32) (ad : Nat → Nat) (al : Nat → Prop) (w : zW) (H : Heap) (locs : List Loc) (ls : Array Slot) (ha3 : al a3 ∧ zsh a3 = 21), g23 mc ms x4 w → zExt ad0 al0 ad al → zRm R 145 (cells + mc) (slots + ms) → zSt D dA true ad0 al0 ad al w s H locs → lv_has ls 7 [(0, .ref b), (1, .ref (ad 1)), (2, .ref (ad 200)), (3, .ref (ad a3)), (4, .int x4)] → W p l e R s m args below meth c H locs cells slots Q (F0 m 23 ls [])) {cells slots mc ms : Nat} {x4 : Int32} {ad : Nat → Nat} {al : Nat → Prop} {w : zW} {H : Heap} {locs : List Loc} {ls : Array Slot} (ha3 : al a3 ∧ zsh a3 = 21) (hf : fL_law_J434 L xs a3 k g23 mc ms x4 w) (hX : zExt ad0 al0 ad al) (hr : zRm R 145 (cells + mc) (slots + ms)) (hR : zSt D dA true ad0 al0 ad al w s H locs) (hl : lv_has ls 7 [(0, .ref b), (1, .ref (ad 1)), (2, .ref (ad 200)), (3, .ref (ad a3)), (4, .int x4)]) : W p l e R s m args below meth c H locs cells slots Q (F0 m 434 ls []) := by
  have hx := X.1
  have hb := X.2.1
  have hml := X.2.2.1
  have hown := X.2.2.2.1
  have hts := X.2.2.2.2.1
  unfold fL_law_J434 at hf
  refine lv_aload_n hx hb dL_law_434 rfl (lv_at hl 1 rfl) ?_
  refine lv_aload_n hx hb dL_law_435 rfl (lv_at hl 0 rfl) ?_
  refine lv_iload hx hb dL_law_436 (lv_at hl 4 rfl) ?_
  refine lv_iconst (v := (1 : Int32)) hx hb dL_law_438 (by decide) ?_
  refine lv_iadd hx hb dL_law_439 ?_
  obtain ⟨hb29, hf⟩ := hf
  refine va_sld hx hb hsc.1 hsc.2.1 hsc.2.2 hR.2.2.1 hb29 dL_law_440 ?_
  refine lv_aload_n hx hb dL_law_441 rfl (lv_at hl 0 rfl) ?_
  refine lv_iload hx hb dL_law_442 (lv_at hl 4 rfl) ?_
  refine lv_iconst (v := (2 : Int32)) hx hb dL_law_444 (by decide) ?_
  refine lv_iadd hx hb dL_law_445 ?_
  obtain ⟨hb30, hf⟩ := hf
  refine va_sld hx hb hsc.1 hsc.2.1 hsc.2.2 hR.2.2.1 hb30 dL_law_446 ?_
  have hw31_1 : al 1 := (zlit hR zf_1)
  have hw31_2 : al 200 := (zlit hR zf_200)
  have hw31_3 : al a3 := ha3.1
  have hv31_1 : al 1 := (zlit hR zf_1)
  obtain ⟨c31, s31, hc31, hs31, hf⟩ := hf
  refine z_callAVI (fr1 := 5) (mc := c31) (ms := s31) (b := 1) (As := [.int (xs (x4 + (1 : Int32)).toNatClampNeg), .int (xs (x4 + (2 : Int32)).toNatClampNeg)]) (rest := []) X (hr.call hc31 hs31 (by decide)) hR zy_X11_line zq_776 (zlit hR zf_1) (by rw [zs_1]; rfl) rfl (mX11_line  hf) rfl hl (Nat.le_of_ble_eq_true rfl) dL_law_447 rfl (fun r31 w31 H locs ad31 al31 hf hE31 hR => ?_)
  have hX := hX.tr hE31
  have hr := hr.after hc31 hs31
  have ha3 : al31 a3 ∧ zsh a3 = 21 := ⟨(hE31 _ ha3.1).1, ha3.2⟩
  rw [← (hE31 1 hw31_1).2] at hl
  rw [← (hE31 200 hw31_2).2] at hl
  rw [← (hE31 a3 hw31_3).2] at hl
  refine lv_aload_n hx hb dL_law_450 rfl (lv_at hl 2 rfl) ?_
  refine lv_aload_n hx hb dL_law_451 rfl (lv_at hl 0 rfl) ?_
  refine lv_iload hx hb dL_law_452 (lv_at hl 4 rfl) ?_
  refine lv_iconst (v := (1 : Int32)) hx hb dL_law_454 (by decide) ?_
  refine lv_iadd hx hb dL_law_455 ?_
  refine va_sld hx hb hsc.1 hsc.2.1 hsc.2.2 hR.2.2.1 hb29 dL_law_456 ?_
  refine lv_aload_n hx hb dL_law_457 rfl (lv_at hl 0 rfl) ?_
  refine lv_iload hx hb dL_law_458 (lv_at hl 4 rfl) ?_
  refine lv_iconst (v := (2 : Int32)) hx hb dL_law_460 (by decide) ?_
  refine lv_iadd hx hb dL_law_461 ?_
  refine va_sld hx hb hsc.1 hsc.2.1 hsc.2.2 hR.2.2.1 hb30 dL_law_462 ?_
  refine z_callVI (fr1 := 4) (b := 200) (As := [.int (xs (x4 + (1 : Int32)).toNatClampNeg), .int (xs (x4 + (2 : Int32)).toNatClampNeg)]) (rest := [.int r31]) X (hr.none (by decide)) hR zy_X12_line zq_829 (zlit hR zf_200) (by rw [zs_200]; rfl) rfl (mX12_line  hf) rfl hl (Nat.le_of_ble_eq_true rfl) dL_law_463 rfl (fun r32 w32 H locs hf hR => ?_)
  refine lv_icmp_eq (tgt := 1479) hx hb dL_law_466 (by decide) (fun c33 => ?_) (fun c33 => ?_)
  · replace hf := hf.1 c33
    exact mL_law_J1479 X hQ hsc hl0 hTh htw hg23 ha3 hf hX hr hR (lv_sub hl [0, 1, 2, 3, 4] rfl)
  · replace hf := hf.2 c33
    refine lv_iconst (v := (0 : Int32)) hx hb dL_law_469 (by decide) ?_
    exact hQ _ _ _ _ _ _ _ _ _ _ hX (by have := hr.2.2.1; omega) (by have := hr.2.2.2; omega) hf hR dL_law_470
def fL_law_J471 (L : Nat) (xs : Nat → Int32) (a3 : Nat) (k : Int32 → zW → Prop) (g23 : Nat → Nat → Int32 → zW → Prop) (mc ms : Nat) (x4 : Int32) (w : zW) : Prop :=
  vp_in (x4 + (1 : Int32)) L ∧ 
  vp_in (x4 + (2 : Int32)) L ∧ 
  fX11_there (xs (x4 + (1 : Int32)).toNatClampNeg) (xs (x4 + (2 : Int32)).toNatClampNeg) w (fun r37 w37 =>
  fX12_there (xs (x4 + (1 : Int32)).toNatClampNeg) (xs (x4 + (2 : Int32)).toNatClampNeg) w37 (fun r38 w38 =>
  ((r37 = r38 →
    fL_law_J1479 L xs a3 k g23 mc ms x4 w38) ∧
   (¬ r37 = r38 →
    k (0 : Int32) w38))))
set_option maxHeartbeats 4000000 in
set_option maxRecDepth 100000 in
theorem mL_law_J471 {k : Int32 → zW → Prop} {g23 : Nat → Nat → Int32 → zW → Prop} {a3 : Nat} (X : zCx p s m args meth c cL_law 7 RL (some .boolean)) (hQ : zRetAI p l e R s m args below meth c Q D dA true ad0 al0 cL_law k) (hsc : va_X b L xs s s.heap ∧ b < s.heap.size ∧ ¬ zA ad0 al0 s.heap.size b) (hl0 : l.stackTraces = false) (hTh : zThE (zA ad0 al0 s.heap.size) s s.heap) (htw : ∀ w ∈ zTw, w.before args s = true) (hg23 : ∀ (cells slots mc ms : Nat) (x4 : Int32) (ad : Nat → Nat) (al : Nat → Prop) (w : zW) (H : Heap) (locs : List Loc) (ls : Array Slot) (ha3 : al a3 ∧ zsh a3 = 21), g23 mc ms x4 w → zExt ad0 al0 ad al → zRm R 145 (cells + mc) (slots + ms) → zSt D dA true ad0 al0 ad al w s H locs → lv_has ls 7 [(0, .ref b), (1, .ref (ad 1)), (2, .ref (ad 200)), (3, .ref (ad a3)), (4, .int x4)] → W p l e R s m args below meth c H locs cells slots Q (F0 m 23 ls [])) {cells slots mc ms : Nat} {x4 : Int32} {ad : Nat → Nat} {al : Nat → Prop} {w : zW} {H : Heap} {locs : List Loc} {ls : Array Slot} (ha3 : al a3 ∧ zsh a3 = 21) (hf : fL_law_J471 L xs a3 k g23 mc ms x4 w) (hX : zExt ad0 al0 ad al) (hr : zRm R 145 (cells + mc) (slots + ms)) (hR : zSt D dA true ad0 al0 ad al w s H locs) (hl : lv_has ls 7 [(0, .ref b), (1, .ref (ad 1)), (2, .ref (ad 200)), (3, .ref (ad a3)), (4, .int x4)]) : W p l e R s m args below meth c H locs cells slots Q (F0 m 471 ls []) := by
  have hx := X.1
  have hb := X.2.1
  have hml := X.2.2.1
  have hown := X.2.2.2.1
  have hts := X.2.2.2.2.1
  unfold fL_law_J471 at hf
  refine lv_aload_n hx hb dL_law_471 rfl (lv_at hl 1 rfl) ?_
  refine lv_aload_n hx hb dL_law_472 rfl (lv_at hl 0 rfl) ?_
  refine lv_iload hx hb dL_law_473 (lv_at hl 4 rfl) ?_
  refine lv_iconst (v := (1 : Int32)) hx hb dL_law_475 (by decide) ?_
  refine lv_iadd hx hb dL_law_476 ?_
  obtain ⟨hb35, hf⟩ := hf
  refine va_sld hx hb hsc.1 hsc.2.1 hsc.2.2 hR.2.2.1 hb35 dL_law_477 ?_
  refine lv_aload_n hx hb dL_law_478 rfl (lv_at hl 0 rfl) ?_
  refine lv_iload hx hb dL_law_479 (lv_at hl 4 rfl) ?_
  refine lv_iconst (v := (2 : Int32)) hx hb dL_law_481 (by decide) ?_
  refine lv_iadd hx hb dL_law_482 ?_
  obtain ⟨hb36, hf⟩ := hf
  refine va_sld hx hb hsc.1 hsc.2.1 hsc.2.2 hR.2.2.1 hb36 dL_law_483 ?_
  refine z_callVI (fr1 := 1) (b := 1) (As := [.int (xs (x4 + (1 : Int32)).toNatClampNeg), .int (xs (x4 + (2 : Int32)).toNatClampNeg)]) (rest := []) X (hr.none (by decide)) hR zy_X11_there zq_860 (zlit hR zf_1) (by rw [zs_1]; rfl) rfl (mX11_there  hf) rfl hl (Nat.le_of_ble_eq_true rfl) dL_law_484 rfl (fun r37 w37 H locs hf hR => ?_)
  refine lv_aload_n hx hb dL_law_487 rfl (lv_at hl 2 rfl) ?_
  refine lv_aload_n hx hb dL_law_488 rfl (lv_at hl 0 rfl) ?_
  refine lv_iload hx hb dL_law_489 (lv_at hl 4 rfl) ?_
  refine lv_iconst (v := (1 : Int32)) hx hb dL_law_491 (by decide) ?_
  refine lv_iadd hx hb dL_law_492 ?_
  refine va_sld hx hb hsc.1 hsc.2.1 hsc.2.2 hR.2.2.1 hb35 dL_law_493 ?_
  refine lv_aload_n hx hb dL_law_494 rfl (lv_at hl 0 rfl) ?_
  refine lv_iload hx hb dL_law_495 (lv_at hl 4 rfl) ?_
  refine lv_iconst (v := (2 : Int32)) hx hb dL_law_497 (by decide) ?_
  refine lv_iadd hx hb dL_law_498 ?_
  refine va_sld hx hb hsc.1 hsc.2.1 hsc.2.2 hR.2.2.1 hb36 dL_law_499 ?_
  refine z_callVI (fr1 := 2) (b := 200) (As := [.int (xs (x4 + (1 : Int32)).toNatClampNeg), .int (xs (x4 + (2 : Int32)).toNatClampNeg)]) (rest := [.int r37]) X (hr.none (by decide)) hR zy_X12_there zq_865 (zlit hR zf_200) (by rw [zs_200]; rfl) rfl (mX12_there  hf) rfl hl (Nat.le_of_ble_eq_true rfl) dL_law_500 rfl (fun r38 w38 H locs hf hR => ?_)
  refine lv_icmp_eq (tgt := 1479) hx hb dL_law_503 (by decide) (fun c39 => ?_) (fun c39 => ?_)
  · replace hf := hf.1 c39
    exact mL_law_J1479 X hQ hsc hl0 hTh htw hg23 ha3 hf hX hr hR (lv_sub hl [0, 1, 2, 3, 4] rfl)
  · replace hf := hf.2 c39
    refine lv_iconst (v := (0 : Int32)) hx hb dL_law_506 (by decide) ?_
    exact hQ _ _ _ _ _ _ _ _ _ _ hX (by have := hr.2.2.1; omega) (by have := hr.2.2.2; omega) hf hR dL_law_507
def fL_law_J508 (L : Nat) (xs : Nat → Int32) (a3 : Nat) (k : Int32 → zW → Prop) (g23 : Nat → Nat → Int32 → zW → Prop) (mc ms : Nat) (x4 : Int32) (w : zW) : Prop :=
  vp_in (x4 + (1 : Int32)) L ∧ 
  vp_in (x4 + (2 : Int32)) L ∧ 
  vp_in (x4 + (3 : Int32)) L ∧ 
  fX11_guess (xs (x4 + (1 : Int32)).toNatClampNeg) (xs (x4 + (2 : Int32)).toNatClampNeg) (xs (x4 + (3 : Int32)).toNatClampNeg) w (fun r44 w44 =>
  fX12_guess (xs (x4 + (1 : Int32)).toNatClampNeg) (xs (x4 + (2 : Int32)).toNatClampNeg) (xs (x4 + (3 : Int32)).toNatClampNeg) w44 (fun r45 w45 =>
  ((r44 = r45 →
    fL_law_J1479 L xs a3 k g23 mc ms x4 w45) ∧
   (¬ r44 = r45 →
    k (0 : Int32) w45))))
set_option maxHeartbeats 4000000 in
set_option maxRecDepth 100000 in
theorem mL_law_J508 {k : Int32 → zW → Prop} {g23 : Nat → Nat → Int32 → zW → Prop} {a3 : Nat} (X : zCx p s m args meth c cL_law 7 RL (some .boolean)) (hQ : zRetAI p l e R s m args below meth c Q D dA true ad0 al0 cL_law k) (hsc : va_X b L xs s s.heap ∧ b < s.heap.size ∧ ¬ zA ad0 al0 s.heap.size b) (hl0 : l.stackTraces = false) (hTh : zThE (zA ad0 al0 s.heap.size) s s.heap) (htw : ∀ w ∈ zTw, w.before args s = true) (hg23 : ∀ (cells slots mc ms : Nat) (x4 : Int32) (ad : Nat → Nat) (al : Nat → Prop) (w : zW) (H : Heap) (locs : List Loc) (ls : Array Slot) (ha3 : al a3 ∧ zsh a3 = 21), g23 mc ms x4 w → zExt ad0 al0 ad al → zRm R 145 (cells + mc) (slots + ms) → zSt D dA true ad0 al0 ad al w s H locs → lv_has ls 7 [(0, .ref b), (1, .ref (ad 1)), (2, .ref (ad 200)), (3, .ref (ad a3)), (4, .int x4)] → W p l e R s m args below meth c H locs cells slots Q (F0 m 23 ls [])) {cells slots mc ms : Nat} {x4 : Int32} {ad : Nat → Nat} {al : Nat → Prop} {w : zW} {H : Heap} {locs : List Loc} {ls : Array Slot} (ha3 : al a3 ∧ zsh a3 = 21) (hf : fL_law_J508 L xs a3 k g23 mc ms x4 w) (hX : zExt ad0 al0 ad al) (hr : zRm R 145 (cells + mc) (slots + ms)) (hR : zSt D dA true ad0 al0 ad al w s H locs) (hl : lv_has ls 7 [(0, .ref b), (1, .ref (ad 1)), (2, .ref (ad 200)), (3, .ref (ad a3)), (4, .int x4)]) : W p l e R s m args below meth c H locs cells slots Q (F0 m 508 ls []) := by
  have hx := X.1
  have hb := X.2.1
  have hml := X.2.2.1
  have hown := X.2.2.2.1
  have hts := X.2.2.2.2.1
  unfold fL_law_J508 at hf
  refine lv_aload_n hx hb dL_law_508 rfl (lv_at hl 1 rfl) ?_
  refine lv_aload_n hx hb dL_law_509 rfl (lv_at hl 0 rfl) ?_
  refine lv_iload hx hb dL_law_510 (lv_at hl 4 rfl) ?_
  refine lv_iconst (v := (1 : Int32)) hx hb dL_law_512 (by decide) ?_
  refine lv_iadd hx hb dL_law_513 ?_
  obtain ⟨hb41, hf⟩ := hf
  refine va_sld hx hb hsc.1 hsc.2.1 hsc.2.2 hR.2.2.1 hb41 dL_law_514 ?_
  refine lv_aload_n hx hb dL_law_515 rfl (lv_at hl 0 rfl) ?_
  refine lv_iload hx hb dL_law_516 (lv_at hl 4 rfl) ?_
  refine lv_iconst (v := (2 : Int32)) hx hb dL_law_518 (by decide) ?_
  refine lv_iadd hx hb dL_law_519 ?_
  obtain ⟨hb42, hf⟩ := hf
  refine va_sld hx hb hsc.1 hsc.2.1 hsc.2.2 hR.2.2.1 hb42 dL_law_520 ?_
  refine lv_aload_n hx hb dL_law_521 rfl (lv_at hl 0 rfl) ?_
  refine lv_iload hx hb dL_law_522 (lv_at hl 4 rfl) ?_
  refine lv_iconst (v := (3 : Int32)) hx hb dL_law_524 (by decide) ?_
  refine lv_iadd hx hb dL_law_525 ?_
  obtain ⟨hb43, hf⟩ := hf
  refine va_sld hx hb hsc.1 hsc.2.1 hsc.2.2 hR.2.2.1 hb43 dL_law_526 ?_
  refine z_callVI (fr1 := 4) (b := 1) (As := [.int (xs (x4 + (1 : Int32)).toNatClampNeg), .int (xs (x4 + (2 : Int32)).toNatClampNeg), .int (xs (x4 + (3 : Int32)).toNatClampNeg)]) (rest := []) X (hr.none (by decide)) hR zy_X11_guess zq_869 (zlit hR zf_1) (by rw [zs_1]; rfl) rfl (mX11_guess  hf) rfl hl (Nat.le_of_ble_eq_true rfl) dL_law_527 rfl (fun r44 w44 H locs hf hR => ?_)
  refine lv_aload_n hx hb dL_law_530 rfl (lv_at hl 2 rfl) ?_
  refine lv_aload_n hx hb dL_law_531 rfl (lv_at hl 0 rfl) ?_
  refine lv_iload hx hb dL_law_532 (lv_at hl 4 rfl) ?_
  refine lv_iconst (v := (1 : Int32)) hx hb dL_law_534 (by decide) ?_
  refine lv_iadd hx hb dL_law_535 ?_
  refine va_sld hx hb hsc.1 hsc.2.1 hsc.2.2 hR.2.2.1 hb41 dL_law_536 ?_
  refine lv_aload_n hx hb dL_law_537 rfl (lv_at hl 0 rfl) ?_
  refine lv_iload hx hb dL_law_538 (lv_at hl 4 rfl) ?_
  refine lv_iconst (v := (2 : Int32)) hx hb dL_law_540 (by decide) ?_
  refine lv_iadd hx hb dL_law_541 ?_
  refine va_sld hx hb hsc.1 hsc.2.1 hsc.2.2 hR.2.2.1 hb42 dL_law_542 ?_
  refine lv_aload_n hx hb dL_law_543 rfl (lv_at hl 0 rfl) ?_
  refine lv_iload hx hb dL_law_544 (lv_at hl 4 rfl) ?_
  refine lv_iconst (v := (3 : Int32)) hx hb dL_law_546 (by decide) ?_
  refine lv_iadd hx hb dL_law_547 ?_
  refine va_sld hx hb hsc.1 hsc.2.1 hsc.2.2 hR.2.2.1 hb43 dL_law_548 ?_
  refine z_callVI (fr1 := 2) (b := 200) (As := [.int (xs (x4 + (1 : Int32)).toNatClampNeg), .int (xs (x4 + (2 : Int32)).toNatClampNeg), .int (xs (x4 + (3 : Int32)).toNatClampNeg)]) (rest := [.int r44]) X (hr.none (by decide)) hR zy_X12_guess zq_902 (zlit hR zf_200) (by rw [zs_200]; rfl) rfl (mX12_guess  hf) rfl hl (Nat.le_of_ble_eq_true rfl) dL_law_549 rfl (fun r45 w45 H locs hf hR => ?_)
  refine lv_icmp_eq (tgt := 1479) hx hb dL_law_552 (by decide) (fun c46 => ?_) (fun c46 => ?_)
  · replace hf := hf.1 c46
    exact mL_law_J1479 X hQ hsc hl0 hTh htw hg23 ha3 hf hX hr hR (lv_sub hl [0, 1, 2, 3, 4] rfl)
  · replace hf := hf.2 c46
    refine lv_iconst (v := (0 : Int32)) hx hb dL_law_555 (by decide) ?_
    exact hQ _ _ _ _ _ _ _ _ _ _ hX (by have := hr.2.2.1; omega) (by have := hr.2.2.2; omega) hf hR dL_law_556
def fL_law_J557 (L : Nat) (xs : Nat → Int32) (a3 : Nat) (k : Int32 → zW → Prop) (g23 : Nat → Nat → Int32 → zW → Prop) (mc ms : Nat) (x4 : Int32) (w : zW) : Prop :=
  vp_in (x4 + (1 : Int32)) L ∧ 
  fX11_forget (xs (x4 + (1 : Int32)).toNatClampNeg) w (fun r49 w49 =>
  fX12_forget (xs (x4 + (1 : Int32)).toNatClampNeg) w49 (fun r50 w50 =>
  ((r49 = r50 →
    fL_law_J1479 L xs a3 k g23 mc ms x4 w50) ∧
   (¬ r49 = r50 →
    k (0 : Int32) w50))))
set_option maxHeartbeats 4000000 in
set_option maxRecDepth 100000 in
theorem mL_law_J557 {k : Int32 → zW → Prop} {g23 : Nat → Nat → Int32 → zW → Prop} {a3 : Nat} (X : zCx p s m args meth c cL_law 7 RL (some .boolean)) (hQ : zRetAI p l e R s m args below meth c Q D dA true ad0 al0 cL_law k) (hsc : va_X b L xs s s.heap ∧ b < s.heap.size ∧ ¬ zA ad0 al0 s.heap.size b) (hl0 : l.stackTraces = false) (hTh : zThE (zA ad0 al0 s.heap.size) s s.heap) (htw : ∀ w ∈ zTw, w.before args s = true) (hg23 : ∀ (cells slots mc ms : Nat) (x4 : Int32) (ad : Nat → Nat) (al : Nat → Prop) (w : zW) (H : Heap) (locs : List Loc) (ls : Array Slot) (ha3 : al a3 ∧ zsh a3 = 21), g23 mc ms x4 w → zExt ad0 al0 ad al → zRm R 145 (cells + mc) (slots + ms) → zSt D dA true ad0 al0 ad al w s H locs → lv_has ls 7 [(0, .ref b), (1, .ref (ad 1)), (2, .ref (ad 200)), (3, .ref (ad a3)), (4, .int x4)] → W p l e R s m args below meth c H locs cells slots Q (F0 m 23 ls [])) {cells slots mc ms : Nat} {x4 : Int32} {ad : Nat → Nat} {al : Nat → Prop} {w : zW} {H : Heap} {locs : List Loc} {ls : Array Slot} (ha3 : al a3 ∧ zsh a3 = 21) (hf : fL_law_J557 L xs a3 k g23 mc ms x4 w) (hX : zExt ad0 al0 ad al) (hr : zRm R 145 (cells + mc) (slots + ms)) (hR : zSt D dA true ad0 al0 ad al w s H locs) (hl : lv_has ls 7 [(0, .ref b), (1, .ref (ad 1)), (2, .ref (ad 200)), (3, .ref (ad a3)), (4, .int x4)]) : W p l e R s m args below meth c H locs cells slots Q (F0 m 557 ls []) := by
  have hx := X.1
  have hb := X.2.1
  have hml := X.2.2.1
  have hown := X.2.2.2.1
  have hts := X.2.2.2.2.1
  unfold fL_law_J557 at hf
  refine lv_aload_n hx hb dL_law_557 rfl (lv_at hl 1 rfl) ?_
  refine lv_aload_n hx hb dL_law_558 rfl (lv_at hl 0 rfl) ?_
  refine lv_iload hx hb dL_law_559 (lv_at hl 4 rfl) ?_
  refine lv_iconst (v := (1 : Int32)) hx hb dL_law_561 (by decide) ?_
  refine lv_iadd hx hb dL_law_562 ?_
  obtain ⟨hb48, hf⟩ := hf
  refine va_sld hx hb hsc.1 hsc.2.1 hsc.2.2 hR.2.2.1 hb48 dL_law_563 ?_
  refine z_callVI (fr1 := 4) (b := 1) (As := [.int (xs (x4 + (1 : Int32)).toNatClampNeg)]) (rest := []) X (hr.none (by decide)) hR zy_X11_forget zq_918 (zlit hR zf_1) (by rw [zs_1]; rfl) rfl (mX11_forget  hf) rfl hl (Nat.le_of_ble_eq_true rfl) dL_law_564 rfl (fun r49 w49 H locs hf hR => ?_)
  refine lv_aload_n hx hb dL_law_567 rfl (lv_at hl 2 rfl) ?_
  refine lv_aload_n hx hb dL_law_568 rfl (lv_at hl 0 rfl) ?_
  refine lv_iload hx hb dL_law_569 (lv_at hl 4 rfl) ?_
  refine lv_iconst (v := (1 : Int32)) hx hb dL_law_571 (by decide) ?_
  refine lv_iadd hx hb dL_law_572 ?_
  refine va_sld hx hb hsc.1 hsc.2.1 hsc.2.2 hR.2.2.1 hb48 dL_law_573 ?_
  refine z_callVI (fr1 := 2) (b := 200) (As := [.int (xs (x4 + (1 : Int32)).toNatClampNeg)]) (rest := [.int r49]) X (hr.none (by decide)) hR zy_X12_forget zq_922 (zlit hR zf_200) (by rw [zs_200]; rfl) rfl (mX12_forget  hf) rfl hl (Nat.le_of_ble_eq_true rfl) dL_law_574 rfl (fun r50 w50 H locs hf hR => ?_)
  refine lv_icmp_eq (tgt := 1479) hx hb dL_law_577 (by decide) (fun c51 => ?_) (fun c51 => ?_)
  · replace hf := hf.1 c51
    exact mL_law_J1479 X hQ hsc hl0 hTh htw hg23 ha3 hf hX hr hR (lv_sub hl [0, 1, 2, 3, 4] rfl)
  · replace hf := hf.2 c51
    refine lv_iconst (v := (0 : Int32)) hx hb dL_law_580 (by decide) ?_
    exact hQ _ _ _ _ _ _ _ _ _ _ hX (by have := hr.2.2.1; omega) (by have := hr.2.2.2; omega) hf hR dL_law_581
def fL_law_J582 (L : Nat) (xs : Nat → Int32) (a3 : Nat) (k : Int32 → zW → Prop) (g23 : Nat → Nat → Int32 → zW → Prop) (mc ms : Nat) (x4 : Int32) (w : zW) : Prop :=
  vp_in (x4 + (1 : Int32)) L ∧ 
  vp_in (x4 + (2 : Int32)) L ∧ 
  fX11_tell (xs (x4 + (1 : Int32)).toNatClampNeg) (xs (x4 + (2 : Int32)).toNatClampNeg) w (fun r55 w55 =>
  fX12_tell (xs (x4 + (1 : Int32)).toNatClampNeg) (xs (x4 + (2 : Int32)).toNatClampNeg) w55 (fun r56 w56 =>
  ((r55 = r56 →
    fL_law_J1479 L xs a3 k g23 mc ms x4 w56) ∧
   (¬ r55 = r56 →
    k (0 : Int32) w56))))
set_option maxHeartbeats 4000000 in
set_option maxRecDepth 100000 in
theorem mL_law_J582 {k : Int32 → zW → Prop} {g23 : Nat → Nat → Int32 → zW → Prop} {a3 : Nat} (X : zCx p s m args meth c cL_law 7 RL (some .boolean)) (hQ : zRetAI p l e R s m args below meth c Q D dA true ad0 al0 cL_law k) (hsc : va_X b L xs s s.heap ∧ b < s.heap.size ∧ ¬ zA ad0 al0 s.heap.size b) (hl0 : l.stackTraces = false) (hTh : zThE (zA ad0 al0 s.heap.size) s s.heap) (htw : ∀ w ∈ zTw, w.before args s = true) (hg23 : ∀ (cells slots mc ms : Nat) (x4 : Int32) (ad : Nat → Nat) (al : Nat → Prop) (w : zW) (H : Heap) (locs : List Loc) (ls : Array Slot) (ha3 : al a3 ∧ zsh a3 = 21), g23 mc ms x4 w → zExt ad0 al0 ad al → zRm R 145 (cells + mc) (slots + ms) → zSt D dA true ad0 al0 ad al w s H locs → lv_has ls 7 [(0, .ref b), (1, .ref (ad 1)), (2, .ref (ad 200)), (3, .ref (ad a3)), (4, .int x4)] → W p l e R s m args below meth c H locs cells slots Q (F0 m 23 ls [])) {cells slots mc ms : Nat} {x4 : Int32} {ad : Nat → Nat} {al : Nat → Prop} {w : zW} {H : Heap} {locs : List Loc} {ls : Array Slot} (ha3 : al a3 ∧ zsh a3 = 21) (hf : fL_law_J582 L xs a3 k g23 mc ms x4 w) (hX : zExt ad0 al0 ad al) (hr : zRm R 145 (cells + mc) (slots + ms)) (hR : zSt D dA true ad0 al0 ad al w s H locs) (hl : lv_has ls 7 [(0, .ref b), (1, .ref (ad 1)), (2, .ref (ad 200)), (3, .ref (ad a3)), (4, .int x4)]) : W p l e R s m args below meth c H locs cells slots Q (F0 m 582 ls []) := by
  have hx := X.1
  have hb := X.2.1
  have hml := X.2.2.1
  have hown := X.2.2.2.1
  have hts := X.2.2.2.2.1
  unfold fL_law_J582 at hf
  refine lv_aload_n hx hb dL_law_582 rfl (lv_at hl 1 rfl) ?_
  refine lv_aload_n hx hb dL_law_583 rfl (lv_at hl 0 rfl) ?_
  refine lv_iload hx hb dL_law_584 (lv_at hl 4 rfl) ?_
  refine lv_iconst (v := (1 : Int32)) hx hb dL_law_586 (by decide) ?_
  refine lv_iadd hx hb dL_law_587 ?_
  obtain ⟨hb53, hf⟩ := hf
  refine va_sld hx hb hsc.1 hsc.2.1 hsc.2.2 hR.2.2.1 hb53 dL_law_588 ?_
  refine lv_aload_n hx hb dL_law_589 rfl (lv_at hl 0 rfl) ?_
  refine lv_iload hx hb dL_law_590 (lv_at hl 4 rfl) ?_
  refine lv_iconst (v := (2 : Int32)) hx hb dL_law_592 (by decide) ?_
  refine lv_iadd hx hb dL_law_593 ?_
  obtain ⟨hb54, hf⟩ := hf
  refine va_sld hx hb hsc.1 hsc.2.1 hsc.2.2 hR.2.2.1 hb54 dL_law_594 ?_
  refine z_callVI (fr1 := 4) (b := 1) (As := [.int (xs (x4 + (1 : Int32)).toNatClampNeg), .int (xs (x4 + (2 : Int32)).toNatClampNeg)]) (rest := []) X (hr.none (by decide)) hR zy_X11_tell zq_926 (zlit hR zf_1) (by rw [zs_1]; rfl) rfl (mX11_tell  hf) rfl hl (Nat.le_of_ble_eq_true rfl) dL_law_595 rfl (fun r55 w55 H locs hf hR => ?_)
  refine lv_aload_n hx hb dL_law_598 rfl (lv_at hl 2 rfl) ?_
  refine lv_aload_n hx hb dL_law_599 rfl (lv_at hl 0 rfl) ?_
  refine lv_iload hx hb dL_law_600 (lv_at hl 4 rfl) ?_
  refine lv_iconst (v := (1 : Int32)) hx hb dL_law_602 (by decide) ?_
  refine lv_iadd hx hb dL_law_603 ?_
  refine va_sld hx hb hsc.1 hsc.2.1 hsc.2.2 hR.2.2.1 hb53 dL_law_604 ?_
  refine lv_aload_n hx hb dL_law_605 rfl (lv_at hl 0 rfl) ?_
  refine lv_iload hx hb dL_law_606 (lv_at hl 4 rfl) ?_
  refine lv_iconst (v := (2 : Int32)) hx hb dL_law_608 (by decide) ?_
  refine lv_iadd hx hb dL_law_609 ?_
  refine va_sld hx hb hsc.1 hsc.2.1 hsc.2.2 hR.2.2.1 hb54 dL_law_610 ?_
  refine z_callVI (fr1 := 2) (b := 200) (As := [.int (xs (x4 + (1 : Int32)).toNatClampNeg), .int (xs (x4 + (2 : Int32)).toNatClampNeg)]) (rest := [.int r55]) X (hr.none (by decide)) hR zy_X12_tell zq_933 (zlit hR zf_200) (by rw [zs_200]; rfl) rfl (mX12_tell  hf) rfl hl (Nat.le_of_ble_eq_true rfl) dL_law_611 rfl (fun r56 w56 H locs hf hR => ?_)
  refine lv_icmp_eq (tgt := 1479) hx hb dL_law_614 (by decide) (fun c57 => ?_) (fun c57 => ?_)
  · replace hf := hf.1 c57
    exact mL_law_J1479 X hQ hsc hl0 hTh htw hg23 ha3 hf hX hr hR (lv_sub hl [0, 1, 2, 3, 4] rfl)
  · replace hf := hf.2 c57
    refine lv_iconst (v := (0 : Int32)) hx hb dL_law_617 (by decide) ?_
    exact hQ _ _ _ _ _ _ _ _ _ _ hX (by have := hr.2.2.1; omega) (by have := hr.2.2.2; omega) hf hR dL_law_618
def fL_law_J619 (L : Nat) (xs : Nat → Int32) (a3 : Nat) (k : Int32 → zW → Prop) (g23 : Nat → Nat → Int32 → zW → Prop) (mc ms : Nat) (x4 : Int32) (w : zW) : Prop :=
  vp_in (x4 + (1 : Int32)) L ∧ 
  fX11_drop (xs (x4 + (1 : Int32)).toNatClampNeg) w (fun r60 w60 =>
  fX12_drop (xs (x4 + (1 : Int32)).toNatClampNeg) w60 (fun r61 w61 =>
  ((r60 = r61 →
    fL_law_J1479 L xs a3 k g23 mc ms x4 w61) ∧
   (¬ r60 = r61 →
    k (0 : Int32) w61))))
set_option maxHeartbeats 4000000 in
set_option maxRecDepth 100000 in
theorem mL_law_J619 {k : Int32 → zW → Prop} {g23 : Nat → Nat → Int32 → zW → Prop} {a3 : Nat} (X : zCx p s m args meth c cL_law 7 RL (some .boolean)) (hQ : zRetAI p l e R s m args below meth c Q D dA true ad0 al0 cL_law k) (hsc : va_X b L xs s s.heap ∧ b < s.heap.size ∧ ¬ zA ad0 al0 s.heap.size b) (hl0 : l.stackTraces = false) (hTh : zThE (zA ad0 al0 s.heap.size) s s.heap) (htw : ∀ w ∈ zTw, w.before args s = true) (hg23 : ∀ (cells slots mc ms : Nat) (x4 : Int32) (ad : Nat → Nat) (al : Nat → Prop) (w : zW) (H : Heap) (locs : List Loc) (ls : Array Slot) (ha3 : al a3 ∧ zsh a3 = 21), g23 mc ms x4 w → zExt ad0 al0 ad al → zRm R 145 (cells + mc) (slots + ms) → zSt D dA true ad0 al0 ad al w s H locs → lv_has ls 7 [(0, .ref b), (1, .ref (ad 1)), (2, .ref (ad 200)), (3, .ref (ad a3)), (4, .int x4)] → W p l e R s m args below meth c H locs cells slots Q (F0 m 23 ls [])) {cells slots mc ms : Nat} {x4 : Int32} {ad : Nat → Nat} {al : Nat → Prop} {w : zW} {H : Heap} {locs : List Loc} {ls : Array Slot} (ha3 : al a3 ∧ zsh a3 = 21) (hf : fL_law_J619 L xs a3 k g23 mc ms x4 w) (hX : zExt ad0 al0 ad al) (hr : zRm R 145 (cells + mc) (slots + ms)) (hR : zSt D dA true ad0 al0 ad al w s H locs) (hl : lv_has ls 7 [(0, .ref b), (1, .ref (ad 1)), (2, .ref (ad 200)), (3, .ref (ad a3)), (4, .int x4)]) : W p l e R s m args below meth c H locs cells slots Q (F0 m 619 ls []) := by
  have hx := X.1
  have hb := X.2.1
  have hml := X.2.2.1
  have hown := X.2.2.2.1
  have hts := X.2.2.2.2.1
  unfold fL_law_J619 at hf
  refine lv_aload_n hx hb dL_law_619 rfl (lv_at hl 1 rfl) ?_
  refine lv_aload_n hx hb dL_law_620 rfl (lv_at hl 0 rfl) ?_
  refine lv_iload hx hb dL_law_621 (lv_at hl 4 rfl) ?_
  refine lv_iconst (v := (1 : Int32)) hx hb dL_law_623 (by decide) ?_
  refine lv_iadd hx hb dL_law_624 ?_
  obtain ⟨hb59, hf⟩ := hf
  refine va_sld hx hb hsc.1 hsc.2.1 hsc.2.2 hR.2.2.1 hb59 dL_law_625 ?_
  refine z_callVI (fr1 := 4) (b := 1) (As := [.int (xs (x4 + (1 : Int32)).toNatClampNeg)]) (rest := []) X (hr.none (by decide)) hR zy_X11_drop zq_937 (zlit hR zf_1) (by rw [zs_1]; rfl) rfl (mX11_drop  hf) rfl hl (Nat.le_of_ble_eq_true rfl) dL_law_626 rfl (fun r60 w60 H locs hf hR => ?_)
  refine lv_aload_n hx hb dL_law_629 rfl (lv_at hl 2 rfl) ?_
  refine lv_aload_n hx hb dL_law_630 rfl (lv_at hl 0 rfl) ?_
  refine lv_iload hx hb dL_law_631 (lv_at hl 4 rfl) ?_
  refine lv_iconst (v := (1 : Int32)) hx hb dL_law_633 (by decide) ?_
  refine lv_iadd hx hb dL_law_634 ?_
  refine va_sld hx hb hsc.1 hsc.2.1 hsc.2.2 hR.2.2.1 hb59 dL_law_635 ?_
  refine z_callVI (fr1 := 2) (b := 200) (As := [.int (xs (x4 + (1 : Int32)).toNatClampNeg)]) (rest := [.int r60]) X (hr.none (by decide)) hR zy_X12_drop zq_941 (zlit hR zf_200) (by rw [zs_200]; rfl) rfl (mX12_drop  hf) rfl hl (Nat.le_of_ble_eq_true rfl) dL_law_636 rfl (fun r61 w61 H locs hf hR => ?_)
  refine lv_icmp_eq (tgt := 1479) hx hb dL_law_639 (by decide) (fun c62 => ?_) (fun c62 => ?_)
  · replace hf := hf.1 c62
    exact mL_law_J1479 X hQ hsc hl0 hTh htw hg23 ha3 hf hX hr hR (lv_sub hl [0, 1, 2, 3, 4] rfl)
  · replace hf := hf.2 c62
    refine lv_iconst (v := (0 : Int32)) hx hb dL_law_642 (by decide) ?_
    exact hQ _ _ _ _ _ _ _ _ _ _ hX (by have := hr.2.2.1; omega) (by have := hr.2.2.2; omega) hf hR dL_law_643
def fL_law_J644 (L : Nat) (xs : Nat → Int32) (a3 : Nat) (k : Int32 → zW → Prop) (g23 : Nat → Nat → Int32 → zW → Prop) (mc ms : Nat) (x4 : Int32) (w : zW) : Prop :=
  fX11_undo  w (fun r64 w64 =>
  fX12_undo  w64 (fun r65 w65 =>
  ((r64 = r65 →
    fL_law_J1479 L xs a3 k g23 mc ms x4 w65) ∧
   (¬ r64 = r65 →
    k (0 : Int32) w65))))
set_option maxHeartbeats 4000000 in
set_option maxRecDepth 100000 in
theorem mL_law_J644 {k : Int32 → zW → Prop} {g23 : Nat → Nat → Int32 → zW → Prop} {a3 : Nat} (X : zCx p s m args meth c cL_law 7 RL (some .boolean)) (hQ : zRetAI p l e R s m args below meth c Q D dA true ad0 al0 cL_law k) (hsc : va_X b L xs s s.heap ∧ b < s.heap.size ∧ ¬ zA ad0 al0 s.heap.size b) (hl0 : l.stackTraces = false) (hTh : zThE (zA ad0 al0 s.heap.size) s s.heap) (htw : ∀ w ∈ zTw, w.before args s = true) (hg23 : ∀ (cells slots mc ms : Nat) (x4 : Int32) (ad : Nat → Nat) (al : Nat → Prop) (w : zW) (H : Heap) (locs : List Loc) (ls : Array Slot) (ha3 : al a3 ∧ zsh a3 = 21), g23 mc ms x4 w → zExt ad0 al0 ad al → zRm R 145 (cells + mc) (slots + ms) → zSt D dA true ad0 al0 ad al w s H locs → lv_has ls 7 [(0, .ref b), (1, .ref (ad 1)), (2, .ref (ad 200)), (3, .ref (ad a3)), (4, .int x4)] → W p l e R s m args below meth c H locs cells slots Q (F0 m 23 ls [])) {cells slots mc ms : Nat} {x4 : Int32} {ad : Nat → Nat} {al : Nat → Prop} {w : zW} {H : Heap} {locs : List Loc} {ls : Array Slot} (ha3 : al a3 ∧ zsh a3 = 21) (hf : fL_law_J644 L xs a3 k g23 mc ms x4 w) (hX : zExt ad0 al0 ad al) (hr : zRm R 145 (cells + mc) (slots + ms)) (hR : zSt D dA true ad0 al0 ad al w s H locs) (hl : lv_has ls 7 [(0, .ref b), (1, .ref (ad 1)), (2, .ref (ad 200)), (3, .ref (ad a3)), (4, .int x4)]) : W p l e R s m args below meth c H locs cells slots Q (F0 m 644 ls []) := by
  have hx := X.1
  have hb := X.2.1
  have hml := X.2.2.1
  have hown := X.2.2.2.1
  have hts := X.2.2.2.2.1
  unfold fL_law_J644 at hf
  refine lv_aload_n hx hb dL_law_644 rfl (lv_at hl 1 rfl) ?_
  refine z_callVI (fr1 := 3) (b := 1) (As := []) (rest := []) X (hr.none (by decide)) hR zy_X11_undo zq_945 (zlit hR zf_1) (by rw [zs_1]; rfl) rfl (mX11_undo  hf) rfl hl (Nat.le_of_ble_eq_true rfl) dL_law_645 rfl (fun r64 w64 H locs hf hR => ?_)
  refine lv_aload_n hx hb dL_law_648 rfl (lv_at hl 2 rfl) ?_
  refine z_callVI (fr1 := 1) (b := 200) (As := []) (rest := [.int r64]) X (hr.none (by decide)) hR zy_X12_undo zq_954 (zlit hR zf_200) (by rw [zs_200]; rfl) rfl (mX12_undo  hf) rfl hl (Nat.le_of_ble_eq_true rfl) dL_law_649 rfl (fun r65 w65 H locs hf hR => ?_)
  refine lv_icmp_eq (tgt := 1479) hx hb dL_law_652 (by decide) (fun c66 => ?_) (fun c66 => ?_)
  · replace hf := hf.1 c66
    exact mL_law_J1479 X hQ hsc hl0 hTh htw hg23 ha3 hf hX hr hR (lv_sub hl [0, 1, 2, 3, 4] rfl)
  · replace hf := hf.2 c66
    refine lv_iconst (v := (0 : Int32)) hx hb dL_law_655 (by decide) ?_
    exact hQ _ _ _ _ _ _ _ _ _ _ hX (by have := hr.2.2.1; omega) (by have := hr.2.2.2; omega) hf hR dL_law_656
def fL_law_J657 (L : Nat) (xs : Nat → Int32) (a3 : Nat) (k : Int32 → zW → Prop) (g23 : Nat → Nat → Int32 → zW → Prop) (mc ms : Nat) (x4 : Int32) (w : zW) : Prop :=
  vp_in (x4 + (1 : Int32)) L ∧ 
  ∃ c69 s69, c69 ≤ mc ∧ s69 ≤ ms ∧ fX11_judged c69 s69 (xs (x4 + (1 : Int32)).toNatClampNeg) w (fun r69 w69 =>
  fX12_judged (xs (x4 + (1 : Int32)).toNatClampNeg) w69 (fun r70 w70 =>
  ((r69 = r70 →
    fL_law_J1479 L xs a3 k g23 (mc - c69) (ms - s69) x4 w70) ∧
   (¬ r69 = r70 →
    k (0 : Int32) w70))))
set_option maxHeartbeats 4000000 in
set_option maxRecDepth 100000 in
theorem mL_law_J657 {k : Int32 → zW → Prop} {g23 : Nat → Nat → Int32 → zW → Prop} {a3 : Nat} (X : zCx p s m args meth c cL_law 7 RL (some .boolean)) (hQ : zRetAI p l e R s m args below meth c Q D dA true ad0 al0 cL_law k) (hsc : va_X b L xs s s.heap ∧ b < s.heap.size ∧ ¬ zA ad0 al0 s.heap.size b) (hl0 : l.stackTraces = false) (hTh : zThE (zA ad0 al0 s.heap.size) s s.heap) (htw : ∀ w ∈ zTw, w.before args s = true) (hg23 : ∀ (cells slots mc ms : Nat) (x4 : Int32) (ad : Nat → Nat) (al : Nat → Prop) (w : zW) (H : Heap) (locs : List Loc) (ls : Array Slot) (ha3 : al a3 ∧ zsh a3 = 21), g23 mc ms x4 w → zExt ad0 al0 ad al → zRm R 145 (cells + mc) (slots + ms) → zSt D dA true ad0 al0 ad al w s H locs → lv_has ls 7 [(0, .ref b), (1, .ref (ad 1)), (2, .ref (ad 200)), (3, .ref (ad a3)), (4, .int x4)] → W p l e R s m args below meth c H locs cells slots Q (F0 m 23 ls [])) {cells slots mc ms : Nat} {x4 : Int32} {ad : Nat → Nat} {al : Nat → Prop} {w : zW} {H : Heap} {locs : List Loc} {ls : Array Slot} (ha3 : al a3 ∧ zsh a3 = 21) (hf : fL_law_J657 L xs a3 k g23 mc ms x4 w) (hX : zExt ad0 al0 ad al) (hr : zRm R 145 (cells + mc) (slots + ms)) (hR : zSt D dA true ad0 al0 ad al w s H locs) (hl : lv_has ls 7 [(0, .ref b), (1, .ref (ad 1)), (2, .ref (ad 200)), (3, .ref (ad a3)), (4, .int x4)]) : W p l e R s m args below meth c H locs cells slots Q (F0 m 657 ls []) := by
  have hx := X.1
  have hb := X.2.1
  have hml := X.2.2.1
  have hown := X.2.2.2.1
  have hts := X.2.2.2.2.1
  unfold fL_law_J657 at hf
  refine lv_aload_n hx hb dL_law_657 rfl (lv_at hl 1 rfl) ?_
  refine lv_aload_n hx hb dL_law_658 rfl (lv_at hl 0 rfl) ?_
  refine lv_iload hx hb dL_law_659 (lv_at hl 4 rfl) ?_
  refine lv_iconst (v := (1 : Int32)) hx hb dL_law_661 (by decide) ?_
  refine lv_iadd hx hb dL_law_662 ?_
  obtain ⟨hb68, hf⟩ := hf
  refine va_sld hx hb hsc.1 hsc.2.1 hsc.2.2 hR.2.2.1 hb68 dL_law_663 ?_
  have hw69_1 : al 1 := (zlit hR zf_1)
  have hw69_2 : al 200 := (zlit hR zf_200)
  have hw69_3 : al a3 := ha3.1
  have hv69_1 : al 1 := (zlit hR zf_1)
  obtain ⟨c69, s69, hc69, hs69, hf⟩ := hf
  refine z_callAVI (fr1 := 5) (mc := c69) (ms := s69) (b := 1) (As := [.int (xs (x4 + (1 : Int32)).toNatClampNeg)]) (rest := []) X (hr.call hc69 hs69 (by decide)) hR zy_X11_judged zq_958 (zlit hR zf_1) (by rw [zs_1]; rfl) rfl (mX11_judged  hf) rfl hl (Nat.le_of_ble_eq_true rfl) dL_law_664 rfl (fun r69 w69 H locs ad69 al69 hf hE69 hR => ?_)
  have hX := hX.tr hE69
  have hr := hr.after hc69 hs69
  have ha3 : al69 a3 ∧ zsh a3 = 21 := ⟨(hE69 _ ha3.1).1, ha3.2⟩
  rw [← (hE69 1 hw69_1).2] at hl
  rw [← (hE69 200 hw69_2).2] at hl
  rw [← (hE69 a3 hw69_3).2] at hl
  refine lv_aload_n hx hb dL_law_667 rfl (lv_at hl 2 rfl) ?_
  refine lv_aload_n hx hb dL_law_668 rfl (lv_at hl 0 rfl) ?_
  refine lv_iload hx hb dL_law_669 (lv_at hl 4 rfl) ?_
  refine lv_iconst (v := (1 : Int32)) hx hb dL_law_671 (by decide) ?_
  refine lv_iadd hx hb dL_law_672 ?_
  refine va_sld hx hb hsc.1 hsc.2.1 hsc.2.2 hR.2.2.1 hb68 dL_law_673 ?_
  refine z_callVI (fr1 := 4) (b := 200) (As := [.int (xs (x4 + (1 : Int32)).toNatClampNeg)]) (rest := [.int r69]) X (hr.none (by decide)) hR zy_X12_judged zq_1056 (zlit hR zf_200) (by rw [zs_200]; rfl) rfl (mX12_judged  hf) rfl hl (Nat.le_of_ble_eq_true rfl) dL_law_674 rfl (fun r70 w70 H locs hf hR => ?_)
  refine lv_icmp_eq (tgt := 1479) hx hb dL_law_677 (by decide) (fun c71 => ?_) (fun c71 => ?_)
  · replace hf := hf.1 c71
    exact mL_law_J1479 X hQ hsc hl0 hTh htw hg23 ha3 hf hX hr hR (lv_sub hl [0, 1, 2, 3, 4] rfl)
  · replace hf := hf.2 c71
    refine lv_iconst (v := (0 : Int32)) hx hb dL_law_680 (by decide) ?_
    exact hQ _ _ _ _ _ _ _ _ _ _ hX (by have := hr.2.2.1; omega) (by have := hr.2.2.2; omega) hf hR dL_law_681
def fL_law_J682 (L : Nat) (xs : Nat → Int32) (a3 : Nat) (k : Int32 → zW → Prop) (g23 : Nat → Nat → Int32 → zW → Prop) (mc ms : Nat) (x4 : Int32) (w : zW) : Prop :=
  ∃ c73 s73, c73 ≤ mc ∧ s73 ≤ ms ∧ fX11_fits c73 s73  w (fun r73 w73 =>
  fX12_fits  w73 (fun r74 w74 =>
  ((r73 = r74 →
    fL_law_J1479 L xs a3 k g23 (mc - c73) (ms - s73) x4 w74) ∧
   (¬ r73 = r74 →
    k (0 : Int32) w74))))
set_option maxHeartbeats 4000000 in
set_option maxRecDepth 100000 in
theorem mL_law_J682 {k : Int32 → zW → Prop} {g23 : Nat → Nat → Int32 → zW → Prop} {a3 : Nat} (X : zCx p s m args meth c cL_law 7 RL (some .boolean)) (hQ : zRetAI p l e R s m args below meth c Q D dA true ad0 al0 cL_law k) (hsc : va_X b L xs s s.heap ∧ b < s.heap.size ∧ ¬ zA ad0 al0 s.heap.size b) (hl0 : l.stackTraces = false) (hTh : zThE (zA ad0 al0 s.heap.size) s s.heap) (htw : ∀ w ∈ zTw, w.before args s = true) (hg23 : ∀ (cells slots mc ms : Nat) (x4 : Int32) (ad : Nat → Nat) (al : Nat → Prop) (w : zW) (H : Heap) (locs : List Loc) (ls : Array Slot) (ha3 : al a3 ∧ zsh a3 = 21), g23 mc ms x4 w → zExt ad0 al0 ad al → zRm R 145 (cells + mc) (slots + ms) → zSt D dA true ad0 al0 ad al w s H locs → lv_has ls 7 [(0, .ref b), (1, .ref (ad 1)), (2, .ref (ad 200)), (3, .ref (ad a3)), (4, .int x4)] → W p l e R s m args below meth c H locs cells slots Q (F0 m 23 ls [])) {cells slots mc ms : Nat} {x4 : Int32} {ad : Nat → Nat} {al : Nat → Prop} {w : zW} {H : Heap} {locs : List Loc} {ls : Array Slot} (ha3 : al a3 ∧ zsh a3 = 21) (hf : fL_law_J682 L xs a3 k g23 mc ms x4 w) (hX : zExt ad0 al0 ad al) (hr : zRm R 145 (cells + mc) (slots + ms)) (hR : zSt D dA true ad0 al0 ad al w s H locs) (hl : lv_has ls 7 [(0, .ref b), (1, .ref (ad 1)), (2, .ref (ad 200)), (3, .ref (ad a3)), (4, .int x4)]) : W p l e R s m args below meth c H locs cells slots Q (F0 m 682 ls []) := by
  have hx := X.1
  have hb := X.2.1
  have hml := X.2.2.1
  have hown := X.2.2.2.1
  have hts := X.2.2.2.2.1
  unfold fL_law_J682 at hf
  refine lv_aload_n hx hb dL_law_682 rfl (lv_at hl 1 rfl) ?_
  have hw73_1 : al 1 := (zlit hR zf_1)
  have hw73_2 : al 200 := (zlit hR zf_200)
  have hw73_3 : al a3 := ha3.1
  have hv73_1 : al 1 := (zlit hR zf_1)
  obtain ⟨c73, s73, hc73, hs73, hf⟩ := hf
  refine z_callAVI (fr1 := 5) (mc := c73) (ms := s73) (b := 1) (As := []) (rest := []) X (hr.call hc73 hs73 (by decide)) hR zy_X11_fits zq_1100 (zlit hR zf_1) (by rw [zs_1]; rfl) rfl (mX11_fits  hf) rfl hl (Nat.le_of_ble_eq_true rfl) dL_law_683 rfl (fun r73 w73 H locs ad73 al73 hf hE73 hR => ?_)
  have hX := hX.tr hE73
  have hr := hr.after hc73 hs73
  have ha3 : al73 a3 ∧ zsh a3 = 21 := ⟨(hE73 _ ha3.1).1, ha3.2⟩
  rw [← (hE73 1 hw73_1).2] at hl
  rw [← (hE73 200 hw73_2).2] at hl
  rw [← (hE73 a3 hw73_3).2] at hl
  refine lv_aload_n hx hb dL_law_686 rfl (lv_at hl 2 rfl) ?_
  refine z_callVI (fr1 := 4) (b := 200) (As := []) (rest := [.int r73]) X (hr.none (by decide)) hR zy_X12_fits zq_1114 (zlit hR zf_200) (by rw [zs_200]; rfl) rfl (mX12_fits  hf) rfl hl (Nat.le_of_ble_eq_true rfl) dL_law_687 rfl (fun r74 w74 H locs hf hR => ?_)
  refine lv_icmp_eq (tgt := 1479) hx hb dL_law_690 (by decide) (fun c75 => ?_) (fun c75 => ?_)
  · replace hf := hf.1 c75
    exact mL_law_J1479 X hQ hsc hl0 hTh htw hg23 ha3 hf hX hr hR (lv_sub hl [0, 1, 2, 3, 4] rfl)
  · replace hf := hf.2 c75
    refine lv_iconst (v := (0 : Int32)) hx hb dL_law_693 (by decide) ?_
    exact hQ _ _ _ _ _ _ _ _ _ _ hX (by have := hr.2.2.1; omega) (by have := hr.2.2.2; omega) hf hR dL_law_694
def fL_law_J695 (L : Nat) (xs : Nat → Int32) (a3 : Nat) (k : Int32 → zW → Prop) (g23 : Nat → Nat → Int32 → zW → Prop) (mc ms : Nat) (x4 : Int32) (w : zW) : Prop :=
  vp_in (x4 + (1 : Int32)) L ∧ 
  vp_in (x4 + (2 : Int32)) L ∧ 
  ∃ c79 s79, c79 ≤ mc ∧ s79 ≤ ms ∧ fX11_entry c79 s79 (xs (x4 + (1 : Int32)).toNatClampNeg) (xs (x4 + (2 : Int32)).toNatClampNeg) w (fun r79 w79 =>
  fX12_entry (xs (x4 + (1 : Int32)).toNatClampNeg) (xs (x4 + (2 : Int32)).toNatClampNeg) w79 (fun r80 w80 =>
  ((r79 = r80 →
    fL_law_J1479 L xs a3 k g23 (mc - c79) (ms - s79) x4 w80) ∧
   (¬ r79 = r80 →
    k (0 : Int32) w80))))
set_option maxHeartbeats 4000000 in
set_option maxRecDepth 100000 in
theorem mL_law_J695 {k : Int32 → zW → Prop} {g23 : Nat → Nat → Int32 → zW → Prop} {a3 : Nat} (X : zCx p s m args meth c cL_law 7 RL (some .boolean)) (hQ : zRetAI p l e R s m args below meth c Q D dA true ad0 al0 cL_law k) (hsc : va_X b L xs s s.heap ∧ b < s.heap.size ∧ ¬ zA ad0 al0 s.heap.size b) (hl0 : l.stackTraces = false) (hTh : zThE (zA ad0 al0 s.heap.size) s s.heap) (htw : ∀ w ∈ zTw, w.before args s = true) (hg23 : ∀ (cells slots mc ms : Nat) (x4 : Int32) (ad : Nat → Nat) (al : Nat → Prop) (w : zW) (H : Heap) (locs : List Loc) (ls : Array Slot) (ha3 : al a3 ∧ zsh a3 = 21), g23 mc ms x4 w → zExt ad0 al0 ad al → zRm R 145 (cells + mc) (slots + ms) → zSt D dA true ad0 al0 ad al w s H locs → lv_has ls 7 [(0, .ref b), (1, .ref (ad 1)), (2, .ref (ad 200)), (3, .ref (ad a3)), (4, .int x4)] → W p l e R s m args below meth c H locs cells slots Q (F0 m 23 ls [])) {cells slots mc ms : Nat} {x4 : Int32} {ad : Nat → Nat} {al : Nat → Prop} {w : zW} {H : Heap} {locs : List Loc} {ls : Array Slot} (ha3 : al a3 ∧ zsh a3 = 21) (hf : fL_law_J695 L xs a3 k g23 mc ms x4 w) (hX : zExt ad0 al0 ad al) (hr : zRm R 145 (cells + mc) (slots + ms)) (hR : zSt D dA true ad0 al0 ad al w s H locs) (hl : lv_has ls 7 [(0, .ref b), (1, .ref (ad 1)), (2, .ref (ad 200)), (3, .ref (ad a3)), (4, .int x4)]) : W p l e R s m args below meth c H locs cells slots Q (F0 m 695 ls []) := by
  have hx := X.1
  have hb := X.2.1
  have hml := X.2.2.1
  have hown := X.2.2.2.1
  have hts := X.2.2.2.2.1
  unfold fL_law_J695 at hf
  refine lv_aload_n hx hb dL_law_695 rfl (lv_at hl 1 rfl) ?_
  refine lv_aload_n hx hb dL_law_696 rfl (lv_at hl 0 rfl) ?_
  refine lv_iload hx hb dL_law_697 (lv_at hl 4 rfl) ?_
  refine lv_iconst (v := (1 : Int32)) hx hb dL_law_699 (by decide) ?_
  refine lv_iadd hx hb dL_law_700 ?_
  obtain ⟨hb77, hf⟩ := hf
  refine va_sld hx hb hsc.1 hsc.2.1 hsc.2.2 hR.2.2.1 hb77 dL_law_701 ?_
  refine lv_aload_n hx hb dL_law_702 rfl (lv_at hl 0 rfl) ?_
  refine lv_iload hx hb dL_law_703 (lv_at hl 4 rfl) ?_
  refine lv_iconst (v := (2 : Int32)) hx hb dL_law_705 (by decide) ?_
  refine lv_iadd hx hb dL_law_706 ?_
  obtain ⟨hb78, hf⟩ := hf
  refine va_sld hx hb hsc.1 hsc.2.1 hsc.2.2 hR.2.2.1 hb78 dL_law_707 ?_
  have hw79_1 : al 1 := (zlit hR zf_1)
  have hw79_2 : al 200 := (zlit hR zf_200)
  have hw79_3 : al a3 := ha3.1
  have hv79_1 : al 1 := (zlit hR zf_1)
  obtain ⟨c79, s79, hc79, hs79, hf⟩ := hf
  refine z_callAVI (fr1 := 5) (mc := c79) (ms := s79) (b := 1) (As := [.int (xs (x4 + (1 : Int32)).toNatClampNeg), .int (xs (x4 + (2 : Int32)).toNatClampNeg)]) (rest := []) X (hr.call hc79 hs79 (by decide)) hR zy_X11_entry zq_1118 (zlit hR zf_1) (by rw [zs_1]; rfl) rfl (mX11_entry  hf) rfl hl (Nat.le_of_ble_eq_true rfl) dL_law_708 rfl (fun r79 w79 H locs ad79 al79 hf hE79 hR => ?_)
  have hX := hX.tr hE79
  have hr := hr.after hc79 hs79
  have ha3 : al79 a3 ∧ zsh a3 = 21 := ⟨(hE79 _ ha3.1).1, ha3.2⟩
  rw [← (hE79 1 hw79_1).2] at hl
  rw [← (hE79 200 hw79_2).2] at hl
  rw [← (hE79 a3 hw79_3).2] at hl
  refine lv_aload_n hx hb dL_law_711 rfl (lv_at hl 2 rfl) ?_
  refine lv_aload_n hx hb dL_law_712 rfl (lv_at hl 0 rfl) ?_
  refine lv_iload hx hb dL_law_713 (lv_at hl 4 rfl) ?_
  refine lv_iconst (v := (1 : Int32)) hx hb dL_law_715 (by decide) ?_
  refine lv_iadd hx hb dL_law_716 ?_
  refine va_sld hx hb hsc.1 hsc.2.1 hsc.2.2 hR.2.2.1 hb77 dL_law_717 ?_
  refine lv_aload_n hx hb dL_law_718 rfl (lv_at hl 0 rfl) ?_
  refine lv_iload hx hb dL_law_719 (lv_at hl 4 rfl) ?_
  refine lv_iconst (v := (2 : Int32)) hx hb dL_law_721 (by decide) ?_
  refine lv_iadd hx hb dL_law_722 ?_
  refine va_sld hx hb hsc.1 hsc.2.1 hsc.2.2 hR.2.2.1 hb78 dL_law_723 ?_
  refine z_callVI (fr1 := 4) (b := 200) (As := [.int (xs (x4 + (1 : Int32)).toNatClampNeg), .int (xs (x4 + (2 : Int32)).toNatClampNeg)]) (rest := [.int r79]) X (hr.none (by decide)) hR zy_X12_entry zq_1124 (zlit hR zf_200) (by rw [zs_200]; rfl) rfl (mX12_entry  hf) rfl hl (Nat.le_of_ble_eq_true rfl) dL_law_724 rfl (fun r80 w80 H locs hf hR => ?_)
  refine lv_icmp_eq (tgt := 1479) hx hb dL_law_727 (by decide) (fun c81 => ?_) (fun c81 => ?_)
  · replace hf := hf.1 c81
    exact mL_law_J1479 X hQ hsc hl0 hTh htw hg23 ha3 hf hX hr hR (lv_sub hl [0, 1, 2, 3, 4] rfl)
  · replace hf := hf.2 c81
    refine lv_iconst (v := (0 : Int32)) hx hb dL_law_730 (by decide) ?_
    exact hQ _ _ _ _ _ _ _ _ _ _ hX (by have := hr.2.2.1; omega) (by have := hr.2.2.2; omega) hf hR dL_law_731
def fL_law_J732 (L : Nat) (xs : Nat → Int32) (a3 : Nat) (k : Int32 → zW → Prop) (g23 : Nat → Nat → Int32 → zW → Prop) (mc ms : Nat) (x4 : Int32) (w : zW) : Prop :=
  vp_in (x4 + (1 : Int32)) L ∧ 
  ∃ c84 s84, c84 ≤ mc ∧ s84 ≤ ms ∧ fX11_could c84 s84 (xs (x4 + (1 : Int32)).toNatClampNeg) w (fun r84 w84 =>
  fX12_could (xs (x4 + (1 : Int32)).toNatClampNeg) w84 (fun r85 w85 =>
  ((r84 = r85 →
    fL_law_J1479 L xs a3 k g23 (mc - c84) (ms - s84) x4 w85) ∧
   (¬ r84 = r85 →
    k (0 : Int32) w85))))
set_option maxHeartbeats 4000000 in
set_option maxRecDepth 100000 in
theorem mL_law_J732 {k : Int32 → zW → Prop} {g23 : Nat → Nat → Int32 → zW → Prop} {a3 : Nat} (X : zCx p s m args meth c cL_law 7 RL (some .boolean)) (hQ : zRetAI p l e R s m args below meth c Q D dA true ad0 al0 cL_law k) (hsc : va_X b L xs s s.heap ∧ b < s.heap.size ∧ ¬ zA ad0 al0 s.heap.size b) (hl0 : l.stackTraces = false) (hTh : zThE (zA ad0 al0 s.heap.size) s s.heap) (htw : ∀ w ∈ zTw, w.before args s = true) (hg23 : ∀ (cells slots mc ms : Nat) (x4 : Int32) (ad : Nat → Nat) (al : Nat → Prop) (w : zW) (H : Heap) (locs : List Loc) (ls : Array Slot) (ha3 : al a3 ∧ zsh a3 = 21), g23 mc ms x4 w → zExt ad0 al0 ad al → zRm R 145 (cells + mc) (slots + ms) → zSt D dA true ad0 al0 ad al w s H locs → lv_has ls 7 [(0, .ref b), (1, .ref (ad 1)), (2, .ref (ad 200)), (3, .ref (ad a3)), (4, .int x4)] → W p l e R s m args below meth c H locs cells slots Q (F0 m 23 ls [])) {cells slots mc ms : Nat} {x4 : Int32} {ad : Nat → Nat} {al : Nat → Prop} {w : zW} {H : Heap} {locs : List Loc} {ls : Array Slot} (ha3 : al a3 ∧ zsh a3 = 21) (hf : fL_law_J732 L xs a3 k g23 mc ms x4 w) (hX : zExt ad0 al0 ad al) (hr : zRm R 145 (cells + mc) (slots + ms)) (hR : zSt D dA true ad0 al0 ad al w s H locs) (hl : lv_has ls 7 [(0, .ref b), (1, .ref (ad 1)), (2, .ref (ad 200)), (3, .ref (ad a3)), (4, .int x4)]) : W p l e R s m args below meth c H locs cells slots Q (F0 m 732 ls []) := by
  have hx := X.1
  have hb := X.2.1
  have hml := X.2.2.1
  have hown := X.2.2.2.1
  have hts := X.2.2.2.2.1
  unfold fL_law_J732 at hf
  refine lv_aload_n hx hb dL_law_732 rfl (lv_at hl 1 rfl) ?_
  refine lv_aload_n hx hb dL_law_733 rfl (lv_at hl 0 rfl) ?_
  refine lv_iload hx hb dL_law_734 (lv_at hl 4 rfl) ?_
  refine lv_iconst (v := (1 : Int32)) hx hb dL_law_736 (by decide) ?_
  refine lv_iadd hx hb dL_law_737 ?_
  obtain ⟨hb83, hf⟩ := hf
  refine va_sld hx hb hsc.1 hsc.2.1 hsc.2.2 hR.2.2.1 hb83 dL_law_738 ?_
  have hw84_1 : al 1 := (zlit hR zf_1)
  have hw84_2 : al 200 := (zlit hR zf_200)
  have hw84_3 : al a3 := ha3.1
  have hv84_1 : al 1 := (zlit hR zf_1)
  obtain ⟨c84, s84, hc84, hs84, hf⟩ := hf
  refine z_callAVI (fr1 := 6) (mc := c84) (ms := s84) (b := 1) (As := [.int (xs (x4 + (1 : Int32)).toNatClampNeg)]) (rest := []) X (hr.call hc84 hs84 (by decide)) hR zy_X11_could zq_1128 (zlit hR zf_1) (by rw [zs_1]; rfl) rfl (mX11_could  hf) rfl hl (Nat.le_of_ble_eq_true rfl) dL_law_739 rfl (fun r84 w84 H locs ad84 al84 hf hE84 hR => ?_)
  have hX := hX.tr hE84
  have hr := hr.after hc84 hs84
  have ha3 : al84 a3 ∧ zsh a3 = 21 := ⟨(hE84 _ ha3.1).1, ha3.2⟩
  rw [← (hE84 1 hw84_1).2] at hl
  rw [← (hE84 200 hw84_2).2] at hl
  rw [← (hE84 a3 hw84_3).2] at hl
  refine lv_aload_n hx hb dL_law_742 rfl (lv_at hl 2 rfl) ?_
  refine lv_aload_n hx hb dL_law_743 rfl (lv_at hl 0 rfl) ?_
  refine lv_iload hx hb dL_law_744 (lv_at hl 4 rfl) ?_
  refine lv_iconst (v := (1 : Int32)) hx hb dL_law_746 (by decide) ?_
  refine lv_iadd hx hb dL_law_747 ?_
  refine va_sld hx hb hsc.1 hsc.2.1 hsc.2.2 hR.2.2.1 hb83 dL_law_748 ?_
  refine z_callVI (fr1 := 4) (b := 200) (As := [.int (xs (x4 + (1 : Int32)).toNatClampNeg)]) (rest := [.int r84]) X (hr.none (by decide)) hR zy_X12_could zq_1154 (zlit hR zf_200) (by rw [zs_200]; rfl) rfl (mX12_could  hf) rfl hl (Nat.le_of_ble_eq_true rfl) dL_law_749 rfl (fun r85 w85 H locs hf hR => ?_)
  refine lv_icmp_eq (tgt := 1479) hx hb dL_law_752 (by decide) (fun c86 => ?_) (fun c86 => ?_)
  · replace hf := hf.1 c86
    exact mL_law_J1479 X hQ hsc hl0 hTh htw hg23 ha3 hf hX hr hR (lv_sub hl [0, 1, 2, 3, 4] rfl)
  · replace hf := hf.2 c86
    refine lv_iconst (v := (0 : Int32)) hx hb dL_law_755 (by decide) ?_
    exact hQ _ _ _ _ _ _ _ _ _ _ hX (by have := hr.2.2.1; omega) (by have := hr.2.2.2; omega) hf hR dL_law_756
def fL_law_J757 (L : Nat) (xs : Nat → Int32) (a3 : Nat) (k : Int32 → zW → Prop) (g23 : Nat → Nat → Int32 → zW → Prop) (mc ms : Nat) (x4 : Int32) (w : zW) : Prop :=
  vp_in (x4 + (1 : Int32)) L ∧ 
  ∃ c89 s89, c89 ≤ mc ∧ s89 ≤ ms ∧ fX11_sure c89 s89 (xs (x4 + (1 : Int32)).toNatClampNeg) w (fun r89 w89 =>
  fX12_sure (xs (x4 + (1 : Int32)).toNatClampNeg) w89 (fun r90 w90 =>
  ((r89 = r90 →
    fL_law_J1479 L xs a3 k g23 (mc - c89) (ms - s89) x4 w90) ∧
   (¬ r89 = r90 →
    k (0 : Int32) w90))))
set_option maxHeartbeats 4000000 in
set_option maxRecDepth 100000 in
theorem mL_law_J757 {k : Int32 → zW → Prop} {g23 : Nat → Nat → Int32 → zW → Prop} {a3 : Nat} (X : zCx p s m args meth c cL_law 7 RL (some .boolean)) (hQ : zRetAI p l e R s m args below meth c Q D dA true ad0 al0 cL_law k) (hsc : va_X b L xs s s.heap ∧ b < s.heap.size ∧ ¬ zA ad0 al0 s.heap.size b) (hl0 : l.stackTraces = false) (hTh : zThE (zA ad0 al0 s.heap.size) s s.heap) (htw : ∀ w ∈ zTw, w.before args s = true) (hg23 : ∀ (cells slots mc ms : Nat) (x4 : Int32) (ad : Nat → Nat) (al : Nat → Prop) (w : zW) (H : Heap) (locs : List Loc) (ls : Array Slot) (ha3 : al a3 ∧ zsh a3 = 21), g23 mc ms x4 w → zExt ad0 al0 ad al → zRm R 145 (cells + mc) (slots + ms) → zSt D dA true ad0 al0 ad al w s H locs → lv_has ls 7 [(0, .ref b), (1, .ref (ad 1)), (2, .ref (ad 200)), (3, .ref (ad a3)), (4, .int x4)] → W p l e R s m args below meth c H locs cells slots Q (F0 m 23 ls [])) {cells slots mc ms : Nat} {x4 : Int32} {ad : Nat → Nat} {al : Nat → Prop} {w : zW} {H : Heap} {locs : List Loc} {ls : Array Slot} (ha3 : al a3 ∧ zsh a3 = 21) (hf : fL_law_J757 L xs a3 k g23 mc ms x4 w) (hX : zExt ad0 al0 ad al) (hr : zRm R 145 (cells + mc) (slots + ms)) (hR : zSt D dA true ad0 al0 ad al w s H locs) (hl : lv_has ls 7 [(0, .ref b), (1, .ref (ad 1)), (2, .ref (ad 200)), (3, .ref (ad a3)), (4, .int x4)]) : W p l e R s m args below meth c H locs cells slots Q (F0 m 757 ls []) := by
  have hx := X.1
  have hb := X.2.1
  have hml := X.2.2.1
  have hown := X.2.2.2.1
  have hts := X.2.2.2.2.1
  unfold fL_law_J757 at hf
  refine lv_aload_n hx hb dL_law_757 rfl (lv_at hl 1 rfl) ?_
  refine lv_aload_n hx hb dL_law_758 rfl (lv_at hl 0 rfl) ?_
  refine lv_iload hx hb dL_law_759 (lv_at hl 4 rfl) ?_
  refine lv_iconst (v := (1 : Int32)) hx hb dL_law_761 (by decide) ?_
  refine lv_iadd hx hb dL_law_762 ?_
  obtain ⟨hb88, hf⟩ := hf
  refine va_sld hx hb hsc.1 hsc.2.1 hsc.2.2 hR.2.2.1 hb88 dL_law_763 ?_
  have hw89_1 : al 1 := (zlit hR zf_1)
  have hw89_2 : al 200 := (zlit hR zf_200)
  have hw89_3 : al a3 := ha3.1
  have hv89_1 : al 1 := (zlit hR zf_1)
  obtain ⟨c89, s89, hc89, hs89, hf⟩ := hf
  refine z_callAVI (fr1 := 6) (mc := c89) (ms := s89) (b := 1) (As := [.int (xs (x4 + (1 : Int32)).toNatClampNeg)]) (rest := []) X (hr.call hc89 hs89 (by decide)) hR zy_X11_sure zq_1158 (zlit hR zf_1) (by rw [zs_1]; rfl) rfl (mX11_sure  hf) rfl hl (Nat.le_of_ble_eq_true rfl) dL_law_764 rfl (fun r89 w89 H locs ad89 al89 hf hE89 hR => ?_)
  have hX := hX.tr hE89
  have hr := hr.after hc89 hs89
  have ha3 : al89 a3 ∧ zsh a3 = 21 := ⟨(hE89 _ ha3.1).1, ha3.2⟩
  rw [← (hE89 1 hw89_1).2] at hl
  rw [← (hE89 200 hw89_2).2] at hl
  rw [← (hE89 a3 hw89_3).2] at hl
  refine lv_aload_n hx hb dL_law_767 rfl (lv_at hl 2 rfl) ?_
  refine lv_aload_n hx hb dL_law_768 rfl (lv_at hl 0 rfl) ?_
  refine lv_iload hx hb dL_law_769 (lv_at hl 4 rfl) ?_
  refine lv_iconst (v := (1 : Int32)) hx hb dL_law_771 (by decide) ?_
  refine lv_iadd hx hb dL_law_772 ?_
  refine va_sld hx hb hsc.1 hsc.2.1 hsc.2.2 hR.2.2.1 hb88 dL_law_773 ?_
  refine z_callVI (fr1 := 4) (b := 200) (As := [.int (xs (x4 + (1 : Int32)).toNatClampNeg)]) (rest := [.int r89]) X (hr.none (by decide)) hR zy_X12_sure zq_1174 (zlit hR zf_200) (by rw [zs_200]; rfl) rfl (mX12_sure  hf) rfl hl (Nat.le_of_ble_eq_true rfl) dL_law_774 rfl (fun r90 w90 H locs hf hR => ?_)
  refine lv_icmp_eq (tgt := 1479) hx hb dL_law_777 (by decide) (fun c91 => ?_) (fun c91 => ?_)
  · replace hf := hf.1 c91
    exact mL_law_J1479 X hQ hsc hl0 hTh htw hg23 ha3 hf hX hr hR (lv_sub hl [0, 1, 2, 3, 4] rfl)
  · replace hf := hf.2 c91
    refine lv_iconst (v := (0 : Int32)) hx hb dL_law_780 (by decide) ?_
    exact hQ _ _ _ _ _ _ _ _ _ _ hX (by have := hr.2.2.1; omega) (by have := hr.2.2.2; omega) hf hR dL_law_781
def fL_law_J782 (L : Nat) (xs : Nat → Int32) (a3 : Nat) (k : Int32 → zW → Prop) (g23 : Nat → Nat → Int32 → zW → Prop) (mc ms : Nat) (x4 : Int32) (w : zW) : Prop :=
  ∃ c93 s93, c93 ≤ mc ∧ s93 ≤ ms ∧ fX11_fixed c93 s93  w (fun r93 w93 =>
  fX12_fixed  w93 (fun r94 w94 =>
  ((r93 = r94 →
    fL_law_J1479 L xs a3 k g23 (mc - c93) (ms - s93) x4 w94) ∧
   (¬ r93 = r94 →
    k (0 : Int32) w94))))
set_option maxHeartbeats 4000000 in
set_option maxRecDepth 100000 in
theorem mL_law_J782 {k : Int32 → zW → Prop} {g23 : Nat → Nat → Int32 → zW → Prop} {a3 : Nat} (X : zCx p s m args meth c cL_law 7 RL (some .boolean)) (hQ : zRetAI p l e R s m args below meth c Q D dA true ad0 al0 cL_law k) (hsc : va_X b L xs s s.heap ∧ b < s.heap.size ∧ ¬ zA ad0 al0 s.heap.size b) (hl0 : l.stackTraces = false) (hTh : zThE (zA ad0 al0 s.heap.size) s s.heap) (htw : ∀ w ∈ zTw, w.before args s = true) (hg23 : ∀ (cells slots mc ms : Nat) (x4 : Int32) (ad : Nat → Nat) (al : Nat → Prop) (w : zW) (H : Heap) (locs : List Loc) (ls : Array Slot) (ha3 : al a3 ∧ zsh a3 = 21), g23 mc ms x4 w → zExt ad0 al0 ad al → zRm R 145 (cells + mc) (slots + ms) → zSt D dA true ad0 al0 ad al w s H locs → lv_has ls 7 [(0, .ref b), (1, .ref (ad 1)), (2, .ref (ad 200)), (3, .ref (ad a3)), (4, .int x4)] → W p l e R s m args below meth c H locs cells slots Q (F0 m 23 ls [])) {cells slots mc ms : Nat} {x4 : Int32} {ad : Nat → Nat} {al : Nat → Prop} {w : zW} {H : Heap} {locs : List Loc} {ls : Array Slot} (ha3 : al a3 ∧ zsh a3 = 21) (hf : fL_law_J782 L xs a3 k g23 mc ms x4 w) (hX : zExt ad0 al0 ad al) (hr : zRm R 145 (cells + mc) (slots + ms)) (hR : zSt D dA true ad0 al0 ad al w s H locs) (hl : lv_has ls 7 [(0, .ref b), (1, .ref (ad 1)), (2, .ref (ad 200)), (3, .ref (ad a3)), (4, .int x4)]) : W p l e R s m args below meth c H locs cells slots Q (F0 m 782 ls []) := by
  have hx := X.1
  have hb := X.2.1
  have hml := X.2.2.1
  have hown := X.2.2.2.1
  have hts := X.2.2.2.2.1
  unfold fL_law_J782 at hf
  refine lv_aload_n hx hb dL_law_782 rfl (lv_at hl 1 rfl) ?_
  have hw93_1 : al 1 := (zlit hR zf_1)
  have hw93_2 : al 200 := (zlit hR zf_200)
  have hw93_3 : al a3 := ha3.1
  have hv93_1 : al 1 := (zlit hR zf_1)
  obtain ⟨c93, s93, hc93, hs93, hf⟩ := hf
  refine z_callAVI (fr1 := 6) (mc := c93) (ms := s93) (b := 1) (As := []) (rest := []) X (hr.call hc93 hs93 (by decide)) hR zy_X11_fixed zq_1182 (zlit hR zf_1) (by rw [zs_1]; rfl) rfl (mX11_fixed  hf) rfl hl (Nat.le_of_ble_eq_true rfl) dL_law_783 rfl (fun r93 w93 H locs ad93 al93 hf hE93 hR => ?_)
  have hX := hX.tr hE93
  have hr := hr.after hc93 hs93
  have ha3 : al93 a3 ∧ zsh a3 = 21 := ⟨(hE93 _ ha3.1).1, ha3.2⟩
  rw [← (hE93 1 hw93_1).2] at hl
  rw [← (hE93 200 hw93_2).2] at hl
  rw [← (hE93 a3 hw93_3).2] at hl
  refine lv_aload_n hx hb dL_law_786 rfl (lv_at hl 2 rfl) ?_
  refine z_callVI (fr1 := 4) (b := 200) (As := []) (rest := [.int r93]) X (hr.none (by decide)) hR zy_X12_fixed zq_1186 (zlit hR zf_200) (by rw [zs_200]; rfl) rfl (mX12_fixed  hf) rfl hl (Nat.le_of_ble_eq_true rfl) dL_law_787 rfl (fun r94 w94 H locs hf hR => ?_)
  refine lv_icmp_eq (tgt := 1479) hx hb dL_law_790 (by decide) (fun c95 => ?_) (fun c95 => ?_)
  · replace hf := hf.1 c95
    exact mL_law_J1479 X hQ hsc hl0 hTh htw hg23 ha3 hf hX hr hR (lv_sub hl [0, 1, 2, 3, 4] rfl)
  · replace hf := hf.2 c95
    refine lv_iconst (v := (0 : Int32)) hx hb dL_law_793 (by decide) ?_
    exact hQ _ _ _ _ _ _ _ _ _ _ hX (by have := hr.2.2.1; omega) (by have := hr.2.2.2; omega) hf hR dL_law_794
def fL_law_J795 (L : Nat) (xs : Nat → Int32) (a3 : Nat) (k : Int32 → zW → Prop) (g23 : Nat → Nat → Int32 → zW → Prop) (mc ms : Nat) (x4 : Int32) (w : zW) : Prop :=
  vp_in (x4 + (1 : Int32)) L ∧ 
  vp_in (x4 + (2 : Int32)) L ∧ 
  vp_in (x4 + (3 : Int32)) L ∧ 
  ∃ c100 s100, c100 ≤ mc ∧ s100 ≤ ms ∧ fX11_with c100 s100 (xs (x4 + (1 : Int32)).toNatClampNeg) (xs (x4 + (2 : Int32)).toNatClampNeg) (xs (x4 + (3 : Int32)).toNatClampNeg) w (fun r100 w100 =>
  fX12_with (xs (x4 + (1 : Int32)).toNatClampNeg) (xs (x4 + (2 : Int32)).toNatClampNeg) (xs (x4 + (3 : Int32)).toNatClampNeg) w100 (fun r101 w101 =>
  ((r100 = r101 →
    fL_law_J1479 L xs a3 k g23 (mc - c100) (ms - s100) x4 w101) ∧
   (¬ r100 = r101 →
    k (0 : Int32) w101))))
set_option maxHeartbeats 4000000 in
set_option maxRecDepth 100000 in
theorem mL_law_J795 {k : Int32 → zW → Prop} {g23 : Nat → Nat → Int32 → zW → Prop} {a3 : Nat} (X : zCx p s m args meth c cL_law 7 RL (some .boolean)) (hQ : zRetAI p l e R s m args below meth c Q D dA true ad0 al0 cL_law k) (hsc : va_X b L xs s s.heap ∧ b < s.heap.size ∧ ¬ zA ad0 al0 s.heap.size b) (hl0 : l.stackTraces = false) (hTh : zThE (zA ad0 al0 s.heap.size) s s.heap) (htw : ∀ w ∈ zTw, w.before args s = true) (hg23 : ∀ (cells slots mc ms : Nat) (x4 : Int32) (ad : Nat → Nat) (al : Nat → Prop) (w : zW) (H : Heap) (locs : List Loc) (ls : Array Slot) (ha3 : al a3 ∧ zsh a3 = 21), g23 mc ms x4 w → zExt ad0 al0 ad al → zRm R 145 (cells + mc) (slots + ms) → zSt D dA true ad0 al0 ad al w s H locs → lv_has ls 7 [(0, .ref b), (1, .ref (ad 1)), (2, .ref (ad 200)), (3, .ref (ad a3)), (4, .int x4)] → W p l e R s m args below meth c H locs cells slots Q (F0 m 23 ls [])) {cells slots mc ms : Nat} {x4 : Int32} {ad : Nat → Nat} {al : Nat → Prop} {w : zW} {H : Heap} {locs : List Loc} {ls : Array Slot} (ha3 : al a3 ∧ zsh a3 = 21) (hf : fL_law_J795 L xs a3 k g23 mc ms x4 w) (hX : zExt ad0 al0 ad al) (hr : zRm R 145 (cells + mc) (slots + ms)) (hR : zSt D dA true ad0 al0 ad al w s H locs) (hl : lv_has ls 7 [(0, .ref b), (1, .ref (ad 1)), (2, .ref (ad 200)), (3, .ref (ad a3)), (4, .int x4)]) : W p l e R s m args below meth c H locs cells slots Q (F0 m 795 ls []) := by
  have hx := X.1
  have hb := X.2.1
  have hml := X.2.2.1
  have hown := X.2.2.2.1
  have hts := X.2.2.2.2.1
  unfold fL_law_J795 at hf
  refine lv_aload_n hx hb dL_law_795 rfl (lv_at hl 1 rfl) ?_
  refine lv_aload_n hx hb dL_law_796 rfl (lv_at hl 0 rfl) ?_
  refine lv_iload hx hb dL_law_797 (lv_at hl 4 rfl) ?_
  refine lv_iconst (v := (1 : Int32)) hx hb dL_law_799 (by decide) ?_
  refine lv_iadd hx hb dL_law_800 ?_
  obtain ⟨hb97, hf⟩ := hf
  refine va_sld hx hb hsc.1 hsc.2.1 hsc.2.2 hR.2.2.1 hb97 dL_law_801 ?_
  refine lv_aload_n hx hb dL_law_802 rfl (lv_at hl 0 rfl) ?_
  refine lv_iload hx hb dL_law_803 (lv_at hl 4 rfl) ?_
  refine lv_iconst (v := (2 : Int32)) hx hb dL_law_805 (by decide) ?_
  refine lv_iadd hx hb dL_law_806 ?_
  obtain ⟨hb98, hf⟩ := hf
  refine va_sld hx hb hsc.1 hsc.2.1 hsc.2.2 hR.2.2.1 hb98 dL_law_807 ?_
  refine lv_aload_n hx hb dL_law_808 rfl (lv_at hl 0 rfl) ?_
  refine lv_iload hx hb dL_law_809 (lv_at hl 4 rfl) ?_
  refine lv_iconst (v := (3 : Int32)) hx hb dL_law_811 (by decide) ?_
  refine lv_iadd hx hb dL_law_812 ?_
  obtain ⟨hb99, hf⟩ := hf
  refine va_sld hx hb hsc.1 hsc.2.1 hsc.2.2 hR.2.2.1 hb99 dL_law_813 ?_
  have hw100_1 : al 1 := (zlit hR zf_1)
  have hw100_2 : al 200 := (zlit hR zf_200)
  have hw100_3 : al a3 := ha3.1
  have hv100_1 : al 1 := (zlit hR zf_1)
  obtain ⟨c100, s100, hc100, hs100, hf⟩ := hf
  refine z_callAVI (fr1 := 6) (mc := c100) (ms := s100) (b := 1) (As := [.int (xs (x4 + (1 : Int32)).toNatClampNeg), .int (xs (x4 + (2 : Int32)).toNatClampNeg), .int (xs (x4 + (3 : Int32)).toNatClampNeg)]) (rest := []) X (hr.call hc100 hs100 (by decide)) hR zy_X11_with zq_1190 (zlit hR zf_1) (by rw [zs_1]; rfl) rfl (mX11_with  hf) rfl hl (Nat.le_of_ble_eq_true rfl) dL_law_814 rfl (fun r100 w100 H locs ad100 al100 hf hE100 hR => ?_)
  have hX := hX.tr hE100
  have hr := hr.after hc100 hs100
  have ha3 : al100 a3 ∧ zsh a3 = 21 := ⟨(hE100 _ ha3.1).1, ha3.2⟩
  rw [← (hE100 1 hw100_1).2] at hl
  rw [← (hE100 200 hw100_2).2] at hl
  rw [← (hE100 a3 hw100_3).2] at hl
  refine lv_aload_n hx hb dL_law_817 rfl (lv_at hl 2 rfl) ?_
  refine lv_aload_n hx hb dL_law_818 rfl (lv_at hl 0 rfl) ?_
  refine lv_iload hx hb dL_law_819 (lv_at hl 4 rfl) ?_
  refine lv_iconst (v := (1 : Int32)) hx hb dL_law_821 (by decide) ?_
  refine lv_iadd hx hb dL_law_822 ?_
  refine va_sld hx hb hsc.1 hsc.2.1 hsc.2.2 hR.2.2.1 hb97 dL_law_823 ?_
  refine lv_aload_n hx hb dL_law_824 rfl (lv_at hl 0 rfl) ?_
  refine lv_iload hx hb dL_law_825 (lv_at hl 4 rfl) ?_
  refine lv_iconst (v := (2 : Int32)) hx hb dL_law_827 (by decide) ?_
  refine lv_iadd hx hb dL_law_828 ?_
  refine va_sld hx hb hsc.1 hsc.2.1 hsc.2.2 hR.2.2.1 hb98 dL_law_829 ?_
  refine lv_aload_n hx hb dL_law_830 rfl (lv_at hl 0 rfl) ?_
  refine lv_iload hx hb dL_law_831 (lv_at hl 4 rfl) ?_
  refine lv_iconst (v := (3 : Int32)) hx hb dL_law_833 (by decide) ?_
  refine lv_iadd hx hb dL_law_834 ?_
  refine va_sld hx hb hsc.1 hsc.2.1 hsc.2.2 hR.2.2.1 hb99 dL_law_835 ?_
  refine z_callVI (fr1 := 4) (b := 200) (As := [.int (xs (x4 + (1 : Int32)).toNatClampNeg), .int (xs (x4 + (2 : Int32)).toNatClampNeg), .int (xs (x4 + (3 : Int32)).toNatClampNeg)]) (rest := [.int r100]) X (hr.none (by decide)) hR zy_X12_with zq_1198 (zlit hR zf_200) (by rw [zs_200]; rfl) rfl (mX12_with  hf) rfl hl (Nat.le_of_ble_eq_true rfl) dL_law_836 rfl (fun r101 w101 H locs hf hR => ?_)
  refine lv_icmp_eq (tgt := 1479) hx hb dL_law_839 (by decide) (fun c102 => ?_) (fun c102 => ?_)
  · replace hf := hf.1 c102
    exact mL_law_J1479 X hQ hsc hl0 hTh htw hg23 ha3 hf hX hr hR (lv_sub hl [0, 1, 2, 3, 4] rfl)
  · replace hf := hf.2 c102
    refine lv_iconst (v := (0 : Int32)) hx hb dL_law_842 (by decide) ?_
    exact hQ _ _ _ _ _ _ _ _ _ _ hX (by have := hr.2.2.1; omega) (by have := hr.2.2.2; omega) hf hR dL_law_843
def fL_law_J844 (L : Nat) (xs : Nat → Int32) (a3 : Nat) (k : Int32 → zW → Prop) (g23 : Nat → Nat → Int32 → zW → Prop) (mc ms : Nat) (x4 : Int32) (w : zW) : Prop :=
  vp_in (x4 + (1 : Int32)) L ∧ 
  ∃ c105 s105, c105 ≤ mc ∧ s105 ≤ ms ∧ fX11_least c105 s105 (xs (x4 + (1 : Int32)).toNatClampNeg) w (fun r105 w105 =>
  fX12_least (xs (x4 + (1 : Int32)).toNatClampNeg) w105 (fun r106 w106 =>
  ((r105 = r106 →
    fL_law_J1479 L xs a3 k g23 (mc - c105) (ms - s105) x4 w106) ∧
   (¬ r105 = r106 →
    k (0 : Int32) w106))))
set_option maxHeartbeats 4000000 in
set_option maxRecDepth 100000 in
theorem mL_law_J844 {k : Int32 → zW → Prop} {g23 : Nat → Nat → Int32 → zW → Prop} {a3 : Nat} (X : zCx p s m args meth c cL_law 7 RL (some .boolean)) (hQ : zRetAI p l e R s m args below meth c Q D dA true ad0 al0 cL_law k) (hsc : va_X b L xs s s.heap ∧ b < s.heap.size ∧ ¬ zA ad0 al0 s.heap.size b) (hl0 : l.stackTraces = false) (hTh : zThE (zA ad0 al0 s.heap.size) s s.heap) (htw : ∀ w ∈ zTw, w.before args s = true) (hg23 : ∀ (cells slots mc ms : Nat) (x4 : Int32) (ad : Nat → Nat) (al : Nat → Prop) (w : zW) (H : Heap) (locs : List Loc) (ls : Array Slot) (ha3 : al a3 ∧ zsh a3 = 21), g23 mc ms x4 w → zExt ad0 al0 ad al → zRm R 145 (cells + mc) (slots + ms) → zSt D dA true ad0 al0 ad al w s H locs → lv_has ls 7 [(0, .ref b), (1, .ref (ad 1)), (2, .ref (ad 200)), (3, .ref (ad a3)), (4, .int x4)] → W p l e R s m args below meth c H locs cells slots Q (F0 m 23 ls [])) {cells slots mc ms : Nat} {x4 : Int32} {ad : Nat → Nat} {al : Nat → Prop} {w : zW} {H : Heap} {locs : List Loc} {ls : Array Slot} (ha3 : al a3 ∧ zsh a3 = 21) (hf : fL_law_J844 L xs a3 k g23 mc ms x4 w) (hX : zExt ad0 al0 ad al) (hr : zRm R 145 (cells + mc) (slots + ms)) (hR : zSt D dA true ad0 al0 ad al w s H locs) (hl : lv_has ls 7 [(0, .ref b), (1, .ref (ad 1)), (2, .ref (ad 200)), (3, .ref (ad a3)), (4, .int x4)]) : W p l e R s m args below meth c H locs cells slots Q (F0 m 844 ls []) := by
  have hx := X.1
  have hb := X.2.1
  have hml := X.2.2.1
  have hown := X.2.2.2.1
  have hts := X.2.2.2.2.1
  unfold fL_law_J844 at hf
  refine lv_aload_n hx hb dL_law_844 rfl (lv_at hl 1 rfl) ?_
  refine lv_aload_n hx hb dL_law_845 rfl (lv_at hl 0 rfl) ?_
  refine lv_iload hx hb dL_law_846 (lv_at hl 4 rfl) ?_
  refine lv_iconst (v := (1 : Int32)) hx hb dL_law_848 (by decide) ?_
  refine lv_iadd hx hb dL_law_849 ?_
  obtain ⟨hb104, hf⟩ := hf
  refine va_sld hx hb hsc.1 hsc.2.1 hsc.2.2 hR.2.2.1 hb104 dL_law_850 ?_
  have hw105_1 : al 1 := (zlit hR zf_1)
  have hw105_2 : al 200 := (zlit hR zf_200)
  have hw105_3 : al a3 := ha3.1
  have hv105_1 : al 1 := (zlit hR zf_1)
  obtain ⟨c105, s105, hc105, hs105, hf⟩ := hf
  refine z_callAVI (fr1 := 6) (mc := c105) (ms := s105) (b := 1) (As := [.int (xs (x4 + (1 : Int32)).toNatClampNeg)]) (rest := []) X (hr.call hc105 hs105 (by decide)) hR zy_X11_least zq_1202 (zlit hR zf_1) (by rw [zs_1]; rfl) rfl (mX11_least  hf) rfl hl (Nat.le_of_ble_eq_true rfl) dL_law_851 rfl (fun r105 w105 H locs ad105 al105 hf hE105 hR => ?_)
  have hX := hX.tr hE105
  have hr := hr.after hc105 hs105
  have ha3 : al105 a3 ∧ zsh a3 = 21 := ⟨(hE105 _ ha3.1).1, ha3.2⟩
  rw [← (hE105 1 hw105_1).2] at hl
  rw [← (hE105 200 hw105_2).2] at hl
  rw [← (hE105 a3 hw105_3).2] at hl
  refine lv_aload_n hx hb dL_law_854 rfl (lv_at hl 2 rfl) ?_
  refine lv_aload_n hx hb dL_law_855 rfl (lv_at hl 0 rfl) ?_
  refine lv_iload hx hb dL_law_856 (lv_at hl 4 rfl) ?_
  refine lv_iconst (v := (1 : Int32)) hx hb dL_law_858 (by decide) ?_
  refine lv_iadd hx hb dL_law_859 ?_
  refine va_sld hx hb hsc.1 hsc.2.1 hsc.2.2 hR.2.2.1 hb104 dL_law_860 ?_
  refine z_callVI (fr1 := 4) (b := 200) (As := [.int (xs (x4 + (1 : Int32)).toNatClampNeg)]) (rest := [.int r105]) X (hr.none (by decide)) hR zy_X12_least zq_1216 (zlit hR zf_200) (by rw [zs_200]; rfl) rfl (mX12_least  hf) rfl hl (Nat.le_of_ble_eq_true rfl) dL_law_861 rfl (fun r106 w106 H locs hf hR => ?_)
  refine lv_icmp_eq (tgt := 1479) hx hb dL_law_864 (by decide) (fun c107 => ?_) (fun c107 => ?_)
  · replace hf := hf.1 c107
    exact mL_law_J1479 X hQ hsc hl0 hTh htw hg23 ha3 hf hX hr hR (lv_sub hl [0, 1, 2, 3, 4] rfl)
  · replace hf := hf.2 c107
    refine lv_iconst (v := (0 : Int32)) hx hb dL_law_867 (by decide) ?_
    exact hQ _ _ _ _ _ _ _ _ _ _ hX (by have := hr.2.2.1; omega) (by have := hr.2.2.2; omega) hf hR dL_law_868
def fL_law_J869 (L : Nat) (xs : Nat → Int32) (a3 : Nat) (k : Int32 → zW → Prop) (g23 : Nat → Nat → Int32 → zW → Prop) (mc ms : Nat) (x4 : Int32) (w : zW) : Prop :=
  vp_in (x4 + (1 : Int32)) L ∧ 
  ∃ c110 s110, c110 ≤ mc ∧ s110 ≤ ms ∧ fX11_most c110 s110 (xs (x4 + (1 : Int32)).toNatClampNeg) w (fun r110 w110 =>
  fX12_most (xs (x4 + (1 : Int32)).toNatClampNeg) w110 (fun r111 w111 =>
  ((r110 = r111 →
    fL_law_J1479 L xs a3 k g23 (mc - c110) (ms - s110) x4 w111) ∧
   (¬ r110 = r111 →
    k (0 : Int32) w111))))
set_option maxHeartbeats 4000000 in
set_option maxRecDepth 100000 in
theorem mL_law_J869 {k : Int32 → zW → Prop} {g23 : Nat → Nat → Int32 → zW → Prop} {a3 : Nat} (X : zCx p s m args meth c cL_law 7 RL (some .boolean)) (hQ : zRetAI p l e R s m args below meth c Q D dA true ad0 al0 cL_law k) (hsc : va_X b L xs s s.heap ∧ b < s.heap.size ∧ ¬ zA ad0 al0 s.heap.size b) (hl0 : l.stackTraces = false) (hTh : zThE (zA ad0 al0 s.heap.size) s s.heap) (htw : ∀ w ∈ zTw, w.before args s = true) (hg23 : ∀ (cells slots mc ms : Nat) (x4 : Int32) (ad : Nat → Nat) (al : Nat → Prop) (w : zW) (H : Heap) (locs : List Loc) (ls : Array Slot) (ha3 : al a3 ∧ zsh a3 = 21), g23 mc ms x4 w → zExt ad0 al0 ad al → zRm R 145 (cells + mc) (slots + ms) → zSt D dA true ad0 al0 ad al w s H locs → lv_has ls 7 [(0, .ref b), (1, .ref (ad 1)), (2, .ref (ad 200)), (3, .ref (ad a3)), (4, .int x4)] → W p l e R s m args below meth c H locs cells slots Q (F0 m 23 ls [])) {cells slots mc ms : Nat} {x4 : Int32} {ad : Nat → Nat} {al : Nat → Prop} {w : zW} {H : Heap} {locs : List Loc} {ls : Array Slot} (ha3 : al a3 ∧ zsh a3 = 21) (hf : fL_law_J869 L xs a3 k g23 mc ms x4 w) (hX : zExt ad0 al0 ad al) (hr : zRm R 145 (cells + mc) (slots + ms)) (hR : zSt D dA true ad0 al0 ad al w s H locs) (hl : lv_has ls 7 [(0, .ref b), (1, .ref (ad 1)), (2, .ref (ad 200)), (3, .ref (ad a3)), (4, .int x4)]) : W p l e R s m args below meth c H locs cells slots Q (F0 m 869 ls []) := by
  have hx := X.1
  have hb := X.2.1
  have hml := X.2.2.1
  have hown := X.2.2.2.1
  have hts := X.2.2.2.2.1
  unfold fL_law_J869 at hf
  refine lv_aload_n hx hb dL_law_869 rfl (lv_at hl 1 rfl) ?_
  refine lv_aload_n hx hb dL_law_870 rfl (lv_at hl 0 rfl) ?_
  refine lv_iload hx hb dL_law_871 (lv_at hl 4 rfl) ?_
  refine lv_iconst (v := (1 : Int32)) hx hb dL_law_873 (by decide) ?_
  refine lv_iadd hx hb dL_law_874 ?_
  obtain ⟨hb109, hf⟩ := hf
  refine va_sld hx hb hsc.1 hsc.2.1 hsc.2.2 hR.2.2.1 hb109 dL_law_875 ?_
  have hw110_1 : al 1 := (zlit hR zf_1)
  have hw110_2 : al 200 := (zlit hR zf_200)
  have hw110_3 : al a3 := ha3.1
  have hv110_1 : al 1 := (zlit hR zf_1)
  obtain ⟨c110, s110, hc110, hs110, hf⟩ := hf
  refine z_callAVI (fr1 := 6) (mc := c110) (ms := s110) (b := 1) (As := [.int (xs (x4 + (1 : Int32)).toNatClampNeg)]) (rest := []) X (hr.call hc110 hs110 (by decide)) hR zy_X11_most zq_1224 (zlit hR zf_1) (by rw [zs_1]; rfl) rfl (mX11_most  hf) rfl hl (Nat.le_of_ble_eq_true rfl) dL_law_876 rfl (fun r110 w110 H locs ad110 al110 hf hE110 hR => ?_)
  have hX := hX.tr hE110
  have hr := hr.after hc110 hs110
  have ha3 : al110 a3 ∧ zsh a3 = 21 := ⟨(hE110 _ ha3.1).1, ha3.2⟩
  rw [← (hE110 1 hw110_1).2] at hl
  rw [← (hE110 200 hw110_2).2] at hl
  rw [← (hE110 a3 hw110_3).2] at hl
  refine lv_aload_n hx hb dL_law_879 rfl (lv_at hl 2 rfl) ?_
  refine lv_aload_n hx hb dL_law_880 rfl (lv_at hl 0 rfl) ?_
  refine lv_iload hx hb dL_law_881 (lv_at hl 4 rfl) ?_
  refine lv_iconst (v := (1 : Int32)) hx hb dL_law_883 (by decide) ?_
  refine lv_iadd hx hb dL_law_884 ?_
  refine va_sld hx hb hsc.1 hsc.2.1 hsc.2.2 hR.2.2.1 hb109 dL_law_885 ?_
  refine z_callVI (fr1 := 4) (b := 200) (As := [.int (xs (x4 + (1 : Int32)).toNatClampNeg)]) (rest := [.int r110]) X (hr.none (by decide)) hR zy_X12_most zq_1229 (zlit hR zf_200) (by rw [zs_200]; rfl) rfl (mX12_most  hf) rfl hl (Nat.le_of_ble_eq_true rfl) dL_law_886 rfl (fun r111 w111 H locs hf hR => ?_)
  refine lv_icmp_eq (tgt := 1479) hx hb dL_law_889 (by decide) (fun c112 => ?_) (fun c112 => ?_)
  · replace hf := hf.1 c112
    exact mL_law_J1479 X hQ hsc hl0 hTh htw hg23 ha3 hf hX hr hR (lv_sub hl [0, 1, 2, 3, 4] rfl)
  · replace hf := hf.2 c112
    refine lv_iconst (v := (0 : Int32)) hx hb dL_law_892 (by decide) ?_
    exact hQ _ _ _ _ _ _ _ _ _ _ hX (by have := hr.2.2.1; omega) (by have := hr.2.2.2; omega) hf hR dL_law_893
def fL_law_J894 (L : Nat) (xs : Nat → Int32) (a3 : Nat) (k : Int32 → zW → Prop) (g23 : Nat → Nat → Int32 → zW → Prop) (mc ms : Nat) (x4 : Int32) (w : zW) : Prop :=
  vp_in (x4 + (1 : Int32)) L ∧ 
  ∃ c115 s115, c115 ≤ mc ∧ s115 ≤ ms ∧ fX11_kinds c115 s115 (xs (x4 + (1 : Int32)).toNatClampNeg) w (fun r115 w115 =>
  fX12_kinds (xs (x4 + (1 : Int32)).toNatClampNeg) w115 (fun r116 w116 =>
  ((r115 = r116 →
    fL_law_J1479 L xs a3 k g23 (mc - c115) (ms - s115) x4 w116) ∧
   (¬ r115 = r116 →
    k (0 : Int32) w116))))
set_option maxHeartbeats 4000000 in
set_option maxRecDepth 100000 in
theorem mL_law_J894 {k : Int32 → zW → Prop} {g23 : Nat → Nat → Int32 → zW → Prop} {a3 : Nat} (X : zCx p s m args meth c cL_law 7 RL (some .boolean)) (hQ : zRetAI p l e R s m args below meth c Q D dA true ad0 al0 cL_law k) (hsc : va_X b L xs s s.heap ∧ b < s.heap.size ∧ ¬ zA ad0 al0 s.heap.size b) (hl0 : l.stackTraces = false) (hTh : zThE (zA ad0 al0 s.heap.size) s s.heap) (htw : ∀ w ∈ zTw, w.before args s = true) (hg23 : ∀ (cells slots mc ms : Nat) (x4 : Int32) (ad : Nat → Nat) (al : Nat → Prop) (w : zW) (H : Heap) (locs : List Loc) (ls : Array Slot) (ha3 : al a3 ∧ zsh a3 = 21), g23 mc ms x4 w → zExt ad0 al0 ad al → zRm R 145 (cells + mc) (slots + ms) → zSt D dA true ad0 al0 ad al w s H locs → lv_has ls 7 [(0, .ref b), (1, .ref (ad 1)), (2, .ref (ad 200)), (3, .ref (ad a3)), (4, .int x4)] → W p l e R s m args below meth c H locs cells slots Q (F0 m 23 ls [])) {cells slots mc ms : Nat} {x4 : Int32} {ad : Nat → Nat} {al : Nat → Prop} {w : zW} {H : Heap} {locs : List Loc} {ls : Array Slot} (ha3 : al a3 ∧ zsh a3 = 21) (hf : fL_law_J894 L xs a3 k g23 mc ms x4 w) (hX : zExt ad0 al0 ad al) (hr : zRm R 145 (cells + mc) (slots + ms)) (hR : zSt D dA true ad0 al0 ad al w s H locs) (hl : lv_has ls 7 [(0, .ref b), (1, .ref (ad 1)), (2, .ref (ad 200)), (3, .ref (ad a3)), (4, .int x4)]) : W p l e R s m args below meth c H locs cells slots Q (F0 m 894 ls []) := by
  have hx := X.1
  have hb := X.2.1
  have hml := X.2.2.1
  have hown := X.2.2.2.1
  have hts := X.2.2.2.2.1
  unfold fL_law_J894 at hf
  refine lv_aload_n hx hb dL_law_894 rfl (lv_at hl 1 rfl) ?_
  refine lv_aload_n hx hb dL_law_895 rfl (lv_at hl 0 rfl) ?_
  refine lv_iload hx hb dL_law_896 (lv_at hl 4 rfl) ?_
  refine lv_iconst (v := (1 : Int32)) hx hb dL_law_898 (by decide) ?_
  refine lv_iadd hx hb dL_law_899 ?_
  obtain ⟨hb114, hf⟩ := hf
  refine va_sld hx hb hsc.1 hsc.2.1 hsc.2.2 hR.2.2.1 hb114 dL_law_900 ?_
  have hw115_1 : al 1 := (zlit hR zf_1)
  have hw115_2 : al 200 := (zlit hR zf_200)
  have hw115_3 : al a3 := ha3.1
  have hv115_1 : al 1 := (zlit hR zf_1)
  obtain ⟨c115, s115, hc115, hs115, hf⟩ := hf
  refine z_callAVI (fr1 := 6) (mc := c115) (ms := s115) (b := 1) (As := [.int (xs (x4 + (1 : Int32)).toNatClampNeg)]) (rest := []) X (hr.call hc115 hs115 (by decide)) hR zy_X11_kinds zq_1237 (zlit hR zf_1) (by rw [zs_1]; rfl) rfl (mX11_kinds  hf) rfl hl (Nat.le_of_ble_eq_true rfl) dL_law_901 rfl (fun r115 w115 H locs ad115 al115 hf hE115 hR => ?_)
  have hX := hX.tr hE115
  have hr := hr.after hc115 hs115
  have ha3 : al115 a3 ∧ zsh a3 = 21 := ⟨(hE115 _ ha3.1).1, ha3.2⟩
  rw [← (hE115 1 hw115_1).2] at hl
  rw [← (hE115 200 hw115_2).2] at hl
  rw [← (hE115 a3 hw115_3).2] at hl
  refine lv_aload_n hx hb dL_law_904 rfl (lv_at hl 2 rfl) ?_
  refine lv_aload_n hx hb dL_law_905 rfl (lv_at hl 0 rfl) ?_
  refine lv_iload hx hb dL_law_906 (lv_at hl 4 rfl) ?_
  refine lv_iconst (v := (1 : Int32)) hx hb dL_law_908 (by decide) ?_
  refine lv_iadd hx hb dL_law_909 ?_
  refine va_sld hx hb hsc.1 hsc.2.1 hsc.2.2 hR.2.2.1 hb114 dL_law_910 ?_
  refine z_callVI (fr1 := 4) (b := 200) (As := [.int (xs (x4 + (1 : Int32)).toNatClampNeg)]) (rest := [.int r115]) X (hr.none (by decide)) hR zy_X12_kinds zq_1245 (zlit hR zf_200) (by rw [zs_200]; rfl) rfl (mX12_kinds  hf) rfl hl (Nat.le_of_ble_eq_true rfl) dL_law_911 rfl (fun r116 w116 H locs hf hR => ?_)
  refine lv_icmp_eq (tgt := 1479) hx hb dL_law_914 (by decide) (fun c117 => ?_) (fun c117 => ?_)
  · replace hf := hf.1 c117
    exact mL_law_J1479 X hQ hsc hl0 hTh htw hg23 ha3 hf hX hr hR (lv_sub hl [0, 1, 2, 3, 4] rfl)
  · replace hf := hf.2 c117
    refine lv_iconst (v := (0 : Int32)) hx hb dL_law_917 (by decide) ?_
    exact hQ _ _ _ _ _ _ _ _ _ _ hX (by have := hr.2.2.1; omega) (by have := hr.2.2.2; omega) hf hR dL_law_918
def fL_law_J919 (L : Nat) (xs : Nat → Int32) (a3 : Nat) (k : Int32 → zW → Prop) (g23 : Nat → Nat → Int32 → zW → Prop) (mc ms : Nat) (x4 : Int32) (w : zW) : Prop :=
  ∃ c119 s119, c119 ≤ mc ∧ s119 ≤ ms ∧ fX11_open c119 s119  w (fun r119 w119 =>
  fX12_open  w119 (fun r120 w120 =>
  ((r119 = r120 →
    fL_law_J1479 L xs a3 k g23 (mc - c119) (ms - s119) x4 w120) ∧
   (¬ r119 = r120 →
    k (0 : Int32) w120))))
set_option maxHeartbeats 4000000 in
set_option maxRecDepth 100000 in
theorem mL_law_J919 {k : Int32 → zW → Prop} {g23 : Nat → Nat → Int32 → zW → Prop} {a3 : Nat} (X : zCx p s m args meth c cL_law 7 RL (some .boolean)) (hQ : zRetAI p l e R s m args below meth c Q D dA true ad0 al0 cL_law k) (hsc : va_X b L xs s s.heap ∧ b < s.heap.size ∧ ¬ zA ad0 al0 s.heap.size b) (hl0 : l.stackTraces = false) (hTh : zThE (zA ad0 al0 s.heap.size) s s.heap) (htw : ∀ w ∈ zTw, w.before args s = true) (hg23 : ∀ (cells slots mc ms : Nat) (x4 : Int32) (ad : Nat → Nat) (al : Nat → Prop) (w : zW) (H : Heap) (locs : List Loc) (ls : Array Slot) (ha3 : al a3 ∧ zsh a3 = 21), g23 mc ms x4 w → zExt ad0 al0 ad al → zRm R 145 (cells + mc) (slots + ms) → zSt D dA true ad0 al0 ad al w s H locs → lv_has ls 7 [(0, .ref b), (1, .ref (ad 1)), (2, .ref (ad 200)), (3, .ref (ad a3)), (4, .int x4)] → W p l e R s m args below meth c H locs cells slots Q (F0 m 23 ls [])) {cells slots mc ms : Nat} {x4 : Int32} {ad : Nat → Nat} {al : Nat → Prop} {w : zW} {H : Heap} {locs : List Loc} {ls : Array Slot} (ha3 : al a3 ∧ zsh a3 = 21) (hf : fL_law_J919 L xs a3 k g23 mc ms x4 w) (hX : zExt ad0 al0 ad al) (hr : zRm R 145 (cells + mc) (slots + ms)) (hR : zSt D dA true ad0 al0 ad al w s H locs) (hl : lv_has ls 7 [(0, .ref b), (1, .ref (ad 1)), (2, .ref (ad 200)), (3, .ref (ad a3)), (4, .int x4)]) : W p l e R s m args below meth c H locs cells slots Q (F0 m 919 ls []) := by
  have hx := X.1
  have hb := X.2.1
  have hml := X.2.2.1
  have hown := X.2.2.2.1
  have hts := X.2.2.2.2.1
  unfold fL_law_J919 at hf
  refine lv_aload_n hx hb dL_law_919 rfl (lv_at hl 1 rfl) ?_
  have hw119_1 : al 1 := (zlit hR zf_1)
  have hw119_2 : al 200 := (zlit hR zf_200)
  have hw119_3 : al a3 := ha3.1
  have hv119_1 : al 1 := (zlit hR zf_1)
  obtain ⟨c119, s119, hc119, hs119, hf⟩ := hf
  refine z_callAVI (fr1 := 6) (mc := c119) (ms := s119) (b := 1) (As := []) (rest := []) X (hr.call hc119 hs119 (by decide)) hR zy_X11_open zq_1253 (zlit hR zf_1) (by rw [zs_1]; rfl) rfl (mX11_open  hf) rfl hl (Nat.le_of_ble_eq_true rfl) dL_law_920 rfl (fun r119 w119 H locs ad119 al119 hf hE119 hR => ?_)
  have hX := hX.tr hE119
  have hr := hr.after hc119 hs119
  have ha3 : al119 a3 ∧ zsh a3 = 21 := ⟨(hE119 _ ha3.1).1, ha3.2⟩
  rw [← (hE119 1 hw119_1).2] at hl
  rw [← (hE119 200 hw119_2).2] at hl
  rw [← (hE119 a3 hw119_3).2] at hl
  refine lv_aload_n hx hb dL_law_923 rfl (lv_at hl 2 rfl) ?_
  refine z_callVI (fr1 := 4) (b := 200) (As := []) (rest := [.int r119]) X (hr.none (by decide)) hR zy_X12_open zq_1257 (zlit hR zf_200) (by rw [zs_200]; rfl) rfl (mX12_open  hf) rfl hl (Nat.le_of_ble_eq_true rfl) dL_law_924 rfl (fun r120 w120 H locs hf hR => ?_)
  refine lv_icmp_eq (tgt := 1479) hx hb dL_law_927 (by decide) (fun c121 => ?_) (fun c121 => ?_)
  · replace hf := hf.1 c121
    exact mL_law_J1479 X hQ hsc hl0 hTh htw hg23 ha3 hf hX hr hR (lv_sub hl [0, 1, 2, 3, 4] rfl)
  · replace hf := hf.2 c121
    refine lv_iconst (v := (0 : Int32)) hx hb dL_law_930 (by decide) ?_
    exact hQ _ _ _ _ _ _ _ _ _ _ hX (by have := hr.2.2.1; omega) (by have := hr.2.2.2; omega) hf hR dL_law_931
def fL_law_J932 (L : Nat) (xs : Nat → Int32) (a3 : Nat) (k : Int32 → zW → Prop) (g23 : Nat → Nat → Int32 → zW → Prop) (mc ms : Nat) (x4 : Int32) (w : zW) : Prop :=
  vp_in (x4 + (1 : Int32)) L ∧ 
  vp_in (x4 + (2 : Int32)) L ∧ 
  ∃ c125 s125, c125 ≤ mc ∧ s125 ≤ ms ∧ fX11_has c125 s125 (xs (x4 + (1 : Int32)).toNatClampNeg) (xs (x4 + (2 : Int32)).toNatClampNeg) w (fun r125 w125 =>
  fX12_has (xs (x4 + (1 : Int32)).toNatClampNeg) (xs (x4 + (2 : Int32)).toNatClampNeg) w125 (fun r126 w126 =>
  ((r125 = r126 →
    fL_law_J1479 L xs a3 k g23 (mc - c125) (ms - s125) x4 w126) ∧
   (¬ r125 = r126 →
    k (0 : Int32) w126))))
set_option maxHeartbeats 4000000 in
set_option maxRecDepth 100000 in
theorem mL_law_J932 {k : Int32 → zW → Prop} {g23 : Nat → Nat → Int32 → zW → Prop} {a3 : Nat} (X : zCx p s m args meth c cL_law 7 RL (some .boolean)) (hQ : zRetAI p l e R s m args below meth c Q D dA true ad0 al0 cL_law k) (hsc : va_X b L xs s s.heap ∧ b < s.heap.size ∧ ¬ zA ad0 al0 s.heap.size b) (hl0 : l.stackTraces = false) (hTh : zThE (zA ad0 al0 s.heap.size) s s.heap) (htw : ∀ w ∈ zTw, w.before args s = true) (hg23 : ∀ (cells slots mc ms : Nat) (x4 : Int32) (ad : Nat → Nat) (al : Nat → Prop) (w : zW) (H : Heap) (locs : List Loc) (ls : Array Slot) (ha3 : al a3 ∧ zsh a3 = 21), g23 mc ms x4 w → zExt ad0 al0 ad al → zRm R 145 (cells + mc) (slots + ms) → zSt D dA true ad0 al0 ad al w s H locs → lv_has ls 7 [(0, .ref b), (1, .ref (ad 1)), (2, .ref (ad 200)), (3, .ref (ad a3)), (4, .int x4)] → W p l e R s m args below meth c H locs cells slots Q (F0 m 23 ls [])) {cells slots mc ms : Nat} {x4 : Int32} {ad : Nat → Nat} {al : Nat → Prop} {w : zW} {H : Heap} {locs : List Loc} {ls : Array Slot} (ha3 : al a3 ∧ zsh a3 = 21) (hf : fL_law_J932 L xs a3 k g23 mc ms x4 w) (hX : zExt ad0 al0 ad al) (hr : zRm R 145 (cells + mc) (slots + ms)) (hR : zSt D dA true ad0 al0 ad al w s H locs) (hl : lv_has ls 7 [(0, .ref b), (1, .ref (ad 1)), (2, .ref (ad 200)), (3, .ref (ad a3)), (4, .int x4)]) : W p l e R s m args below meth c H locs cells slots Q (F0 m 932 ls []) := by
  have hx := X.1
  have hb := X.2.1
  have hml := X.2.2.1
  have hown := X.2.2.2.1
  have hts := X.2.2.2.2.1
  unfold fL_law_J932 at hf
  refine lv_aload_n hx hb dL_law_932 rfl (lv_at hl 1 rfl) ?_
  refine lv_aload_n hx hb dL_law_933 rfl (lv_at hl 0 rfl) ?_
  refine lv_iload hx hb dL_law_934 (lv_at hl 4 rfl) ?_
  refine lv_iconst (v := (1 : Int32)) hx hb dL_law_936 (by decide) ?_
  refine lv_iadd hx hb dL_law_937 ?_
  obtain ⟨hb123, hf⟩ := hf
  refine va_sld hx hb hsc.1 hsc.2.1 hsc.2.2 hR.2.2.1 hb123 dL_law_938 ?_
  refine lv_aload_n hx hb dL_law_939 rfl (lv_at hl 0 rfl) ?_
  refine lv_iload hx hb dL_law_940 (lv_at hl 4 rfl) ?_
  refine lv_iconst (v := (2 : Int32)) hx hb dL_law_942 (by decide) ?_
  refine lv_iadd hx hb dL_law_943 ?_
  obtain ⟨hb124, hf⟩ := hf
  refine va_sld hx hb hsc.1 hsc.2.1 hsc.2.2 hR.2.2.1 hb124 dL_law_944 ?_
  have hw125_1 : al 1 := (zlit hR zf_1)
  have hw125_2 : al 200 := (zlit hR zf_200)
  have hw125_3 : al a3 := ha3.1
  have hv125_1 : al 1 := (zlit hR zf_1)
  obtain ⟨c125, s125, hc125, hs125, hf⟩ := hf
  refine z_callAVI (fr1 := 6) (mc := c125) (ms := s125) (b := 1) (As := [.int (xs (x4 + (1 : Int32)).toNatClampNeg), .int (xs (x4 + (2 : Int32)).toNatClampNeg)]) (rest := []) X (hr.call hc125 hs125 (by decide)) hR zy_X11_has zq_1261 (zlit hR zf_1) (by rw [zs_1]; rfl) rfl (mX11_has  hf) rfl hl (Nat.le_of_ble_eq_true rfl) dL_law_945 rfl (fun r125 w125 H locs ad125 al125 hf hE125 hR => ?_)
  have hX := hX.tr hE125
  have hr := hr.after hc125 hs125
  have ha3 : al125 a3 ∧ zsh a3 = 21 := ⟨(hE125 _ ha3.1).1, ha3.2⟩
  rw [← (hE125 1 hw125_1).2] at hl
  rw [← (hE125 200 hw125_2).2] at hl
  rw [← (hE125 a3 hw125_3).2] at hl
  refine lv_aload_n hx hb dL_law_948 rfl (lv_at hl 2 rfl) ?_
  refine lv_aload_n hx hb dL_law_949 rfl (lv_at hl 0 rfl) ?_
  refine lv_iload hx hb dL_law_950 (lv_at hl 4 rfl) ?_
  refine lv_iconst (v := (1 : Int32)) hx hb dL_law_952 (by decide) ?_
  refine lv_iadd hx hb dL_law_953 ?_
  refine va_sld hx hb hsc.1 hsc.2.1 hsc.2.2 hR.2.2.1 hb123 dL_law_954 ?_
  refine lv_aload_n hx hb dL_law_955 rfl (lv_at hl 0 rfl) ?_
  refine lv_iload hx hb dL_law_956 (lv_at hl 4 rfl) ?_
  refine lv_iconst (v := (2 : Int32)) hx hb dL_law_958 (by decide) ?_
  refine lv_iadd hx hb dL_law_959 ?_
  refine va_sld hx hb hsc.1 hsc.2.1 hsc.2.2 hR.2.2.1 hb124 dL_law_960 ?_
  refine z_callVI (fr1 := 4) (b := 200) (As := [.int (xs (x4 + (1 : Int32)).toNatClampNeg), .int (xs (x4 + (2 : Int32)).toNatClampNeg)]) (rest := [.int r125]) X (hr.none (by decide)) hR zy_X12_has zq_1265 (zlit hR zf_200) (by rw [zs_200]; rfl) rfl (mX12_has  hf) rfl hl (Nat.le_of_ble_eq_true rfl) dL_law_961 rfl (fun r126 w126 H locs hf hR => ?_)
  refine lv_icmp_eq (tgt := 1479) hx hb dL_law_964 (by decide) (fun c127 => ?_) (fun c127 => ?_)
  · replace hf := hf.1 c127
    exact mL_law_J1479 X hQ hsc hl0 hTh htw hg23 ha3 hf hX hr hR (lv_sub hl [0, 1, 2, 3, 4] rfl)
  · replace hf := hf.2 c127
    refine lv_iconst (v := (0 : Int32)) hx hb dL_law_967 (by decide) ?_
    exact hQ _ _ _ _ _ _ _ _ _ _ hX (by have := hr.2.2.1; omega) (by have := hr.2.2.2; omega) hf hR dL_law_968
def fL_law_J969 (L : Nat) (xs : Nat → Int32) (a3 : Nat) (k : Int32 → zW → Prop) (g23 : Nat → Nat → Int32 → zW → Prop) (mc ms : Nat) (x4 : Int32) (w : zW) : Prop :=
  ∃ c129 s129, c129 ≤ mc ∧ s129 ≤ ms ∧ fX11_ask c129 s129  w (fun r129 w129 =>
  fX12_ask  w129 (fun r130 w130 =>
  ((r129 = r130 →
    fL_law_J1479 L xs a3 k g23 (mc - c129) (ms - s129) x4 w130) ∧
   (¬ r129 = r130 →
    k (0 : Int32) w130))))
set_option maxHeartbeats 4000000 in
set_option maxRecDepth 100000 in
theorem mL_law_J969 {k : Int32 → zW → Prop} {g23 : Nat → Nat → Int32 → zW → Prop} {a3 : Nat} (X : zCx p s m args meth c cL_law 7 RL (some .boolean)) (hQ : zRetAI p l e R s m args below meth c Q D dA true ad0 al0 cL_law k) (hsc : va_X b L xs s s.heap ∧ b < s.heap.size ∧ ¬ zA ad0 al0 s.heap.size b) (hl0 : l.stackTraces = false) (hTh : zThE (zA ad0 al0 s.heap.size) s s.heap) (htw : ∀ w ∈ zTw, w.before args s = true) (hg23 : ∀ (cells slots mc ms : Nat) (x4 : Int32) (ad : Nat → Nat) (al : Nat → Prop) (w : zW) (H : Heap) (locs : List Loc) (ls : Array Slot) (ha3 : al a3 ∧ zsh a3 = 21), g23 mc ms x4 w → zExt ad0 al0 ad al → zRm R 145 (cells + mc) (slots + ms) → zSt D dA true ad0 al0 ad al w s H locs → lv_has ls 7 [(0, .ref b), (1, .ref (ad 1)), (2, .ref (ad 200)), (3, .ref (ad a3)), (4, .int x4)] → W p l e R s m args below meth c H locs cells slots Q (F0 m 23 ls [])) {cells slots mc ms : Nat} {x4 : Int32} {ad : Nat → Nat} {al : Nat → Prop} {w : zW} {H : Heap} {locs : List Loc} {ls : Array Slot} (ha3 : al a3 ∧ zsh a3 = 21) (hf : fL_law_J969 L xs a3 k g23 mc ms x4 w) (hX : zExt ad0 al0 ad al) (hr : zRm R 145 (cells + mc) (slots + ms)) (hR : zSt D dA true ad0 al0 ad al w s H locs) (hl : lv_has ls 7 [(0, .ref b), (1, .ref (ad 1)), (2, .ref (ad 200)), (3, .ref (ad a3)), (4, .int x4)]) : W p l e R s m args below meth c H locs cells slots Q (F0 m 969 ls []) := by
  have hx := X.1
  have hb := X.2.1
  have hml := X.2.2.1
  have hown := X.2.2.2.1
  have hts := X.2.2.2.2.1
  unfold fL_law_J969 at hf
  refine lv_aload_n hx hb dL_law_969 rfl (lv_at hl 1 rfl) ?_
  have hw129_1 : al 1 := (zlit hR zf_1)
  have hw129_2 : al 200 := (zlit hR zf_200)
  have hw129_3 : al a3 := ha3.1
  have hv129_1 : al 1 := (zlit hR zf_1)
  obtain ⟨c129, s129, hc129, hs129, hf⟩ := hf
  refine z_callAVI (fr1 := 6) (mc := c129) (ms := s129) (b := 1) (As := []) (rest := []) X (hr.call hc129 hs129 (by decide)) hR zy_X11_ask zq_1269 (zlit hR zf_1) (by rw [zs_1]; rfl) rfl (mX11_ask  hf) rfl hl (Nat.le_of_ble_eq_true rfl) dL_law_970 rfl (fun r129 w129 H locs ad129 al129 hf hE129 hR => ?_)
  have hX := hX.tr hE129
  have hr := hr.after hc129 hs129
  have ha3 : al129 a3 ∧ zsh a3 = 21 := ⟨(hE129 _ ha3.1).1, ha3.2⟩
  rw [← (hE129 1 hw129_1).2] at hl
  rw [← (hE129 200 hw129_2).2] at hl
  rw [← (hE129 a3 hw129_3).2] at hl
  refine lv_aload_n hx hb dL_law_973 rfl (lv_at hl 2 rfl) ?_
  refine z_callVI (fr1 := 4) (b := 200) (As := []) (rest := [.int r129]) X (hr.none (by decide)) hR zy_X12_ask zq_1278 (zlit hR zf_200) (by rw [zs_200]; rfl) rfl (mX12_ask  hf) rfl hl (Nat.le_of_ble_eq_true rfl) dL_law_974 rfl (fun r130 w130 H locs hf hR => ?_)
  refine lv_icmp_eq (tgt := 1479) hx hb dL_law_977 (by decide) (fun c131 => ?_) (fun c131 => ?_)
  · replace hf := hf.1 c131
    exact mL_law_J1479 X hQ hsc hl0 hTh htw hg23 ha3 hf hX hr hR (lv_sub hl [0, 1, 2, 3, 4] rfl)
  · replace hf := hf.2 c131
    refine lv_iconst (v := (0 : Int32)) hx hb dL_law_980 (by decide) ?_
    exact hQ _ _ _ _ _ _ _ _ _ _ hX (by have := hr.2.2.1; omega) (by have := hr.2.2.2; omega) hf hR dL_law_981
def fL_law_J982 (L : Nat) (xs : Nat → Int32) (a3 : Nat) (k : Int32 → zW → Prop) (g23 : Nat → Nat → Int32 → zW → Prop) (mc ms : Nat) (x4 : Int32) (w : zW) : Prop :=
  ∃ c133 s133, c133 ≤ mc ∧ s133 ≤ ms ∧ fX11_learn c133 s133  w (fun r133 w133 =>
  fX12_learn  w133 (fun r134 w134 =>
  ((r133 = r134 →
    fL_law_J1479 L xs a3 k g23 (mc - c133) (ms - s133) x4 w134) ∧
   (¬ r133 = r134 →
    k (0 : Int32) w134))))
set_option maxHeartbeats 4000000 in
set_option maxRecDepth 100000 in
theorem mL_law_J982 {k : Int32 → zW → Prop} {g23 : Nat → Nat → Int32 → zW → Prop} {a3 : Nat} (X : zCx p s m args meth c cL_law 7 RL (some .boolean)) (hQ : zRetAI p l e R s m args below meth c Q D dA true ad0 al0 cL_law k) (hsc : va_X b L xs s s.heap ∧ b < s.heap.size ∧ ¬ zA ad0 al0 s.heap.size b) (hl0 : l.stackTraces = false) (hTh : zThE (zA ad0 al0 s.heap.size) s s.heap) (htw : ∀ w ∈ zTw, w.before args s = true) (hg23 : ∀ (cells slots mc ms : Nat) (x4 : Int32) (ad : Nat → Nat) (al : Nat → Prop) (w : zW) (H : Heap) (locs : List Loc) (ls : Array Slot) (ha3 : al a3 ∧ zsh a3 = 21), g23 mc ms x4 w → zExt ad0 al0 ad al → zRm R 145 (cells + mc) (slots + ms) → zSt D dA true ad0 al0 ad al w s H locs → lv_has ls 7 [(0, .ref b), (1, .ref (ad 1)), (2, .ref (ad 200)), (3, .ref (ad a3)), (4, .int x4)] → W p l e R s m args below meth c H locs cells slots Q (F0 m 23 ls [])) {cells slots mc ms : Nat} {x4 : Int32} {ad : Nat → Nat} {al : Nat → Prop} {w : zW} {H : Heap} {locs : List Loc} {ls : Array Slot} (ha3 : al a3 ∧ zsh a3 = 21) (hf : fL_law_J982 L xs a3 k g23 mc ms x4 w) (hX : zExt ad0 al0 ad al) (hr : zRm R 145 (cells + mc) (slots + ms)) (hR : zSt D dA true ad0 al0 ad al w s H locs) (hl : lv_has ls 7 [(0, .ref b), (1, .ref (ad 1)), (2, .ref (ad 200)), (3, .ref (ad a3)), (4, .int x4)]) : W p l e R s m args below meth c H locs cells slots Q (F0 m 982 ls []) := by
  have hx := X.1
  have hb := X.2.1
  have hml := X.2.2.1
  have hown := X.2.2.2.1
  have hts := X.2.2.2.2.1
  unfold fL_law_J982 at hf
  refine lv_aload_n hx hb dL_law_982 rfl (lv_at hl 1 rfl) ?_
  have hw133_1 : al 1 := (zlit hR zf_1)
  have hw133_2 : al 200 := (zlit hR zf_200)
  have hw133_3 : al a3 := ha3.1
  have hv133_1 : al 1 := (zlit hR zf_1)
  obtain ⟨c133, s133, hc133, hs133, hf⟩ := hf
  refine z_callAVI (fr1 := 6) (mc := c133) (ms := s133) (b := 1) (As := []) (rest := []) X (hr.call hc133 hs133 (by decide)) hR zy_X11_learn zq_1282 (zlit hR zf_1) (by rw [zs_1]; rfl) rfl (mX11_learn  hf) rfl hl (Nat.le_of_ble_eq_true rfl) dL_law_983 rfl (fun r133 w133 H locs ad133 al133 hf hE133 hR => ?_)
  have hX := hX.tr hE133
  have hr := hr.after hc133 hs133
  have ha3 : al133 a3 ∧ zsh a3 = 21 := ⟨(hE133 _ ha3.1).1, ha3.2⟩
  rw [← (hE133 1 hw133_1).2] at hl
  rw [← (hE133 200 hw133_2).2] at hl
  rw [← (hE133 a3 hw133_3).2] at hl
  refine lv_aload_n hx hb dL_law_986 rfl (lv_at hl 2 rfl) ?_
  refine z_callVI (fr1 := 4) (b := 200) (As := []) (rest := [.int r133]) X (hr.none (by decide)) hR zy_X12_learn zq_1286 (zlit hR zf_200) (by rw [zs_200]; rfl) rfl (mX12_learn  hf) rfl hl (Nat.le_of_ble_eq_true rfl) dL_law_987 rfl (fun r134 w134 H locs hf hR => ?_)
  refine lv_icmp_eq (tgt := 1479) hx hb dL_law_990 (by decide) (fun c135 => ?_) (fun c135 => ?_)
  · replace hf := hf.1 c135
    exact mL_law_J1479 X hQ hsc hl0 hTh htw hg23 ha3 hf hX hr hR (lv_sub hl [0, 1, 2, 3, 4] rfl)
  · replace hf := hf.2 c135
    refine lv_iconst (v := (0 : Int32)) hx hb dL_law_993 (by decide) ?_
    exact hQ _ _ _ _ _ _ _ _ _ _ hX (by have := hr.2.2.1; omega) (by have := hr.2.2.2; omega) hf hR dL_law_994
def fL_law_J995 (L : Nat) (xs : Nat → Int32) (a3 : Nat) (k : Int32 → zW → Prop) (g23 : Nat → Nat → Int32 → zW → Prop) (mc ms : Nat) (x4 : Int32) (w : zW) : Prop :=
  fX11_bad  w (fun r137 w137 =>
  fX12_bad  w137 (fun r138 w138 =>
  ((r137 = r138 →
    fL_law_J1479 L xs a3 k g23 mc ms x4 w138) ∧
   (¬ r137 = r138 →
    k (0 : Int32) w138))))
set_option maxHeartbeats 4000000 in
set_option maxRecDepth 100000 in
theorem mL_law_J995 {k : Int32 → zW → Prop} {g23 : Nat → Nat → Int32 → zW → Prop} {a3 : Nat} (X : zCx p s m args meth c cL_law 7 RL (some .boolean)) (hQ : zRetAI p l e R s m args below meth c Q D dA true ad0 al0 cL_law k) (hsc : va_X b L xs s s.heap ∧ b < s.heap.size ∧ ¬ zA ad0 al0 s.heap.size b) (hl0 : l.stackTraces = false) (hTh : zThE (zA ad0 al0 s.heap.size) s s.heap) (htw : ∀ w ∈ zTw, w.before args s = true) (hg23 : ∀ (cells slots mc ms : Nat) (x4 : Int32) (ad : Nat → Nat) (al : Nat → Prop) (w : zW) (H : Heap) (locs : List Loc) (ls : Array Slot) (ha3 : al a3 ∧ zsh a3 = 21), g23 mc ms x4 w → zExt ad0 al0 ad al → zRm R 145 (cells + mc) (slots + ms) → zSt D dA true ad0 al0 ad al w s H locs → lv_has ls 7 [(0, .ref b), (1, .ref (ad 1)), (2, .ref (ad 200)), (3, .ref (ad a3)), (4, .int x4)] → W p l e R s m args below meth c H locs cells slots Q (F0 m 23 ls [])) {cells slots mc ms : Nat} {x4 : Int32} {ad : Nat → Nat} {al : Nat → Prop} {w : zW} {H : Heap} {locs : List Loc} {ls : Array Slot} (ha3 : al a3 ∧ zsh a3 = 21) (hf : fL_law_J995 L xs a3 k g23 mc ms x4 w) (hX : zExt ad0 al0 ad al) (hr : zRm R 145 (cells + mc) (slots + ms)) (hR : zSt D dA true ad0 al0 ad al w s H locs) (hl : lv_has ls 7 [(0, .ref b), (1, .ref (ad 1)), (2, .ref (ad 200)), (3, .ref (ad a3)), (4, .int x4)]) : W p l e R s m args below meth c H locs cells slots Q (F0 m 995 ls []) := by
  have hx := X.1
  have hb := X.2.1
  have hml := X.2.2.1
  have hown := X.2.2.2.1
  have hts := X.2.2.2.2.1
  unfold fL_law_J995 at hf
  refine lv_aload_n hx hb dL_law_995 rfl (lv_at hl 1 rfl) ?_
  refine z_callVI (fr1 := 3) (b := 1) (As := []) (rest := []) X (hr.none (by decide)) hR zy_X11_bad zq_1290 (zlit hR zf_1) (by rw [zs_1]; rfl) rfl (mX11_bad  hf) rfl hl (Nat.le_of_ble_eq_true rfl) dL_law_996 rfl (fun r137 w137 H locs hf hR => ?_)
  refine lv_aload_n hx hb dL_law_999 rfl (lv_at hl 2 rfl) ?_
  refine z_callVI (fr1 := 3) (b := 200) (As := []) (rest := [.int r137]) X (hr.none (by decide)) hR zy_X12_bad zq_1313 (zlit hR zf_200) (by rw [zs_200]; rfl) rfl (mX12_bad  hf) rfl hl (Nat.le_of_ble_eq_true rfl) dL_law_1000 rfl (fun r138 w138 H locs hf hR => ?_)
  refine lv_icmp_eq (tgt := 1479) hx hb dL_law_1003 (by decide) (fun c139 => ?_) (fun c139 => ?_)
  · replace hf := hf.1 c139
    exact mL_law_J1479 X hQ hsc hl0 hTh htw hg23 ha3 hf hX hr hR (lv_sub hl [0, 1, 2, 3, 4] rfl)
  · replace hf := hf.2 c139
    refine lv_iconst (v := (0 : Int32)) hx hb dL_law_1006 (by decide) ?_
    exact hQ _ _ _ _ _ _ _ _ _ _ hX (by have := hr.2.2.1; omega) (by have := hr.2.2.2; omega) hf hR dL_law_1007
def fL_law_J1008 (L : Nat) (xs : Nat → Int32) (a3 : Nat) (k : Int32 → zW → Prop) (g23 : Nat → Nat → Int32 → zW → Prop) (mc ms : Nat) (x4 : Int32) (w : zW) : Prop :=
  fX11_off  w (fun r141 w141 =>
  fX12_off  w141 (fun r142 w142 =>
  ((r141 = r142 →
    fL_law_J1479 L xs a3 k g23 mc ms x4 w142) ∧
   (¬ r141 = r142 →
    k (0 : Int32) w142))))
set_option maxHeartbeats 4000000 in
set_option maxRecDepth 100000 in
theorem mL_law_J1008 {k : Int32 → zW → Prop} {g23 : Nat → Nat → Int32 → zW → Prop} {a3 : Nat} (X : zCx p s m args meth c cL_law 7 RL (some .boolean)) (hQ : zRetAI p l e R s m args below meth c Q D dA true ad0 al0 cL_law k) (hsc : va_X b L xs s s.heap ∧ b < s.heap.size ∧ ¬ zA ad0 al0 s.heap.size b) (hl0 : l.stackTraces = false) (hTh : zThE (zA ad0 al0 s.heap.size) s s.heap) (htw : ∀ w ∈ zTw, w.before args s = true) (hg23 : ∀ (cells slots mc ms : Nat) (x4 : Int32) (ad : Nat → Nat) (al : Nat → Prop) (w : zW) (H : Heap) (locs : List Loc) (ls : Array Slot) (ha3 : al a3 ∧ zsh a3 = 21), g23 mc ms x4 w → zExt ad0 al0 ad al → zRm R 145 (cells + mc) (slots + ms) → zSt D dA true ad0 al0 ad al w s H locs → lv_has ls 7 [(0, .ref b), (1, .ref (ad 1)), (2, .ref (ad 200)), (3, .ref (ad a3)), (4, .int x4)] → W p l e R s m args below meth c H locs cells slots Q (F0 m 23 ls [])) {cells slots mc ms : Nat} {x4 : Int32} {ad : Nat → Nat} {al : Nat → Prop} {w : zW} {H : Heap} {locs : List Loc} {ls : Array Slot} (ha3 : al a3 ∧ zsh a3 = 21) (hf : fL_law_J1008 L xs a3 k g23 mc ms x4 w) (hX : zExt ad0 al0 ad al) (hr : zRm R 145 (cells + mc) (slots + ms)) (hR : zSt D dA true ad0 al0 ad al w s H locs) (hl : lv_has ls 7 [(0, .ref b), (1, .ref (ad 1)), (2, .ref (ad 200)), (3, .ref (ad a3)), (4, .int x4)]) : W p l e R s m args below meth c H locs cells slots Q (F0 m 1008 ls []) := by
  have hx := X.1
  have hb := X.2.1
  have hml := X.2.2.1
  have hown := X.2.2.2.1
  have hts := X.2.2.2.2.1
  unfold fL_law_J1008 at hf
  refine lv_aload_n hx hb dL_law_1008 rfl (lv_at hl 1 rfl) ?_
  refine z_callVI (fr1 := 4) (b := 1) (As := []) (rest := []) X (hr.none (by decide)) hR zy_X11_off zq_1325 (zlit hR zf_1) (by rw [zs_1]; rfl) rfl (mX11_off  hf) rfl hl (Nat.le_of_ble_eq_true rfl) dL_law_1009 rfl (fun r141 w141 H locs hf hR => ?_)
  refine lv_aload_n hx hb dL_law_1012 rfl (lv_at hl 2 rfl) ?_
  refine z_callVI (fr1 := 3) (b := 200) (As := []) (rest := [.int r141]) X (hr.none (by decide)) hR zy_X12_off zq_1330 (zlit hR zf_200) (by rw [zs_200]; rfl) rfl (mX12_off  hf) rfl hl (Nat.le_of_ble_eq_true rfl) dL_law_1013 rfl (fun r142 w142 H locs hf hR => ?_)
  refine lv_icmp_eq (tgt := 1479) hx hb dL_law_1016 (by decide) (fun c143 => ?_) (fun c143 => ?_)
  · replace hf := hf.1 c143
    exact mL_law_J1479 X hQ hsc hl0 hTh htw hg23 ha3 hf hX hr hR (lv_sub hl [0, 1, 2, 3, 4] rfl)
  · replace hf := hf.2 c143
    refine lv_iconst (v := (0 : Int32)) hx hb dL_law_1019 (by decide) ?_
    exact hQ _ _ _ _ _ _ _ _ _ _ hX (by have := hr.2.2.1; omega) (by have := hr.2.2.2; omega) hf hR dL_law_1020
def fL_law_J1021 (L : Nat) (xs : Nat → Int32) (a3 : Nat) (k : Int32 → zW → Prop) (g23 : Nat → Nat → Int32 → zW → Prop) (mc ms : Nat) (x4 : Int32) (w : zW) : Prop :=
  vp_in (x4 + (1 : Int32)) L ∧ 
  fX11_behind (xs (x4 + (1 : Int32)).toNatClampNeg) w (fun r146 w146 =>
  fX12_behind (xs (x4 + (1 : Int32)).toNatClampNeg) w146 (fun r147 w147 =>
  ((r146 = r147 →
    fL_law_J1479 L xs a3 k g23 mc ms x4 w147) ∧
   (¬ r146 = r147 →
    k (0 : Int32) w147))))
set_option maxHeartbeats 4000000 in
set_option maxRecDepth 100000 in
theorem mL_law_J1021 {k : Int32 → zW → Prop} {g23 : Nat → Nat → Int32 → zW → Prop} {a3 : Nat} (X : zCx p s m args meth c cL_law 7 RL (some .boolean)) (hQ : zRetAI p l e R s m args below meth c Q D dA true ad0 al0 cL_law k) (hsc : va_X b L xs s s.heap ∧ b < s.heap.size ∧ ¬ zA ad0 al0 s.heap.size b) (hl0 : l.stackTraces = false) (hTh : zThE (zA ad0 al0 s.heap.size) s s.heap) (htw : ∀ w ∈ zTw, w.before args s = true) (hg23 : ∀ (cells slots mc ms : Nat) (x4 : Int32) (ad : Nat → Nat) (al : Nat → Prop) (w : zW) (H : Heap) (locs : List Loc) (ls : Array Slot) (ha3 : al a3 ∧ zsh a3 = 21), g23 mc ms x4 w → zExt ad0 al0 ad al → zRm R 145 (cells + mc) (slots + ms) → zSt D dA true ad0 al0 ad al w s H locs → lv_has ls 7 [(0, .ref b), (1, .ref (ad 1)), (2, .ref (ad 200)), (3, .ref (ad a3)), (4, .int x4)] → W p l e R s m args below meth c H locs cells slots Q (F0 m 23 ls [])) {cells slots mc ms : Nat} {x4 : Int32} {ad : Nat → Nat} {al : Nat → Prop} {w : zW} {H : Heap} {locs : List Loc} {ls : Array Slot} (ha3 : al a3 ∧ zsh a3 = 21) (hf : fL_law_J1021 L xs a3 k g23 mc ms x4 w) (hX : zExt ad0 al0 ad al) (hr : zRm R 145 (cells + mc) (slots + ms)) (hR : zSt D dA true ad0 al0 ad al w s H locs) (hl : lv_has ls 7 [(0, .ref b), (1, .ref (ad 1)), (2, .ref (ad 200)), (3, .ref (ad a3)), (4, .int x4)]) : W p l e R s m args below meth c H locs cells slots Q (F0 m 1021 ls []) := by
  have hx := X.1
  have hb := X.2.1
  have hml := X.2.2.1
  have hown := X.2.2.2.1
  have hts := X.2.2.2.2.1
  unfold fL_law_J1021 at hf
  refine lv_aload_n hx hb dL_law_1021 rfl (lv_at hl 1 rfl) ?_
  refine lv_aload_n hx hb dL_law_1022 rfl (lv_at hl 0 rfl) ?_
  refine lv_iload hx hb dL_law_1023 (lv_at hl 4 rfl) ?_
  refine lv_iconst (v := (1 : Int32)) hx hb dL_law_1025 (by decide) ?_
  refine lv_iadd hx hb dL_law_1026 ?_
  obtain ⟨hb145, hf⟩ := hf
  refine va_sld hx hb hsc.1 hsc.2.1 hsc.2.2 hR.2.2.1 hb145 dL_law_1027 ?_
  refine z_callVI (fr1 := 3) (b := 1) (As := [.int (xs (x4 + (1 : Int32)).toNatClampNeg)]) (rest := []) X (hr.none (by decide)) hR zy_X11_behind zq_1334 (zlit hR zf_1) (by rw [zs_1]; rfl) rfl (mX11_behind  hf) rfl hl (Nat.le_of_ble_eq_true rfl) dL_law_1028 rfl (fun r146 w146 H locs hf hR => ?_)
  refine lv_aload_n hx hb dL_law_1031 rfl (lv_at hl 2 rfl) ?_
  refine lv_aload_n hx hb dL_law_1032 rfl (lv_at hl 0 rfl) ?_
  refine lv_iload hx hb dL_law_1033 (lv_at hl 4 rfl) ?_
  refine lv_iconst (v := (1 : Int32)) hx hb dL_law_1035 (by decide) ?_
  refine lv_iadd hx hb dL_law_1036 ?_
  refine va_sld hx hb hsc.1 hsc.2.1 hsc.2.2 hR.2.2.1 hb145 dL_law_1037 ?_
  refine z_callVI (fr1 := 3) (b := 200) (As := [.int (xs (x4 + (1 : Int32)).toNatClampNeg)]) (rest := [.int r146]) X (hr.none (by decide)) hR zy_X12_behind zq_1338 (zlit hR zf_200) (by rw [zs_200]; rfl) rfl (mX12_behind  hf) rfl hl (Nat.le_of_ble_eq_true rfl) dL_law_1038 rfl (fun r147 w147 H locs hf hR => ?_)
  refine lv_icmp_eq (tgt := 1479) hx hb dL_law_1041 (by decide) (fun c148 => ?_) (fun c148 => ?_)
  · replace hf := hf.1 c148
    exact mL_law_J1479 X hQ hsc hl0 hTh htw hg23 ha3 hf hX hr hR (lv_sub hl [0, 1, 2, 3, 4] rfl)
  · replace hf := hf.2 c148
    refine lv_iconst (v := (0 : Int32)) hx hb dL_law_1044 (by decide) ?_
    exact hQ _ _ _ _ _ _ _ _ _ _ hX (by have := hr.2.2.1; omega) (by have := hr.2.2.2; omega) hf hR dL_law_1045
def fL_law_J1046 (L : Nat) (xs : Nat → Int32) (a3 : Nat) (k : Int32 → zW → Prop) (g23 : Nat → Nat → Int32 → zW → Prop) (mc ms : Nat) (x4 : Int32) (w : zW) : Prop :=
  ∃ c150 s150, c150 ≤ mc ∧ s150 ≤ ms ∧ fX11_twins c150 s150  w (fun r150 w150 =>
  fX12_twins  w150 (fun r151 w151 =>
  ((r150 = r151 →
    fL_law_J1479 L xs a3 k g23 (mc - c150) (ms - s150) x4 w151) ∧
   (¬ r150 = r151 →
    k (0 : Int32) w151))))
set_option maxHeartbeats 4000000 in
set_option maxRecDepth 100000 in
theorem mL_law_J1046 {k : Int32 → zW → Prop} {g23 : Nat → Nat → Int32 → zW → Prop} {a3 : Nat} (X : zCx p s m args meth c cL_law 7 RL (some .boolean)) (hQ : zRetAI p l e R s m args below meth c Q D dA true ad0 al0 cL_law k) (hsc : va_X b L xs s s.heap ∧ b < s.heap.size ∧ ¬ zA ad0 al0 s.heap.size b) (hl0 : l.stackTraces = false) (hTh : zThE (zA ad0 al0 s.heap.size) s s.heap) (htw : ∀ w ∈ zTw, w.before args s = true) (hg23 : ∀ (cells slots mc ms : Nat) (x4 : Int32) (ad : Nat → Nat) (al : Nat → Prop) (w : zW) (H : Heap) (locs : List Loc) (ls : Array Slot) (ha3 : al a3 ∧ zsh a3 = 21), g23 mc ms x4 w → zExt ad0 al0 ad al → zRm R 145 (cells + mc) (slots + ms) → zSt D dA true ad0 al0 ad al w s H locs → lv_has ls 7 [(0, .ref b), (1, .ref (ad 1)), (2, .ref (ad 200)), (3, .ref (ad a3)), (4, .int x4)] → W p l e R s m args below meth c H locs cells slots Q (F0 m 23 ls [])) {cells slots mc ms : Nat} {x4 : Int32} {ad : Nat → Nat} {al : Nat → Prop} {w : zW} {H : Heap} {locs : List Loc} {ls : Array Slot} (ha3 : al a3 ∧ zsh a3 = 21) (hf : fL_law_J1046 L xs a3 k g23 mc ms x4 w) (hX : zExt ad0 al0 ad al) (hr : zRm R 145 (cells + mc) (slots + ms)) (hR : zSt D dA true ad0 al0 ad al w s H locs) (hl : lv_has ls 7 [(0, .ref b), (1, .ref (ad 1)), (2, .ref (ad 200)), (3, .ref (ad a3)), (4, .int x4)]) : W p l e R s m args below meth c H locs cells slots Q (F0 m 1046 ls []) := by
  have hx := X.1
  have hb := X.2.1
  have hml := X.2.2.1
  have hown := X.2.2.2.1
  have hts := X.2.2.2.2.1
  unfold fL_law_J1046 at hf
  refine lv_aload_n hx hb dL_law_1046 rfl (lv_at hl 1 rfl) ?_
  have hw150_1 : al 1 := (zlit hR zf_1)
  have hw150_2 : al 200 := (zlit hR zf_200)
  have hw150_3 : al a3 := ha3.1
  have hv150_1 : al 1 := (zlit hR zf_1)
  obtain ⟨c150, s150, hc150, hs150, hf⟩ := hf
  refine z_callAVI (fr1 := 5) (mc := c150) (ms := s150) (b := 1) (As := []) (rest := []) X (hr.call hc150 hs150 (by decide)) hR zy_X11_twins zq_1342 (zlit hR zf_1) (by rw [zs_1]; rfl) rfl (mX11_twins  hf) rfl hl (Nat.le_of_ble_eq_true rfl) dL_law_1047 rfl (fun r150 w150 H locs ad150 al150 hf hE150 hR => ?_)
  have hX := hX.tr hE150
  have hr := hr.after hc150 hs150
  have ha3 : al150 a3 ∧ zsh a3 = 21 := ⟨(hE150 _ ha3.1).1, ha3.2⟩
  rw [← (hE150 1 hw150_1).2] at hl
  rw [← (hE150 200 hw150_2).2] at hl
  rw [← (hE150 a3 hw150_3).2] at hl
  refine lv_aload_n hx hb dL_law_1050 rfl (lv_at hl 2 rfl) ?_
  refine z_callVI (fr1 := 4) (b := 200) (As := []) (rest := [.int r150]) X (hr.none (by decide)) hR zy_X12_twins zq_1350 (zlit hR zf_200) (by rw [zs_200]; rfl) rfl (mX12_twins  hf) rfl hl (Nat.le_of_ble_eq_true rfl) dL_law_1051 rfl (fun r151 w151 H locs hf hR => ?_)
  refine lv_icmp_eq (tgt := 1479) hx hb dL_law_1054 (by decide) (fun c152 => ?_) (fun c152 => ?_)
  · replace hf := hf.1 c152
    exact mL_law_J1479 X hQ hsc hl0 hTh htw hg23 ha3 hf hX hr hR (lv_sub hl [0, 1, 2, 3, 4] rfl)
  · replace hf := hf.2 c152
    refine lv_iconst (v := (0 : Int32)) hx hb dL_law_1057 (by decide) ?_
    exact hQ _ _ _ _ _ _ _ _ _ _ hX (by have := hr.2.2.1; omega) (by have := hr.2.2.2; omega) hf hR dL_law_1058
def fL_law_J1059 (L : Nat) (xs : Nat → Int32) (a3 : Nat) (k : Int32 → zW → Prop) (g23 : Nat → Nat → Int32 → zW → Prop) (mc ms : Nat) (x4 : Int32) (w : zW) : Prop :=
  fX11_idle  w (fun r154 w154 =>
  fX12_idle  w154 (fun r155 w155 =>
  ((r154 = r155 →
    fL_law_J1479 L xs a3 k g23 mc ms x4 w155) ∧
   (¬ r154 = r155 →
    k (0 : Int32) w155))))
set_option maxHeartbeats 4000000 in
set_option maxRecDepth 100000 in
theorem mL_law_J1059 {k : Int32 → zW → Prop} {g23 : Nat → Nat → Int32 → zW → Prop} {a3 : Nat} (X : zCx p s m args meth c cL_law 7 RL (some .boolean)) (hQ : zRetAI p l e R s m args below meth c Q D dA true ad0 al0 cL_law k) (hsc : va_X b L xs s s.heap ∧ b < s.heap.size ∧ ¬ zA ad0 al0 s.heap.size b) (hl0 : l.stackTraces = false) (hTh : zThE (zA ad0 al0 s.heap.size) s s.heap) (htw : ∀ w ∈ zTw, w.before args s = true) (hg23 : ∀ (cells slots mc ms : Nat) (x4 : Int32) (ad : Nat → Nat) (al : Nat → Prop) (w : zW) (H : Heap) (locs : List Loc) (ls : Array Slot) (ha3 : al a3 ∧ zsh a3 = 21), g23 mc ms x4 w → zExt ad0 al0 ad al → zRm R 145 (cells + mc) (slots + ms) → zSt D dA true ad0 al0 ad al w s H locs → lv_has ls 7 [(0, .ref b), (1, .ref (ad 1)), (2, .ref (ad 200)), (3, .ref (ad a3)), (4, .int x4)] → W p l e R s m args below meth c H locs cells slots Q (F0 m 23 ls [])) {cells slots mc ms : Nat} {x4 : Int32} {ad : Nat → Nat} {al : Nat → Prop} {w : zW} {H : Heap} {locs : List Loc} {ls : Array Slot} (ha3 : al a3 ∧ zsh a3 = 21) (hf : fL_law_J1059 L xs a3 k g23 mc ms x4 w) (hX : zExt ad0 al0 ad al) (hr : zRm R 145 (cells + mc) (slots + ms)) (hR : zSt D dA true ad0 al0 ad al w s H locs) (hl : lv_has ls 7 [(0, .ref b), (1, .ref (ad 1)), (2, .ref (ad 200)), (3, .ref (ad a3)), (4, .int x4)]) : W p l e R s m args below meth c H locs cells slots Q (F0 m 1059 ls []) := by
  have hx := X.1
  have hb := X.2.1
  have hml := X.2.2.1
  have hown := X.2.2.2.1
  have hts := X.2.2.2.2.1
  unfold fL_law_J1059 at hf
  refine lv_aload_n hx hb dL_law_1059 rfl (lv_at hl 1 rfl) ?_
  refine z_callVI (fr1 := 0) (b := 1) (As := []) (rest := []) X (hr.none (by decide)) hR zy_X11_idle zq_1354 (zlit hR zf_1) (by rw [zs_1]; rfl) rfl (mX11_idle  hf) rfl hl (Nat.le_of_ble_eq_true rfl) dL_law_1060 rfl (fun r154 w154 H locs hf hR => ?_)
  refine lv_aload_n hx hb dL_law_1063 rfl (lv_at hl 2 rfl) ?_
  refine z_callVI (fr1 := 2) (b := 200) (As := []) (rest := [.int r154]) X (hr.none (by decide)) hR zy_X12_idle zq_1358 (zlit hR zf_200) (by rw [zs_200]; rfl) rfl (mX12_idle  hf) rfl hl (Nat.le_of_ble_eq_true rfl) dL_law_1064 rfl (fun r155 w155 H locs hf hR => ?_)
  refine lv_icmp_eq (tgt := 1479) hx hb dL_law_1067 (by decide) (fun c156 => ?_) (fun c156 => ?_)
  · replace hf := hf.1 c156
    exact mL_law_J1479 X hQ hsc hl0 hTh htw hg23 ha3 hf hX hr hR (lv_sub hl [0, 1, 2, 3, 4] rfl)
  · replace hf := hf.2 c156
    refine lv_iconst (v := (0 : Int32)) hx hb dL_law_1070 (by decide) ?_
    exact hQ _ _ _ _ _ _ _ _ _ _ hX (by have := hr.2.2.1; omega) (by have := hr.2.2.2; omega) hf hR dL_law_1071
end ZM
