set_option maxRecDepth 20000 in
theorem lf_X1_9 : Cond.fieldLink RX1 9 "SlotFile$Page" "kind" "I" ∈ wsG := wsG_of 77 rfl rfl
set_option maxRecDepth 20000 in
theorem lf_X3_95 : Cond.fieldLinkNest RX3 95 "SlotFile$Page" "kind" "I" "SlotFile" ∈ nestL := List.mem_of_getElem? (i := 1) rfl
set_option maxRecDepth 20000 in
theorem lf_X2_106 : Cond.fieldLinkNest RX2 106 "SlotFile$Page" "kind" "I" "SlotFile" ∈ nestL := List.mem_of_getElem? (i := 2) rfl
set_option maxRecDepth 20000 in
theorem lf_X1_15 : Cond.fieldLink RX1 15 "SlotFile$Page" "slots" "I" ∈ wsG := wsG_of 80 rfl rfl
set_option maxRecDepth 20000 in
theorem lf_X3_100 : Cond.fieldLinkNest RX3 100 "SlotFile$Page" "slots" "I" "SlotFile" ∈ nestL := List.mem_of_getElem? (i := 3) rfl
set_option maxRecDepth 20000 in
theorem lf_X1_18 : Cond.fieldLink RX1 18 "SlotFile$Page" "cells" "I" ∈ wsG := wsG_of 82 rfl rfl
set_option maxRecDepth 20000 in
theorem lf_X3_103 : Cond.fieldLinkNest RX3 103 "SlotFile$Page" "cells" "I" "SlotFile" ∈ nestL := List.mem_of_getElem? (i := 4) rfl
set_option maxRecDepth 20000 in
theorem lf_X2_130 : Cond.fieldLinkNest RX2 130 "SlotFile$Page" "cells" "I" "SlotFile" ∈ nestL := List.mem_of_getElem? (i := 5) rfl
set_option maxRecDepth 20000 in
theorem lf_X1_21 : Cond.fieldLink RX1 21 "SlotFile$Page" "stubs" "I" ∈ wsG := wsG_of 85 rfl rfl
set_option maxRecDepth 20000 in
theorem lf_X3_113 : Cond.fieldLinkNest RX3 113 "SlotFile$Page" "stubs" "I" "SlotFile" ∈ nestL := List.mem_of_getElem? (i := 6) rfl
set_option maxRecDepth 20000 in
theorem lf_X2_133 : Cond.fieldLinkNest RX2 133 "SlotFile$Page" "stubs" "I" "SlotFile" ∈ nestL := List.mem_of_getElem? (i := 7) rfl
set_option maxRecDepth 20000 in
theorem lf_X1_24 : Cond.fieldLink RX1 24 "SlotFile$Page" "used" "I" ∈ wsG := wsG_of 88 rfl rfl
set_option maxRecDepth 20000 in
theorem lf_X1_27 : Cond.fieldLink RX1 27 "SlotFile$Page" "end" "I" ∈ wsG := wsG_of 89 rfl rfl
set_option maxRecDepth 20000 in
theorem lf_X3_110 : Cond.fieldLinkNest RX3 110 "SlotFile$Page" "end" "I" "SlotFile" ∈ nestL := List.mem_of_getElem? (i := 8) rfl
set_option maxRecDepth 20000 in
theorem lf_X1_30 : Cond.fieldLink RX1 30 "SlotFile$Page" "chainNext" "I" ∈ wsG := wsG_of 91 rfl rfl
set_option maxRecDepth 20000 in
theorem lf_X3_116 : Cond.fieldLinkNest RX3 116 "SlotFile$Page" "chainNext" "I" "SlotFile" ∈ nestL := List.mem_of_getElem? (i := 9) rfl
set_option maxRecDepth 20000 in
theorem lf_X2_124 : Cond.fieldLinkNest RX2 124 "SlotFile$Page" "chainNext" "I" "SlotFile" ∈ nestL := List.mem_of_getElem? (i := 10) rfl
set_option maxRecDepth 20000 in
theorem lf_X1_33 : Cond.fieldLink RX1 33 "SlotFile$Page" "chainBytes" "I" ∈ wsG := wsG_of 94 rfl rfl
set_option maxRecDepth 20000 in
theorem lf_X3_119 : Cond.fieldLinkNest RX3 119 "SlotFile$Page" "chainBytes" "I" "SlotFile" ∈ nestL := List.mem_of_getElem? (i := 11) rfl
set_option maxRecDepth 20000 in
theorem lf_X1_36 : Cond.fieldLink RX1 36 "SlotFile$Page" "compactings" "I" ∈ wsG := wsG_of 96 rfl rfl
set_option maxRecDepth 20000 in
theorem lf_X2_136 : Cond.fieldLinkNest RX2 136 "SlotFile$Page" "compactings" "I" "SlotFile" ∈ nestL := List.mem_of_getElem? (i := 12) rfl
set_option maxRecDepth 20000 in
theorem lf_X1_39 : Cond.fieldLink RX1 39 "SlotFile$Page" "kinds" "[I" ∈ wsG := wsG_of 98 rfl rfl
set_option maxRecDepth 20000 in
theorem lf_X2_30 : Cond.fieldLinkNest RX2 30 "SlotFile$Page" "kinds" "[I" "SlotFile" ∈ nestL := List.mem_of_getElem? (i := 13) rfl
set_option maxRecDepth 20000 in
theorem lf_X3_126 : Cond.fieldLinkNest RX3 126 "SlotFile$Page" "kinds" "[I" "SlotFile" ∈ nestL := List.mem_of_getElem? (i := 14) rfl
set_option maxRecDepth 20000 in
theorem lf_X1_43 : Cond.fieldLink RX1 43 "SlotFile$Page" "lengths" "[I" ∈ wsG := wsG_of 101 rfl rfl
set_option maxRecDepth 20000 in
theorem lf_X2_40 : Cond.fieldLinkNest RX2 40 "SlotFile$Page" "lengths" "[I" "SlotFile" ∈ nestL := List.mem_of_getElem? (i := 15) rfl
set_option maxRecDepth 20000 in
theorem lf_X1_46 : Cond.fieldLink RX1 46 "SlotFile$Page" "seeds" "[I" ∈ wsG := wsG_of 103 rfl rfl
set_option maxRecDepth 20000 in
theorem lf_X2_43 : Cond.fieldLinkNest RX2 43 "SlotFile$Page" "seeds" "[I" "SlotFile" ∈ nestL := List.mem_of_getElem? (i := 16) rfl
set_option maxRecDepth 20000 in
theorem lf_X1_49 : Cond.fieldLink RX1 49 "SlotFile$Page" "links" "[I" ∈ wsG := wsG_of 105 rfl rfl
set_option maxRecDepth 20000 in
theorem lf_X2_34 : Cond.fieldLinkNest RX2 34 "SlotFile$Page" "links" "[I" "SlotFile" ∈ nestL := List.mem_of_getElem? (i := 17) rfl
set_option maxRecDepth 20000 in
theorem lf_X2_11 : Cond.fieldLink RX2 11 "SlotFile$Store" "pages" "[LSlotFile$Page;" ∈ wsG := wsG_of 135 rfl rfl
set_option maxRecDepth 20000 in
theorem lf_X3_91 : Cond.fieldLinkNest RX3 91 "SlotFile$Store" "pages" "[LSlotFile$Page;" "SlotFile" ∈ nestL := List.mem_of_getElem? (i := 18) rfl
set_option maxRecDepth 20000 in
theorem lf_X0_9 : Cond.fieldLink RX0 9 "SlotFile$Log" "records" "[I" ∈ wsG := wsG_of 146 rfl rfl
set_option maxRecDepth 20000 in
theorem lf_X0_15 : Cond.fieldLink RX0 15 "SlotFile$Log" "lengths" "[I" ∈ wsG := wsG_of 147 rfl rfl
set_option maxRecDepth 20000 in
theorem lf_X0_18 : Cond.fieldLink RX0 18 "SlotFile$Log" "seeds" "[I" ∈ wsG := wsG_of 148 rfl rfl
set_option maxRecDepth 20000 in
theorem lf_X0_21 : Cond.fieldLink RX0 21 "SlotFile$Log" "size" "I" ∈ wsG := wsG_of 149 rfl rfl
set_option maxRecDepth 20000 in
theorem lf_X3_130 : Cond.fieldLinkNest RX3 130 "SlotFile$Log" "size" "I" "SlotFile" ∈ nestL := List.mem_of_getElem? (i := 20) rfl
set_option maxRecDepth 20000 in
theorem lf_X3_12 : Cond.fieldLink RX3 12 "SlotFile" "live" "LSlotFile$Store;" ∈ wsG := wsG_of 160 rfl rfl
set_option maxRecDepth 20000 in
theorem lf_X3_16 : Cond.fieldLink RX3 16 "SlotFile" "synced" "LSlotFile$Store;" ∈ wsG := wsG_of 161 rfl rfl
set_option maxRecDepth 20000 in
theorem lf_X3_22 : Cond.fieldLink RX3 22 "SlotFile" "log" "LSlotFile$Log;" ∈ wsG := wsG_of 162 rfl rfl
set_option maxRecDepth 20000 in
theorem lf_X3_26 : Cond.fieldLink RX3 26 "SlotFile" "crashes" "I" ∈ wsG := wsG_of 163 rfl rfl
set_option maxRecDepth 20000 in
theorem lm_L_65 : LkV RL 65 yX3_length cX3_length 2 (some .int) 1 := ⟨⟨(wsG_of 173 rfl rfl), (wsG_of 174 rfl rfl), (wsG_of 175 rfl rfl), (wsG_of 44 rfl rfl), (wsG_of 176 rfl rfl)⟩, ⟨by decide +kernel, by decide +kernel, by decide +kernel⟩⟩
set_option maxRecDepth 20000 in
theorem lm_X3_57 : LkV RX3 57 yX2_hasRecord cX2_hasRecord 2 (some .boolean) 1 := ⟨⟨(wsG_of 177 rfl rfl), (wsG_of 178 rfl rfl), (wsG_of 179 rfl rfl), (wsG_of 45 rfl rfl), (wsG_of 180 rfl rfl)⟩, ⟨by decide +kernel, by decide +kernel, by decide +kernel⟩⟩
set_option maxRecDepth 20000 in
theorem lm_X2_22 : LkV RX2 22 yX1_hasHome cX1_hasHome 2 (some .boolean) 1 := ⟨⟨(wsG_of 181 rfl rfl), (wsG_of 182 rfl rfl), (wsG_of 183 rfl rfl), (wsG_of 46 rfl rfl), (wsG_of 184 rfl rfl)⟩, ⟨by decide +kernel, by decide +kernel, by decide +kernel⟩⟩
set_option maxRecDepth 20000 in
theorem lm_X3_50 : LkV RX3 50 yX2_lengthOf cX2_lengthOf 3 (some .int) 1 := ⟨⟨(wsG_of 185 rfl rfl), (wsG_of 186 rfl rfl), (wsG_of 187 rfl rfl), (wsG_of 45 rfl rfl), (wsG_of 188 rfl rfl)⟩, ⟨by decide +kernel, by decide +kernel, by decide +kernel⟩⟩
set_option maxRecDepth 20000 in
theorem lm_X2_37 : LkV RX2 37 yX2_valueCell cX2_valueCell 4 (some .int) 1 := ⟨⟨(wsG_of 189 rfl rfl), (wsG_of 190 rfl rfl), (wsG_of 191 rfl rfl), (wsG_of 45 rfl rfl), (wsG_of 192 rfl rfl)⟩, ⟨by decide +kernel, by decide +kernel, by decide +kernel⟩⟩
set_option maxRecDepth 20000 in
theorem lm_L_75 : LkV RL 75 yX3_next cX3_next 2 (some .int) 1 := ⟨⟨(wsG_of 193 rfl rfl), (wsG_of 194 rfl rfl), (wsG_of 195 rfl rfl), (wsG_of 44 rfl rfl), (wsG_of 196 rfl rfl)⟩, ⟨by decide +kernel, by decide +kernel, by decide +kernel⟩⟩
set_option maxRecDepth 20000 in
theorem lm_X3_85 : LkV RX3 85 yX2_firstRecordFrom cX2_firstRecordFrom 5 (some .int) 1 := ⟨⟨(wsG_of 200 rfl rfl), (wsG_of 201 rfl rfl), (wsG_of 202 rfl rfl), (wsG_of 45 rfl rfl), (wsG_of 203 rfl rfl)⟩, ⟨by decide +kernel, by decide +kernel, by decide +kernel⟩⟩
set_option maxRecDepth 20000 in
theorem lm_X2_26 : LkV RX2 26 yX1_firstHomeFrom cX1_firstHomeFrom 3 (some .int) 1 := ⟨⟨(wsG_of 204 rfl rfl), (wsG_of 205 rfl rfl), (wsG_of 206 rfl rfl), (wsG_of 46 rfl rfl), (wsG_of 207 rfl rfl)⟩, ⟨by decide +kernel, by decide +kernel, by decide +kernel⟩⟩
set_option maxRecDepth 20000 in
theorem lm_X1_66 : LkV RX1 66 yX1_hasHome cX1_hasHome 2 (some .boolean) 1 := ⟨⟨(wsG_of 208 rfl rfl), (wsG_of 182 rfl rfl), (wsG_of 183 rfl rfl), (wsG_of 46 rfl rfl), (wsG_of 184 rfl rfl)⟩, ⟨by decide +kernel, by decide +kernel, by decide +kernel⟩⟩
set_option maxRecDepth 20000 in
theorem lm_L_85 : LkV RL 85 yX3_sync cX3_sync 2 (some .int) 0 := ⟨⟨(wsG_of 209 rfl rfl), (wsG_of 210 rfl rfl), (wsG_of 211 rfl rfl), (wsG_of 44 rfl rfl), (wsG_of 212 rfl rfl)⟩, ⟨by decide +kernel, by decide +kernel, by decide +kernel⟩⟩
set_option maxRecDepth 20000 in
theorem lm_X3_133 : LkV RX3 133 yX3_settle cX3_settle 1 none 0 := ⟨⟨(wsG_of 213 rfl rfl), (wsG_of 215 rfl rfl), (wsG_of 0 rfl rfl), (wsG_of 44 rfl rfl), (wsG_of 216 rfl rfl)⟩, ⟨by decide +kernel, by decide +kernel, by decide +kernel⟩⟩
set_option maxRecDepth 20000 in
theorem lm_X3_142 : LkV RX3 142 yX2_copyFrom cX2_copyFrom 3 none 1 := ⟨⟨(wsG_of 217 rfl rfl), (wsG_of 218 rfl rfl), (wsG_of 219 rfl rfl), (wsG_of 45 rfl rfl), (wsG_of 220 rfl rfl)⟩, ⟨by decide +kernel, by decide +kernel, by decide +kernel⟩⟩
set_option maxRecDepth 20000 in
theorem lm_X2_18 : LkV RX2 18 yX1_copyFrom cX1_copyFrom 2 none 1 := ⟨⟨(wsG_of 221 rfl rfl), (wsG_of 222 rfl rfl), (wsG_of 223 rfl rfl), (wsG_of 46 rfl rfl), (wsG_of 224 rfl rfl)⟩, ⟨by decide +kernel, by decide +kernel, by decide +kernel⟩⟩
set_option maxRecDepth 20000 in
theorem lm_L_7 : LkV RL 7 yX3_insert cX3_insert 4 (some .int) 2 := ⟨⟨(wsG_of 232 rfl rfl), (wsG_of 233 rfl rfl), (wsG_of 234 rfl rfl), (wsG_of 44 rfl rfl), (wsG_of 235 rfl rfl)⟩, ⟨by decide +kernel, by decide +kernel, by decide +kernel⟩⟩
set_option maxRecDepth 20000 in
theorem lm_X3_30 : LkS RX3 30 yX3_checkValue cX3_checkValue 2 none 2 := ⟨⟨rfl, (wsG_of 236 rfl rfl), (wsG_of 237 rfl rfl), (wsG_of 44 rfl rfl), (wsG_of 238 rfl rfl)⟩, ⟨by decide +kernel, by decide +kernel, by decide +kernel⟩⟩
set_option maxRecDepth 20000 in
theorem lm_X3_34 : LkV RX3 34 yX2_addRecord cX2_addRecord 5 (some .int) 2 := ⟨⟨(wsG_of 306 rfl rfl), (wsG_of 307 rfl rfl), (wsG_of 308 rfl rfl), (wsG_of 45 rfl rfl), (wsG_of 309 rfl rfl)⟩, ⟨by decide +kernel, by decide +kernel, by decide +kernel⟩⟩
set_option maxRecDepth 20000 in
theorem lm_X2_46 : LkV RX2 46 yX2_hasPagesForChain cX2_hasPagesForChain 2 (some .boolean) 1 := ⟨⟨(wsG_of 310 rfl rfl), (wsG_of 312 rfl rfl), (wsG_of 2 rfl rfl), (wsG_of 45 rfl rfl), (wsG_of 313 rfl rfl)⟩, ⟨by decide +kernel, by decide +kernel, by decide +kernel⟩⟩
set_option maxRecDepth 20000 in
theorem lm_X2_110 : LkN RX2 110 yX3_chainPages cX3_chainPages 1 (some .int) 1 := ⟨⟨List.mem_of_getElem? (i := 21) rfl, (wsG_of 315 rfl rfl), (wsG_of 44 rfl rfl), (wsG_of 316 rfl rfl)⟩, ⟨by decide +kernel, by decide +kernel, by decide +kernel⟩⟩
set_option maxRecDepth 20000 in
theorem lm_X2_113 : LkV RX2 113 yX2_pagesThatAre cX2_pagesThatAre 4 (some .int) 1 := ⟨⟨(wsG_of 317 rfl rfl), (wsG_of 318 rfl rfl), (wsG_of 319 rfl rfl), (wsG_of 45 rfl rfl), (wsG_of 320 rfl rfl)⟩, ⟨by decide +kernel, by decide +kernel, by decide +kernel⟩⟩
set_option maxRecDepth 20000 in
theorem lm_X2_49 : LkV RX2 49 yX2_takeChain cX2_takeChain 8 (some .int) 1 := ⟨⟨(wsG_of 321 rfl rfl), (wsG_of 323 rfl rfl), (wsG_of 3 rfl rfl), (wsG_of 45 rfl rfl), (wsG_of 324 rfl rfl)⟩, ⟨by decide +kernel, by decide +kernel, by decide +kernel⟩⟩
set_option maxRecDepth 20000 in
theorem lm_X2_95 : LkV RX2 95 yX2_leastFreePage cX2_leastFreePage 3 (some .int) 1 := ⟨⟨(wsG_of 325 rfl rfl), (wsG_of 327 rfl rfl), (wsG_of 4 rfl rfl), (wsG_of 45 rfl rfl), (wsG_of 328 rfl rfl)⟩, ⟨by decide +kernel, by decide +kernel, by decide +kernel⟩⟩
set_option maxRecDepth 20000 in
theorem lm_X2_121 : LkV RX2 121 yX1_becomeChain cX1_becomeChain 2 none 1 := ⟨⟨(wsG_of 332 rfl rfl), (wsG_of 333 rfl rfl), (wsG_of 334 rfl rfl), (wsG_of 46 rfl rfl), (wsG_of 335 rfl rfl)⟩, ⟨by decide +kernel, by decide +kernel, by decide +kernel⟩⟩
set_option maxRecDepth 20000 in
theorem lm_X2_52 : LkN RX2 52 yX3_cellBytes cX3_cellBytes 4 (some .int) 2 := ⟨⟨List.mem_of_getElem? (i := 22) rfl, (wsG_of 337 rfl rfl), (wsG_of 44 rfl rfl), (wsG_of 338 rfl rfl)⟩, ⟨by decide +kernel, by decide +kernel, by decide +kernel⟩⟩
set_option maxRecDepth 20000 in
theorem lm_X2_56 : LkV RX2 56 yX2_placeFor cX2_placeFor 6 (some .int) 3 := ⟨⟨(wsG_of 339 rfl rfl), (wsG_of 341 rfl rfl), (wsG_of 5 rfl rfl), (wsG_of 45 rfl rfl), (wsG_of 342 rfl rfl)⟩, ⟨by decide +kernel, by decide +kernel, by decide +kernel⟩⟩
set_option maxRecDepth 20000 in
theorem lm_X2_89 : LkV RX2 89 yX2_leastClassPage cX2_leastClassPage 8 (some .int) 3 := ⟨⟨(wsG_of 343 rfl rfl), (wsG_of 345 rfl rfl), (wsG_of 6 rfl rfl), (wsG_of 45 rfl rfl), (wsG_of 346 rfl rfl)⟩, ⟨by decide +kernel, by decide +kernel, by decide +kernel⟩⟩
set_option maxRecDepth 20000 in
theorem lm_X2_98 : LkV RX2 98 yX1_takesNewCells cX1_takesNewCells 1 (some .boolean) 0 := ⟨⟨(wsG_of 347 rfl rfl), (wsG_of 348 rfl rfl), (wsG_of 349 rfl rfl), (wsG_of 46 rfl rfl), (wsG_of 350 rfl rfl)⟩, ⟨by decide +kernel, by decide +kernel, by decide +kernel⟩⟩
set_option maxRecDepth 20000 in
theorem lm_X2_102 : LkV RX2 102 yX1_room cX1_room 1 (some .int) 0 := ⟨⟨(wsG_of 351 rfl rfl), (wsG_of 352 rfl rfl), (wsG_of 353 rfl rfl), (wsG_of 46 rfl rfl), (wsG_of 354 rfl rfl)⟩, ⟨by decide +kernel, by decide +kernel, by decide +kernel⟩⟩
set_option maxRecDepth 20000 in
theorem lm_X2_92 : LkV RX2 92 yX2_firstPageWithRoom cX2_firstPageWithRoom 5 (some .int) 3 := ⟨⟨(wsG_of 355 rfl rfl), (wsG_of 357 rfl rfl), (wsG_of 7 rfl rfl), (wsG_of 45 rfl rfl), (wsG_of 358 rfl rfl)⟩, ⟨by decide +kernel, by decide +kernel, by decide +kernel⟩⟩
set_option maxRecDepth 20000 in
theorem lm_X2_60 : LkV RX2 60 yX2_freeChain cX2_freeChain 5 none 1 := ⟨⟨(wsG_of 359 rfl rfl), (wsG_of 361 rfl rfl), (wsG_of 8 rfl rfl), (wsG_of 45 rfl rfl), (wsG_of 362 rfl rfl)⟩, ⟨by decide +kernel, by decide +kernel, by decide +kernel⟩⟩
set_option maxRecDepth 20000 in
theorem lm_X2_127 : LkV RX2 127 yX1_becomeFree cX1_becomeFree 1 none 0 := ⟨⟨(wsG_of 363 rfl rfl), (wsG_of 364 rfl rfl), (wsG_of 365 rfl rfl), (wsG_of 46 rfl rfl), (wsG_of 366 rfl rfl)⟩, ⟨by decide +kernel, by decide +kernel, by decide +kernel⟩⟩
set_option maxRecDepth 20000 in
theorem lm_X2_64 : LkV RX2 64 yX1_put cX1_put 7 (some .int) 4 := ⟨⟨(wsG_of 367 rfl rfl), (wsG_of 368 rfl rfl), (wsG_of 369 rfl rfl), (wsG_of 46 rfl rfl), (wsG_of 370 rfl rfl)⟩, ⟨by decide +kernel, by decide +kernel, by decide +kernel⟩⟩
set_option maxRecDepth 20000 in
theorem lm_X1_70 : LkV RX1 70 yX1_leastEmptySlot cX1_leastEmptySlot 2 (some .int) 0 := ⟨⟨(wsG_of 371 rfl rfl), (wsG_of 373 rfl rfl), (wsG_of 9 rfl rfl), (wsG_of 46 rfl rfl), (wsG_of 374 rfl rfl)⟩, ⟨by decide +kernel, by decide +kernel, by decide +kernel⟩⟩
set_option maxRecDepth 20000 in
theorem lm_X1_73 : LkN RX1 73 yX3_cellBytes cX3_cellBytes 4 (some .int) 2 := ⟨⟨List.mem_of_getElem? (i := 23) rfl, (wsG_of 337 rfl rfl), (wsG_of 44 rfl rfl), (wsG_of 338 rfl rfl)⟩, ⟨by decide +kernel, by decide +kernel, by decide +kernel⟩⟩
set_option maxRecDepth 20000 in
theorem lm_X1_77 : LkV RX1 77 yX1_claimEnd cX1_claimEnd 3 none 2 := ⟨⟨(wsG_of 376 rfl rfl), (wsG_of 378 rfl rfl), (wsG_of 10 rfl rfl), (wsG_of 46 rfl rfl), (wsG_of 379 rfl rfl)⟩, ⟨by decide +kernel, by decide +kernel, by decide +kernel⟩⟩
set_option maxRecDepth 20000 in
theorem lm_X1_81 : LkV RX1 81 yX1_write cX1_write 6 none 5 := ⟨⟨(wsG_of 380 rfl rfl), (wsG_of 382 rfl rfl), (wsG_of 11 rfl rfl), (wsG_of 46 rfl rfl), (wsG_of 383 rfl rfl)⟩, ⟨by decide +kernel, by decide +kernel, by decide +kernel⟩⟩
set_option maxRecDepth 20000 in
theorem lm_X3_38 : LkV RX3 38 yX3_noteChange cX3_noteChange 4 none 3 := ⟨⟨(wsG_of 384 rfl rfl), (wsG_of 386 rfl rfl), (wsG_of 12 rfl rfl), (wsG_of 44 rfl rfl), (wsG_of 387 rfl rfl)⟩, ⟨by decide +kernel, by decide +kernel, by decide +kernel⟩⟩
set_option maxRecDepth 20000 in
theorem lm_X3_160 : LkV RX3 160 yX0_add cX0_add 4 none 3 := ⟨⟨(wsG_of 388 rfl rfl), (wsG_of 389 rfl rfl), (wsG_of 390 rfl rfl), (wsG_of 47 rfl rfl), (wsG_of 391 rfl rfl)⟩, ⟨by decide +kernel, by decide +kernel, by decide +kernel⟩⟩
set_option maxRecDepth 20000 in
theorem lm_L_15 : LkV RL 15 yX3_update cX3_update 5 (some .boolean) 3 := ⟨⟨(wsG_of 396 rfl rfl), (wsG_of 397 rfl rfl), (wsG_of 398 rfl rfl), (wsG_of 44 rfl rfl), (wsG_of 399 rfl rfl)⟩, ⟨by decide +kernel, by decide +kernel, by decide +kernel⟩⟩
set_option maxRecDepth 20000 in
theorem lm_X3_42 : LkV RX3 42 yX3_checkRecord cX3_checkRecord 2 none 1 := ⟨⟨(wsG_of 400 rfl rfl), (wsG_of 402 rfl rfl), (wsG_of 13 rfl rfl), (wsG_of 44 rfl rfl), (wsG_of 403 rfl rfl)⟩, ⟨by decide +kernel, by decide +kernel, by decide +kernel⟩⟩
set_option maxRecDepth 20000 in
theorem lm_X3_46 : LkV RX3 46 yX2_changeRecord cX2_changeRecord 7 (some .boolean) 3 := ⟨⟨(wsG_of 420 rfl rfl), (wsG_of 421 rfl rfl), (wsG_of 422 rfl rfl), (wsG_of 45 rfl rfl), (wsG_of 423 rfl rfl)⟩, ⟨by decide +kernel, by decide +kernel, by decide +kernel⟩⟩
set_option maxRecDepth 20000 in
theorem lm_X2_68 : LkV RX2 68 yX2_chainOf cX2_chainOf 3 (some .int) 1 := ⟨⟨(wsG_of 424 rfl rfl), (wsG_of 425 rfl rfl), (wsG_of 426 rfl rfl), (wsG_of 45 rfl rfl), (wsG_of 427 rfl rfl)⟩, ⟨by decide +kernel, by decide +kernel, by decide +kernel⟩⟩
set_option maxRecDepth 20000 in
theorem lm_X2_71 : LkV RX2 71 yX2_changeAtHome cX2_changeAtHome 9 (some .boolean) 4 := ⟨⟨(wsG_of 428 rfl rfl), (wsG_of 430 rfl rfl), (wsG_of 14 rfl rfl), (wsG_of 45 rfl rfl), (wsG_of 431 rfl rfl)⟩, ⟨by decide +kernel, by decide +kernel, by decide +kernel⟩⟩
set_option maxRecDepth 20000 in
theorem lm_X2_81 : LkV RX2 81 yX1_hasRoomInstead cX1_hasRoomInstead 3 (some .boolean) 2 := ⟨⟨(wsG_of 432 rfl rfl), (wsG_of 433 rfl rfl), (wsG_of 434 rfl rfl), (wsG_of 46 rfl rfl), (wsG_of 435 rfl rfl)⟩, ⟨by decide +kernel, by decide +kernel, by decide +kernel⟩⟩
set_option maxRecDepth 20000 in
theorem lm_X1_58 : LkV RX1 58 yX1_room cX1_room 1 (some .int) 0 := ⟨⟨(wsG_of 436 rfl rfl), (wsG_of 352 rfl rfl), (wsG_of 353 rfl rfl), (wsG_of 46 rfl rfl), (wsG_of 354 rfl rfl)⟩, ⟨by decide +kernel, by decide +kernel, by decide +kernel⟩⟩
set_option maxRecDepth 20000 in
theorem lm_X1_62 : LkV RX1 62 yX1_bytesAt cX1_bytesAt 2 (some .int) 1 := ⟨⟨(wsG_of 437 rfl rfl), (wsG_of 439 rfl rfl), (wsG_of 15 rfl rfl), (wsG_of 46 rfl rfl), (wsG_of 440 rfl rfl)⟩, ⟨by decide +kernel, by decide +kernel, by decide +kernel⟩⟩
set_option maxRecDepth 20000 in
theorem lm_X2_85 : LkV RX2 85 yX1_change cX1_change 8 none 5 := ⟨⟨(wsG_of 441 rfl rfl), (wsG_of 442 rfl rfl), (wsG_of 443 rfl rfl), (wsG_of 46 rfl rfl), (wsG_of 444 rfl rfl)⟩, ⟨by decide +kernel, by decide +kernel, by decide +kernel⟩⟩
set_option maxRecDepth 20000 in
theorem lm_X1_85 : LkV RX1 85 yX1_erase cX1_erase 2 none 1 := ⟨⟨(wsG_of 445 rfl rfl), (wsG_of 447 rfl rfl), (wsG_of 16 rfl rfl), (wsG_of 46 rfl rfl), (wsG_of 448 rfl rfl)⟩, ⟨by decide +kernel, by decide +kernel, by decide +kernel⟩⟩
set_option maxRecDepth 20000 in
theorem lm_X2_75 : LkV RX2 75 yX2_changeAway cX2_changeAway 12 (some .boolean) 4 := ⟨⟨(wsG_of 449 rfl rfl), (wsG_of 451 rfl rfl), (wsG_of 17 rfl rfl), (wsG_of 45 rfl rfl), (wsG_of 452 rfl rfl)⟩, ⟨by decide +kernel, by decide +kernel, by decide +kernel⟩⟩
set_option maxRecDepth 20000 in
theorem lm_X2_78 : LkV RX2 78 yX1_remove cX1_remove 2 none 1 := ⟨⟨(wsG_of 453 rfl rfl), (wsG_of 454 rfl rfl), (wsG_of 455 rfl rfl), (wsG_of 46 rfl rfl), (wsG_of 456 rfl rfl)⟩, ⟨by decide +kernel, by decide +kernel, by decide +kernel⟩⟩
set_option maxRecDepth 20000 in
theorem lm_X1_89 : LkV RX1 89 yX1_becomeFree cX1_becomeFree 1 none 0 := ⟨⟨(wsG_of 457 rfl rfl), (wsG_of 364 rfl rfl), (wsG_of 365 rfl rfl), (wsG_of 46 rfl rfl), (wsG_of 366 rfl rfl)⟩, ⟨by decide +kernel, by decide +kernel, by decide +kernel⟩⟩
set_option maxRecDepth 20000 in
theorem lm_L_21 : LkV RL 21 yX3_delete cX3_delete 3 (some .int) 1 := ⟨⟨(wsG_of 461 rfl rfl), (wsG_of 462 rfl rfl), (wsG_of 463 rfl rfl), (wsG_of 44 rfl rfl), (wsG_of 464 rfl rfl)⟩, ⟨by decide +kernel, by decide +kernel, by decide +kernel⟩⟩
set_option maxRecDepth 20000 in
theorem lm_X3_54 : LkV RX3 54 yX2_removeRecord cX2_removeRecord 3 none 1 := ⟨⟨(wsG_of 465 rfl rfl), (wsG_of 466 rfl rfl), (wsG_of 467 rfl rfl), (wsG_of 45 rfl rfl), (wsG_of 468 rfl rfl)⟩, ⟨by decide +kernel, by decide +kernel, by decide +kernel⟩⟩
set_option maxRecDepth 20000 in
theorem lm_L_25 : LkV RL 25 yX3_byteAt cX3_byteAt 3 (some .int) 2 := ⟨⟨(wsG_of 472 rfl rfl), (wsG_of 473 rfl rfl), (wsG_of 474 rfl rfl), (wsG_of 44 rfl rfl), (wsG_of 475 rfl rfl)⟩, ⟨by decide +kernel, by decide +kernel, by decide +kernel⟩⟩
set_option maxRecDepth 20000 in
theorem lm_X3_61 : LkV RX3 61 yX2_seedOf cX2_seedOf 3 (some .int) 1 := ⟨⟨(wsG_of 476 rfl rfl), (wsG_of 477 rfl rfl), (wsG_of 478 rfl rfl), (wsG_of 45 rfl rfl), (wsG_of 479 rfl rfl)⟩, ⟨by decide +kernel, by decide +kernel, by decide +kernel⟩⟩
set_option maxRecDepth 20000 in
theorem lm_L_28 : LkV RL 28 yX3_where cX3_where 3 (some .int) 2 := ⟨⟨(wsG_of 483 rfl rfl), (wsG_of 484 rfl rfl), (wsG_of 485 rfl rfl), (wsG_of 44 rfl rfl), (wsG_of 486 rfl rfl)⟩, ⟨by decide +kernel, by decide +kernel, by decide +kernel⟩⟩
set_option maxRecDepth 20000 in
theorem lm_X3_64 : LkV RX3 64 yX2_valueCell cX2_valueCell 4 (some .int) 1 := ⟨⟨(wsG_of 487 rfl rfl), (wsG_of 190 rfl rfl), (wsG_of 191 rfl rfl), (wsG_of 45 rfl rfl), (wsG_of 192 rfl rfl)⟩, ⟨by decide +kernel, by decide +kernel, by decide +kernel⟩⟩
set_option maxRecDepth 20000 in
theorem lm_X3_67 : LkS RX3 67 yX3_chainPages cX3_chainPages 1 (some .int) 1 := ⟨⟨rfl, (wsG_of 488 rfl rfl), (wsG_of 315 rfl rfl), (wsG_of 44 rfl rfl), (wsG_of 316 rfl rfl)⟩, ⟨by decide +kernel, by decide +kernel, by decide +kernel⟩⟩
set_option maxRecDepth 20000 in
theorem lm_X3_70 : LkV RX3 70 yX2_chainOf cX2_chainOf 3 (some .int) 1 := ⟨⟨(wsG_of 489 rfl rfl), (wsG_of 425 rfl rfl), (wsG_of 426 rfl rfl), (wsG_of 45 rfl rfl), (wsG_of 427 rfl rfl)⟩, ⟨by decide +kernel, by decide +kernel, by decide +kernel⟩⟩
set_option maxRecDepth 20000 in
theorem lm_L_31 : LkV RL 31 yX3_page cX3_page 4 (some .int) 2 := ⟨⟨(wsG_of 494 rfl rfl), (wsG_of 495 rfl rfl), (wsG_of 496 rfl rfl), (wsG_of 44 rfl rfl), (wsG_of 497 rfl rfl)⟩, ⟨by decide +kernel, by decide +kernel, by decide +kernel⟩⟩
set_option maxRecDepth 20000 in
theorem lm_X3_88 : LkS RX3 88 yX3_checkPage cX3_checkPage 1 none 1 := ⟨⟨rfl, (wsG_of 498 rfl rfl), (wsG_of 499 rfl rfl), (wsG_of 44 rfl rfl), (wsG_of 500 rfl rfl)⟩, ⟨by decide +kernel, by decide +kernel, by decide +kernel⟩⟩
set_option maxRecDepth 20000 in
theorem lm_X3_106 : LkV RX3 106 yX1_room cX1_room 1 (some .int) 0 := ⟨⟨(wsG_of 502 rfl rfl), (wsG_of 352 rfl rfl), (wsG_of 353 rfl rfl), (wsG_of 46 rfl rfl), (wsG_of 354 rfl rfl)⟩, ⟨by decide +kernel, by decide +kernel, by decide +kernel⟩⟩
set_option maxRecDepth 20000 in
theorem lm_L_34 : LkV RL 34 yX3_slot cX3_slot 4 (some .int) 2 := ⟨⟨(wsG_of 507 rfl rfl), (wsG_of 508 rfl rfl), (wsG_of 509 rfl rfl), (wsG_of 44 rfl rfl), (wsG_of 510 rfl rfl)⟩, ⟨by decide +kernel, by decide +kernel, by decide +kernel⟩⟩
set_option maxRecDepth 20000 in
theorem lm_L_37 : LkV RL 37 yX3_crash cX3_crash 3 (some .int) 1 := ⟨⟨(wsG_of 515 rfl rfl), (wsG_of 516 rfl rfl), (wsG_of 517 rfl rfl), (wsG_of 44 rfl rfl), (wsG_of 518 rfl rfl)⟩, ⟨by decide +kernel, by decide +kernel, by decide +kernel⟩⟩
set_option maxRecDepth 20000 in
theorem lm_X3_138 : LkV RX3 138 yX0_redo cX0_redo 4 none 2 := ⟨⟨(wsG_of 520 rfl rfl), (wsG_of 521 rfl rfl), (wsG_of 522 rfl rfl), (wsG_of 47 rfl rfl), (wsG_of 523 rfl rfl)⟩, ⟨by decide +kernel, by decide +kernel, by decide +kernel⟩⟩
set_option maxRecDepth 20000 in
theorem lm_X0_25 : LkV RX0 25 yX2_addRecord cX2_addRecord 5 (some .int) 2 := ⟨⟨(wsG_of 524 rfl rfl), (wsG_of 307 rfl rfl), (wsG_of 308 rfl rfl), (wsG_of 45 rfl rfl), (wsG_of 309 rfl rfl)⟩, ⟨by decide +kernel, by decide +kernel, by decide +kernel⟩⟩
set_option maxRecDepth 20000 in
theorem lm_X0_31 : LkV RX0 31 yX2_removeRecord cX2_removeRecord 3 none 1 := ⟨⟨(wsG_of 525 rfl rfl), (wsG_of 466 rfl rfl), (wsG_of 467 rfl rfl), (wsG_of 45 rfl rfl), (wsG_of 468 rfl rfl)⟩, ⟨by decide +kernel, by decide +kernel, by decide +kernel⟩⟩
set_option maxRecDepth 20000 in
theorem lm_X0_35 : LkV RX0 35 yX2_changeRecord cX2_changeRecord 7 (some .boolean) 3 := ⟨⟨(wsG_of 526 rfl rfl), (wsG_of 421 rfl rfl), (wsG_of 422 rfl rfl), (wsG_of 45 rfl rfl), (wsG_of 423 rfl rfl)⟩, ⟨by decide +kernel, by decide +kernel, by decide +kernel⟩⟩
set_option maxRecDepth 20000 in
theorem lm_L_40 : LkV RL 40 yX3_total cX3_total 2 (some .int) 1 := ⟨⟨(wsG_of 530 rfl rfl), (wsG_of 531 rfl rfl), (wsG_of 532 rfl rfl), (wsG_of 44 rfl rfl), (wsG_of 533 rfl rfl)⟩, ⟨by decide +kernel, by decide +kernel, by decide +kernel⟩⟩
set_option maxRecDepth 20000 in
theorem lm_X3_146 : LkV RX3 146 yX2_cellCount cX2_cellCount 3 (some .int) 0 := ⟨⟨(wsG_of 534 rfl rfl), (wsG_of 535 rfl rfl), (wsG_of 536 rfl rfl), (wsG_of 45 rfl rfl), (wsG_of 537 rfl rfl)⟩, ⟨by decide +kernel, by decide +kernel, by decide +kernel⟩⟩
set_option maxRecDepth 20000 in
theorem lm_X3_149 : LkV RX3 149 yX2_stubCount cX2_stubCount 3 (some .int) 0 := ⟨⟨(wsG_of 538 rfl rfl), (wsG_of 539 rfl rfl), (wsG_of 540 rfl rfl), (wsG_of 45 rfl rfl), (wsG_of 541 rfl rfl)⟩, ⟨by decide +kernel, by decide +kernel, by decide +kernel⟩⟩
set_option maxRecDepth 20000 in
theorem lm_X3_152 : LkV RX3 152 yX2_pagesThatAre cX2_pagesThatAre 4 (some .int) 1 := ⟨⟨(wsG_of 542 rfl rfl), (wsG_of 318 rfl rfl), (wsG_of 319 rfl rfl), (wsG_of 45 rfl rfl), (wsG_of 320 rfl rfl)⟩, ⟨by decide +kernel, by decide +kernel, by decide +kernel⟩⟩
set_option maxRecDepth 20000 in
theorem lm_X3_155 : LkV RX3 155 yX2_compactingCount cX2_compactingCount 3 (some .int) 0 := ⟨⟨(wsG_of 543 rfl rfl), (wsG_of 544 rfl rfl), (wsG_of 545 rfl rfl), (wsG_of 45 rfl rfl), (wsG_of 546 rfl rfl)⟩, ⟨by decide +kernel, by decide +kernel, by decide +kernel⟩⟩
set_option maxRecDepth 20000 in
theorem lm_X4_19 : LkS RX4 19 yX4_copy cX4_copy 3 none 2 := ⟨⟨rfl, (wsG_of 554 rfl rfl), (wsG_of 555 rfl rfl), (wsG_of 48 rfl rfl), (wsG_of 556 rfl rfl)⟩, ⟨by decide +kernel, by decide +kernel, by decide +kernel⟩⟩
set_option maxRecDepth 20000 in
theorem lf_X4_7 : Cond.fieldLink RX4 7 "SlotFileModel" "d" "[I" ∈ wsG := wsG_of 557 rfl rfl
set_option maxRecDepth 20000 in
theorem lf_X4_13 : Cond.fieldLink RX4 13 "SlotFileModel" "synced" "[I" ∈ wsG := wsG_of 558 rfl rfl
set_option maxRecDepth 20000 in
theorem lf_X4_16 : Cond.fieldLink RX4 16 "SlotFileModel" "changes" "[I" ∈ wsG := wsG_of 559 rfl rfl
set_option maxRecDepth 20000 in
theorem lf_X4_95 : Cond.fieldLink RX4 95 "SlotFileModel" "changeCount" "I" ∈ wsG := wsG_of 560 rfl rfl
set_option maxRecDepth 20000 in
theorem lf_X4_38 : Cond.fieldLink RX4 38 "SlotFileModel" "compacted" "I" ∈ wsG := wsG_of 561 rfl rfl
set_option maxRecDepth 20000 in
theorem lf_X4_128 : Cond.fieldLink RX4 128 "SlotFileModel" "crashes" "I" ∈ wsG := wsG_of 562 rfl rfl
set_option maxRecDepth 20000 in
theorem lf_X4_41 : Cond.fieldLink RX4 41 "SlotFileModel" "again" "Z" ∈ wsG := wsG_of 563 rfl rfl
set_option maxRecDepth 20000 in
theorem lf_X4_23 : Cond.fieldLink RX4 23 "SlotFileModel" "thrown" "I" ∈ wsG := wsG_of 564 rfl rfl
set_option maxRecDepth 20000 in
theorem lm_L_53 : LkV RL 53 yX4_thrown cX4_thrown 1 (some .int) 0 := ⟨⟨(wsG_of 582 rfl rfl), (wsG_of 583 rfl rfl), (wsG_of 584 rfl rfl), (wsG_of 48 rfl rfl), (wsG_of 585 rfl rfl)⟩, ⟨by decide +kernel, by decide +kernel, by decide +kernel⟩⟩
set_option maxRecDepth 20000 in
theorem lm_L_52 : LkV RL 52 yX4_insert cX4_insert 4 (some .int) 2 := ⟨⟨(wsG_of 586 rfl rfl), (wsG_of 587 rfl rfl), (wsG_of 588 rfl rfl), (wsG_of 48 rfl rfl), (wsG_of 589 rfl rfl)⟩, ⟨by decide +kernel, by decide +kernel, by decide +kernel⟩⟩
set_option maxRecDepth 20000 in
theorem lm_X4_98 : LkS RX4 98 yX4_isValue cX4_isValue 2 (some .boolean) 2 := ⟨⟨rfl, (wsG_of 590 rfl rfl), (wsG_of 591 rfl rfl), (wsG_of 48 rfl rfl), (wsG_of 592 rfl rfl)⟩, ⟨by decide +kernel, by decide +kernel, by decide +kernel⟩⟩
set_option maxRecDepth 20000 in
theorem lm_X4_102 : LkV RX4 102 yX4_fails cX4_fails 3 (some .boolean) 2 := ⟨⟨(wsG_of 593 rfl rfl), (wsG_of 595 rfl rfl), (wsG_of 18 rfl rfl), (wsG_of 48 rfl rfl), (wsG_of 596 rfl rfl)⟩, ⟨by decide +kernel, by decide +kernel, by decide +kernel⟩⟩
set_option maxRecDepth 20000 in
theorem lm_X4_106 : LkV RX4 106 yX4_inserts cX4_inserts 8 (some .int) 2 := ⟨⟨(wsG_of 597 rfl rfl), (wsG_of 599 rfl rfl), (wsG_of 19 rfl rfl), (wsG_of 48 rfl rfl), (wsG_of 600 rfl rfl)⟩, ⟨by decide +kernel, by decide +kernel, by decide +kernel⟩⟩
set_option maxRecDepth 20000 in
theorem lm_X4_55 : LkS RX4 55 yX4_chainSize cX4_chainSize 1 (some .int) 1 := ⟨⟨rfl, (wsG_of 601 rfl rfl), (wsG_of 602 rfl rfl), (wsG_of 48 rfl rfl), (wsG_of 603 rfl rfl)⟩, ⟨by decide +kernel, by decide +kernel, by decide +kernel⟩⟩
set_option maxRecDepth 20000 in
theorem lm_X4_58 : LkV RX4 58 yX4_freePages cX4_freePages 3 (some .int) 0 := ⟨⟨(wsG_of 604 rfl rfl), (wsG_of 606 rfl rfl), (wsG_of 20 rfl rfl), (wsG_of 48 rfl rfl), (wsG_of 607 rfl rfl)⟩, ⟨by decide +kernel, by decide +kernel, by decide +kernel⟩⟩
set_option maxRecDepth 20000 in
theorem lm_X4_61 : LkV RX4 61 yX4_takeChain cX4_takeChain 7 (some .int) 1 := ⟨⟨(wsG_of 608 rfl rfl), (wsG_of 610 rfl rfl), (wsG_of 21 rfl rfl), (wsG_of 48 rfl rfl), (wsG_of 611 rfl rfl)⟩, ⟨by decide +kernel, by decide +kernel, by decide +kernel⟩⟩
set_option maxRecDepth 20000 in
theorem lm_X4_51 : LkV RX4 51 yX4_firstFree cX4_firstFree 2 (some .int) 0 := ⟨⟨(wsG_of 612 rfl rfl), (wsG_of 614 rfl rfl), (wsG_of 22 rfl rfl), (wsG_of 48 rfl rfl), (wsG_of 615 rfl rfl)⟩, ⟨by decide +kernel, by decide +kernel, by decide +kernel⟩⟩
set_option maxRecDepth 20000 in
theorem lm_X4_64 : LkS RX4 64 yX4_cellSize cX4_cellSize 3 (some .int) 2 := ⟨⟨rfl, (wsG_of 616 rfl rfl), (wsG_of 617 rfl rfl), (wsG_of 48 rfl rfl), (wsG_of 618 rfl rfl)⟩, ⟨by decide +kernel, by decide +kernel, by decide +kernel⟩⟩
set_option maxRecDepth 20000 in
theorem lm_X4_68 : LkV RX4 68 yX4_placeFor cX4_placeFor 9 (some .int) 3 := ⟨⟨(wsG_of 619 rfl rfl), (wsG_of 621 rfl rfl), (wsG_of 23 rfl rfl), (wsG_of 48 rfl rfl), (wsG_of 622 rfl rfl)⟩, ⟨by decide +kernel, by decide +kernel, by decide +kernel⟩⟩
set_option maxRecDepth 20000 in
theorem lm_X4_45 : LkV RX4 45 yX4_cells cX4_cells 4 (some .int) 1 := ⟨⟨(wsG_of 623 rfl rfl), (wsG_of 625 rfl rfl), (wsG_of 24 rfl rfl), (wsG_of 48 rfl rfl), (wsG_of 626 rfl rfl)⟩, ⟨by decide +kernel, by decide +kernel, by decide +kernel⟩⟩
set_option maxRecDepth 20000 in
theorem lm_X4_27 : LkV RX4 27 yX4_sizeOf cX4_sizeOf 3 (some .int) 2 := ⟨⟨(wsG_of 627 rfl rfl), (wsG_of 629 rfl rfl), (wsG_of 25 rfl rfl), (wsG_of 48 rfl rfl), (wsG_of 630 rfl rfl)⟩, ⟨by decide +kernel, by decide +kernel, by decide +kernel⟩⟩
set_option maxRecDepth 20000 in
theorem lm_X4_48 : LkV RX4 48 yX4_room cX4_room 2 (some .int) 1 := ⟨⟨(wsG_of 631 rfl rfl), (wsG_of 633 rfl rfl), (wsG_of 26 rfl rfl), (wsG_of 48 rfl rfl), (wsG_of 634 rfl rfl)⟩, ⟨by decide +kernel, by decide +kernel, by decide +kernel⟩⟩
set_option maxRecDepth 20000 in
theorem lm_X4_31 : LkV RX4 31 yX4_slots cX4_slots 4 (some .int) 1 := ⟨⟨(wsG_of 635 rfl rfl), (wsG_of 637 rfl rfl), (wsG_of 27 rfl rfl), (wsG_of 48 rfl rfl), (wsG_of 638 rfl rfl)⟩, ⟨by decide +kernel, by decide +kernel, by decide +kernel⟩⟩
set_option maxRecDepth 20000 in
theorem lm_X4_35 : LkV RX4 35 yX4_taken cX4_taken 4 (some .int) 1 := ⟨⟨(wsG_of 639 rfl rfl), (wsG_of 641 rfl rfl), (wsG_of 28 rfl rfl), (wsG_of 48 rfl rfl), (wsG_of 642 rfl rfl)⟩, ⟨by decide +kernel, by decide +kernel, by decide +kernel⟩⟩
set_option maxRecDepth 20000 in
theorem lm_X4_72 : LkV RX4 72 yX4_freeChain cX4_freeChain 3 none 1 := ⟨⟨(wsG_of 643 rfl rfl), (wsG_of 645 rfl rfl), (wsG_of 29 rfl rfl), (wsG_of 48 rfl rfl), (wsG_of 646 rfl rfl)⟩, ⟨by decide +kernel, by decide +kernel, by decide +kernel⟩⟩
set_option maxRecDepth 20000 in
theorem lm_X4_76 : LkV RX4 76 yX4_slotIn cX4_slotIn 3 (some .int) 1 := ⟨⟨(wsG_of 647 rfl rfl), (wsG_of 649 rfl rfl), (wsG_of 30 rfl rfl), (wsG_of 48 rfl rfl), (wsG_of 650 rfl rfl)⟩, ⟨by decide +kernel, by decide +kernel, by decide +kernel⟩⟩
set_option maxRecDepth 20000 in
theorem lm_X4_79 : LkV RX4 79 yX4_putCell cX4_putCell 8 none 4 := ⟨⟨(wsG_of 651 rfl rfl), (wsG_of 653 rfl rfl), (wsG_of 31 rfl rfl), (wsG_of 48 rfl rfl), (wsG_of 654 rfl rfl)⟩, ⟨by decide +kernel, by decide +kernel, by decide +kernel⟩⟩
set_option maxRecDepth 20000 in
theorem lm_X4_83 : LkV RX4 83 yX4_keep cX4_keep 6 none 5 := ⟨⟨(wsG_of 655 rfl rfl), (wsG_of 657 rfl rfl), (wsG_of 32 rfl rfl), (wsG_of 48 rfl rfl), (wsG_of 658 rfl rfl)⟩, ⟨by decide +kernel, by decide +kernel, by decide +kernel⟩⟩
set_option maxRecDepth 20000 in
theorem lm_X4_109 : LkV RX4 109 yX4_note cX4_note 6 none 4 := ⟨⟨(wsG_of 659 rfl rfl), (wsG_of 661 rfl rfl), (wsG_of 33 rfl rfl), (wsG_of 48 rfl rfl), (wsG_of 662 rfl rfl)⟩, ⟨by decide +kernel, by decide +kernel, by decide +kernel⟩⟩
set_option maxRecDepth 20000 in
theorem lm_L_60 : LkV RL 60 yX4_update cX4_update 5 (some .boolean) 3 := ⟨⟨(wsG_of 663 rfl rfl), (wsG_of 664 rfl rfl), (wsG_of 665 rfl rfl), (wsG_of 48 rfl rfl), (wsG_of 666 rfl rfl)⟩, ⟨by decide +kernel, by decide +kernel, by decide +kernel⟩⟩
set_option maxRecDepth 20000 in
theorem lm_X4_112 : LkV RX4 112 yX4_isRecord cX4_isRecord 2 (some .boolean) 1 := ⟨⟨(wsG_of 667 rfl rfl), (wsG_of 669 rfl rfl), (wsG_of 34 rfl rfl), (wsG_of 48 rfl rfl), (wsG_of 670 rfl rfl)⟩, ⟨by decide +kernel, by decide +kernel, by decide +kernel⟩⟩
set_option maxRecDepth 20000 in
theorem lm_X4_116 : LkV RX4 116 yX4_updates cX4_updates 14 (some .boolean) 3 := ⟨⟨(wsG_of 671 rfl rfl), (wsG_of 673 rfl rfl), (wsG_of 35 rfl rfl), (wsG_of 48 rfl rfl), (wsG_of 674 rfl rfl)⟩, ⟨by decide +kernel, by decide +kernel, by decide +kernel⟩⟩
set_option maxRecDepth 20000 in
theorem lm_X4_87 : LkV RX4 87 yX4_fits cX4_fits 4 (some .boolean) 3 := ⟨⟨(wsG_of 675 rfl rfl), (wsG_of 677 rfl rfl), (wsG_of 36 rfl rfl), (wsG_of 48 rfl rfl), (wsG_of 678 rfl rfl)⟩, ⟨by decide +kernel, by decide +kernel, by decide +kernel⟩⟩
set_option maxRecDepth 20000 in
theorem lm_X4_91 : LkV RX4 91 yX4_takeCell cX4_takeCell 3 none 2 := ⟨⟨(wsG_of 679 rfl rfl), (wsG_of 681 rfl rfl), (wsG_of 37 rfl rfl), (wsG_of 48 rfl rfl), (wsG_of 682 rfl rfl)⟩, ⟨by decide +kernel, by decide +kernel, by decide +kernel⟩⟩
set_option maxRecDepth 20000 in
theorem lm_L_64 : LkV RL 64 yX4_delete cX4_delete 3 (some .int) 1 := ⟨⟨(wsG_of 683 rfl rfl), (wsG_of 684 rfl rfl), (wsG_of 685 rfl rfl), (wsG_of 48 rfl rfl), (wsG_of 686 rfl rfl)⟩, ⟨by decide +kernel, by decide +kernel, by decide +kernel⟩⟩
set_option maxRecDepth 20000 in
theorem lm_X4_119 : LkV RX4 119 yX4_deletes cX4_deletes 3 none 1 := ⟨⟨(wsG_of 687 rfl rfl), (wsG_of 689 rfl rfl), (wsG_of 38 rfl rfl), (wsG_of 48 rfl rfl), (wsG_of 690 rfl rfl)⟩, ⟨by decide +kernel, by decide +kernel, by decide +kernel⟩⟩
set_option maxRecDepth 20000 in
theorem lm_L_68 : LkV RL 68 yX4_length cX4_length 2 (some .int) 1 := ⟨⟨(wsG_of 691 rfl rfl), (wsG_of 692 rfl rfl), (wsG_of 693 rfl rfl), (wsG_of 48 rfl rfl), (wsG_of 694 rfl rfl)⟩, ⟨by decide +kernel, by decide +kernel, by decide +kernel⟩⟩
set_option maxRecDepth 20000 in
theorem lm_L_71 : LkV RL 71 yX4_byteAt cX4_byteAt 3 (some .int) 2 := ⟨⟨(wsG_of 695 rfl rfl), (wsG_of 696 rfl rfl), (wsG_of 697 rfl rfl), (wsG_of 48 rfl rfl), (wsG_of 698 rfl rfl)⟩, ⟨by decide +kernel, by decide +kernel, by decide +kernel⟩⟩
set_option maxRecDepth 20000 in
theorem lm_L_74 : LkV RL 74 yX4_where cX4_where 4 (some .int) 2 := ⟨⟨(wsG_of 699 rfl rfl), (wsG_of 700 rfl rfl), (wsG_of 701 rfl rfl), (wsG_of 48 rfl rfl), (wsG_of 702 rfl rfl)⟩, ⟨by decide +kernel, by decide +kernel, by decide +kernel⟩⟩
set_option maxRecDepth 20000 in
theorem lm_L_78 : LkV RL 78 yX4_next cX4_next 3 (some .int) 1 := ⟨⟨(wsG_of 703 rfl rfl), (wsG_of 704 rfl rfl), (wsG_of 705 rfl rfl), (wsG_of 48 rfl rfl), (wsG_of 706 rfl rfl)⟩, ⟨by decide +kernel, by decide +kernel, by decide +kernel⟩⟩
set_option maxRecDepth 20000 in
theorem lm_L_81 : LkV RL 81 yX4_page cX4_page 3 (some .int) 2 := ⟨⟨(wsG_of 707 rfl rfl), (wsG_of 708 rfl rfl), (wsG_of 709 rfl rfl), (wsG_of 48 rfl rfl), (wsG_of 710 rfl rfl)⟩, ⟨by decide +kernel, by decide +kernel, by decide +kernel⟩⟩
set_option maxRecDepth 20000 in
theorem lm_X4_125 : LkV RX4 125 yX4_stubs cX4_stubs 4 (some .int) 1 := ⟨⟨(wsG_of 711 rfl rfl), (wsG_of 713 rfl rfl), (wsG_of 39 rfl rfl), (wsG_of 48 rfl rfl), (wsG_of 714 rfl rfl)⟩, ⟨by decide +kernel, by decide +kernel, by decide +kernel⟩⟩
set_option maxRecDepth 20000 in
theorem lm_X4_122 : LkV RX4 122 yX4_kindOf cX4_kindOf 5 (some .int) 2 := ⟨⟨(wsG_of 715 rfl rfl), (wsG_of 717 rfl rfl), (wsG_of 40 rfl rfl), (wsG_of 48 rfl rfl), (wsG_of 718 rfl rfl)⟩, ⟨by decide +kernel, by decide +kernel, by decide +kernel⟩⟩
set_option maxRecDepth 20000 in
theorem lm_L_84 : LkV RL 84 yX4_slot cX4_slot 3 (some .int) 2 := ⟨⟨(wsG_of 719 rfl rfl), (wsG_of 720 rfl rfl), (wsG_of 721 rfl rfl), (wsG_of 48 rfl rfl), (wsG_of 722 rfl rfl)⟩, ⟨by decide +kernel, by decide +kernel, by decide +kernel⟩⟩
set_option maxRecDepth 20000 in
theorem lm_L_88 : LkV RL 88 yX4_sync cX4_sync 2 (some .int) 0 := ⟨⟨(wsG_of 723 rfl rfl), (wsG_of 724 rfl rfl), (wsG_of 725 rfl rfl), (wsG_of 48 rfl rfl), (wsG_of 726 rfl rfl)⟩, ⟨by decide +kernel, by decide +kernel, by decide +kernel⟩⟩
set_option maxRecDepth 20000 in
theorem lm_L_91 : LkV RL 91 yX4_crash cX4_crash 5 (some .int) 1 := ⟨⟨(wsG_of 727 rfl rfl), (wsG_of 728 rfl rfl), (wsG_of 729 rfl rfl), (wsG_of 48 rfl rfl), (wsG_of 730 rfl rfl)⟩, ⟨by decide +kernel, by decide +kernel, by decide +kernel⟩⟩
set_option maxRecDepth 20000 in
theorem lm_X4_131 : LkV RX4 131 yX4_sync cX4_sync 2 (some .int) 0 := ⟨⟨(wsG_of 731 rfl rfl), (wsG_of 724 rfl rfl), (wsG_of 725 rfl rfl), (wsG_of 48 rfl rfl), (wsG_of 726 rfl rfl)⟩, ⟨by decide +kernel, by decide +kernel, by decide +kernel⟩⟩
set_option maxRecDepth 20000 in
theorem lm_L_94 : LkV RL 94 yX4_total cX4_total 2 (some .int) 1 := ⟨⟨(wsG_of 732 rfl rfl), (wsG_of 733 rfl rfl), (wsG_of 734 rfl rfl), (wsG_of 48 rfl rfl), (wsG_of 735 rfl rfl)⟩, ⟨by decide +kernel, by decide +kernel, by decide +kernel⟩⟩
set_option maxRecDepth 20000 in
theorem lm_X4_134 : LkV RX4 134 yX4_records cX4_records 4 (some .int) 1 := ⟨⟨(wsG_of 736 rfl rfl), (wsG_of 738 rfl rfl), (wsG_of 41 rfl rfl), (wsG_of 48 rfl rfl), (wsG_of 739 rfl rfl)⟩, ⟨by decide +kernel, by decide +kernel, by decide +kernel⟩⟩
set_option maxRecDepth 20000 in
theorem lm_X4_138 : LkV RX4 138 yX4_pagesOf cX4_pagesOf 4 (some .int) 1 := ⟨⟨(wsG_of 740 rfl rfl), (wsG_of 742 rfl rfl), (wsG_of 42 rfl rfl), (wsG_of 48 rfl rfl), (wsG_of 743 rfl rfl)⟩, ⟨by decide +kernel, by decide +kernel, by decide +kernel⟩⟩
