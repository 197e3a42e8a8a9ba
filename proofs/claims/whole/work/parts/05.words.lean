def LW : List Cond := lw_tbl.filter goodWord
set_option maxRecDepth 100000 in
theorem tw_32 : Cond.fieldLink RX2 7 "CompactDisc$Field" "powers" "[I" ∈ LW := List.mem_filter.mpr ⟨List.mem_append_right _ (List.mem_of_getElem? (i := 32) rfl), rfl⟩
set_option maxRecDepth 100000 in
theorem tw_33 : Cond.fieldLink RX2 13 "CompactDisc$Field" "logs" "[I" ∈ LW := List.mem_filter.mpr ⟨List.mem_append_right _ (List.mem_of_getElem? (i := 33) rfl), rfl⟩
set_option maxRecDepth 100000 in
theorem tw_46 : Cond.fieldLink RX7 9 "CompactDisc$Rows" "cells" "[B" ∈ LW := List.mem_filter.mpr ⟨List.mem_append_right _ (List.mem_of_getElem? (i := 46) rfl), rfl⟩
set_option maxRecDepth 100000 in
theorem tw_47 : Cond.fieldLink RX7 15 "CompactDisc$Rows" "marks" "[I" ∈ LW := List.mem_filter.mpr ⟨List.mem_append_right _ (List.mem_of_getElem? (i := 47) rfl), rfl⟩
set_option maxRecDepth 100000 in
theorem tw_60 : Cond.fieldLink RX1 9 "CompactDisc$Contents" "sections" "[I" ∈ LW := List.mem_filter.mpr ⟨List.mem_append_right _ (List.mem_of_getElem? (i := 60) rfl), rfl⟩
set_option maxRecDepth 100000 in
theorem tw_61 : Cond.fieldLink RX1 15 "CompactDisc$Contents" "controls" "[I" ∈ LW := List.mem_filter.mpr ⟨List.mem_append_right _ (List.mem_of_getElem? (i := 61) rfl), rfl⟩
set_option maxRecDepth 100000 in
theorem tw_62 : Cond.fieldLink RX1 18 "CompactDisc$Contents" "tracks" "[I" ∈ LW := List.mem_filter.mpr ⟨List.mem_append_right _ (List.mem_of_getElem? (i := 62) rfl), rfl⟩
set_option maxRecDepth 100000 in
theorem tw_63 : Cond.fieldLink RX1 21 "CompactDisc$Contents" "indexes" "[I" ∈ LW := List.mem_filter.mpr ⟨List.mem_append_right _ (List.mem_of_getElem? (i := 63) rfl), rfl⟩
set_option maxRecDepth 100000 in
theorem tw_64 : Cond.fieldLink RX1 28 "CompactDisc$Contents" "entries" "I" ∈ LW := List.mem_filter.mpr ⟨List.mem_append_right _ (List.mem_of_getElem? (i := 64) rfl), rfl⟩
set_option maxRecDepth 100000 in
theorem tw_65 : Cond.fieldLink RX1 24 "CompactDisc$Contents" "start" "I" ∈ LW := List.mem_filter.mpr ⟨List.mem_append_right _ (List.mem_of_getElem? (i := 65) rfl), rfl⟩
set_option maxRecDepth 100000 in
theorem tw_85 : Cond.fieldLink RX8 18 "CompactDisc$Speller" "WORDS" "[I" ∈ LW := List.mem_filter.mpr ⟨List.mem_append_right _ (List.mem_of_getElem? (i := 85) rfl), rfl⟩
set_option maxRecDepth 100000 in
theorem tw_87 : Cond.fieldLink RX8 9 "CompactDisc$Speller" "kinds" "[I" ∈ LW := List.mem_filter.mpr ⟨List.mem_append_right _ (List.mem_of_getElem? (i := 87) rfl), rfl⟩
set_option maxRecDepth 100000 in
theorem tw_88 : Cond.fieldLink RX8 15 "CompactDisc$Speller" "square" "[I" ∈ LW := List.mem_filter.mpr ⟨List.mem_append_right _ (List.mem_of_getElem? (i := 88) rfl), rfl⟩
set_option maxRecDepth 100000 in
theorem tw_100 : Cond.fieldLink RX0 24 "CompactDisc$Code" "field" "LCompactDisc$Field;" ∈ LW := List.mem_filter.mpr ⟨List.mem_append_right _ (List.mem_of_getElem? (i := 100) rfl), rfl⟩
set_option maxRecDepth 100000 in
theorem tw_101 : Cond.fieldLink RX0 28 "CompactDisc$Code" "size" "I" ∈ LW := List.mem_filter.mpr ⟨List.mem_append_right _ (List.mem_of_getElem? (i := 101) rfl), rfl⟩
set_option maxRecDepth 100000 in
theorem tw_102 : Cond.fieldLink RX0 32 "CompactDisc$Code" "firstCheck" "I" ∈ LW := List.mem_filter.mpr ⟨List.mem_append_right _ (List.mem_of_getElem? (i := 102) rfl), rfl⟩
set_option maxRecDepth 100000 in
theorem tw_103 : Cond.fieldLink RX0 9 "CompactDisc$Code" "sums" "[I" ∈ LW := List.mem_filter.mpr ⟨List.mem_append_right _ (List.mem_of_getElem? (i := 103) rfl), rfl⟩
set_option maxRecDepth 100000 in
theorem tw_104 : Cond.fieldLink RX0 15 "CompactDisc$Code" "spots" "[I" ∈ LW := List.mem_filter.mpr ⟨List.mem_append_right _ (List.mem_of_getElem? (i := 104) rfl), rfl⟩
set_option maxRecDepth 100000 in
theorem tw_105 : Cond.fieldLink RX0 39 "CompactDisc$Code" "spotted" "I" ∈ LW := List.mem_filter.mpr ⟨List.mem_append_right _ (List.mem_of_getElem? (i := 105) rfl), rfl⟩
set_option maxRecDepth 100000 in
theorem tw_106 : Cond.fieldLink RX0 18 "CompactDisc$Code" "locator" "[I" ∈ LW := List.mem_filter.mpr ⟨List.mem_append_right _ (List.mem_of_getElem? (i := 106) rfl), rfl⟩
set_option maxRecDepth 100000 in
theorem tw_107 : Cond.fieldLink RX0 21 "CompactDisc$Code" "rest" "[I" ∈ LW := List.mem_filter.mpr ⟨List.mem_append_right _ (List.mem_of_getElem? (i := 107) rfl), rfl⟩
set_option maxRecDepth 100000 in
theorem tw_131 : Cond.fieldLink RX3 9 "CompactDisc$Groove" "packed" "[I" ∈ LW := List.mem_filter.mpr ⟨List.mem_append_right _ (List.mem_of_getElem? (i := 131) rfl), rfl⟩
set_option maxRecDepth 100000 in
theorem tw_132 : Cond.fieldLink RX3 21 "CompactDisc$Groove" "size" "I" ∈ LW := List.mem_filter.mpr ⟨List.mem_append_right _ (List.mem_of_getElem? (i := 132) rfl), rfl⟩
set_option maxRecDepth 100000 in
theorem tw_133 : Cond.fieldLink RX3 25 "CompactDisc$Groove" "pressed" "I" ∈ LW := List.mem_filter.mpr ⟨List.mem_append_right _ (List.mem_of_getElem? (i := 133) rfl), rfl⟩
set_option maxRecDepth 100000 in
theorem tw_153 : Cond.fieldLink RX4 7 "CompactDisc$Label" "octets" "[I" ∈ LW := List.mem_filter.mpr ⟨List.mem_append_right _ (List.mem_of_getElem? (i := 153) rfl), rfl⟩
set_option maxRecDepth 100000 in
theorem tw_157 : Cond.fieldLink RX6 18 "CompactDisc$Presser" "rows" "LCompactDisc$Rows;" ∈ LW := List.mem_filter.mpr ⟨List.mem_append_right _ (List.mem_of_getElem? (i := 157) rfl), rfl⟩
set_option maxRecDepth 100000 in
theorem tw_158 : Cond.fieldLink RX6 22 "CompactDisc$Presser" "groove" "LCompactDisc$Groove;" ∈ LW := List.mem_filter.mpr ⟨List.mem_append_right _ (List.mem_of_getElem? (i := 158) rfl), rfl⟩
set_option maxRecDepth 100000 in
theorem tw_159 : Cond.fieldLink RX6 26 "CompactDisc$Presser" "speller" "LCompactDisc$Speller;" ∈ LW := List.mem_filter.mpr ⟨List.mem_append_right _ (List.mem_of_getElem? (i := 159) rfl), rfl⟩
set_option maxRecDepth 100000 in
theorem tw_160 : Cond.fieldLink RX6 30 "CompactDisc$Presser" "innerCode" "LCompactDisc$Code;" ∈ LW := List.mem_filter.mpr ⟨List.mem_append_right _ (List.mem_of_getElem? (i := 160) rfl), rfl⟩
set_option maxRecDepth 100000 in
theorem tw_161 : Cond.fieldLink RX6 34 "CompactDisc$Presser" "outerCode" "LCompactDisc$Code;" ∈ LW := List.mem_filter.mpr ⟨List.mem_append_right _ (List.mem_of_getElem? (i := 161) rfl), rfl⟩
set_option maxRecDepth 100000 in
theorem tw_162 : Cond.fieldLink RX6 37 "CompactDisc$Presser" "contents" "LCompactDisc$Contents;" ∈ LW := List.mem_filter.mpr ⟨List.mem_append_right _ (List.mem_of_getElem? (i := 162) rfl), rfl⟩
set_option maxRecDepth 100000 in
theorem tw_163 : Cond.fieldLink RX6 12 "CompactDisc$Presser" "label" "LCompactDisc$Label;" ∈ LW := List.mem_filter.mpr ⟨List.mem_append_right _ (List.mem_of_getElem? (i := 163) rfl), rfl⟩
set_option maxRecDepth 100000 in
theorem tw_164 : Cond.fieldLink RX6 122 "CompactDisc$Presser" "recent" "J" ∈ LW := List.mem_filter.mpr ⟨List.mem_append_right _ (List.mem_of_getElem? (i := 164) rfl), rfl⟩
set_option maxRecDepth 100000 in
theorem tw_165 : Cond.fieldLink RX6 126 "CompactDisc$Presser" "gap" "I" ∈ LW := List.mem_filter.mpr ⟨List.mem_append_right _ (List.mem_of_getElem? (i := 165) rfl), rfl⟩
set_option maxRecDepth 100000 in
theorem tw_166 : Cond.fieldLink RX6 130 "CompactDisc$Presser" "sum" "I" ∈ LW := List.mem_filter.mpr ⟨List.mem_append_right _ (List.mem_of_getElem? (i := 166) rfl), rfl⟩
set_option maxRecDepth 100000 in
theorem tw_167 : Cond.fieldLink RX6 133 "CompactDisc$Presser" "level" "I" ∈ LW := List.mem_filter.mpr ⟨List.mem_append_right _ (List.mem_of_getElem? (i := 167) rfl), rfl⟩
set_option maxRecDepth 100000 in
theorem tw_199 : Cond.fieldLink RX5 37 "CompactDisc$Player" "rows" "LCompactDisc$Rows;" ∈ LW := List.mem_filter.mpr ⟨List.mem_append_right _ (List.mem_of_getElem? (i := 199) rfl), rfl⟩
set_option maxRecDepth 100000 in
theorem tw_200 : Cond.fieldLink RX5 41 "CompactDisc$Player" "groove" "LCompactDisc$Groove;" ∈ LW := List.mem_filter.mpr ⟨List.mem_append_right _ (List.mem_of_getElem? (i := 200) rfl), rfl⟩
set_option maxRecDepth 100000 in
theorem tw_201 : Cond.fieldLink RX5 45 "CompactDisc$Player" "speller" "LCompactDisc$Speller;" ∈ LW := List.mem_filter.mpr ⟨List.mem_append_right _ (List.mem_of_getElem? (i := 201) rfl), rfl⟩
set_option maxRecDepth 100000 in
theorem tw_202 : Cond.fieldLink RX5 49 "CompactDisc$Player" "innerCode" "LCompactDisc$Code;" ∈ LW := List.mem_filter.mpr ⟨List.mem_append_right _ (List.mem_of_getElem? (i := 202) rfl), rfl⟩
set_option maxRecDepth 100000 in
theorem tw_203 : Cond.fieldLink RX5 53 "CompactDisc$Player" "outerCode" "LCompactDisc$Code;" ∈ LW := List.mem_filter.mpr ⟨List.mem_append_right _ (List.mem_of_getElem? (i := 203) rfl), rfl⟩
set_option maxRecDepth 100000 in
theorem tw_204 : Cond.fieldLink RX5 12 "CompactDisc$Player" "label" "LCompactDisc$Label;" ∈ LW := List.mem_filter.mpr ⟨List.mem_append_right _ (List.mem_of_getElem? (i := 204) rfl), rfl⟩
set_option maxRecDepth 100000 in
theorem tw_205 : Cond.fieldLink RX5 18 "CompactDisc$Player" "starts" "[I" ∈ LW := List.mem_filter.mpr ⟨List.mem_append_right _ (List.mem_of_getElem? (i := 205) rfl), rfl⟩
set_option maxRecDepth 100000 in
theorem tw_206 : Cond.fieldLink RX5 22 "CompactDisc$Player" "besides" "[I" ∈ LW := List.mem_filter.mpr ⟨List.mem_append_right _ (List.mem_of_getElem? (i := 206) rfl), rfl⟩
set_option maxRecDepth 100000 in
theorem tw_207 : Cond.fieldLink RX5 25 "CompactDisc$Player" "innerFates" "[I" ∈ LW := List.mem_filter.mpr ⟨List.mem_append_right _ (List.mem_of_getElem? (i := 207) rfl), rfl⟩
set_option maxRecDepth 100000 in
theorem tw_208 : Cond.fieldLink RX5 28 "CompactDisc$Player" "outerFates" "[I" ∈ LW := List.mem_filter.mpr ⟨List.mem_append_right _ (List.mem_of_getElem? (i := 208) rfl), rfl⟩
set_option maxRecDepth 100000 in
theorem tw_209 : Cond.fieldLink RX5 31 "CompactDisc$Player" "samples" "[I" ∈ LW := List.mem_filter.mpr ⟨List.mem_append_right _ (List.mem_of_getElem? (i := 209) rfl), rfl⟩
set_option maxRecDepth 100000 in
theorem tw_210 : Cond.fieldLink RX5 34 "CompactDisc$Player" "tallies" "[I" ∈ LW := List.mem_filter.mpr ⟨List.mem_append_right _ (List.mem_of_getElem? (i := 210) rfl), rfl⟩
set_option maxRecDepth 100000 in
theorem tw_211 : Cond.fieldLink RX5 56 "CompactDisc$Player" "done" "Z" ∈ LW := List.mem_filter.mpr ⟨List.mem_append_right _ (List.mem_of_getElem? (i := 211) rfl), rfl⟩
set_option maxRecDepth 100000 in
theorem tw_212 : Cond.fieldLink RX5 80 "CompactDisc$Player" "found" "I" ∈ LW := List.mem_filter.mpr ⟨List.mem_append_right _ (List.mem_of_getElem? (i := 212) rfl), rfl⟩
set_option maxRecDepth 100000 in
theorem tw_213 : Cond.fieldLink RX5 72 "CompactDisc$Player" "streamFrames" "I" ∈ LW := List.mem_filter.mpr ⟨List.mem_append_right _ (List.mem_of_getElem? (i := 213) rfl), rfl⟩
set_option maxRecDepth 100000 in
theorem tw_245 : Cond.fieldLink RX9 15 "CompactDisc" "stream" "[B" ∈ LW := List.mem_filter.mpr ⟨List.mem_append_right _ (List.mem_of_getElem? (i := 245) rfl), rfl⟩
set_option maxRecDepth 100000 in
theorem tw_246 : Cond.fieldLink RX9 73 "CompactDisc" "fed" "I" ∈ LW := List.mem_filter.mpr ⟨List.mem_append_right _ (List.mem_of_getElem? (i := 246) rfl), rfl⟩
set_option maxRecDepth 100000 in
theorem tw_247 : Cond.fieldLink RX9 22 "CompactDisc" "contents" "LCompactDisc$Contents;" ∈ LW := List.mem_filter.mpr ⟨List.mem_append_right _ (List.mem_of_getElem? (i := 247) rfl), rfl⟩
set_option maxRecDepth 100000 in
theorem tw_248 : Cond.fieldLink RX9 29 "CompactDisc" "speller" "LCompactDisc$Speller;" ∈ LW := List.mem_filter.mpr ⟨List.mem_append_right _ (List.mem_of_getElem? (i := 248) rfl), rfl⟩
set_option maxRecDepth 100000 in
theorem tw_249 : Cond.fieldLink RX9 38 "CompactDisc" "innerCode" "LCompactDisc$Code;" ∈ LW := List.mem_filter.mpr ⟨List.mem_append_right _ (List.mem_of_getElem? (i := 249) rfl), rfl⟩
set_option maxRecDepth 100000 in
theorem tw_250 : Cond.fieldLink RX9 42 "CompactDisc" "outerCode" "LCompactDisc$Code;" ∈ LW := List.mem_filter.mpr ⟨List.mem_append_right _ (List.mem_of_getElem? (i := 250) rfl), rfl⟩
set_option maxRecDepth 100000 in
theorem tw_251 : Cond.fieldLink RX9 48 "CompactDisc" "groove" "LCompactDisc$Groove;" ∈ LW := List.mem_filter.mpr ⟨List.mem_append_right _ (List.mem_of_getElem? (i := 251) rfl), rfl⟩
set_option maxRecDepth 100000 in
theorem tw_252 : Cond.fieldLink RX9 57 "CompactDisc" "presser" "LCompactDisc$Presser;" ∈ LW := List.mem_filter.mpr ⟨List.mem_append_right _ (List.mem_of_getElem? (i := 252) rfl), rfl⟩
set_option maxRecDepth 100000 in
theorem tw_253 : Cond.fieldLink RX9 66 "CompactDisc" "player" "LCompactDisc$Player;" ∈ LW := List.mem_filter.mpr ⟨List.mem_append_right _ (List.mem_of_getElem? (i := 253) rfl), rfl⟩
set_option maxRecDepth 100000 in
theorem tw_254 : Cond.fieldLink RX9 70 "CompactDisc" "bench" "[B" ∈ LW := List.mem_filter.mpr ⟨List.mem_append_right _ (List.mem_of_getElem? (i := 254) rfl), rfl⟩
set_option maxRecDepth 100000 in
theorem tw_255 : Cond.fieldLink RX9 204 "CompactDisc" "benchMarks" "I" ∈ LW := List.mem_filter.mpr ⟨List.mem_append_right _ (List.mem_of_getElem? (i := 255) rfl), rfl⟩
set_option maxRecDepth 100000 in
theorem tw_1019 : Cond.fieldLink RX10 100 "CompactDiscModel" "thrown" "I" ∈ LW := List.mem_filter.mpr ⟨List.mem_append_right _ (List.mem_of_getElem? (i := 1019) rfl), rfl⟩
set_option maxRecDepth 100000 in
theorem tw_1020 : Cond.fieldLink RX10 7 "CompactDiscModel" "words" "[I" ∈ LW := List.mem_filter.mpr ⟨List.mem_append_right _ (List.mem_of_getElem? (i := 1020) rfl), rfl⟩
set_option maxRecDepth 100000 in
theorem tw_1021 : Cond.fieldLink RX10 13 "CompactDiscModel" "bytesOf" "[I" ∈ LW := List.mem_filter.mpr ⟨List.mem_append_right _ (List.mem_of_getElem? (i := 1021) rfl), rfl⟩
set_option maxRecDepth 100000 in
theorem tw_1022 : Cond.fieldLink RX10 16 "CompactDiscModel" "powers" "[I" ∈ LW := List.mem_filter.mpr ⟨List.mem_append_right _ (List.mem_of_getElem? (i := 1022) rfl), rfl⟩
set_option maxRecDepth 100000 in
theorem tw_1023 : Cond.fieldLink RX10 19 "CompactDiscModel" "logs" "[I" ∈ LW := List.mem_filter.mpr ⟨List.mem_append_right _ (List.mem_of_getElem? (i := 1023) rfl), rfl⟩
set_option maxRecDepth 100000 in
theorem tw_1024 : Cond.fieldLink RX10 22 "CompactDiscModel" "stream" "[B" ∈ LW := List.mem_filter.mpr ⟨List.mem_append_right _ (List.mem_of_getElem? (i := 1024) rfl), rfl⟩
set_option maxRecDepth 100000 in
theorem tw_1025 : Cond.fieldLink RX10 148 "CompactDiscModel" "size" "I" ∈ LW := List.mem_filter.mpr ⟨List.mem_append_right _ (List.mem_of_getElem? (i := 1025) rfl), rfl⟩
set_option maxRecDepth 100000 in
theorem tw_1026 : Cond.fieldLink RX10 157 "CompactDiscModel" "begins" "I" ∈ LW := List.mem_filter.mpr ⟨List.mem_append_right _ (List.mem_of_getElem? (i := 1026) rfl), rfl⟩
set_option maxRecDepth 100000 in
theorem tw_1027 : Cond.fieldLink RX10 166 "CompactDiscModel" "entries" "I" ∈ LW := List.mem_filter.mpr ⟨List.mem_append_right _ (List.mem_of_getElem? (i := 1027) rfl), rfl⟩
set_option maxRecDepth 100000 in
theorem tw_1028 : Cond.fieldLink RX10 26 "CompactDiscModel" "entrySection" "[I" ∈ LW := List.mem_filter.mpr ⟨List.mem_append_right _ (List.mem_of_getElem? (i := 1028) rfl), rfl⟩
set_option maxRecDepth 100000 in
theorem tw_1029 : Cond.fieldLink RX10 29 "CompactDiscModel" "entryControl" "[I" ∈ LW := List.mem_filter.mpr ⟨List.mem_append_right _ (List.mem_of_getElem? (i := 1029) rfl), rfl⟩
set_option maxRecDepth 100000 in
theorem tw_1030 : Cond.fieldLink RX10 32 "CompactDiscModel" "entryTrack" "[I" ∈ LW := List.mem_filter.mpr ⟨List.mem_append_right _ (List.mem_of_getElem? (i := 1030) rfl), rfl⟩
set_option maxRecDepth 100000 in
theorem tw_1031 : Cond.fieldLink RX10 35 "CompactDiscModel" "entryIndex" "[I" ∈ LW := List.mem_filter.mpr ⟨List.mem_append_right _ (List.mem_of_getElem? (i := 1031) rfl), rfl⟩
set_option maxRecDepth 100000 in
theorem tw_1032 : Cond.fieldLink RX10 39 "CompactDiscModel" "bits" "[B" ∈ LW := List.mem_filter.mpr ⟨List.mem_append_right _ (List.mem_of_getElem? (i := 1032) rfl), rfl⟩
set_option maxRecDepth 100000 in
theorem tw_1033 : Cond.fieldLink RX10 185 "CompactDiscModel" "length" "I" ∈ LW := List.mem_filter.mpr ⟨List.mem_append_right _ (List.mem_of_getElem? (i := 1033) rfl), rfl⟩
set_option maxRecDepth 100000 in
theorem tw_1034 : Cond.fieldLink RX10 231 "CompactDiscModel" "pressed" "I" ∈ LW := List.mem_filter.mpr ⟨List.mem_append_right _ (List.mem_of_getElem? (i := 1034) rfl), rfl⟩
set_option maxRecDepth 100000 in
theorem tw_1035 : Cond.fieldLink RX10 169 "CompactDiscModel" "streamFrames" "I" ∈ LW := List.mem_filter.mpr ⟨List.mem_append_right _ (List.mem_of_getElem? (i := 1035) rfl), rfl⟩
set_option maxRecDepth 100000 in
theorem tw_1036 : Cond.fieldLink RX10 188 "CompactDiscModel" "zeros" "I" ∈ LW := List.mem_filter.mpr ⟨List.mem_append_right _ (List.mem_of_getElem? (i := 1036) rfl), rfl⟩
set_option maxRecDepth 100000 in
theorem tw_1037 : Cond.fieldLink RX10 191 "CompactDiscModel" "level" "I" ∈ LW := List.mem_filter.mpr ⟨List.mem_append_right _ (List.mem_of_getElem? (i := 1037) rfl), rfl⟩
set_option maxRecDepth 100000 in
theorem tw_1038 : Cond.fieldLink RX10 194 "CompactDiscModel" "sum" "I" ∈ LW := List.mem_filter.mpr ⟨List.mem_append_right _ (List.mem_of_getElem? (i := 1038) rfl), rfl⟩
set_option maxRecDepth 100000 in
theorem tw_1039 : Cond.fieldLink RX10 197 "CompactDiscModel" "tail" "I" ∈ LW := List.mem_filter.mpr ⟨List.mem_append_right _ (List.mem_of_getElem? (i := 1039) rfl), rfl⟩
set_option maxRecDepth 100000 in
theorem tw_1040 : Cond.fieldLink RX10 42 "CompactDiscModel" "channel" "[I" ∈ LW := List.mem_filter.mpr ⟨List.mem_append_right _ (List.mem_of_getElem? (i := 1040) rfl), rfl⟩
set_option maxRecDepth 100000 in
theorem tw_1041 : Cond.fieldLink RX10 45 "CompactDiscModel" "word" "[I" ∈ LW := List.mem_filter.mpr ⟨List.mem_append_right _ (List.mem_of_getElem? (i := 1041) rfl), rfl⟩
set_option maxRecDepth 100000 in
theorem tw_1042 : Cond.fieldLink RX10 48 "CompactDiscModel" "marked" "[Z" ∈ LW := List.mem_filter.mpr ⟨List.mem_append_right _ (List.mem_of_getElem? (i := 1042) rfl), rfl⟩
set_option maxRecDepth 100000 in
theorem tw_1043 : Cond.fieldLink RX10 52 "CompactDiscModel" "syndromes" "[I" ∈ LW := List.mem_filter.mpr ⟨List.mem_append_right _ (List.mem_of_getElem? (i := 1043) rfl), rfl⟩
set_option maxRecDepth 100000 in
theorem tw_1044 : Cond.fieldLink RX10 55 "CompactDiscModel" "places" "[I" ∈ LW := List.mem_filter.mpr ⟨List.mem_append_right _ (List.mem_of_getElem? (i := 1044) rfl), rfl⟩
set_option maxRecDepth 100000 in
theorem tw_1045 : Cond.fieldLink RX10 58 "CompactDiscModel" "values" "[I" ∈ LW := List.mem_filter.mpr ⟨List.mem_append_right _ (List.mem_of_getElem? (i := 1045) rfl), rfl⟩
set_option maxRecDepth 100000 in
theorem tw_1046 : Cond.fieldLink RX10 61 "CompactDiscModel" "rows" "[I" ∈ LW := List.mem_filter.mpr ⟨List.mem_append_right _ (List.mem_of_getElem? (i := 1046) rfl), rfl⟩
set_option maxRecDepth 100000 in
theorem tw_1047 : Cond.fieldLink RX10 64 "CompactDiscModel" "inners" "[I" ∈ LW := List.mem_filter.mpr ⟨List.mem_append_right _ (List.mem_of_getElem? (i := 1047) rfl), rfl⟩
set_option maxRecDepth 100000 in
theorem tw_1048 : Cond.fieldLink RX10 67 "CompactDiscModel" "innerMarks" "[Z" ∈ LW := List.mem_filter.mpr ⟨List.mem_append_right _ (List.mem_of_getElem? (i := 1048) rfl), rfl⟩
set_option maxRecDepth 100000 in
theorem tw_1049 : Cond.fieldLink RX10 70 "CompactDiscModel" "innerTold" "[I" ∈ LW := List.mem_filter.mpr ⟨List.mem_append_right _ (List.mem_of_getElem? (i := 1049) rfl), rfl⟩
set_option maxRecDepth 100000 in
theorem tw_1050 : Cond.fieldLink RX10 73 "CompactDiscModel" "outers" "[I" ∈ LW := List.mem_filter.mpr ⟨List.mem_append_right _ (List.mem_of_getElem? (i := 1050) rfl), rfl⟩
set_option maxRecDepth 100000 in
theorem tw_1051 : Cond.fieldLink RX10 76 "CompactDiscModel" "outerMarks" "[Z" ∈ LW := List.mem_filter.mpr ⟨List.mem_append_right _ (List.mem_of_getElem? (i := 1051) rfl), rfl⟩
set_option maxRecDepth 100000 in
theorem tw_1052 : Cond.fieldLink RX10 79 "CompactDiscModel" "outerTold" "[I" ∈ LW := List.mem_filter.mpr ⟨List.mem_append_right _ (List.mem_of_getElem? (i := 1052) rfl), rfl⟩
set_option maxRecDepth 100000 in
theorem tw_1053 : Cond.fieldLink RX10 250 "CompactDiscModel" "isPlayed" "Z" ∈ LW := List.mem_filter.mpr ⟨List.mem_append_right _ (List.mem_of_getElem? (i := 1053) rfl), rfl⟩
set_option maxRecDepth 100000 in
theorem tw_1054 : Cond.fieldLink RX10 296 "CompactDiscModel" "found" "I" ∈ LW := List.mem_filter.mpr ⟨List.mem_append_right _ (List.mem_of_getElem? (i := 1054) rfl), rfl⟩
set_option maxRecDepth 100000 in
theorem tw_1055 : Cond.fieldLink RX10 82 "CompactDiscModel" "foundAt" "[I" ∈ LW := List.mem_filter.mpr ⟨List.mem_append_right _ (List.mem_of_getElem? (i := 1055) rfl), rfl⟩
set_option maxRecDepth 100000 in
theorem tw_1056 : Cond.fieldLink RX10 85 "CompactDiscModel" "beside" "[I" ∈ LW := List.mem_filter.mpr ⟨List.mem_append_right _ (List.mem_of_getElem? (i := 1056) rfl), rfl⟩
set_option maxRecDepth 100000 in
theorem tw_1057 : Cond.fieldLink RX10 321 "CompactDiscModel" "strange" "I" ∈ LW := List.mem_filter.mpr ⟨List.mem_append_right _ (List.mem_of_getElem? (i := 1057) rfl), rfl⟩
set_option maxRecDepth 100000 in
theorem tw_1058 : Cond.fieldLink RX10 305 "CompactDiscModel" "innerFails" "I" ∈ LW := List.mem_filter.mpr ⟨List.mem_append_right _ (List.mem_of_getElem? (i := 1058) rfl), rfl⟩
set_option maxRecDepth 100000 in
theorem tw_1059 : Cond.fieldLink RX10 311 "CompactDiscModel" "outerFails" "I" ∈ LW := List.mem_filter.mpr ⟨List.mem_append_right _ (List.mem_of_getElem? (i := 1059) rfl), rfl⟩
set_option maxRecDepth 100000 in
theorem tw_1060 : Cond.fieldLink RX10 308 "CompactDiscModel" "mostMarks" "I" ∈ LW := List.mem_filter.mpr ⟨List.mem_append_right _ (List.mem_of_getElem? (i := 1060) rfl), rfl⟩
set_option maxRecDepth 100000 in
theorem tw_1061 : Cond.fieldLink RX10 88 "CompactDiscModel" "got" "[I" ∈ LW := List.mem_filter.mpr ⟨List.mem_append_right _ (List.mem_of_getElem? (i := 1061) rfl), rfl⟩
set_option maxRecDepth 100000 in
theorem tw_1062 : Cond.fieldLink RX10 91 "CompactDiscModel" "sure" "[Z" ∈ LW := List.mem_filter.mpr ⟨List.mem_append_right _ (List.mem_of_getElem? (i := 1062) rfl), rfl⟩
set_option maxRecDepth 100000 in
theorem tw_1063 : Cond.fieldLink RX10 314 "CompactDiscModel" "unsure" "I" ∈ LW := List.mem_filter.mpr ⟨List.mem_append_right _ (List.mem_of_getElem? (i := 1063) rfl), rfl⟩
set_option maxRecDepth 100000 in
theorem tw_1064 : Cond.fieldLink RX10 94 "CompactDiscModel" "bench" "[I" ∈ LW := List.mem_filter.mpr ⟨List.mem_append_right _ (List.mem_of_getElem? (i := 1064) rfl), rfl⟩
set_option maxRecDepth 100000 in
theorem tw_1065 : Cond.fieldLink RX10 97 "CompactDiscModel" "benchMarks" "[Z" ∈ LW := List.mem_filter.mpr ⟨List.mem_append_right _ (List.mem_of_getElem? (i := 1065) rfl), rfl⟩
set_option maxRecDepth 100000 in
theorem tw_1066 : Cond.fieldLink RX10 201 "CompactDiscModel" "may" "Z" ∈ LW := List.mem_filter.mpr ⟨List.mem_append_right _ (List.mem_of_getElem? (i := 1066) rfl), rfl⟩
set_option maxRecDepth 100000 in
theorem tw_1067 : Cond.fieldLink RX10 205 "CompactDiscModel" "mocks" "Z" ∈ LW := List.mem_filter.mpr ⟨List.mem_append_right _ (List.mem_of_getElem? (i := 1067) rfl), rfl⟩
set_option maxRecDepth 100000 in
theorem tw_1068 : Cond.fieldLink RX10 208 "CompactDiscModel" "sumThen" "I" ∈ LW := List.mem_filter.mpr ⟨List.mem_append_right _ (List.mem_of_getElem? (i := 1068) rfl), rfl⟩
set_option maxRecDepth 100000 in
theorem tw_17 : Cond.methodLink RL 9 yX9_init ∈ LW := List.mem_filter.mpr ⟨List.mem_append_right _ (List.mem_of_getElem? (i := 17) rfl), rfl⟩
set_option maxRecDepth 100000 in
theorem tw_20 : Cond.methodLink RX9 3 objectInit ∈ LW := List.mem_filter.mpr ⟨List.mem_append_right _ (List.mem_of_getElem? (i := 20) rfl), rfl⟩
set_option maxRecDepth 100000 in
theorem tw_25 : Cond.methodLink RX9 11 yX2_init ∈ LW := List.mem_filter.mpr ⟨List.mem_append_right _ (List.mem_of_getElem? (i := 25) rfl), rfl⟩
set_option maxRecDepth 100000 in
theorem tw_28 : Cond.methodLink RX2 1 objectInit ∈ LW := List.mem_filter.mpr ⟨List.mem_append_right _ (List.mem_of_getElem? (i := 28) rfl), rfl⟩
set_option maxRecDepth 100000 in
theorem tw_29 : Cond.methodLink RX2 16 yX2_twice ∈ LW := List.mem_filter.mpr ⟨List.mem_append_right _ (List.mem_of_getElem? (i := 29) rfl), rfl⟩
set_option maxRecDepth 100000 in
theorem tw_45 : Cond.methodLink RX7 3 objectInit ∈ LW := List.mem_filter.mpr ⟨List.mem_append_right _ (List.mem_of_getElem? (i := 45) rfl), rfl⟩
set_option maxRecDepth 100000 in
theorem tw_59 : Cond.methodLink RX1 3 objectInit ∈ LW := List.mem_filter.mpr ⟨List.mem_append_right _ (List.mem_of_getElem? (i := 59) rfl), rfl⟩
set_option maxRecDepth 100000 in
theorem tw_81 : Cond.methodLink RX9 28 yX8_init ∈ LW := List.mem_filter.mpr ⟨List.mem_append_right _ (List.mem_of_getElem? (i := 81) rfl), rfl⟩
set_option maxRecDepth 100000 in
theorem tw_84 : Cond.methodLink RX8 3 objectInit ∈ LW := List.mem_filter.mpr ⟨List.mem_append_right _ (List.mem_of_getElem? (i := 84) rfl), rfl⟩
set_option maxRecDepth 100000 in
theorem tw_96 : Cond.methodLink RX9 35 yX0_init ∈ LW := List.mem_filter.mpr ⟨List.mem_append_right _ (List.mem_of_getElem? (i := 96) rfl), rfl⟩
set_option maxRecDepth 100000 in
theorem tw_99 : Cond.methodLink RX0 3 objectInit ∈ LW := List.mem_filter.mpr ⟨List.mem_append_right _ (List.mem_of_getElem? (i := 99) rfl), rfl⟩
set_option maxRecDepth 100000 in
theorem tw_130 : Cond.methodLink RX3 3 objectInit ∈ LW := List.mem_filter.mpr ⟨List.mem_append_right _ (List.mem_of_getElem? (i := 130) rfl), rfl⟩
set_option maxRecDepth 100000 in
theorem tw_143 : Cond.methodLink RX9 54 yX6_init ∈ LW := List.mem_filter.mpr ⟨List.mem_append_right _ (List.mem_of_getElem? (i := 143) rfl), rfl⟩
set_option maxRecDepth 100000 in
theorem tw_146 : Cond.methodLink RX6 3 objectInit ∈ LW := List.mem_filter.mpr ⟨List.mem_append_right _ (List.mem_of_getElem? (i := 146) rfl), rfl⟩
set_option maxRecDepth 100000 in
theorem tw_152 : Cond.methodLink RX4 1 objectInit ∈ LW := List.mem_filter.mpr ⟨List.mem_append_right _ (List.mem_of_getElem? (i := 152) rfl), rfl⟩
set_option maxRecDepth 100000 in
theorem tw_193 : Cond.methodLink RX9 63 yX5_init ∈ LW := List.mem_filter.mpr ⟨List.mem_append_right _ (List.mem_of_getElem? (i := 193) rfl), rfl⟩
set_option maxRecDepth 100000 in
theorem tw_196 : Cond.methodLink RX5 3 objectInit ∈ LW := List.mem_filter.mpr ⟨List.mem_append_right _ (List.mem_of_getElem? (i := 196) rfl), rfl⟩
set_option maxRecDepth 100000 in
theorem tw_279 : Cond.methodLink RL 15 yX9_feed ∈ LW := List.mem_filter.mpr ⟨List.mem_append_right _ (List.mem_of_getElem? (i := 279) rfl), rfl⟩
set_option maxRecDepth 100000 in
theorem tw_283 : Cond.methodLink RX9 77 yX9_addByte ∈ LW := List.mem_filter.mpr ⟨List.mem_append_right _ (List.mem_of_getElem? (i := 283) rfl), rfl⟩
set_option maxRecDepth 100000 in
theorem tw_287 : Cond.methodLink RL 20 yX9_fill ∈ LW := List.mem_filter.mpr ⟨List.mem_append_right _ (List.mem_of_getElem? (i := 287) rfl), rfl⟩
set_option maxRecDepth 100000 in
theorem tw_291 : Cond.methodLink RX9 81 yX9_nextNoise ∈ LW := List.mem_filter.mpr ⟨List.mem_append_right _ (List.mem_of_getElem? (i := 291) rfl), rfl⟩
set_option maxRecDepth 100000 in
theorem tw_296 : Cond.methodLink RL 25 yX9_wipe ∈ LW := List.mem_filter.mpr ⟨List.mem_append_right _ (List.mem_of_getElem? (i := 296) rfl), rfl⟩
set_option maxRecDepth 100000 in
theorem tw_300 : Cond.methodLink RL 30 yX9_streamAt ∈ LW := List.mem_filter.mpr ⟨List.mem_append_right _ (List.mem_of_getElem? (i := 300) rfl), rfl⟩
set_option maxRecDepth 100000 in
theorem tw_304 : Cond.methodLink RL 35 yX9_begin ∈ LW := List.mem_filter.mpr ⟨List.mem_append_right _ (List.mem_of_getElem? (i := 304) rfl), rfl⟩
set_option maxRecDepth 100000 in
theorem tw_309 : Cond.methodLink RX9 88 yX1_startAt ∈ LW := List.mem_filter.mpr ⟨List.mem_append_right _ (List.mem_of_getElem? (i := 309) rfl), rfl⟩
set_option maxRecDepth 100000 in
theorem tw_313 : Cond.methodLink RL 40 yX9_entry ∈ LW := List.mem_filter.mpr ⟨List.mem_append_right _ (List.mem_of_getElem? (i := 313) rfl), rfl⟩
set_option maxRecDepth 100000 in
theorem tw_317 : Cond.methodLink RX9 91 yX1_add ∈ LW := List.mem_filter.mpr ⟨List.mem_append_right _ (List.mem_of_getElem? (i := 317) rfl), rfl⟩
set_option maxRecDepth 100000 in
theorem tw_321 : Cond.methodLink RL 45 yX9_plain ∈ LW := List.mem_filter.mpr ⟨List.mem_append_right _ (List.mem_of_getElem? (i := 321) rfl), rfl⟩
set_option maxRecDepth 100000 in
theorem tw_325 : Cond.methodLink RX9 95 yX1_clear ∈ LW := List.mem_filter.mpr ⟨List.mem_append_right _ (List.mem_of_getElem? (i := 325) rfl), rfl⟩
set_option maxRecDepth 100000 in
theorem tw_329 : Cond.methodLink RL 49 yX9_press ∈ LW := List.mem_filter.mpr ⟨List.mem_append_right _ (List.mem_of_getElem? (i := 329) rfl), rfl⟩
set_option maxRecDepth 100000 in
theorem tw_333 : Cond.methodLink RX9 99 yX5_forget ∈ LW := List.mem_filter.mpr ⟨List.mem_append_right _ (List.mem_of_getElem? (i := 333) rfl), rfl⟩
set_option maxRecDepth 100000 in
theorem tw_337 : Cond.methodLink RX9 102 yX6_pressStream ∈ LW := List.mem_filter.mpr ⟨List.mem_append_right _ (List.mem_of_getElem? (i := 337) rfl), rfl⟩
set_option maxRecDepth 100000 in
theorem tw_341 : Cond.methodLink RX6 41 yX3_reset ∈ LW := List.mem_filter.mpr ⟨List.mem_append_right _ (List.mem_of_getElem? (i := 341) rfl), rfl⟩
set_option maxRecDepth 100000 in
theorem tw_345 : Cond.methodLink RX3 15 yJ7_fill_53178 ∈ LW := List.mem_filter.mpr ⟨List.mem_append_right _ (List.mem_of_getElem? (i := 345) rfl), rfl⟩
set_option maxRecDepth 100000 in
theorem tw_348 : Cond.methodLink RX6 47 yX7_empty ∈ LW := List.mem_filter.mpr ⟨List.mem_append_right _ (List.mem_of_getElem? (i := 348) rfl), rfl⟩
set_option maxRecDepth 100000 in
theorem tw_352 : Cond.methodLink RX7 19 yJ7_fill_031fb ∈ LW := List.mem_filter.mpr ⟨List.mem_append_right _ (List.mem_of_getElem? (i := 352) rfl), rfl⟩
set_option maxRecDepth 100000 in
theorem tw_355 : Cond.methodLink RX7 25 yJ7_fill_53178 ∈ LW := List.mem_filter.mpr ⟨List.mem_append_right _ (List.mem_of_getElem? (i := 355) rfl), rfl⟩
set_option maxRecDepth 100000 in
theorem tw_356 : Cond.methodLink RX6 52 yX6_makeOuterWords ∈ LW := List.mem_filter.mpr ⟨List.mem_append_right _ (List.mem_of_getElem? (i := 356) rfl), rfl⟩
set_option maxRecDepth 100000 in
theorem tw_360 : Cond.methodLink RX6 65 yX7_lagOf ∈ LW := List.mem_filter.mpr ⟨List.mem_append_right _ (List.mem_of_getElem? (i := 360) rfl), rfl⟩
set_option maxRecDepth 100000 in
theorem tw_363 : Cond.methodLink RX6 69 yX7_placeOf ∈ LW := List.mem_filter.mpr ⟨List.mem_append_right _ (List.mem_of_getElem? (i := 363) rfl), rfl⟩
set_option maxRecDepth 100000 in
theorem tw_366 : Cond.methodLink RX6 72 yX7_set ∈ LW := List.mem_filter.mpr ⟨List.mem_append_right _ (List.mem_of_getElem? (i := 366) rfl), rfl⟩
set_option maxRecDepth 100000 in
theorem tw_370 : Cond.methodLink RX7 28 yX7_isCell ∈ LW := List.mem_filter.mpr ⟨List.mem_append_right _ (List.mem_of_getElem? (i := 370) rfl), rfl⟩
set_option maxRecDepth 100000 in
theorem tw_373 : Cond.methodLink RX6 76 yX7_cells ∈ LW := List.mem_filter.mpr ⟨List.mem_append_right _ (List.mem_of_getElem? (i := 373) rfl), rfl⟩
set_option maxRecDepth 100000 in
theorem tw_377 : Cond.methodLink RX6 80 yX7_startOf ∈ LW := List.mem_filter.mpr ⟨List.mem_append_right _ (List.mem_of_getElem? (i := 377) rfl), rfl⟩
set_option maxRecDepth 100000 in
theorem tw_381 : Cond.methodLink RX6 83 yX0_settle ∈ LW := List.mem_filter.mpr ⟨List.mem_append_right _ (List.mem_of_getElem? (i := 381) rfl), rfl⟩
set_option maxRecDepth 100000 in
theorem tw_385 : Cond.methodLink RX0 35 yX0_sumUp ∈ LW := List.mem_filter.mpr ⟨List.mem_append_right _ (List.mem_of_getElem? (i := 385) rfl), rfl⟩
set_option maxRecDepth 100000 in
theorem tw_389 : Cond.methodLink RX0 69 yX0_fits ∈ LW := List.mem_filter.mpr ⟨List.mem_append_right _ (List.mem_of_getElem? (i := 389) rfl), rfl⟩
set_option maxRecDepth 100000 in
theorem tw_393 : Cond.methodLink RX0 73 yX2_twice ∈ LW := List.mem_filter.mpr ⟨List.mem_append_right _ (List.mem_of_getElem? (i := 393) rfl), rfl⟩
set_option maxRecDepth 100000 in
theorem tw_394 : Cond.methodLink RX0 42 yX0_addSpot ∈ LW := List.mem_filter.mpr ⟨List.mem_append_right _ (List.mem_of_getElem? (i := 394) rfl), rfl⟩
set_option maxRecDepth 100000 in
theorem tw_398 : Cond.methodLink RX0 46 yX0_correct ∈ LW := List.mem_filter.mpr ⟨List.mem_append_right _ (List.mem_of_getElem? (i := 398) rfl), rfl⟩
set_option maxRecDepth 100000 in
theorem tw_402 : Cond.methodLink RX0 78 yX0_spread ∈ LW := List.mem_filter.mpr ⟨List.mem_append_right _ (List.mem_of_getElem? (i := 402) rfl), rfl⟩
set_option maxRecDepth 100000 in
theorem tw_406 : Cond.methodLink RX0 103 yJ7_fill_53178 ∈ LW := List.mem_filter.mpr ⟨List.mem_append_right _ (List.mem_of_getElem? (i := 406) rfl), rfl⟩
set_option maxRecDepth 100000 in
theorem tw_407 : Cond.methodLink RX0 100 yX2_power ∈ LW := List.mem_filter.mpr ⟨List.mem_append_right _ (List.mem_of_getElem? (i := 407) rfl), rfl⟩
set_option maxRecDepth 100000 in
theorem tw_411 : Cond.methodLink RX0 91 yX2_times ∈ LW := List.mem_filter.mpr ⟨List.mem_append_right _ (List.mem_of_getElem? (i := 411) rfl), rfl⟩
set_option maxRecDepth 100000 in
theorem tw_415 : Cond.methodLink RX0 81 yX0_without ∈ LW := List.mem_filter.mpr ⟨List.mem_append_right _ (List.mem_of_getElem? (i := 415) rfl), rfl⟩
set_option maxRecDepth 100000 in
theorem tw_419 : Cond.methodLink RX0 94 yX2_over ∈ LW := List.mem_filter.mpr ⟨List.mem_append_right _ (List.mem_of_getElem? (i := 419) rfl), rfl⟩
set_option maxRecDepth 100000 in
theorem tw_423 : Cond.methodLink RX6 56 yX6_makeInnerWords ∈ LW := List.mem_filter.mpr ⟨List.mem_append_right _ (List.mem_of_getElem? (i := 423) rfl), rfl⟩
set_option maxRecDepth 100000 in
theorem tw_427 : Cond.methodLink RX6 89 yX7_get ∈ LW := List.mem_filter.mpr ⟨List.mem_append_right _ (List.mem_of_getElem? (i := 427) rfl), rfl⟩
set_option maxRecDepth 100000 in
theorem tw_431 : Cond.methodLink RX6 59 yX6_makeFrames ∈ LW := List.mem_filter.mpr ⟨List.mem_append_right _ (List.mem_of_getElem? (i := 431) rfl), rfl⟩
set_option maxRecDepth 100000 in
theorem tw_435 : Cond.methodLink RX6 62 yX6_cut ∈ LW := List.mem_filter.mpr ⟨List.mem_append_right _ (List.mem_of_getElem? (i := 435) rfl), rfl⟩
set_option maxRecDepth 100000 in
theorem tw_439 : Cond.methodLink RX6 93 yX6_startGroove ∈ LW := List.mem_filter.mpr ⟨List.mem_append_right _ (List.mem_of_getElem? (i := 439) rfl), rfl⟩
set_option maxRecDepth 100000 in
theorem tw_444 : Cond.methodLink RX6 97 yX6_carve ∈ LW := List.mem_filter.mpr ⟨List.mem_append_right _ (List.mem_of_getElem? (i := 444) rfl), rfl⟩
set_option maxRecDepth 100000 in
theorem tw_448 : Cond.methodLink RX6 145 yX3_append ∈ LW := List.mem_filter.mpr ⟨List.mem_append_right _ (List.mem_of_getElem? (i := 448) rfl), rfl⟩
set_option maxRecDepth 100000 in
theorem tw_452 : Cond.methodLink RX3 35 yX3_merge ∈ LW := List.mem_filter.mpr ⟨List.mem_append_right _ (List.mem_of_getElem? (i := 452) rfl), rfl⟩
set_option maxRecDepth 100000 in
theorem tw_456 : Cond.methodLink RX6 148 yX3_rise ∈ LW := List.mem_filter.mpr ⟨List.mem_append_right _ (List.mem_of_getElem? (i := 456) rfl), rfl⟩
set_option maxRecDepth 100000 in
theorem tw_459 : Cond.methodLink RX3 55 yJ6_bitCount_0f7a4 ∈ LW := List.mem_filter.mpr ⟨List.mem_append_right _ (List.mem_of_getElem? (i := 459) rfl), rfl⟩
set_option maxRecDepth 100000 in
theorem tw_465 : Cond.methodLink RX6 151 yJ6_bitCount_0f7a4 ∈ LW := List.mem_filter.mpr ⟨List.mem_append_right _ (List.mem_of_getElem? (i := 465) rfl), rfl⟩
set_option maxRecDepth 100000 in
theorem tw_466 : Cond.methodLink RX6 156 yX6_zerosBehind ∈ LW := List.mem_filter.mpr ⟨List.mem_append_right _ (List.mem_of_getElem? (i := 466) rfl), rfl⟩
set_option maxRecDepth 100000 in
theorem tw_469 : Cond.methodLink RX6 101 yX6_carveJoined ∈ LW := List.mem_filter.mpr ⟨List.mem_append_right _ (List.mem_of_getElem? (i := 469) rfl), rfl⟩
set_option maxRecDepth 100000 in
theorem tw_473 : Cond.methodLink RX6 142 yX6_chooseJoint ∈ LW := List.mem_filter.mpr ⟨List.mem_append_right _ (List.mem_of_getElem? (i := 473) rfl), rfl⟩
set_option maxRecDepth 100000 in
theorem tw_477 : Cond.methodLink RX6 159 yX6_zerosAhead ∈ LW := List.mem_filter.mpr ⟨List.mem_append_right _ (List.mem_of_getElem? (i := 477) rfl), rfl⟩
set_option maxRecDepth 100000 in
theorem tw_481 : Cond.methodLink RX6 163 yX6_mayBe ∈ LW := List.mem_filter.mpr ⟨List.mem_append_right _ (List.mem_of_getElem? (i := 481) rfl), rfl⟩
set_option maxRecDepth 100000 in
theorem tw_485 : Cond.methodLink RX6 175 yX6_isRun ∈ LW := List.mem_filter.mpr ⟨List.mem_append_right _ (List.mem_of_getElem? (i := 485) rfl), rfl⟩
set_option maxRecDepth 100000 in
theorem tw_488 : Cond.methodLink RX6 167 yX6_mocks ∈ LW := List.mem_filter.mpr ⟨List.mem_append_right _ (List.mem_of_getElem? (i := 488) rfl), rfl⟩
set_option maxRecDepth 100000 in
theorem tw_494 : Cond.methodLink RX6 170 yJ9_abs_0f7a4 ∈ LW := List.mem_filter.mpr ⟨List.mem_append_right _ (List.mem_of_getElem? (i := 494) rfl), rfl⟩
set_option maxRecDepth 100000 in
theorem tw_497 : Cond.methodLink RX6 104 yX1_describe ∈ LW := List.mem_filter.mpr ⟨List.mem_append_right _ (List.mem_of_getElem? (i := 497) rfl), rfl⟩
set_option maxRecDepth 100000 in
theorem tw_501 : Cond.methodLink RX1 35 yX1_entryFor ∈ LW := List.mem_filter.mpr ⟨List.mem_append_right _ (List.mem_of_getElem? (i := 501) rfl), rfl⟩
set_option maxRecDepth 100000 in
theorem tw_505 : Cond.methodLink RX1 49 yX1_controlOf ∈ LW := List.mem_filter.mpr ⟨List.mem_append_right _ (List.mem_of_getElem? (i := 505) rfl), rfl⟩
set_option maxRecDepth 100000 in
theorem tw_509 : Cond.methodLink RX1 31 yX1_isEntry ∈ LW := List.mem_filter.mpr ⟨List.mem_append_right _ (List.mem_of_getElem? (i := 509) rfl), rfl⟩
set_option maxRecDepth 100000 in
theorem tw_512 : Cond.methodLink RX1 42 yX1_trackOf ∈ LW := List.mem_filter.mpr ⟨List.mem_append_right _ (List.mem_of_getElem? (i := 512) rfl), rfl⟩
set_option maxRecDepth 100000 in
theorem tw_516 : Cond.methodLink RX1 39 yX1_indexOf ∈ LW := List.mem_filter.mpr ⟨List.mem_append_right _ (List.mem_of_getElem? (i := 516) rfl), rfl⟩
set_option maxRecDepth 100000 in
theorem tw_520 : Cond.methodLink RX1 52 yX1_timeOf ∈ LW := List.mem_filter.mpr ⟨List.mem_append_right _ (List.mem_of_getElem? (i := 520) rfl), rfl⟩
set_option maxRecDepth 100000 in
theorem tw_524 : Cond.methodLink RX1 45 yX1_belongs ∈ LW := List.mem_filter.mpr ⟨List.mem_append_right _ (List.mem_of_getElem? (i := 524) rfl), rfl⟩
set_option maxRecDepth 100000 in
theorem tw_528 : Cond.methodLink RX1 56 yX4_write ∈ LW := List.mem_filter.mpr ⟨List.mem_append_right _ (List.mem_of_getElem? (i := 528) rfl), rfl⟩
set_option maxRecDepth 100000 in
theorem tw_532 : Cond.methodLink RX4 13 yX4_figures ∈ LW := List.mem_filter.mpr ⟨List.mem_append_right _ (List.mem_of_getElem? (i := 532) rfl), rfl⟩
set_option maxRecDepth 100000 in
theorem tw_535 : Cond.methodLink RX4 17 yX4_writeTime ∈ LW := List.mem_filter.mpr ⟨List.mem_append_right _ (List.mem_of_getElem? (i := 535) rfl), rfl⟩
set_option maxRecDepth 100000 in
theorem tw_539 : Cond.methodLink RX4 21 yX4_restOf80 ∈ LW := List.mem_filter.mpr ⟨List.mem_append_right _ (List.mem_of_getElem? (i := 539) rfl), rfl⟩
set_option maxRecDepth 100000 in
theorem tw_543 : Cond.methodLink RX4 25 yX4_bitOf ∈ LW := List.mem_filter.mpr ⟨List.mem_append_right _ (List.mem_of_getElem? (i := 543) rfl), rfl⟩
set_option maxRecDepth 100000 in
theorem tw_548 : Cond.methodLink RX6 110 yX6_wordBeside ∈ LW := List.mem_filter.mpr ⟨List.mem_append_right _ (List.mem_of_getElem? (i := 548) rfl), rfl⟩
set_option maxRecDepth 100000 in
theorem tw_552 : Cond.methodLink RX6 136 yX1_isPause ∈ LW := List.mem_filter.mpr ⟨List.mem_append_right _ (List.mem_of_getElem? (i := 552) rfl), rfl⟩
set_option maxRecDepth 100000 in
theorem tw_556 : Cond.methodLink RX6 139 yX4_bitOf ∈ LW := List.mem_filter.mpr ⟨List.mem_append_right _ (List.mem_of_getElem? (i := 556) rfl), rfl⟩
set_option maxRecDepth 100000 in
theorem tw_557 : Cond.methodLink RX6 117 yX8_wordOf ∈ LW := List.mem_filter.mpr ⟨List.mem_append_right _ (List.mem_of_getElem? (i := 557) rfl), rfl⟩
set_option maxRecDepth 100000 in
theorem tw_561 : Cond.methodLink RX6 113 yX7_isTurned ∈ LW := List.mem_filter.mpr ⟨List.mem_append_right _ (List.mem_of_getElem? (i := 561) rfl), rfl⟩
set_option maxRecDepth 100000 in
theorem tw_564 : Cond.methodLink RL 53 yX9_frames ∈ LW := List.mem_filter.mpr ⟨List.mem_append_right _ (List.mem_of_getElem? (i := 564) rfl), rfl⟩
set_option maxRecDepth 100000 in
theorem tw_568 : Cond.methodLink RX9 106 yX3_framesPressed ∈ LW := List.mem_filter.mpr ⟨List.mem_append_right _ (List.mem_of_getElem? (i := 568) rfl), rfl⟩
set_option maxRecDepth 100000 in
theorem tw_572 : Cond.methodLink RL 57 yX9_length ∈ LW := List.mem_filter.mpr ⟨List.mem_append_right _ (List.mem_of_getElem? (i := 572) rfl), rfl⟩
set_option maxRecDepth 100000 in
theorem tw_576 : Cond.methodLink RX9 109 yX3_size ∈ LW := List.mem_filter.mpr ⟨List.mem_append_right _ (List.mem_of_getElem? (i := 576) rfl), rfl⟩
set_option maxRecDepth 100000 in
theorem tw_580 : Cond.methodLink RL 61 yX9_bits ∈ LW := List.mem_filter.mpr ⟨List.mem_append_right _ (List.mem_of_getElem? (i := 580) rfl), rfl⟩
set_option maxRecDepth 100000 in
theorem tw_584 : Cond.methodLink RX9 112 yX3_has ∈ LW := List.mem_filter.mpr ⟨List.mem_append_right _ (List.mem_of_getElem? (i := 584) rfl), rfl⟩
set_option maxRecDepth 100000 in
theorem tw_588 : Cond.methodLink RX9 116 yX3_peek ∈ LW := List.mem_filter.mpr ⟨List.mem_append_right _ (List.mem_of_getElem? (i := 588) rfl), rfl⟩
set_option maxRecDepth 100000 in
theorem tw_592 : Cond.methodLink RX3 28 yX3_cell ∈ LW := List.mem_filter.mpr ⟨List.mem_append_right _ (List.mem_of_getElem? (i := 592) rfl), rfl⟩
set_option maxRecDepth 100000 in
theorem tw_596 : Cond.methodLink RL 65 yX9_word ∈ LW := List.mem_filter.mpr ⟨List.mem_append_right _ (List.mem_of_getElem? (i := 596) rfl), rfl⟩
set_option maxRecDepth 100000 in
theorem tw_600 : Cond.methodLink RX9 119 yX3_wasPressed ∈ LW := List.mem_filter.mpr ⟨List.mem_append_right _ (List.mem_of_getElem? (i := 600) rfl), rfl⟩
set_option maxRecDepth 100000 in
theorem tw_604 : Cond.methodLink RX9 122 yX3_wordAt ∈ LW := List.mem_filter.mpr ⟨List.mem_append_right _ (List.mem_of_getElem? (i := 604) rfl), rfl⟩
set_option maxRecDepth 100000 in
theorem tw_608 : Cond.methodLink RX3 32 yX3_peek ∈ LW := List.mem_filter.mpr ⟨List.mem_append_right _ (List.mem_of_getElem? (i := 608) rfl), rfl⟩
set_option maxRecDepth 100000 in
theorem tw_609 : Cond.methodLink RL 69 yX9_joint ∈ LW := List.mem_filter.mpr ⟨List.mem_append_right _ (List.mem_of_getElem? (i := 609) rfl), rfl⟩
set_option maxRecDepth 100000 in
theorem tw_613 : Cond.methodLink RL 73 yX9_balance ∈ LW := List.mem_filter.mpr ⟨List.mem_append_right _ (List.mem_of_getElem? (i := 613) rfl), rfl⟩
set_option maxRecDepth 100000 in
theorem tw_618 : Cond.methodLink RX9 127 yX3_balanceBehind ∈ LW := List.mem_filter.mpr ⟨List.mem_append_right _ (List.mem_of_getElem? (i := 618) rfl), rfl⟩
set_option maxRecDepth 100000 in
theorem tw_622 : Cond.methodLink RX3 52 yJ9_min_7cf53 ∈ LW := List.mem_filter.mpr ⟨List.mem_append_right _ (List.mem_of_getElem? (i := 622) rfl), rfl⟩
set_option maxRecDepth 100000 in
theorem tw_625 : Cond.methodLink RX3 60 yX3_rise ∈ LW := List.mem_filter.mpr ⟨List.mem_append_right _ (List.mem_of_getElem? (i := 625) rfl), rfl⟩
set_option maxRecDepth 100000 in
theorem tw_626 : Cond.methodLink RL 77 yX9_run ∈ LW := List.mem_filter.mpr ⟨List.mem_append_right _ (List.mem_of_getElem? (i := 626) rfl), rfl⟩
set_option maxRecDepth 100000 in
theorem tw_630 : Cond.methodLink RX9 130 yX3_extremeRun ∈ LW := List.mem_filter.mpr ⟨List.mem_append_right _ (List.mem_of_getElem? (i := 630) rfl), rfl⟩
set_option maxRecDepth 100000 in
theorem tw_634 : Cond.methodLink RL 82 yX9_signs ∈ LW := List.mem_filter.mpr ⟨List.mem_append_right _ (List.mem_of_getElem? (i := 634) rfl), rfl⟩
set_option maxRecDepth 100000 in
theorem tw_638 : Cond.methodLink RX9 134 yX3_countSigns ∈ LW := List.mem_filter.mpr ⟨List.mem_append_right _ (List.mem_of_getElem? (i := 638) rfl), rfl⟩
set_option maxRecDepth 100000 in
theorem tw_642 : Cond.methodLink RX3 67 yX3_nextSign ∈ LW := List.mem_filter.mpr ⟨List.mem_append_right _ (List.mem_of_getElem? (i := 642) rfl), rfl⟩
set_option maxRecDepth 100000 in
theorem tw_646 : Cond.methodLink RX3 43 yJ9_max_7cf53 ∈ LW := List.mem_filter.mpr ⟨List.mem_append_right _ (List.mem_of_getElem? (i := 646) rfl), rfl⟩
set_option maxRecDepth 100000 in
theorem tw_649 : Cond.methodLink RX3 64 yX3_signStands ∈ LW := List.mem_filter.mpr ⟨List.mem_append_right _ (List.mem_of_getElem? (i := 649) rfl), rfl⟩
set_option maxRecDepth 100000 in
theorem tw_654 : Cond.methodLink RL 86 yX9_signAt ∈ LW := List.mem_filter.mpr ⟨List.mem_append_right _ (List.mem_of_getElem? (i := 654) rfl), rfl⟩
set_option maxRecDepth 100000 in
theorem tw_658 : Cond.methodLink RX9 137 yX3_findSign ∈ LW := List.mem_filter.mpr ⟨List.mem_append_right _ (List.mem_of_getElem? (i := 658) rfl), rfl⟩
set_option maxRecDepth 100000 in
theorem tw_662 : Cond.methodLink RL 90 yX9_flip ∈ LW := List.mem_filter.mpr ⟨List.mem_append_right _ (List.mem_of_getElem? (i := 662) rfl), rfl⟩
set_option maxRecDepth 100000 in
theorem tw_666 : Cond.methodLink RX9 140 yX3_turn ∈ LW := List.mem_filter.mpr ⟨List.mem_append_right _ (List.mem_of_getElem? (i := 666) rfl), rfl⟩
set_option maxRecDepth 100000 in
theorem tw_670 : Cond.methodLink RX3 39 yX3_has ∈ LW := List.mem_filter.mpr ⟨List.mem_append_right _ (List.mem_of_getElem? (i := 670) rfl), rfl⟩
set_option maxRecDepth 100000 in
theorem tw_671 : Cond.methodLink RL 94 yX9_scratch ∈ LW := List.mem_filter.mpr ⟨List.mem_append_right _ (List.mem_of_getElem? (i := 671) rfl), rfl⟩
set_option maxRecDepth 100000 in
theorem tw_675 : Cond.methodLink RX9 143 yX9_canSpoil ∈ LW := List.mem_filter.mpr ⟨List.mem_append_right _ (List.mem_of_getElem? (i := 675) rfl), rfl⟩
set_option maxRecDepth 100000 in
theorem tw_680 : Cond.methodLink RX9 147 yJ9_min_7cf53 ∈ LW := List.mem_filter.mpr ⟨List.mem_append_right _ (List.mem_of_getElem? (i := 680) rfl), rfl⟩
set_option maxRecDepth 100000 in
theorem tw_681 : Cond.methodLink RX9 152 yX3_blank ∈ LW := List.mem_filter.mpr ⟨List.mem_append_right _ (List.mem_of_getElem? (i := 681) rfl), rfl⟩
set_option maxRecDepth 100000 in
theorem tw_685 : Cond.methodLink RX3 49 yX3_behind ∈ LW := List.mem_filter.mpr ⟨List.mem_append_right _ (List.mem_of_getElem? (i := 685) rfl), rfl⟩
set_option maxRecDepth 100000 in
theorem tw_688 : Cond.methodLink RL 98 yX9_noise ∈ LW := List.mem_filter.mpr ⟨List.mem_append_right _ (List.mem_of_getElem? (i := 688) rfl), rfl⟩
set_option maxRecDepth 100000 in
theorem tw_692 : Cond.methodLink RL 103 yX9_slip ∈ LW := List.mem_filter.mpr ⟨List.mem_append_right _ (List.mem_of_getElem? (i := 692) rfl), rfl⟩
set_option maxRecDepth 100000 in
theorem tw_697 : Cond.methodLink RX9 159 yX3_insertZeros ∈ LW := List.mem_filter.mpr ⟨List.mem_append_right _ (List.mem_of_getElem? (i := 697) rfl), rfl⟩
set_option maxRecDepth 100000 in
theorem tw_701 : Cond.methodLink RX9 162 yX3_remove ∈ LW := List.mem_filter.mpr ⟨List.mem_append_right _ (List.mem_of_getElem? (i := 701) rfl), rfl⟩
set_option maxRecDepth 100000 in
theorem tw_705 : Cond.methodLink RL 107 yX9_play ∈ LW := List.mem_filter.mpr ⟨List.mem_append_right _ (List.mem_of_getElem? (i := 705) rfl), rfl⟩
set_option maxRecDepth 100000 in
theorem tw_709 : Cond.methodLink RX9 165 yX9_isReach ∈ LW := List.mem_filter.mpr ⟨List.mem_append_right _ (List.mem_of_getElem? (i := 709) rfl), rfl⟩
set_option maxRecDepth 100000 in
theorem tw_712 : Cond.methodLink RX9 168 yX5_perform ∈ LW := List.mem_filter.mpr ⟨List.mem_append_right _ (List.mem_of_getElem? (i := 712) rfl), rfl⟩
set_option maxRecDepth 100000 in
theorem tw_716 : Cond.methodLink RX5 60 yJ7_fill_53178 ∈ LW := List.mem_filter.mpr ⟨List.mem_append_right _ (List.mem_of_getElem? (i := 716) rfl), rfl⟩
set_option maxRecDepth 100000 in
theorem tw_717 : Cond.methodLink RX5 66 yX3_framesPressed ∈ LW := List.mem_filter.mpr ⟨List.mem_append_right _ (List.mem_of_getElem? (i := 717) rfl), rfl⟩
set_option maxRecDepth 100000 in
theorem tw_718 : Cond.methodLink RX5 76 yX5_findFrames ∈ LW := List.mem_filter.mpr ⟨List.mem_append_right _ (List.mem_of_getElem? (i := 718) rfl), rfl⟩
set_option maxRecDepth 100000 in
theorem tw_722 : Cond.methodLink RX5 110 yX3_nextSign ∈ LW := List.mem_filter.mpr ⟨List.mem_append_right _ (List.mem_of_getElem? (i := 722) rfl), rfl⟩
set_option maxRecDepth 100000 in
theorem tw_723 : Cond.methodLink RX5 113 yJ9_max_7cf53 ∈ LW := List.mem_filter.mpr ⟨List.mem_append_right _ (List.mem_of_getElem? (i := 723) rfl), rfl⟩
set_option maxRecDepth 100000 in
theorem tw_724 : Cond.methodLink RX5 119 yX5_nextStart ∈ LW := List.mem_filter.mpr ⟨List.mem_append_right _ (List.mem_of_getElem? (i := 724) rfl), rfl⟩
set_option maxRecDepth 100000 in
theorem tw_728 : Cond.methodLink RX5 125 yX3_signStands ∈ LW := List.mem_filter.mpr ⟨List.mem_append_right _ (List.mem_of_getElem? (i := 728) rfl), rfl⟩
set_option maxRecDepth 100000 in
theorem tw_729 : Cond.methodLink RX5 122 yX3_size ∈ LW := List.mem_filter.mpr ⟨List.mem_append_right _ (List.mem_of_getElem? (i := 729) rfl), rfl⟩
set_option maxRecDepth 100000 in
theorem tw_730 : Cond.methodLink RX5 83 yX5_readFrame ∈ LW := List.mem_filter.mpr ⟨List.mem_append_right _ (List.mem_of_getElem? (i := 730) rfl), rfl⟩
set_option maxRecDepth 100000 in
theorem tw_734 : Cond.methodLink RX5 129 yX3_wordAt ∈ LW := List.mem_filter.mpr ⟨List.mem_append_right _ (List.mem_of_getElem? (i := 734) rfl), rfl⟩
set_option maxRecDepth 100000 in
theorem tw_735 : Cond.methodLink RX5 132 yX8_byteOf ∈ LW := List.mem_filter.mpr ⟨List.mem_append_right _ (List.mem_of_getElem? (i := 735) rfl), rfl⟩
set_option maxRecDepth 100000 in
theorem tw_739 : Cond.methodLink RX8 21 yX8_wordOf ∈ LW := List.mem_filter.mpr ⟨List.mem_append_right _ (List.mem_of_getElem? (i := 739) rfl), rfl⟩
set_option maxRecDepth 100000 in
theorem tw_740 : Cond.methodLink RX5 137 yX7_isTurned ∈ LW := List.mem_filter.mpr ⟨List.mem_append_right _ (List.mem_of_getElem? (i := 740) rfl), rfl⟩
set_option maxRecDepth 100000 in
theorem tw_741 : Cond.methodLink RX5 142 yX7_set ∈ LW := List.mem_filter.mpr ⟨List.mem_append_right _ (List.mem_of_getElem? (i := 741) rfl), rfl⟩
set_option maxRecDepth 100000 in
theorem tw_742 : Cond.methodLink RX5 145 yX7_setMarks ∈ LW := List.mem_filter.mpr ⟨List.mem_append_right _ (List.mem_of_getElem? (i := 742) rfl), rfl⟩
set_option maxRecDepth 100000 in
theorem tw_746 : Cond.methodLink RX5 86 yX5_takeInnerWord ∈ LW := List.mem_filter.mpr ⟨List.mem_append_right _ (List.mem_of_getElem? (i := 746) rfl), rfl⟩
set_option maxRecDepth 100000 in
theorem tw_750 : Cond.methodLink RX5 148 yX7_get ∈ LW := List.mem_filter.mpr ⟨List.mem_append_right _ (List.mem_of_getElem? (i := 750) rfl), rfl⟩
set_option maxRecDepth 100000 in
theorem tw_751 : Cond.methodLink RX5 151 yX7_marksOf ∈ LW := List.mem_filter.mpr ⟨List.mem_append_right _ (List.mem_of_getElem? (i := 751) rfl), rfl⟩
set_option maxRecDepth 100000 in
theorem tw_757 : Cond.methodLink RX5 89 yX5_mendInner ∈ LW := List.mem_filter.mpr ⟨List.mem_append_right _ (List.mem_of_getElem? (i := 757) rfl), rfl⟩
set_option maxRecDepth 100000 in
theorem tw_761 : Cond.methodLink RX5 156 yX7_cells ∈ LW := List.mem_filter.mpr ⟨List.mem_append_right _ (List.mem_of_getElem? (i := 761) rfl), rfl⟩
set_option maxRecDepth 100000 in
theorem tw_762 : Cond.methodLink RX5 160 yX7_startOf ∈ LW := List.mem_filter.mpr ⟨List.mem_append_right _ (List.mem_of_getElem? (i := 762) rfl), rfl⟩
set_option maxRecDepth 100000 in
theorem tw_763 : Cond.methodLink RX5 163 yX0_heal ∈ LW := List.mem_filter.mpr ⟨List.mem_append_right _ (List.mem_of_getElem? (i := 763) rfl), rfl⟩
set_option maxRecDepth 100000 in
theorem tw_767 : Cond.methodLink RX0 49 yX0_allPlaces ∈ LW := List.mem_filter.mpr ⟨List.mem_append_right _ (List.mem_of_getElem? (i := 767) rfl), rfl⟩
set_option maxRecDepth 100000 in
theorem tw_771 : Cond.methodLink RX0 53 yJ6_bitCount_0f7a4 ∈ LW := List.mem_filter.mpr ⟨List.mem_append_right _ (List.mem_of_getElem? (i := 771) rfl), rfl⟩
set_option maxRecDepth 100000 in
theorem tw_772 : Cond.methodLink RX0 59 yJ9_min_7cf53 ∈ LW := List.mem_filter.mpr ⟨List.mem_append_right _ (List.mem_of_getElem? (i := 772) rfl), rfl⟩
set_option maxRecDepth 100000 in
theorem tw_773 : Cond.methodLink RX0 65 yX0_locate ∈ LW := List.mem_filter.mpr ⟨List.mem_append_right _ (List.mem_of_getElem? (i := 773) rfl), rfl⟩
set_option maxRecDepth 100000 in
theorem tw_777 : Cond.methodLink RX0 84 yX0_locateOne ∈ LW := List.mem_filter.mpr ⟨List.mem_append_right _ (List.mem_of_getElem? (i := 777) rfl), rfl⟩
set_option maxRecDepth 100000 in
theorem tw_781 : Cond.methodLink RX0 97 yX2_log ∈ LW := List.mem_filter.mpr ⟨List.mem_append_right _ (List.mem_of_getElem? (i := 781) rfl), rfl⟩
set_option maxRecDepth 100000 in
theorem tw_785 : Cond.methodLink RX0 87 yX0_locateTwo ∈ LW := List.mem_filter.mpr ⟨List.mem_append_right _ (List.mem_of_getElem? (i := 785) rfl), rfl⟩
set_option maxRecDepth 100000 in
theorem tw_789 : Cond.methodLink RX5 93 yX5_takeOuterWord ∈ LW := List.mem_filter.mpr ⟨List.mem_append_right _ (List.mem_of_getElem? (i := 789) rfl), rfl⟩
set_option maxRecDepth 100000 in
theorem tw_793 : Cond.methodLink RX5 169 yX7_isMarked ∈ LW := List.mem_filter.mpr ⟨List.mem_append_right _ (List.mem_of_getElem? (i := 793) rfl), rfl⟩
set_option maxRecDepth 100000 in
theorem tw_797 : Cond.methodLink RX7 32 yX7_marksOf ∈ LW := List.mem_filter.mpr ⟨List.mem_append_right _ (List.mem_of_getElem? (i := 797) rfl), rfl⟩
set_option maxRecDepth 100000 in
theorem tw_798 : Cond.methodLink RX5 97 yX5_mendOuter ∈ LW := List.mem_filter.mpr ⟨List.mem_append_right _ (List.mem_of_getElem? (i := 798) rfl), rfl⟩
set_option maxRecDepth 100000 in
theorem tw_802 : Cond.methodLink RX5 173 yJ6_bitCount_0f7a4 ∈ LW := List.mem_filter.mpr ⟨List.mem_append_right _ (List.mem_of_getElem? (i := 802) rfl), rfl⟩
set_option maxRecDepth 100000 in
theorem tw_804 : Cond.methodLink RX5 101 yX5_countUnsure ∈ LW := List.mem_filter.mpr ⟨List.mem_append_right _ (List.mem_of_getElem? (i := 804) rfl), rfl⟩
set_option maxRecDepth 100000 in
theorem tw_808 : Cond.methodLink RX5 188 yX5_sureOf ∈ LW := List.mem_filter.mpr ⟨List.mem_append_right _ (List.mem_of_getElem? (i := 808) rfl), rfl⟩
set_option maxRecDepth 100000 in
theorem tw_812 : Cond.methodLink RX5 182 yX5_rowOf ∈ LW := List.mem_filter.mpr ⟨List.mem_append_right _ (List.mem_of_getElem? (i := 812) rfl), rfl⟩
set_option maxRecDepth 100000 in
theorem tw_815 : Cond.methodLink RX5 179 yX7_lagOf ∈ LW := List.mem_filter.mpr ⟨List.mem_append_right _ (List.mem_of_getElem? (i := 815) rfl), rfl⟩
set_option maxRecDepth 100000 in
theorem tw_816 : Cond.methodLink RX5 185 yX7_placeOf ∈ LW := List.mem_filter.mpr ⟨List.mem_append_right _ (List.mem_of_getElem? (i := 816) rfl), rfl⟩
set_option maxRecDepth 100000 in
theorem tw_817 : Cond.methodLink RX5 104 yX5_hide ∈ LW := List.mem_filter.mpr ⟨List.mem_append_right _ (List.mem_of_getElem? (i := 817) rfl), rfl⟩
set_option maxRecDepth 100000 in
theorem tw_821 : Cond.methodLink RX5 198 yX5_sampleSure ∈ LW := List.mem_filter.mpr ⟨List.mem_append_right _ (List.mem_of_getElem? (i := 821) rfl), rfl⟩
set_option maxRecDepth 100000 in
theorem tw_825 : Cond.methodLink RX5 191 yX5_highByteOf ∈ LW := List.mem_filter.mpr ⟨List.mem_append_right _ (List.mem_of_getElem? (i := 825) rfl), rfl⟩
set_option maxRecDepth 100000 in
theorem tw_828 : Cond.methodLink RX5 194 yX5_isSample ∈ LW := List.mem_filter.mpr ⟨List.mem_append_right _ (List.mem_of_getElem? (i := 828) rfl), rfl⟩
set_option maxRecDepth 100000 in
theorem tw_832 : Cond.methodLink RX5 201 yX5_sampleOf ∈ LW := List.mem_filter.mpr ⟨List.mem_append_right _ (List.mem_of_getElem? (i := 832) rfl), rfl⟩
set_option maxRecDepth 100000 in
theorem tw_836 : Cond.methodLink RX5 197 yX5_byteOf ∈ LW := List.mem_filter.mpr ⟨List.mem_append_right _ (List.mem_of_getElem? (i := 836) rfl), rfl⟩
set_option maxRecDepth 100000 in
theorem tw_840 : Cond.methodLink RX5 107 yX5_countSections ∈ LW := List.mem_filter.mpr ⟨List.mem_append_right _ (List.mem_of_getElem? (i := 840) rfl), rfl⟩
set_option maxRecDepth 100000 in
theorem tw_844 : Cond.methodLink RX5 208 yX5_beginsSection ∈ LW := List.mem_filter.mpr ⟨List.mem_append_right _ (List.mem_of_getElem? (i := 844) rfl), rfl⟩
set_option maxRecDepth 100000 in
theorem tw_848 : Cond.methodLink RX5 205 yX5_wasFound ∈ LW := List.mem_filter.mpr ⟨List.mem_append_right _ (List.mem_of_getElem? (i := 848) rfl), rfl⟩
set_option maxRecDepth 100000 in
theorem tw_852 : Cond.methodLink RL 111 yX9_played ∈ LW := List.mem_filter.mpr ⟨List.mem_append_right _ (List.mem_of_getElem? (i := 852) rfl), rfl⟩
set_option maxRecDepth 100000 in
theorem tw_856 : Cond.methodLink RX9 172 yX5_hasByte ∈ LW := List.mem_filter.mpr ⟨List.mem_append_right _ (List.mem_of_getElem? (i := 856) rfl), rfl⟩
set_option maxRecDepth 100000 in
theorem tw_860 : Cond.methodLink RX9 175 yX5_byteOf ∈ LW := List.mem_filter.mpr ⟨List.mem_append_right _ (List.mem_of_getElem? (i := 860) rfl), rfl⟩
set_option maxRecDepth 100000 in
theorem tw_861 : Cond.methodLink RL 115 yX9_isSure ∈ LW := List.mem_filter.mpr ⟨List.mem_append_right _ (List.mem_of_getElem? (i := 861) rfl), rfl⟩
set_option maxRecDepth 100000 in
theorem tw_865 : Cond.methodLink RX9 178 yX5_sureOf ∈ LW := List.mem_filter.mpr ⟨List.mem_append_right _ (List.mem_of_getElem? (i := 865) rfl), rfl⟩
set_option maxRecDepth 100000 in
theorem tw_866 : Cond.methodLink RL 119 yX9_heard ∈ LW := List.mem_filter.mpr ⟨List.mem_append_right _ (List.mem_of_getElem? (i := 866) rfl), rfl⟩
set_option maxRecDepth 100000 in
theorem tw_870 : Cond.methodLink RX9 181 yX5_sampleHeard ∈ LW := List.mem_filter.mpr ⟨List.mem_append_right _ (List.mem_of_getElem? (i := 870) rfl), rfl⟩
set_option maxRecDepth 100000 in
theorem tw_875 : Cond.methodLink RL 124 yX9_inner ∈ LW := List.mem_filter.mpr ⟨List.mem_append_right _ (List.mem_of_getElem? (i := 875) rfl), rfl⟩
set_option maxRecDepth 100000 in
theorem tw_879 : Cond.methodLink RX9 185 yX5_innerFate ∈ LW := List.mem_filter.mpr ⟨List.mem_append_right _ (List.mem_of_getElem? (i := 879) rfl), rfl⟩
set_option maxRecDepth 100000 in
theorem tw_883 : Cond.methodLink RL 128 yX9_outer ∈ LW := List.mem_filter.mpr ⟨List.mem_append_right _ (List.mem_of_getElem? (i := 883) rfl), rfl⟩
set_option maxRecDepth 100000 in
theorem tw_887 : Cond.methodLink RX9 188 yX5_outerFate ∈ LW := List.mem_filter.mpr ⟨List.mem_append_right _ (List.mem_of_getElem? (i := 887) rfl), rfl⟩
set_option maxRecDepth 100000 in
theorem tw_891 : Cond.methodLink RL 132 yX9_told ∈ LW := List.mem_filter.mpr ⟨List.mem_append_right _ (List.mem_of_getElem? (i := 891) rfl), rfl⟩
set_option maxRecDepth 100000 in
theorem tw_895 : Cond.methodLink RX9 191 yX5_tally ∈ LW := List.mem_filter.mpr ⟨List.mem_append_right _ (List.mem_of_getElem? (i := 895) rfl), rfl⟩
set_option maxRecDepth 100000 in
theorem tw_899 : Cond.methodLink RL 136 yX9_q ∈ LW := List.mem_filter.mpr ⟨List.mem_append_right _ (List.mem_of_getElem? (i := 899) rfl), rfl⟩
set_option maxRecDepth 100000 in
theorem tw_903 : Cond.methodLink RX9 194 yX5_sectionTells ∈ LW := List.mem_filter.mpr ⟨List.mem_append_right _ (List.mem_of_getElem? (i := 903) rfl), rfl⟩
set_option maxRecDepth 100000 in
theorem tw_907 : Cond.methodLink RX5 211 yX5_sectionStart ∈ LW := List.mem_filter.mpr ⟨List.mem_append_right _ (List.mem_of_getElem? (i := 907) rfl), rfl⟩
set_option maxRecDepth 100000 in
theorem tw_911 : Cond.methodLink RX5 214 yX5_readLabel ∈ LW := List.mem_filter.mpr ⟨List.mem_append_right _ (List.mem_of_getElem? (i := 911) rfl), rfl⟩
set_option maxRecDepth 100000 in
theorem tw_915 : Cond.methodLink RX5 236 yX4_setBit ∈ LW := List.mem_filter.mpr ⟨List.mem_append_right _ (List.mem_of_getElem? (i := 915) rfl), rfl⟩
set_option maxRecDepth 100000 in
theorem tw_919 : Cond.methodLink RX5 217 yX4_isSound ∈ LW := List.mem_filter.mpr ⟨List.mem_append_right _ (List.mem_of_getElem? (i := 919) rfl), rfl⟩
set_option maxRecDepth 100000 in
theorem tw_923 : Cond.methodLink RX4 29 yX4_areFigures ∈ LW := List.mem_filter.mpr ⟨List.mem_append_right _ (List.mem_of_getElem? (i := 923) rfl), rfl⟩
set_option maxRecDepth 100000 in
theorem tw_927 : Cond.methodLink RX4 33 yX4_isTime ∈ LW := List.mem_filter.mpr ⟨List.mem_append_right _ (List.mem_of_getElem? (i := 927) rfl), rfl⟩
set_option maxRecDepth 100000 in
theorem tw_931 : Cond.methodLink RX4 36 yX4_number ∈ LW := List.mem_filter.mpr ⟨List.mem_append_right _ (List.mem_of_getElem? (i := 931) rfl), rfl⟩
set_option maxRecDepth 100000 in
theorem tw_935 : Cond.methodLink RX5 221 yX4_control ∈ LW := List.mem_filter.mpr ⟨List.mem_append_right _ (List.mem_of_getElem? (i := 935) rfl), rfl⟩
set_option maxRecDepth 100000 in
theorem tw_939 : Cond.methodLink RX5 224 yX4_track ∈ LW := List.mem_filter.mpr ⟨List.mem_append_right _ (List.mem_of_getElem? (i := 939) rfl), rfl⟩
set_option maxRecDepth 100000 in
theorem tw_943 : Cond.methodLink RX5 227 yX4_index ∈ LW := List.mem_filter.mpr ⟨List.mem_append_right _ (List.mem_of_getElem? (i := 943) rfl), rfl⟩
set_option maxRecDepth 100000 in
theorem tw_947 : Cond.methodLink RX5 230 yX4_time ∈ LW := List.mem_filter.mpr ⟨List.mem_append_right _ (List.mem_of_getElem? (i := 947) rfl), rfl⟩
set_option maxRecDepth 100000 in
theorem tw_951 : Cond.methodLink RX4 39 yX4_timeOf ∈ LW := List.mem_filter.mpr ⟨List.mem_append_right _ (List.mem_of_getElem? (i := 951) rfl), rfl⟩
set_option maxRecDepth 100000 in
theorem tw_955 : Cond.methodLink RX5 233 yX4_place ∈ LW := List.mem_filter.mpr ⟨List.mem_append_right _ (List.mem_of_getElem? (i := 955) rfl), rfl⟩
set_option maxRecDepth 100000 in
theorem tw_959 : Cond.methodLink RL 140 yX9_burst ∈ LW := List.mem_filter.mpr ⟨List.mem_append_right _ (List.mem_of_getElem? (i := 959) rfl), rfl⟩
set_option maxRecDepth 100000 in
theorem tw_963 : Cond.methodLink RL 144 yX9_spell ∈ LW := List.mem_filter.mpr ⟨List.mem_append_right _ (List.mem_of_getElem? (i := 963) rfl), rfl⟩
set_option maxRecDepth 100000 in
theorem tw_967 : Cond.methodLink RX9 197 yX8_wordOf ∈ LW := List.mem_filter.mpr ⟨List.mem_append_right _ (List.mem_of_getElem? (i := 967) rfl), rfl⟩
set_option maxRecDepth 100000 in
theorem tw_968 : Cond.methodLink RL 148 yX9_read ∈ LW := List.mem_filter.mpr ⟨List.mem_append_right _ (List.mem_of_getElem? (i := 968) rfl), rfl⟩
set_option maxRecDepth 100000 in
theorem tw_972 : Cond.methodLink RX9 200 yX8_byteOf ∈ LW := List.mem_filter.mpr ⟨List.mem_append_right _ (List.mem_of_getElem? (i := 972) rfl), rfl⟩
set_option maxRecDepth 100000 in
theorem tw_973 : Cond.methodLink RL 152 yX9_put ∈ LW := List.mem_filter.mpr ⟨List.mem_append_right _ (List.mem_of_getElem? (i := 973) rfl), rfl⟩
set_option maxRecDepth 100000 in
theorem tw_977 : Cond.methodLink RX9 201 yX9_isBench ∈ LW := List.mem_filter.mpr ⟨List.mem_append_right _ (List.mem_of_getElem? (i := 977) rfl), rfl⟩
set_option maxRecDepth 100000 in
theorem tw_981 : Cond.methodLink RL 156 yX9_mark ∈ LW := List.mem_filter.mpr ⟨List.mem_append_right _ (List.mem_of_getElem? (i := 981) rfl), rfl⟩
set_option maxRecDepth 100000 in
theorem tw_985 : Cond.methodLink RL 161 yX9_at ∈ LW := List.mem_filter.mpr ⟨List.mem_append_right _ (List.mem_of_getElem? (i := 985) rfl), rfl⟩
set_option maxRecDepth 100000 in
theorem tw_989 : Cond.methodLink RL 165 yX9_seal ∈ LW := List.mem_filter.mpr ⟨List.mem_append_right _ (List.mem_of_getElem? (i := 989) rfl), rfl⟩
set_option maxRecDepth 100000 in
theorem tw_993 : Cond.methodLink RX9 207 yX9_codeOf ∈ LW := List.mem_filter.mpr ⟨List.mem_append_right _ (List.mem_of_getElem? (i := 993) rfl), rfl⟩
set_option maxRecDepth 100000 in
theorem tw_997 : Cond.methodLink RX9 211 yX0_settle ∈ LW := List.mem_filter.mpr ⟨List.mem_append_right _ (List.mem_of_getElem? (i := 997) rfl), rfl⟩
set_option maxRecDepth 100000 in
theorem tw_998 : Cond.methodLink RX9 215 yX0_allPlaces ∈ LW := List.mem_filter.mpr ⟨List.mem_append_right _ (List.mem_of_getElem? (i := 998) rfl), rfl⟩
set_option maxRecDepth 100000 in
theorem tw_999 : Cond.methodLink RL 170 yX9_syndrome ∈ LW := List.mem_filter.mpr ⟨List.mem_append_right _ (List.mem_of_getElem? (i := 999) rfl), rfl⟩
set_option maxRecDepth 100000 in
theorem tw_1003 : Cond.methodLink RX9 218 yX0_sumOf ∈ LW := List.mem_filter.mpr ⟨List.mem_append_right _ (List.mem_of_getElem? (i := 1003) rfl), rfl⟩
set_option maxRecDepth 100000 in
theorem tw_1007 : Cond.methodLink RL 175 yX9_mend ∈ LW := List.mem_filter.mpr ⟨List.mem_append_right _ (List.mem_of_getElem? (i := 1007) rfl), rfl⟩
set_option maxRecDepth 100000 in
theorem tw_1011 : Cond.methodLink RX9 222 yX0_heal ∈ LW := List.mem_filter.mpr ⟨List.mem_append_right _ (List.mem_of_getElem? (i := 1011) rfl), rfl⟩
set_option maxRecDepth 100000 in
theorem tw_1014 : Cond.methodLink RL 12 yX10_init ∈ LW := List.mem_filter.mpr ⟨List.mem_append_right _ (List.mem_of_getElem? (i := 1014) rfl), rfl⟩
set_option maxRecDepth 100000 in
theorem tw_1017 : Cond.methodLink RX10 1 objectInit ∈ LW := List.mem_filter.mpr ⟨List.mem_append_right _ (List.mem_of_getElem? (i := 1017) rfl), rfl⟩
set_option maxRecDepth 100000 in
theorem tw_1171 : Cond.methodLink RL 19 yX10_feed ∈ LW := List.mem_filter.mpr ⟨List.mem_append_right _ (List.mem_of_getElem? (i := 1171) rfl), rfl⟩
set_option maxRecDepth 100000 in
theorem tw_1176 : Cond.methodLink RX10 144 yX10_in ∈ LW := List.mem_filter.mpr ⟨List.mem_append_right _ (List.mem_of_getElem? (i := 1176) rfl), rfl⟩
set_option maxRecDepth 100000 in
theorem tw_1179 : Cond.methodLink RL 24 yX10_fill ∈ LW := List.mem_filter.mpr ⟨List.mem_append_right _ (List.mem_of_getElem? (i := 1179) rfl), rfl⟩
set_option maxRecDepth 100000 in
theorem tw_1186 : Cond.methodLink RL 29 yX10_wipe ∈ LW := List.mem_filter.mpr ⟨List.mem_append_right _ (List.mem_of_getElem? (i := 1186) rfl), rfl⟩
set_option maxRecDepth 100000 in
theorem tw_1190 : Cond.methodLink RL 34 yX10_streamAt ∈ LW := List.mem_filter.mpr ⟨List.mem_append_right _ (List.mem_of_getElem? (i := 1190) rfl), rfl⟩
set_option maxRecDepth 100000 in
theorem tw_1194 : Cond.methodLink RL 39 yX10_begin ∈ LW := List.mem_filter.mpr ⟨List.mem_append_right _ (List.mem_of_getElem? (i := 1194) rfl), rfl⟩
set_option maxRecDepth 100000 in
theorem tw_1199 : Cond.methodLink RL 44 yX10_entry ∈ LW := List.mem_filter.mpr ⟨List.mem_append_right _ (List.mem_of_getElem? (i := 1199) rfl), rfl⟩
set_option maxRecDepth 100000 in
theorem tw_1206 : Cond.methodLink RL 48 yX10_plain ∈ LW := List.mem_filter.mpr ⟨List.mem_append_right _ (List.mem_of_getElem? (i := 1206) rfl), rfl⟩
set_option maxRecDepth 100000 in
theorem tw_1210 : Cond.methodLink RL 52 yX10_press ∈ LW := List.mem_filter.mpr ⟨List.mem_append_right _ (List.mem_of_getElem? (i := 1210) rfl), rfl⟩
set_option maxRecDepth 100000 in
theorem tw_1214 : Cond.methodLink RX10 253 yX10_makeOuter ∈ LW := List.mem_filter.mpr ⟨List.mem_append_right _ (List.mem_of_getElem? (i := 1214) rfl), rfl⟩
set_option maxRecDepth 100000 in
theorem tw_1218 : Cond.methodLink RX10 135 yX10_isCheck ∈ LW := List.mem_filter.mpr ⟨List.mem_append_right _ (List.mem_of_getElem? (i := 1218) rfl), rfl⟩
set_option maxRecDepth 100000 in
theorem tw_1221 : Cond.methodLink RX10 172 yX10_byteAt ∈ LW := List.mem_filter.mpr ⟨List.mem_append_right _ (List.mem_of_getElem? (i := 1221) rfl), rfl⟩
set_option maxRecDepth 100000 in
theorem tw_1224 : Cond.methodLink RX10 175 yX10_streamByte ∈ LW := List.mem_filter.mpr ⟨List.mem_append_right _ (List.mem_of_getElem? (i := 1224) rfl), rfl⟩
set_option maxRecDepth 100000 in
theorem tw_1228 : Cond.methodLink RX10 178 yX10_check ∈ LW := List.mem_filter.mpr ⟨List.mem_append_right _ (List.mem_of_getElem? (i := 1228) rfl), rfl⟩
set_option maxRecDepth 100000 in
theorem tw_1232 : Cond.methodLink RX10 139 yX10_mended ∈ LW := List.mem_filter.mpr ⟨List.mem_append_right _ (List.mem_of_getElem? (i := 1232) rfl), rfl⟩
set_option maxRecDepth 100000 in
theorem tw_1236 : Cond.methodLink RX10 120 yX10_findSyndromes ∈ LW := List.mem_filter.mpr ⟨List.mem_append_right _ (List.mem_of_getElem? (i := 1236) rfl), rfl⟩
set_option maxRecDepth 100000 in
theorem tw_1240 : Cond.methodLink RX10 104 yX10_power ∈ LW := List.mem_filter.mpr ⟨List.mem_append_right _ (List.mem_of_getElem? (i := 1240) rfl), rfl⟩
set_option maxRecDepth 100000 in
theorem tw_1244 : Cond.methodLink RX10 108 yX10_times ∈ LW := List.mem_filter.mpr ⟨List.mem_append_right _ (List.mem_of_getElem? (i := 1244) rfl), rfl⟩
set_option maxRecDepth 100000 in
theorem tw_1248 : Cond.methodLink RX10 124 yX10_fits ∈ LW := List.mem_filter.mpr ⟨List.mem_append_right _ (List.mem_of_getElem? (i := 1248) rfl), rfl⟩
set_option maxRecDepth 100000 in
theorem tw_1252 : Cond.methodLink RX10 112 yX10_swapRows ∈ LW := List.mem_filter.mpr ⟨List.mem_append_right _ (List.mem_of_getElem? (i := 1252) rfl), rfl⟩
set_option maxRecDepth 100000 in
theorem tw_1256 : Cond.methodLink RX10 116 yX10_inverse ∈ LW := List.mem_filter.mpr ⟨List.mem_append_right _ (List.mem_of_getElem? (i := 1256) rfl), rfl⟩
set_option maxRecDepth 100000 in
theorem tw_1260 : Cond.methodLink RX10 128 yX10_changed ∈ LW := List.mem_filter.mpr ⟨List.mem_append_right _ (List.mem_of_getElem? (i := 1260) rfl), rfl⟩
set_option maxRecDepth 100000 in
theorem tw_1264 : Cond.methodLink RX10 131 yX10_findTwo ∈ LW := List.mem_filter.mpr ⟨List.mem_append_right _ (List.mem_of_getElem? (i := 1264) rfl), rfl⟩
set_option maxRecDepth 100000 in
theorem tw_1268 : Cond.methodLink RX10 256 yX10_makeInner ∈ LW := List.mem_filter.mpr ⟨List.mem_append_right _ (List.mem_of_getElem? (i := 1268) rfl), rfl⟩
set_option maxRecDepth 100000 in
theorem tw_1273 : Cond.methodLink RX10 219 yX10_layBits ∈ LW := List.mem_filter.mpr ⟨List.mem_append_right _ (List.mem_of_getElem? (i := 1273) rfl), rfl⟩
set_option maxRecDepth 100000 in
theorem tw_1278 : Cond.methodLink RX10 259 yX10_besideWord ∈ LW := List.mem_filter.mpr ⟨List.mem_append_right _ (List.mem_of_getElem? (i := 1278) rfl), rfl⟩
set_option maxRecDepth 100000 in
theorem tw_1282 : Cond.methodLink RX10 247 yX10_makeChannel ∈ LW := List.mem_filter.mpr ⟨List.mem_append_right _ (List.mem_of_getElem? (i := 1282) rfl), rfl⟩
set_option maxRecDepth 100000 in
theorem tw_1286 : Cond.methodLink RX10 222 yX10_entryFor ∈ LW := List.mem_filter.mpr ⟨List.mem_append_right _ (List.mem_of_getElem? (i := 1286) rfl), rfl⟩
set_option maxRecDepth 100000 in
theorem tw_1290 : Cond.methodLink RX10 228 yX10_trackOf ∈ LW := List.mem_filter.mpr ⟨List.mem_append_right _ (List.mem_of_getElem? (i := 1290) rfl), rfl⟩
set_option maxRecDepth 100000 in
theorem tw_1294 : Cond.methodLink RX10 234 yX10_figures ∈ LW := List.mem_filter.mpr ⟨List.mem_append_right _ (List.mem_of_getElem? (i := 1294) rfl), rfl⟩
set_option maxRecDepth 100000 in
theorem tw_1298 : Cond.methodLink RX10 225 yX10_indexOf ∈ LW := List.mem_filter.mpr ⟨List.mem_append_right _ (List.mem_of_getElem? (i := 1298) rfl), rfl⟩
set_option maxRecDepth 100000 in
theorem tw_1302 : Cond.methodLink RX10 238 yX10_timeOf ∈ LW := List.mem_filter.mpr ⟨List.mem_append_right _ (List.mem_of_getElem? (i := 1302) rfl), rfl⟩
set_option maxRecDepth 100000 in
theorem tw_1306 : Cond.methodLink RX10 241 yX10_clock ∈ LW := List.mem_filter.mpr ⟨List.mem_append_right _ (List.mem_of_getElem? (i := 1306) rfl), rfl⟩
set_option maxRecDepth 100000 in
theorem tw_1310 : Cond.methodLink RX10 244 yX10_checkStep ∈ LW := List.mem_filter.mpr ⟨List.mem_append_right _ (List.mem_of_getElem? (i := 1310) rfl), rfl⟩
set_option maxRecDepth 100000 in
theorem tw_1314 : Cond.methodLink RX10 262 yX10_layWord ∈ LW := List.mem_filter.mpr ⟨List.mem_append_right _ (List.mem_of_getElem? (i := 1314) rfl), rfl⟩
set_option maxRecDepth 100000 in
theorem tw_1318 : Cond.methodLink RX10 216 yX10_jointFor ∈ LW := List.mem_filter.mpr ⟨List.mem_append_right _ (List.mem_of_getElem? (i := 1318) rfl), rfl⟩
set_option maxRecDepth 100000 in
theorem tw_1322 : Cond.methodLink RX10 212 yX10_tryJoint ∈ LW := List.mem_filter.mpr ⟨List.mem_append_right _ (List.mem_of_getElem? (i := 1322) rfl), rfl⟩
set_option maxRecDepth 100000 in
theorem tw_1326 : Cond.methodLink RX10 265 yX10_discByte ∈ LW := List.mem_filter.mpr ⟨List.mem_append_right _ (List.mem_of_getElem? (i := 1326) rfl), rfl⟩
set_option maxRecDepth 100000 in
theorem tw_1330 : Cond.methodLink RX10 182 yX10_isTurned ∈ LW := List.mem_filter.mpr ⟨List.mem_append_right _ (List.mem_of_getElem? (i := 1330) rfl), rfl⟩
set_option maxRecDepth 100000 in
theorem tw_1333 : Cond.methodLink RL 56 yX10_frames ∈ LW := List.mem_filter.mpr ⟨List.mem_append_right _ (List.mem_of_getElem? (i := 1333) rfl), rfl⟩
set_option maxRecDepth 100000 in
theorem tw_1337 : Cond.methodLink RL 60 yX10_length ∈ LW := List.mem_filter.mpr ⟨List.mem_append_right _ (List.mem_of_getElem? (i := 1337) rfl), rfl⟩
set_option maxRecDepth 100000 in
theorem tw_1341 : Cond.methodLink RL 64 yX10_bits ∈ LW := List.mem_filter.mpr ⟨List.mem_append_right _ (List.mem_of_getElem? (i := 1341) rfl), rfl⟩
set_option maxRecDepth 100000 in
theorem tw_1345 : Cond.methodLink RX10 271 yX10_taken ∈ LW := List.mem_filter.mpr ⟨List.mem_append_right _ (List.mem_of_getElem? (i := 1345) rfl), rfl⟩
set_option maxRecDepth 100000 in
theorem tw_1349 : Cond.methodLink RX10 268 yX10_bit ∈ LW := List.mem_filter.mpr ⟨List.mem_append_right _ (List.mem_of_getElem? (i := 1349) rfl), rfl⟩
set_option maxRecDepth 100000 in
theorem tw_1353 : Cond.methodLink RL 68 yX10_word ∈ LW := List.mem_filter.mpr ⟨List.mem_append_right _ (List.mem_of_getElem? (i := 1353) rfl), rfl⟩
set_option maxRecDepth 100000 in
theorem tw_1358 : Cond.methodLink RL 72 yX10_joint ∈ LW := List.mem_filter.mpr ⟨List.mem_append_right _ (List.mem_of_getElem? (i := 1358) rfl), rfl⟩
set_option maxRecDepth 100000 in
theorem tw_1363 : Cond.methodLink RL 76 yX10_balance ∈ LW := List.mem_filter.mpr ⟨List.mem_append_right _ (List.mem_of_getElem? (i := 1363) rfl), rfl⟩
set_option maxRecDepth 100000 in
theorem tw_1368 : Cond.methodLink RL 81 yX10_run ∈ LW := List.mem_filter.mpr ⟨List.mem_append_right _ (List.mem_of_getElem? (i := 1368) rfl), rfl⟩
set_option maxRecDepth 100000 in
theorem tw_1372 : Cond.methodLink RL 85 yX10_signs ∈ LW := List.mem_filter.mpr ⟨List.mem_append_right _ (List.mem_of_getElem? (i := 1372) rfl), rfl⟩
set_option maxRecDepth 100000 in
theorem tw_1376 : Cond.methodLink RX10 279 yX10_isSign ∈ LW := List.mem_filter.mpr ⟨List.mem_append_right _ (List.mem_of_getElem? (i := 1376) rfl), rfl⟩
set_option maxRecDepth 100000 in
theorem tw_1380 : Cond.methodLink RL 89 yX10_signAt ∈ LW := List.mem_filter.mpr ⟨List.mem_append_right _ (List.mem_of_getElem? (i := 1380) rfl), rfl⟩
set_option maxRecDepth 100000 in
theorem tw_1384 : Cond.methodLink RL 93 yX10_flip ∈ LW := List.mem_filter.mpr ⟨List.mem_append_right _ (List.mem_of_getElem? (i := 1384) rfl), rfl⟩
set_option maxRecDepth 100000 in
theorem tw_1388 : Cond.methodLink RL 97 yX10_scratch ∈ LW := List.mem_filter.mpr ⟨List.mem_append_right _ (List.mem_of_getElem? (i := 1388) rfl), rfl⟩
set_option maxRecDepth 100000 in
theorem tw_1392 : Cond.methodLink RX10 291 yX10_reached ∈ LW := List.mem_filter.mpr ⟨List.mem_append_right _ (List.mem_of_getElem? (i := 1392) rfl), rfl⟩
set_option maxRecDepth 100000 in
theorem tw_1398 : Cond.methodLink RX10 286 yJ9_min_7cf53 ∈ LW := List.mem_filter.mpr ⟨List.mem_append_right _ (List.mem_of_getElem? (i := 1398) rfl), rfl⟩
set_option maxRecDepth 100000 in
theorem tw_1399 : Cond.methodLink RL 102 yX10_noise ∈ LW := List.mem_filter.mpr ⟨List.mem_append_right _ (List.mem_of_getElem? (i := 1399) rfl), rfl⟩
set_option maxRecDepth 100000 in
theorem tw_1403 : Cond.methodLink RL 106 yX10_slip ∈ LW := List.mem_filter.mpr ⟨List.mem_append_right _ (List.mem_of_getElem? (i := 1403) rfl), rfl⟩
set_option maxRecDepth 100000 in
theorem tw_1408 : Cond.methodLink RL 110 yX10_play ∈ LW := List.mem_filter.mpr ⟨List.mem_append_right _ (List.mem_of_getElem? (i := 1408) rfl), rfl⟩
set_option maxRecDepth 100000 in
theorem tw_1414 : Cond.methodLink RX10 324 yX10_findFrames ∈ LW := List.mem_filter.mpr ⟨List.mem_append_right _ (List.mem_of_getElem? (i := 1414) rfl), rfl⟩
set_option maxRecDepth 100000 in
theorem tw_1418 : Cond.methodLink RX10 299 yX10_nextFrame ∈ LW := List.mem_filter.mpr ⟨List.mem_append_right _ (List.mem_of_getElem? (i := 1418) rfl), rfl⟩
set_option maxRecDepth 100000 in
theorem tw_1422 : Cond.methodLink RX10 327 yX10_playInner ∈ LW := List.mem_filter.mpr ⟨List.mem_append_right _ (List.mem_of_getElem? (i := 1422) rfl), rfl⟩
set_option maxRecDepth 100000 in
theorem tw_1426 : Cond.methodLink RX10 302 yX10_readInner ∈ LW := List.mem_filter.mpr ⟨List.mem_append_right _ (List.mem_of_getElem? (i := 1426) rfl), rfl⟩
set_option maxRecDepth 100000 in
theorem tw_1430 : Cond.methodLink RX10 330 yX10_playOuter ∈ LW := List.mem_filter.mpr ⟨List.mem_append_right _ (List.mem_of_getElem? (i := 1430) rfl), rfl⟩
set_option maxRecDepth 100000 in
theorem tw_1434 : Cond.methodLink RX10 333 yX10_takeFrame ∈ LW := List.mem_filter.mpr ⟨List.mem_append_right _ (List.mem_of_getElem? (i := 1434) rfl), rfl⟩
set_option maxRecDepth 100000 in
theorem tw_1438 : Cond.methodLink RL 114 yX10_played ∈ LW := List.mem_filter.mpr ⟨List.mem_append_right _ (List.mem_of_getElem? (i := 1438) rfl), rfl⟩
set_option maxRecDepth 100000 in
theorem tw_1442 : Cond.methodLink RX10 336 yX10_isThere ∈ LW := List.mem_filter.mpr ⟨List.mem_append_right _ (List.mem_of_getElem? (i := 1442) rfl), rfl⟩
set_option maxRecDepth 100000 in
theorem tw_1446 : Cond.methodLink RL 118 yX10_isSure ∈ LW := List.mem_filter.mpr ⟨List.mem_append_right _ (List.mem_of_getElem? (i := 1446) rfl), rfl⟩
set_option maxRecDepth 100000 in
theorem tw_1450 : Cond.methodLink RL 123 yX10_heard ∈ LW := List.mem_filter.mpr ⟨List.mem_append_right _ (List.mem_of_getElem? (i := 1450) rfl), rfl⟩
set_option maxRecDepth 100000 in
theorem tw_1455 : Cond.methodLink RX10 344 yX10_isSampleSure ∈ LW := List.mem_filter.mpr ⟨List.mem_append_right _ (List.mem_of_getElem? (i := 1455) rfl), rfl⟩
set_option maxRecDepth 100000 in
theorem tw_1459 : Cond.methodLink RX10 339 yX10_sampleAt ∈ LW := List.mem_filter.mpr ⟨List.mem_append_right _ (List.mem_of_getElem? (i := 1459) rfl), rfl⟩
set_option maxRecDepth 100000 in
theorem tw_1462 : Cond.methodLink RX10 348 yX10_sample ∈ LW := List.mem_filter.mpr ⟨List.mem_append_right _ (List.mem_of_getElem? (i := 1462) rfl), rfl⟩
set_option maxRecDepth 100000 in
theorem tw_1466 : Cond.methodLink RL 127 yX10_inner ∈ LW := List.mem_filter.mpr ⟨List.mem_append_right _ (List.mem_of_getElem? (i := 1466) rfl), rfl⟩
set_option maxRecDepth 100000 in
theorem tw_1470 : Cond.methodLink RL 131 yX10_outer ∈ LW := List.mem_filter.mpr ⟨List.mem_append_right _ (List.mem_of_getElem? (i := 1470) rfl), rfl⟩
set_option maxRecDepth 100000 in
theorem tw_1474 : Cond.methodLink RL 135 yX10_told ∈ LW := List.mem_filter.mpr ⟨List.mem_append_right _ (List.mem_of_getElem? (i := 1474) rfl), rfl⟩
set_option maxRecDepth 100000 in
theorem tw_1478 : Cond.methodLink RX10 354 yX10_hidden ∈ LW := List.mem_filter.mpr ⟨List.mem_append_right _ (List.mem_of_getElem? (i := 1478) rfl), rfl⟩
set_option maxRecDepth 100000 in
theorem tw_1482 : Cond.methodLink RX10 358 yX10_sections ∈ LW := List.mem_filter.mpr ⟨List.mem_append_right _ (List.mem_of_getElem? (i := 1482) rfl), rfl⟩
set_option maxRecDepth 100000 in
theorem tw_1486 : Cond.methodLink RX10 351 yX10_beginsSection ∈ LW := List.mem_filter.mpr ⟨List.mem_append_right _ (List.mem_of_getElem? (i := 1486) rfl), rfl⟩
set_option maxRecDepth 100000 in
theorem tw_1490 : Cond.methodLink RL 139 yX10_q ∈ LW := List.mem_filter.mpr ⟨List.mem_append_right _ (List.mem_of_getElem? (i := 1490) rfl), rfl⟩
set_option maxRecDepth 100000 in
theorem tw_1494 : Cond.methodLink RX10 370 yX10_sectionAt ∈ LW := List.mem_filter.mpr ⟨List.mem_append_right _ (List.mem_of_getElem? (i := 1494) rfl), rfl⟩
set_option maxRecDepth 100000 in
theorem tw_1499 : Cond.methodLink RX10 375 yX10_isSound ∈ LW := List.mem_filter.mpr ⟨List.mem_append_right _ (List.mem_of_getElem? (i := 1499) rfl), rfl⟩
set_option maxRecDepth 100000 in
theorem tw_1503 : Cond.methodLink RX10 361 yX10_channelBits ∈ LW := List.mem_filter.mpr ⟨List.mem_append_right _ (List.mem_of_getElem? (i := 1503) rfl), rfl⟩
set_option maxRecDepth 100000 in
theorem tw_1507 : Cond.methodLink RX10 367 yX10_isClock ∈ LW := List.mem_filter.mpr ⟨List.mem_append_right _ (List.mem_of_getElem? (i := 1507) rfl), rfl⟩
set_option maxRecDepth 100000 in
theorem tw_1511 : Cond.methodLink RX10 364 yX10_twoFigures ∈ LW := List.mem_filter.mpr ⟨List.mem_append_right _ (List.mem_of_getElem? (i := 1511) rfl), rfl⟩
set_option maxRecDepth 100000 in
theorem tw_1515 : Cond.methodLink RX10 378 yX10_clockOf ∈ LW := List.mem_filter.mpr ⟨List.mem_append_right _ (List.mem_of_getElem? (i := 1515) rfl), rfl⟩
set_option maxRecDepth 100000 in
theorem tw_1519 : Cond.methodLink RL 143 yX10_burst ∈ LW := List.mem_filter.mpr ⟨List.mem_append_right _ (List.mem_of_getElem? (i := 1519) rfl), rfl⟩
set_option maxRecDepth 100000 in
theorem tw_1524 : Cond.methodLink RL 147 yX10_spell ∈ LW := List.mem_filter.mpr ⟨List.mem_append_right _ (List.mem_of_getElem? (i := 1524) rfl), rfl⟩
set_option maxRecDepth 100000 in
theorem tw_1529 : Cond.methodLink RL 151 yX10_read ∈ LW := List.mem_filter.mpr ⟨List.mem_append_right _ (List.mem_of_getElem? (i := 1529) rfl), rfl⟩
set_option maxRecDepth 100000 in
theorem tw_1534 : Cond.methodLink RL 155 yX10_put ∈ LW := List.mem_filter.mpr ⟨List.mem_append_right _ (List.mem_of_getElem? (i := 1534) rfl), rfl⟩
set_option maxRecDepth 100000 in
theorem tw_1539 : Cond.methodLink RL 160 yX10_mark ∈ LW := List.mem_filter.mpr ⟨List.mem_append_right _ (List.mem_of_getElem? (i := 1539) rfl), rfl⟩
set_option maxRecDepth 100000 in
theorem tw_1543 : Cond.methodLink RL 164 yX10_at ∈ LW := List.mem_filter.mpr ⟨List.mem_append_right _ (List.mem_of_getElem? (i := 1543) rfl), rfl⟩
set_option maxRecDepth 100000 in
theorem tw_1547 : Cond.methodLink RL 169 yX10_seal ∈ LW := List.mem_filter.mpr ⟨List.mem_append_right _ (List.mem_of_getElem? (i := 1547) rfl), rfl⟩
set_option maxRecDepth 100000 in
theorem tw_1551 : Cond.methodLink RX10 389 yX10_toBench ∈ LW := List.mem_filter.mpr ⟨List.mem_append_right _ (List.mem_of_getElem? (i := 1551) rfl), rfl⟩
set_option maxRecDepth 100000 in
theorem tw_1555 : Cond.methodLink RL 174 yX10_syndrome ∈ LW := List.mem_filter.mpr ⟨List.mem_append_right _ (List.mem_of_getElem? (i := 1555) rfl), rfl⟩
set_option maxRecDepth 100000 in
theorem tw_1560 : Cond.methodLink RL 178 yX10_mend ∈ LW := List.mem_filter.mpr ⟨List.mem_append_right _ (List.mem_of_getElem? (i := 1560) rfl), rfl⟩
theorem tn_42 : Cond.methodLinkNest RX9 14 yX7_init "CompactDisc" ∈ lw_tbl := List.mem_append_right _ (List.mem_of_getElem? (i := 42) rfl)
theorem tn_56 : Cond.methodLinkNest RX9 21 yX1_init "CompactDisc" ∈ lw_tbl := List.mem_append_right _ (List.mem_of_getElem? (i := 56) rfl)
theorem tn_127 : Cond.methodLinkNest RX9 47 yX3_init "CompactDisc" ∈ lw_tbl := List.mem_append_right _ (List.mem_of_getElem? (i := 127) rfl)
theorem tn_149 : Cond.methodLinkNest RX6 11 yX4_init "CompactDisc" ∈ lw_tbl := List.mem_append_right _ (List.mem_of_getElem? (i := 149) rfl)
theorem tn_198 : Cond.methodLinkNest RX5 11 yX4_init "CompactDisc" ∈ lw_tbl := List.mem_append_right _ (List.mem_of_getElem? (i := 198) rfl)
set_option maxRecDepth 100000 in
theorem tw_294 : Cond.constant RX9 85 (1664525) ∈ LW := List.mem_filter.mpr ⟨List.mem_append_right _ (List.mem_of_getElem? (i := 294) rfl), rfl⟩
set_option maxRecDepth 100000 in
theorem tw_295 : Cond.constant RX9 86 (1013904223) ∈ LW := List.mem_filter.mpr ⟨List.mem_append_right _ (List.mem_of_getElem? (i := 295) rfl), rfl⟩
set_option maxRecDepth 100000 in
theorem tw_308 : Cond.constant RX9 87 (400000) ∈ LW := List.mem_filter.mpr ⟨List.mem_append_right _ (List.mem_of_getElem? (i := 308) rfl), rfl⟩
set_option maxRecDepth 100000 in
theorem tw_443 : Cond.constant RX6 96 (8392706) ∈ LW := List.mem_filter.mpr ⟨List.mem_append_right _ (List.mem_of_getElem? (i := 443) rfl), rfl⟩
set_option maxRecDepth 100000 in
theorem tw_462 : Cond.constant RJ6 265 (1431655765) ∈ LW := List.mem_filter.mpr ⟨List.mem_append_right _ (List.mem_of_getElem? (i := 462) rfl), rfl⟩
set_option maxRecDepth 100000 in
theorem tw_463 : Cond.constant RJ6 266 (858993459) ∈ LW := List.mem_filter.mpr ⟨List.mem_append_right _ (List.mem_of_getElem? (i := 463) rfl), rfl⟩
set_option maxRecDepth 100000 in
theorem tw_464 : Cond.constant RJ6 267 (252645135) ∈ LW := List.mem_filter.mpr ⟨List.mem_append_right _ (List.mem_of_getElem? (i := 464) rfl), rfl⟩
set_option maxRecDepth 100000 in
theorem tw_480 : Cond.constant RX6 162 (360001) ∈ LW := List.mem_filter.mpr ⟨List.mem_append_right _ (List.mem_of_getElem? (i := 480) rfl), rfl⟩
set_option maxRecDepth 100000 in
theorem tw_547 : Cond.constant RX4 28 (65535) ∈ LW := List.mem_filter.mpr ⟨List.mem_append_right _ (List.mem_of_getElem? (i := 547) rfl), rfl⟩
set_option maxRecDepth 100000 in
theorem tw_617 : Cond.constant RX9 126 (-1000000) ∈ LW := List.mem_filter.mpr ⟨List.mem_append_right _ (List.mem_of_getElem? (i := 617) rfl), rfl⟩
set_option maxRecDepth 100000 in
theorem tw_653 : Cond.constant RX3 63 (8392706) ∈ LW := List.mem_filter.mpr ⟨List.mem_append_right _ (List.mem_of_getElem? (i := 653) rfl), rfl⟩
set_option maxRecDepth 100000 in
theorem tw_696 : Cond.constant RX9 158 (360000) ∈ LW := List.mem_filter.mpr ⟨List.mem_append_right _ (List.mem_of_getElem? (i := 696) rfl), rfl⟩
set_option maxRecDepth 100000 in
theorem tw_755 : Cond.constant RX5 154 (-1431655766) ∈ LW := List.mem_filter.mpr ⟨List.mem_append_right _ (List.mem_of_getElem? (i := 755) rfl), rfl⟩
set_option maxRecDepth 100000 in
theorem tw_756 : Cond.constant RX5 155 (1431655765) ∈ LW := List.mem_filter.mpr ⟨List.mem_append_right _ (List.mem_of_getElem? (i := 756) rfl), rfl⟩
set_option maxRecDepth 100000 in
theorem tw_803 : Cond.constant RX5 178 (268435455) ∈ LW := List.mem_filter.mpr ⟨List.mem_append_right _ (List.mem_of_getElem? (i := 803) rfl), rfl⟩
set_option maxRecDepth 100000 in
theorem tw_874 : Cond.constant RX5 204 (65536) ∈ LW := List.mem_filter.mpr ⟨List.mem_append_right _ (List.mem_of_getElem? (i := 874) rfl), rfl⟩
set_option maxRecDepth 100000 in
theorem tw_1018 : Cond.constant RX10 38 (360000) ∈ LW := List.mem_filter.mpr ⟨List.mem_append_right _ (List.mem_of_getElem? (i := 1018) rfl), rfl⟩
set_option maxRecDepth 100000 in
theorem tw_1184 : Cond.constant RX10 153 (1664525) ∈ LW := List.mem_filter.mpr ⟨List.mem_append_right _ (List.mem_of_getElem? (i := 1184) rfl), rfl⟩
set_option maxRecDepth 100000 in
theorem tw_1185 : Cond.constant RX10 154 (1013904223) ∈ LW := List.mem_filter.mpr ⟨List.mem_append_right _ (List.mem_of_getElem? (i := 1185) rfl), rfl⟩
set_option maxRecDepth 100000 in
theorem tw_1272 : Cond.constant RX10 211 (8392706) ∈ LW := List.mem_filter.mpr ⟨List.mem_append_right _ (List.mem_of_getElem? (i := 1272) rfl), rfl⟩
set_option maxRecDepth 100000 in
theorem tw_1277 : Cond.constant RX10 200 (16777215) ∈ LW := List.mem_filter.mpr ⟨List.mem_append_right _ (List.mem_of_getElem? (i := 1277) rfl), rfl⟩
set_option maxRecDepth 100000 in
theorem tw_1313 : Cond.constant RX10 237 (65535) ∈ LW := List.mem_filter.mpr ⟨List.mem_append_right _ (List.mem_of_getElem? (i := 1313) rfl), rfl⟩
set_option maxRecDepth 100000 in
theorem tw_1367 : Cond.constant RX10 278 (-1000000) ∈ LW := List.mem_filter.mpr ⟨List.mem_append_right _ (List.mem_of_getElem? (i := 1367) rfl), rfl⟩
set_option maxRecDepth 100000 in
theorem tw_1454 : Cond.constant RX10 343 (65536) ∈ LW := List.mem_filter.mpr ⟨List.mem_append_right _ (List.mem_of_getElem? (i := 1454) rfl), rfl⟩
set_option maxRecDepth 100000 in
theorem tw_492 : Cond.constantLong RX6 178 (16777215) ∈ LW := List.mem_filter.mpr ⟨List.mem_append_right _ (List.mem_of_getElem? (i := 492) rfl), rfl⟩
set_option maxRecDepth 100000 in
theorem tw_493 : Cond.constantLong RX6 180 (8392706) ∈ LW := List.mem_filter.mpr ⟨List.mem_append_right _ (List.mem_of_getElem? (i := 493) rfl), rfl⟩
set_option maxRecDepth 100000 in
theorem tw_679 : Cond.constantLong RX9 156 (588) ∈ LW := List.mem_filter.mpr ⟨List.mem_append_right _ (List.mem_of_getElem? (i := 679) rfl), rfl⟩
set_option maxRecDepth 100000 in
theorem tw_1175 : Cond.constantLong RX10 142 (8) ∈ LW := List.mem_filter.mpr ⟨List.mem_append_right _ (List.mem_of_getElem? (i := 1175) rfl), rfl⟩
set_option maxRecDepth 100000 in
theorem tw_1183 : Cond.constantLong RX10 151 (11712) ∈ LW := List.mem_filter.mpr ⟨List.mem_append_right _ (List.mem_of_getElem? (i := 1183) rfl), rfl⟩
set_option maxRecDepth 100000 in
theorem tw_1198 : Cond.constantLong RX10 155 (400000) ∈ LW := List.mem_filter.mpr ⟨List.mem_append_right _ (List.mem_of_getElem? (i := 1198) rfl), rfl⟩
set_option maxRecDepth 100000 in
theorem tw_1203 : Cond.constantLong RX10 160 (9) ∈ LW := List.mem_filter.mpr ⟨List.mem_append_right _ (List.mem_of_getElem? (i := 1203) rfl), rfl⟩
set_option maxRecDepth 100000 in
theorem tw_1204 : Cond.constantLong RX10 162 (15) ∈ LW := List.mem_filter.mpr ⟨List.mem_append_right _ (List.mem_of_getElem? (i := 1204) rfl), rfl⟩
set_option maxRecDepth 100000 in
theorem tw_1205 : Cond.constantLong RX10 164 (99) ∈ LW := List.mem_filter.mpr ⟨List.mem_append_right _ (List.mem_of_getElem? (i := 1205) rfl), rfl⟩
set_option maxRecDepth 100000 in
theorem tw_1357 : Cond.constantLong RX10 274 (32) ∈ LW := List.mem_filter.mpr ⟨List.mem_append_right _ (List.mem_of_getElem? (i := 1357) rfl), rfl⟩
set_option maxRecDepth 100000 in
theorem tw_1362 : Cond.constantLong RX10 276 (33) ∈ LW := List.mem_filter.mpr ⟨List.mem_append_right _ (List.mem_of_getElem? (i := 1362) rfl), rfl⟩
set_option maxRecDepth 100000 in
theorem tw_1396 : Cond.constantLong RX10 282 (588) ∈ LW := List.mem_filter.mpr ⟨List.mem_append_right _ (List.mem_of_getElem? (i := 1396) rfl), rfl⟩
set_option maxRecDepth 100000 in
theorem tw_1397 : Cond.constantLong RX10 284 (600) ∈ LW := List.mem_filter.mpr ⟨List.mem_append_right _ (List.mem_of_getElem? (i := 1397) rfl), rfl⟩
set_option maxRecDepth 100000 in
theorem tw_1407 : Cond.constantLong RX10 294 (-600) ∈ LW := List.mem_filter.mpr ⟨List.mem_append_right _ (List.mem_of_getElem? (i := 1407) rfl), rfl⟩
set_option maxRecDepth 100000 in
theorem tw_1412 : Cond.constantLong RX10 317 (2) ∈ LW := List.mem_filter.mpr ⟨List.mem_append_right _ (List.mem_of_getElem? (i := 1412) rfl), rfl⟩
set_option maxRecDepth 100000 in
theorem tw_1413 : Cond.constantLong RX10 319 (20) ∈ LW := List.mem_filter.mpr ⟨List.mem_append_right _ (List.mem_of_getElem? (i := 1413) rfl), rfl⟩
set_option maxRecDepth 100000 in
theorem tw_1498 : Cond.constantLong RX10 373 (6) ∈ LW := List.mem_filter.mpr ⟨List.mem_append_right _ (List.mem_of_getElem? (i := 1498) rfl), rfl⟩
set_option maxRecDepth 100000 in
theorem tw_1523 : Cond.constantLong RX10 381 (200) ∈ LW := List.mem_filter.mpr ⟨List.mem_append_right _ (List.mem_of_getElem? (i := 1523) rfl), rfl⟩
set_option maxRecDepth 100000 in
theorem tw_1528 : Cond.constantLong RX10 383 (255) ∈ LW := List.mem_filter.mpr ⟨List.mem_append_right _ (List.mem_of_getElem? (i := 1528) rfl), rfl⟩
set_option maxRecDepth 100000 in
theorem tw_1533 : Cond.constantLong RX10 385 (16383) ∈ LW := List.mem_filter.mpr ⟨List.mem_append_right _ (List.mem_of_getElem? (i := 1533) rfl), rfl⟩
set_option maxRecDepth 100000 in
theorem tw_1538 : Cond.constantLong RX10 387 (31) ∈ LW := List.mem_filter.mpr ⟨List.mem_append_right _ (List.mem_of_getElem? (i := 1538) rfl), rfl⟩
set_option maxRecDepth 100000 in
theorem tw_1559 : Cond.constantLong RX10 392 (3) ∈ LW := List.mem_filter.mpr ⟨List.mem_append_right _ (List.mem_of_getElem? (i := 1559) rfl), rfl⟩
set_option maxRecDepth 100000 in
theorem tw_1564 : Cond.constantLong RL 13 (4294967295) ∈ LW := List.mem_filter.mpr ⟨List.mem_append_right _ (List.mem_of_getElem? (i := 1564) rfl), rfl⟩
set_option maxRecDepth 100000 in
theorem tw_15 : Cond.classLink RL 7 RX9 ∈ LW := List.mem_filter.mpr ⟨List.mem_append_right _ (List.mem_of_getElem? (i := 15) rfl), rfl⟩
set_option maxRecDepth 100000 in
theorem tw_23 : Cond.classLink RX9 9 RX2 ∈ LW := List.mem_filter.mpr ⟨List.mem_append_right _ (List.mem_of_getElem? (i := 23) rfl), rfl⟩
set_option maxRecDepth 100000 in
theorem tw_40 : Cond.classLink RX9 12 RX7 ∈ LW := List.mem_filter.mpr ⟨List.mem_append_right _ (List.mem_of_getElem? (i := 40) rfl), rfl⟩
set_option maxRecDepth 100000 in
theorem tw_54 : Cond.classLink RX9 19 RX1 ∈ LW := List.mem_filter.mpr ⟨List.mem_append_right _ (List.mem_of_getElem? (i := 54) rfl), rfl⟩
set_option maxRecDepth 100000 in
theorem tw_79 : Cond.classLink RX9 26 RX8 ∈ LW := List.mem_filter.mpr ⟨List.mem_append_right _ (List.mem_of_getElem? (i := 79) rfl), rfl⟩
set_option maxRecDepth 100000 in
theorem tw_94 : Cond.classLink RX9 33 RX0 ∈ LW := List.mem_filter.mpr ⟨List.mem_append_right _ (List.mem_of_getElem? (i := 94) rfl), rfl⟩
set_option maxRecDepth 100000 in
theorem tw_125 : Cond.classLink RX9 45 RX3 ∈ LW := List.mem_filter.mpr ⟨List.mem_append_right _ (List.mem_of_getElem? (i := 125) rfl), rfl⟩
set_option maxRecDepth 100000 in
theorem tw_141 : Cond.classLink RX9 52 RX6 ∈ LW := List.mem_filter.mpr ⟨List.mem_append_right _ (List.mem_of_getElem? (i := 141) rfl), rfl⟩
set_option maxRecDepth 100000 in
theorem tw_147 : Cond.classLink RX6 9 RX4 ∈ LW := List.mem_filter.mpr ⟨List.mem_append_right _ (List.mem_of_getElem? (i := 147) rfl), rfl⟩
set_option maxRecDepth 100000 in
theorem tw_191 : Cond.classLink RX9 61 RX5 ∈ LW := List.mem_filter.mpr ⟨List.mem_append_right _ (List.mem_of_getElem? (i := 191) rfl), rfl⟩
set_option maxRecDepth 100000 in
theorem tw_197 : Cond.classLink RX5 9 RX4 ∈ LW := List.mem_filter.mpr ⟨List.mem_append_right _ (List.mem_of_getElem? (i := 197) rfl), rfl⟩
set_option maxRecDepth 100000 in
theorem tw_1012 : Cond.classLink RL 10 RX10 ∈ LW := List.mem_filter.mpr ⟨List.mem_append_right _ (List.mem_of_getElem? (i := 1012) rfl), rfl⟩
set_option maxRecDepth 100000 in
theorem tw_0 : Cond.initialized RL ∈ LW := List.mem_filter.mpr ⟨List.mem_append_right _ (List.mem_of_getElem? (i := 0) rfl), rfl⟩
set_option maxRecDepth 100000 in
theorem tw_1 : Cond.initialized RX9 ∈ LW := List.mem_filter.mpr ⟨List.mem_append_right _ (List.mem_of_getElem? (i := 1) rfl), rfl⟩
set_option maxRecDepth 100000 in
theorem tw_2 : Cond.initialized RX2 ∈ LW := List.mem_filter.mpr ⟨List.mem_append_right _ (List.mem_of_getElem? (i := 2) rfl), rfl⟩
set_option maxRecDepth 100000 in
theorem tw_3 : Cond.initialized RX7 ∈ LW := List.mem_filter.mpr ⟨List.mem_append_right _ (List.mem_of_getElem? (i := 3) rfl), rfl⟩
set_option maxRecDepth 100000 in
theorem tw_4 : Cond.initialized RX1 ∈ LW := List.mem_filter.mpr ⟨List.mem_append_right _ (List.mem_of_getElem? (i := 4) rfl), rfl⟩
set_option maxRecDepth 100000 in
theorem tw_5 : Cond.initialized RX8 ∈ LW := List.mem_filter.mpr ⟨List.mem_append_right _ (List.mem_of_getElem? (i := 5) rfl), rfl⟩
set_option maxRecDepth 100000 in
theorem tw_6 : Cond.initialized RX0 ∈ LW := List.mem_filter.mpr ⟨List.mem_append_right _ (List.mem_of_getElem? (i := 6) rfl), rfl⟩
set_option maxRecDepth 100000 in
theorem tw_7 : Cond.initialized RX3 ∈ LW := List.mem_filter.mpr ⟨List.mem_append_right _ (List.mem_of_getElem? (i := 7) rfl), rfl⟩
set_option maxRecDepth 100000 in
theorem tw_8 : Cond.initialized RX6 ∈ LW := List.mem_filter.mpr ⟨List.mem_append_right _ (List.mem_of_getElem? (i := 8) rfl), rfl⟩
set_option maxRecDepth 100000 in
theorem tw_9 : Cond.initialized RX4 ∈ LW := List.mem_filter.mpr ⟨List.mem_append_right _ (List.mem_of_getElem? (i := 9) rfl), rfl⟩
set_option maxRecDepth 100000 in
theorem tw_10 : Cond.initialized RX5 ∈ LW := List.mem_filter.mpr ⟨List.mem_append_right _ (List.mem_of_getElem? (i := 10) rfl), rfl⟩
set_option maxRecDepth 100000 in
theorem tw_11 : Cond.initialized RX10 ∈ LW := List.mem_filter.mpr ⟨List.mem_append_right _ (List.mem_of_getElem? (i := 11) rfl), rfl⟩
set_option maxRecDepth 100000 in
theorem tw_12 : Cond.initialized RJ7 ∈ LW := List.mem_filter.mpr ⟨List.mem_append_right _ (List.mem_of_getElem? (i := 12) rfl), rfl⟩
set_option maxRecDepth 100000 in
theorem tw_13 : Cond.initialized RJ6 ∈ LW := List.mem_filter.mpr ⟨List.mem_append_right _ (List.mem_of_getElem? (i := 13) rfl), rfl⟩
set_option maxRecDepth 100000 in
theorem tw_14 : Cond.initialized RJ9 ∈ LW := List.mem_filter.mpr ⟨List.mem_append_right _ (List.mem_of_getElem? (i := 14) rfl), rfl⟩
set_option maxRecDepth 100000 in
theorem tw_16 : Cond.instantiable RX9 11 ∈ LW := List.mem_filter.mpr ⟨List.mem_append_right _ (List.mem_of_getElem? (i := 16) rfl), rfl⟩
set_option maxRecDepth 100000 in
theorem tw_18 : Cond.instanceMethod yX9_init ∈ LW := List.mem_filter.mpr ⟨List.mem_append_right _ (List.mem_of_getElem? (i := 18) rfl), rfl⟩
set_option maxRecDepth 100000 in
theorem tw_21 : Cond.instanceMethod objectInit ∈ LW := List.mem_filter.mpr ⟨List.mem_append_right _ (List.mem_of_getElem? (i := 21) rfl), rfl⟩
set_option maxRecDepth 100000 in
theorem tw_24 : Cond.instantiable RX2 2 ∈ LW := List.mem_filter.mpr ⟨List.mem_append_right _ (List.mem_of_getElem? (i := 24) rfl), rfl⟩
set_option maxRecDepth 100000 in
theorem tw_26 : Cond.instanceMethod yX2_init ∈ LW := List.mem_filter.mpr ⟨List.mem_append_right _ (List.mem_of_getElem? (i := 26) rfl), rfl⟩
set_option maxRecDepth 100000 in
theorem tw_30 : Cond.static yX2_twice ∈ LW := List.mem_filter.mpr ⟨List.mem_append_right _ (List.mem_of_getElem? (i := 30) rfl), rfl⟩
set_option maxRecDepth 100000 in
theorem tw_39 : Cond.arrayClass .int ∈ LW := List.mem_filter.mpr ⟨List.mem_append_right _ (List.mem_of_getElem? (i := 39) rfl), rfl⟩
set_option maxRecDepth 100000 in
theorem tw_41 : Cond.instantiable RX7 2 ∈ LW := List.mem_filter.mpr ⟨List.mem_append_right _ (List.mem_of_getElem? (i := 41) rfl), rfl⟩
set_option maxRecDepth 100000 in
theorem tw_43 : Cond.instanceMethod yX7_init ∈ LW := List.mem_filter.mpr ⟨List.mem_append_right _ (List.mem_of_getElem? (i := 43) rfl), rfl⟩
set_option maxRecDepth 100000 in
theorem tw_53 : Cond.arrayClass .byte ∈ LW := List.mem_filter.mpr ⟨List.mem_append_right _ (List.mem_of_getElem? (i := 53) rfl), rfl⟩
set_option maxRecDepth 100000 in
theorem tw_55 : Cond.instantiable RX1 6 ∈ LW := List.mem_filter.mpr ⟨List.mem_append_right _ (List.mem_of_getElem? (i := 55) rfl), rfl⟩
set_option maxRecDepth 100000 in
theorem tw_57 : Cond.instanceMethod yX1_init ∈ LW := List.mem_filter.mpr ⟨List.mem_append_right _ (List.mem_of_getElem? (i := 57) rfl), rfl⟩
set_option maxRecDepth 100000 in
theorem tw_80 : Cond.instantiable RX8 2 ∈ LW := List.mem_filter.mpr ⟨List.mem_append_right _ (List.mem_of_getElem? (i := 80) rfl), rfl⟩
set_option maxRecDepth 100000 in
theorem tw_82 : Cond.instanceMethod yX8_init ∈ LW := List.mem_filter.mpr ⟨List.mem_append_right _ (List.mem_of_getElem? (i := 82) rfl), rfl⟩
theorem tn_86 : Cond.laysStatic "CompactDisc$Speller" "WORDS" "[I" ∈ lw_tbl := List.mem_append_right _ (List.mem_of_getElem? (i := 86) rfl)
set_option maxRecDepth 100000 in
theorem tw_95 : Cond.instantiable RX0 8 ∈ LW := List.mem_filter.mpr ⟨List.mem_append_right _ (List.mem_of_getElem? (i := 95) rfl), rfl⟩
set_option maxRecDepth 100000 in
theorem tw_97 : Cond.instanceMethod yX0_init ∈ LW := List.mem_filter.mpr ⟨List.mem_append_right _ (List.mem_of_getElem? (i := 97) rfl), rfl⟩
set_option maxRecDepth 100000 in
theorem tw_126 : Cond.instantiable RX3 3 ∈ LW := List.mem_filter.mpr ⟨List.mem_append_right _ (List.mem_of_getElem? (i := 126) rfl), rfl⟩
set_option maxRecDepth 100000 in
theorem tw_128 : Cond.instanceMethod yX3_init ∈ LW := List.mem_filter.mpr ⟨List.mem_append_right _ (List.mem_of_getElem? (i := 128) rfl), rfl⟩
set_option maxRecDepth 100000 in
theorem tw_142 : Cond.instantiable RX6 11 ∈ LW := List.mem_filter.mpr ⟨List.mem_append_right _ (List.mem_of_getElem? (i := 142) rfl), rfl⟩
set_option maxRecDepth 100000 in
theorem tw_144 : Cond.instanceMethod yX6_init ∈ LW := List.mem_filter.mpr ⟨List.mem_append_right _ (List.mem_of_getElem? (i := 144) rfl), rfl⟩
set_option maxRecDepth 100000 in
theorem tw_148 : Cond.instantiable RX4 1 ∈ LW := List.mem_filter.mpr ⟨List.mem_append_right _ (List.mem_of_getElem? (i := 148) rfl), rfl⟩
set_option maxRecDepth 100000 in
theorem tw_150 : Cond.instanceMethod yX4_init ∈ LW := List.mem_filter.mpr ⟨List.mem_append_right _ (List.mem_of_getElem? (i := 150) rfl), rfl⟩
set_option maxRecDepth 100000 in
theorem tw_192 : Cond.instantiable RX5 15 ∈ LW := List.mem_filter.mpr ⟨List.mem_append_right _ (List.mem_of_getElem? (i := 192) rfl), rfl⟩
set_option maxRecDepth 100000 in
theorem tw_194 : Cond.instanceMethod yX5_init ∈ LW := List.mem_filter.mpr ⟨List.mem_append_right _ (List.mem_of_getElem? (i := 194) rfl), rfl⟩
set_option maxRecDepth 100000 in
theorem tw_280 : Cond.instanceMethod yX9_feed ∈ LW := List.mem_filter.mpr ⟨List.mem_append_right _ (List.mem_of_getElem? (i := 280) rfl), rfl⟩
set_option maxRecDepth 100000 in
theorem tw_285 : Cond.instanceMethod yX9_addByte ∈ LW := List.mem_filter.mpr ⟨List.mem_append_right _ (List.mem_of_getElem? (i := 285) rfl), rfl⟩
set_option maxRecDepth 100000 in
theorem tw_288 : Cond.instanceMethod yX9_fill ∈ LW := List.mem_filter.mpr ⟨List.mem_append_right _ (List.mem_of_getElem? (i := 288) rfl), rfl⟩
set_option maxRecDepth 100000 in
theorem tw_292 : Cond.static yX9_nextNoise ∈ LW := List.mem_filter.mpr ⟨List.mem_append_right _ (List.mem_of_getElem? (i := 292) rfl), rfl⟩
set_option maxRecDepth 100000 in
theorem tw_297 : Cond.instanceMethod yX9_wipe ∈ LW := List.mem_filter.mpr ⟨List.mem_append_right _ (List.mem_of_getElem? (i := 297) rfl), rfl⟩
set_option maxRecDepth 100000 in
theorem tw_301 : Cond.instanceMethod yX9_streamAt ∈ LW := List.mem_filter.mpr ⟨List.mem_append_right _ (List.mem_of_getElem? (i := 301) rfl), rfl⟩
set_option maxRecDepth 100000 in
theorem tw_305 : Cond.instanceMethod yX9_begin ∈ LW := List.mem_filter.mpr ⟨List.mem_append_right _ (List.mem_of_getElem? (i := 305) rfl), rfl⟩
set_option maxRecDepth 100000 in
theorem tw_310 : Cond.instanceMethod yX1_startAt ∈ LW := List.mem_filter.mpr ⟨List.mem_append_right _ (List.mem_of_getElem? (i := 310) rfl), rfl⟩
set_option maxRecDepth 100000 in
theorem tw_314 : Cond.instanceMethod yX9_entry ∈ LW := List.mem_filter.mpr ⟨List.mem_append_right _ (List.mem_of_getElem? (i := 314) rfl), rfl⟩
set_option maxRecDepth 100000 in
theorem tw_318 : Cond.instanceMethod yX1_add ∈ LW := List.mem_filter.mpr ⟨List.mem_append_right _ (List.mem_of_getElem? (i := 318) rfl), rfl⟩
set_option maxRecDepth 100000 in
theorem tw_322 : Cond.instanceMethod yX9_plain ∈ LW := List.mem_filter.mpr ⟨List.mem_append_right _ (List.mem_of_getElem? (i := 322) rfl), rfl⟩
set_option maxRecDepth 100000 in
theorem tw_326 : Cond.instanceMethod yX1_clear ∈ LW := List.mem_filter.mpr ⟨List.mem_append_right _ (List.mem_of_getElem? (i := 326) rfl), rfl⟩
set_option maxRecDepth 100000 in
theorem tw_330 : Cond.instanceMethod yX9_press ∈ LW := List.mem_filter.mpr ⟨List.mem_append_right _ (List.mem_of_getElem? (i := 330) rfl), rfl⟩
set_option maxRecDepth 100000 in
theorem tw_334 : Cond.instanceMethod yX5_forget ∈ LW := List.mem_filter.mpr ⟨List.mem_append_right _ (List.mem_of_getElem? (i := 334) rfl), rfl⟩
set_option maxRecDepth 100000 in
theorem tw_338 : Cond.instanceMethod yX6_pressStream ∈ LW := List.mem_filter.mpr ⟨List.mem_append_right _ (List.mem_of_getElem? (i := 338) rfl), rfl⟩
set_option maxRecDepth 100000 in
theorem tw_342 : Cond.instanceMethod yX3_reset ∈ LW := List.mem_filter.mpr ⟨List.mem_append_right _ (List.mem_of_getElem? (i := 342) rfl), rfl⟩
set_option maxRecDepth 100000 in
theorem tw_346 : Cond.static yJ7_fill_53178 ∈ LW := List.mem_filter.mpr ⟨List.mem_append_right _ (List.mem_of_getElem? (i := 346) rfl), rfl⟩
set_option maxRecDepth 100000 in
theorem tw_349 : Cond.instanceMethod yX7_empty ∈ LW := List.mem_filter.mpr ⟨List.mem_append_right _ (List.mem_of_getElem? (i := 349) rfl), rfl⟩
set_option maxRecDepth 100000 in
theorem tw_353 : Cond.static yJ7_fill_031fb ∈ LW := List.mem_filter.mpr ⟨List.mem_append_right _ (List.mem_of_getElem? (i := 353) rfl), rfl⟩
set_option maxRecDepth 100000 in
theorem tw_358 : Cond.instanceMethod yX6_makeOuterWords ∈ LW := List.mem_filter.mpr ⟨List.mem_append_right _ (List.mem_of_getElem? (i := 358) rfl), rfl⟩
set_option maxRecDepth 100000 in
theorem tw_361 : Cond.static yX7_lagOf ∈ LW := List.mem_filter.mpr ⟨List.mem_append_right _ (List.mem_of_getElem? (i := 361) rfl), rfl⟩
set_option maxRecDepth 100000 in
theorem tw_364 : Cond.static yX7_placeOf ∈ LW := List.mem_filter.mpr ⟨List.mem_append_right _ (List.mem_of_getElem? (i := 364) rfl), rfl⟩
set_option maxRecDepth 100000 in
theorem tw_367 : Cond.instanceMethod yX7_set ∈ LW := List.mem_filter.mpr ⟨List.mem_append_right _ (List.mem_of_getElem? (i := 367) rfl), rfl⟩
set_option maxRecDepth 100000 in
theorem tw_371 : Cond.static yX7_isCell ∈ LW := List.mem_filter.mpr ⟨List.mem_append_right _ (List.mem_of_getElem? (i := 371) rfl), rfl⟩
set_option maxRecDepth 100000 in
theorem tw_374 : Cond.instanceMethod yX7_cells ∈ LW := List.mem_filter.mpr ⟨List.mem_append_right _ (List.mem_of_getElem? (i := 374) rfl), rfl⟩
set_option maxRecDepth 100000 in
theorem tw_378 : Cond.instanceMethod yX7_startOf ∈ LW := List.mem_filter.mpr ⟨List.mem_append_right _ (List.mem_of_getElem? (i := 378) rfl), rfl⟩
set_option maxRecDepth 100000 in
theorem tw_382 : Cond.instanceMethod yX0_settle ∈ LW := List.mem_filter.mpr ⟨List.mem_append_right _ (List.mem_of_getElem? (i := 382) rfl), rfl⟩
set_option maxRecDepth 100000 in
theorem tw_387 : Cond.instanceMethod yX0_sumUp ∈ LW := List.mem_filter.mpr ⟨List.mem_append_right _ (List.mem_of_getElem? (i := 387) rfl), rfl⟩
set_option maxRecDepth 100000 in
theorem tw_391 : Cond.instanceMethod yX0_fits ∈ LW := List.mem_filter.mpr ⟨List.mem_append_right _ (List.mem_of_getElem? (i := 391) rfl), rfl⟩
set_option maxRecDepth 100000 in
theorem tw_396 : Cond.instanceMethod yX0_addSpot ∈ LW := List.mem_filter.mpr ⟨List.mem_append_right _ (List.mem_of_getElem? (i := 396) rfl), rfl⟩
set_option maxRecDepth 100000 in
theorem tw_400 : Cond.instanceMethod yX0_correct ∈ LW := List.mem_filter.mpr ⟨List.mem_append_right _ (List.mem_of_getElem? (i := 400) rfl), rfl⟩
set_option maxRecDepth 100000 in
theorem tw_404 : Cond.instanceMethod yX0_spread ∈ LW := List.mem_filter.mpr ⟨List.mem_append_right _ (List.mem_of_getElem? (i := 404) rfl), rfl⟩
set_option maxRecDepth 100000 in
theorem tw_408 : Cond.instanceMethod yX2_power ∈ LW := List.mem_filter.mpr ⟨List.mem_append_right _ (List.mem_of_getElem? (i := 408) rfl), rfl⟩
set_option maxRecDepth 100000 in
theorem tw_412 : Cond.instanceMethod yX2_times ∈ LW := List.mem_filter.mpr ⟨List.mem_append_right _ (List.mem_of_getElem? (i := 412) rfl), rfl⟩
set_option maxRecDepth 100000 in
theorem tw_417 : Cond.instanceMethod yX0_without ∈ LW := List.mem_filter.mpr ⟨List.mem_append_right _ (List.mem_of_getElem? (i := 417) rfl), rfl⟩
set_option maxRecDepth 100000 in
theorem tw_420 : Cond.instanceMethod yX2_over ∈ LW := List.mem_filter.mpr ⟨List.mem_append_right _ (List.mem_of_getElem? (i := 420) rfl), rfl⟩
set_option maxRecDepth 100000 in
theorem tw_425 : Cond.instanceMethod yX6_makeInnerWords ∈ LW := List.mem_filter.mpr ⟨List.mem_append_right _ (List.mem_of_getElem? (i := 425) rfl), rfl⟩
set_option maxRecDepth 100000 in
theorem tw_428 : Cond.instanceMethod yX7_get ∈ LW := List.mem_filter.mpr ⟨List.mem_append_right _ (List.mem_of_getElem? (i := 428) rfl), rfl⟩
set_option maxRecDepth 100000 in
theorem tw_433 : Cond.instanceMethod yX6_makeFrames ∈ LW := List.mem_filter.mpr ⟨List.mem_append_right _ (List.mem_of_getElem? (i := 433) rfl), rfl⟩
set_option maxRecDepth 100000 in
theorem tw_437 : Cond.instanceMethod yX6_cut ∈ LW := List.mem_filter.mpr ⟨List.mem_append_right _ (List.mem_of_getElem? (i := 437) rfl), rfl⟩
set_option maxRecDepth 100000 in
theorem tw_441 : Cond.instanceMethod yX6_startGroove ∈ LW := List.mem_filter.mpr ⟨List.mem_append_right _ (List.mem_of_getElem? (i := 441) rfl), rfl⟩
set_option maxRecDepth 100000 in
theorem tw_446 : Cond.instanceMethod yX6_carve ∈ LW := List.mem_filter.mpr ⟨List.mem_append_right _ (List.mem_of_getElem? (i := 446) rfl), rfl⟩
set_option maxRecDepth 100000 in
theorem tw_449 : Cond.instanceMethod yX3_append ∈ LW := List.mem_filter.mpr ⟨List.mem_append_right _ (List.mem_of_getElem? (i := 449) rfl), rfl⟩
set_option maxRecDepth 100000 in
theorem tw_454 : Cond.instanceMethod yX3_merge ∈ LW := List.mem_filter.mpr ⟨List.mem_append_right _ (List.mem_of_getElem? (i := 454) rfl), rfl⟩
set_option maxRecDepth 100000 in
theorem tw_457 : Cond.static yX3_rise ∈ LW := List.mem_filter.mpr ⟨List.mem_append_right _ (List.mem_of_getElem? (i := 457) rfl), rfl⟩
set_option maxRecDepth 100000 in
theorem tw_460 : Cond.static yJ6_bitCount_0f7a4 ∈ LW := List.mem_filter.mpr ⟨List.mem_append_right _ (List.mem_of_getElem? (i := 460) rfl), rfl⟩
set_option maxRecDepth 100000 in
theorem tw_467 : Cond.static yX6_zerosBehind ∈ LW := List.mem_filter.mpr ⟨List.mem_append_right _ (List.mem_of_getElem? (i := 467) rfl), rfl⟩
set_option maxRecDepth 100000 in
theorem tw_471 : Cond.instanceMethod yX6_carveJoined ∈ LW := List.mem_filter.mpr ⟨List.mem_append_right _ (List.mem_of_getElem? (i := 471) rfl), rfl⟩
set_option maxRecDepth 100000 in
theorem tw_475 : Cond.instanceMethod yX6_chooseJoint ∈ LW := List.mem_filter.mpr ⟨List.mem_append_right _ (List.mem_of_getElem? (i := 475) rfl), rfl⟩
set_option maxRecDepth 100000 in
theorem tw_478 : Cond.static yX6_zerosAhead ∈ LW := List.mem_filter.mpr ⟨List.mem_append_right _ (List.mem_of_getElem? (i := 478) rfl), rfl⟩
set_option maxRecDepth 100000 in
theorem tw_483 : Cond.instanceMethod yX6_mayBe ∈ LW := List.mem_filter.mpr ⟨List.mem_append_right _ (List.mem_of_getElem? (i := 483) rfl), rfl⟩
set_option maxRecDepth 100000 in
theorem tw_486 : Cond.static yX6_isRun ∈ LW := List.mem_filter.mpr ⟨List.mem_append_right _ (List.mem_of_getElem? (i := 486) rfl), rfl⟩
set_option maxRecDepth 100000 in
theorem tw_490 : Cond.instanceMethod yX6_mocks ∈ LW := List.mem_filter.mpr ⟨List.mem_append_right _ (List.mem_of_getElem? (i := 490) rfl), rfl⟩
set_option maxRecDepth 100000 in
theorem tw_495 : Cond.static yJ9_abs_0f7a4 ∈ LW := List.mem_filter.mpr ⟨List.mem_append_right _ (List.mem_of_getElem? (i := 495) rfl), rfl⟩
set_option maxRecDepth 100000 in
theorem tw_498 : Cond.instanceMethod yX1_describe ∈ LW := List.mem_filter.mpr ⟨List.mem_append_right _ (List.mem_of_getElem? (i := 498) rfl), rfl⟩
set_option maxRecDepth 100000 in
theorem tw_503 : Cond.instanceMethod yX1_entryFor ∈ LW := List.mem_filter.mpr ⟨List.mem_append_right _ (List.mem_of_getElem? (i := 503) rfl), rfl⟩
set_option maxRecDepth 100000 in
theorem tw_507 : Cond.instanceMethod yX1_controlOf ∈ LW := List.mem_filter.mpr ⟨List.mem_append_right _ (List.mem_of_getElem? (i := 507) rfl), rfl⟩
set_option maxRecDepth 100000 in
theorem tw_510 : Cond.static yX1_isEntry ∈ LW := List.mem_filter.mpr ⟨List.mem_append_right _ (List.mem_of_getElem? (i := 510) rfl), rfl⟩
set_option maxRecDepth 100000 in
theorem tw_514 : Cond.instanceMethod yX1_trackOf ∈ LW := List.mem_filter.mpr ⟨List.mem_append_right _ (List.mem_of_getElem? (i := 514) rfl), rfl⟩
set_option maxRecDepth 100000 in
theorem tw_518 : Cond.instanceMethod yX1_indexOf ∈ LW := List.mem_filter.mpr ⟨List.mem_append_right _ (List.mem_of_getElem? (i := 518) rfl), rfl⟩
set_option maxRecDepth 100000 in
theorem tw_522 : Cond.instanceMethod yX1_timeOf ∈ LW := List.mem_filter.mpr ⟨List.mem_append_right _ (List.mem_of_getElem? (i := 522) rfl), rfl⟩
set_option maxRecDepth 100000 in
theorem tw_526 : Cond.instanceMethod yX1_belongs ∈ LW := List.mem_filter.mpr ⟨List.mem_append_right _ (List.mem_of_getElem? (i := 526) rfl), rfl⟩
set_option maxRecDepth 100000 in
theorem tw_529 : Cond.instanceMethod yX4_write ∈ LW := List.mem_filter.mpr ⟨List.mem_append_right _ (List.mem_of_getElem? (i := 529) rfl), rfl⟩
set_option maxRecDepth 100000 in
theorem tw_533 : Cond.static yX4_figures ∈ LW := List.mem_filter.mpr ⟨List.mem_append_right _ (List.mem_of_getElem? (i := 533) rfl), rfl⟩
set_option maxRecDepth 100000 in
theorem tw_537 : Cond.instanceMethod yX4_writeTime ∈ LW := List.mem_filter.mpr ⟨List.mem_append_right _ (List.mem_of_getElem? (i := 537) rfl), rfl⟩
set_option maxRecDepth 100000 in
theorem tw_541 : Cond.instanceMethod yX4_restOf80 ∈ LW := List.mem_filter.mpr ⟨List.mem_append_right _ (List.mem_of_getElem? (i := 541) rfl), rfl⟩
set_option maxRecDepth 100000 in
theorem tw_544 : Cond.instanceMethod yX4_bitOf ∈ LW := List.mem_filter.mpr ⟨List.mem_append_right _ (List.mem_of_getElem? (i := 544) rfl), rfl⟩
set_option maxRecDepth 100000 in
theorem tw_550 : Cond.instanceMethod yX6_wordBeside ∈ LW := List.mem_filter.mpr ⟨List.mem_append_right _ (List.mem_of_getElem? (i := 550) rfl), rfl⟩
set_option maxRecDepth 100000 in
theorem tw_553 : Cond.instanceMethod yX1_isPause ∈ LW := List.mem_filter.mpr ⟨List.mem_append_right _ (List.mem_of_getElem? (i := 553) rfl), rfl⟩
set_option maxRecDepth 100000 in
theorem tw_558 : Cond.instanceMethod yX8_wordOf ∈ LW := List.mem_filter.mpr ⟨List.mem_append_right _ (List.mem_of_getElem? (i := 558) rfl), rfl⟩
set_option maxRecDepth 100000 in
theorem tw_562 : Cond.static yX7_isTurned ∈ LW := List.mem_filter.mpr ⟨List.mem_append_right _ (List.mem_of_getElem? (i := 562) rfl), rfl⟩
set_option maxRecDepth 100000 in
theorem tw_565 : Cond.instanceMethod yX9_frames ∈ LW := List.mem_filter.mpr ⟨List.mem_append_right _ (List.mem_of_getElem? (i := 565) rfl), rfl⟩
set_option maxRecDepth 100000 in
theorem tw_569 : Cond.instanceMethod yX3_framesPressed ∈ LW := List.mem_filter.mpr ⟨List.mem_append_right _ (List.mem_of_getElem? (i := 569) rfl), rfl⟩
set_option maxRecDepth 100000 in
theorem tw_573 : Cond.instanceMethod yX9_length ∈ LW := List.mem_filter.mpr ⟨List.mem_append_right _ (List.mem_of_getElem? (i := 573) rfl), rfl⟩
set_option maxRecDepth 100000 in
theorem tw_577 : Cond.instanceMethod yX3_size ∈ LW := List.mem_filter.mpr ⟨List.mem_append_right _ (List.mem_of_getElem? (i := 577) rfl), rfl⟩
set_option maxRecDepth 100000 in
theorem tw_581 : Cond.instanceMethod yX9_bits ∈ LW := List.mem_filter.mpr ⟨List.mem_append_right _ (List.mem_of_getElem? (i := 581) rfl), rfl⟩
set_option maxRecDepth 100000 in
theorem tw_585 : Cond.instanceMethod yX3_has ∈ LW := List.mem_filter.mpr ⟨List.mem_append_right _ (List.mem_of_getElem? (i := 585) rfl), rfl⟩
set_option maxRecDepth 100000 in
theorem tw_589 : Cond.instanceMethod yX3_peek ∈ LW := List.mem_filter.mpr ⟨List.mem_append_right _ (List.mem_of_getElem? (i := 589) rfl), rfl⟩
set_option maxRecDepth 100000 in
theorem tw_594 : Cond.instanceMethod yX3_cell ∈ LW := List.mem_filter.mpr ⟨List.mem_append_right _ (List.mem_of_getElem? (i := 594) rfl), rfl⟩
set_option maxRecDepth 100000 in
theorem tw_597 : Cond.instanceMethod yX9_word ∈ LW := List.mem_filter.mpr ⟨List.mem_append_right _ (List.mem_of_getElem? (i := 597) rfl), rfl⟩
set_option maxRecDepth 100000 in
theorem tw_601 : Cond.instanceMethod yX3_wasPressed ∈ LW := List.mem_filter.mpr ⟨List.mem_append_right _ (List.mem_of_getElem? (i := 601) rfl), rfl⟩
set_option maxRecDepth 100000 in
theorem tw_605 : Cond.instanceMethod yX3_wordAt ∈ LW := List.mem_filter.mpr ⟨List.mem_append_right _ (List.mem_of_getElem? (i := 605) rfl), rfl⟩
set_option maxRecDepth 100000 in
theorem tw_610 : Cond.instanceMethod yX9_joint ∈ LW := List.mem_filter.mpr ⟨List.mem_append_right _ (List.mem_of_getElem? (i := 610) rfl), rfl⟩
set_option maxRecDepth 100000 in
theorem tw_614 : Cond.instanceMethod yX9_balance ∈ LW := List.mem_filter.mpr ⟨List.mem_append_right _ (List.mem_of_getElem? (i := 614) rfl), rfl⟩
set_option maxRecDepth 100000 in
theorem tw_619 : Cond.instanceMethod yX3_balanceBehind ∈ LW := List.mem_filter.mpr ⟨List.mem_append_right _ (List.mem_of_getElem? (i := 619) rfl), rfl⟩
set_option maxRecDepth 100000 in
theorem tw_623 : Cond.static yJ9_min_7cf53 ∈ LW := List.mem_filter.mpr ⟨List.mem_append_right _ (List.mem_of_getElem? (i := 623) rfl), rfl⟩
set_option maxRecDepth 100000 in
theorem tw_627 : Cond.instanceMethod yX9_run ∈ LW := List.mem_filter.mpr ⟨List.mem_append_right _ (List.mem_of_getElem? (i := 627) rfl), rfl⟩
set_option maxRecDepth 100000 in
theorem tw_631 : Cond.instanceMethod yX3_extremeRun ∈ LW := List.mem_filter.mpr ⟨List.mem_append_right _ (List.mem_of_getElem? (i := 631) rfl), rfl⟩
set_option maxRecDepth 100000 in
theorem tw_635 : Cond.instanceMethod yX9_signs ∈ LW := List.mem_filter.mpr ⟨List.mem_append_right _ (List.mem_of_getElem? (i := 635) rfl), rfl⟩
set_option maxRecDepth 100000 in
theorem tw_639 : Cond.instanceMethod yX3_countSigns ∈ LW := List.mem_filter.mpr ⟨List.mem_append_right _ (List.mem_of_getElem? (i := 639) rfl), rfl⟩
set_option maxRecDepth 100000 in
theorem tw_643 : Cond.instanceMethod yX3_nextSign ∈ LW := List.mem_filter.mpr ⟨List.mem_append_right _ (List.mem_of_getElem? (i := 643) rfl), rfl⟩
set_option maxRecDepth 100000 in
theorem tw_647 : Cond.static yJ9_max_7cf53 ∈ LW := List.mem_filter.mpr ⟨List.mem_append_right _ (List.mem_of_getElem? (i := 647) rfl), rfl⟩
set_option maxRecDepth 100000 in
theorem tw_650 : Cond.instanceMethod yX3_signStands ∈ LW := List.mem_filter.mpr ⟨List.mem_append_right _ (List.mem_of_getElem? (i := 650) rfl), rfl⟩
set_option maxRecDepth 100000 in
theorem tw_655 : Cond.instanceMethod yX9_signAt ∈ LW := List.mem_filter.mpr ⟨List.mem_append_right _ (List.mem_of_getElem? (i := 655) rfl), rfl⟩
set_option maxRecDepth 100000 in
theorem tw_659 : Cond.instanceMethod yX3_findSign ∈ LW := List.mem_filter.mpr ⟨List.mem_append_right _ (List.mem_of_getElem? (i := 659) rfl), rfl⟩
set_option maxRecDepth 100000 in
theorem tw_663 : Cond.instanceMethod yX9_flip ∈ LW := List.mem_filter.mpr ⟨List.mem_append_right _ (List.mem_of_getElem? (i := 663) rfl), rfl⟩
set_option maxRecDepth 100000 in
theorem tw_667 : Cond.instanceMethod yX3_turn ∈ LW := List.mem_filter.mpr ⟨List.mem_append_right _ (List.mem_of_getElem? (i := 667) rfl), rfl⟩
set_option maxRecDepth 100000 in
theorem tw_672 : Cond.instanceMethod yX9_scratch ∈ LW := List.mem_filter.mpr ⟨List.mem_append_right _ (List.mem_of_getElem? (i := 672) rfl), rfl⟩
set_option maxRecDepth 100000 in
theorem tw_677 : Cond.instanceMethod yX9_canSpoil ∈ LW := List.mem_filter.mpr ⟨List.mem_append_right _ (List.mem_of_getElem? (i := 677) rfl), rfl⟩
set_option maxRecDepth 100000 in
theorem tw_682 : Cond.instanceMethod yX3_blank ∈ LW := List.mem_filter.mpr ⟨List.mem_append_right _ (List.mem_of_getElem? (i := 682) rfl), rfl⟩
set_option maxRecDepth 100000 in
theorem tw_686 : Cond.static yX3_behind ∈ LW := List.mem_filter.mpr ⟨List.mem_append_right _ (List.mem_of_getElem? (i := 686) rfl), rfl⟩
set_option maxRecDepth 100000 in
theorem tw_689 : Cond.instanceMethod yX9_noise ∈ LW := List.mem_filter.mpr ⟨List.mem_append_right _ (List.mem_of_getElem? (i := 689) rfl), rfl⟩
set_option maxRecDepth 100000 in
theorem tw_693 : Cond.instanceMethod yX9_slip ∈ LW := List.mem_filter.mpr ⟨List.mem_append_right _ (List.mem_of_getElem? (i := 693) rfl), rfl⟩
set_option maxRecDepth 100000 in
theorem tw_698 : Cond.instanceMethod yX3_insertZeros ∈ LW := List.mem_filter.mpr ⟨List.mem_append_right _ (List.mem_of_getElem? (i := 698) rfl), rfl⟩
set_option maxRecDepth 100000 in
theorem tw_702 : Cond.instanceMethod yX3_remove ∈ LW := List.mem_filter.mpr ⟨List.mem_append_right _ (List.mem_of_getElem? (i := 702) rfl), rfl⟩
set_option maxRecDepth 100000 in
theorem tw_706 : Cond.instanceMethod yX9_play ∈ LW := List.mem_filter.mpr ⟨List.mem_append_right _ (List.mem_of_getElem? (i := 706) rfl), rfl⟩
set_option maxRecDepth 100000 in
theorem tw_710 : Cond.static yX9_isReach ∈ LW := List.mem_filter.mpr ⟨List.mem_append_right _ (List.mem_of_getElem? (i := 710) rfl), rfl⟩
set_option maxRecDepth 100000 in
theorem tw_713 : Cond.instanceMethod yX5_perform ∈ LW := List.mem_filter.mpr ⟨List.mem_append_right _ (List.mem_of_getElem? (i := 713) rfl), rfl⟩
set_option maxRecDepth 100000 in
theorem tw_720 : Cond.instanceMethod yX5_findFrames ∈ LW := List.mem_filter.mpr ⟨List.mem_append_right _ (List.mem_of_getElem? (i := 720) rfl), rfl⟩
set_option maxRecDepth 100000 in
theorem tw_726 : Cond.instanceMethod yX5_nextStart ∈ LW := List.mem_filter.mpr ⟨List.mem_append_right _ (List.mem_of_getElem? (i := 726) rfl), rfl⟩
set_option maxRecDepth 100000 in
theorem tw_732 : Cond.instanceMethod yX5_readFrame ∈ LW := List.mem_filter.mpr ⟨List.mem_append_right _ (List.mem_of_getElem? (i := 732) rfl), rfl⟩
set_option maxRecDepth 100000 in
theorem tw_736 : Cond.instanceMethod yX8_byteOf ∈ LW := List.mem_filter.mpr ⟨List.mem_append_right _ (List.mem_of_getElem? (i := 736) rfl), rfl⟩
set_option maxRecDepth 100000 in
theorem tw_743 : Cond.instanceMethod yX7_setMarks ∈ LW := List.mem_filter.mpr ⟨List.mem_append_right _ (List.mem_of_getElem? (i := 743) rfl), rfl⟩
set_option maxRecDepth 100000 in
theorem tw_748 : Cond.instanceMethod yX5_takeInnerWord ∈ LW := List.mem_filter.mpr ⟨List.mem_append_right _ (List.mem_of_getElem? (i := 748) rfl), rfl⟩
set_option maxRecDepth 100000 in
theorem tw_752 : Cond.instanceMethod yX7_marksOf ∈ LW := List.mem_filter.mpr ⟨List.mem_append_right _ (List.mem_of_getElem? (i := 752) rfl), rfl⟩
set_option maxRecDepth 100000 in
theorem tw_759 : Cond.instanceMethod yX5_mendInner ∈ LW := List.mem_filter.mpr ⟨List.mem_append_right _ (List.mem_of_getElem? (i := 759) rfl), rfl⟩
set_option maxRecDepth 100000 in
theorem tw_764 : Cond.instanceMethod yX0_heal ∈ LW := List.mem_filter.mpr ⟨List.mem_append_right _ (List.mem_of_getElem? (i := 764) rfl), rfl⟩
set_option maxRecDepth 100000 in
theorem tw_768 : Cond.instanceMethod yX0_allPlaces ∈ LW := List.mem_filter.mpr ⟨List.mem_append_right _ (List.mem_of_getElem? (i := 768) rfl), rfl⟩
set_option maxRecDepth 100000 in
theorem tw_775 : Cond.instanceMethod yX0_locate ∈ LW := List.mem_filter.mpr ⟨List.mem_append_right _ (List.mem_of_getElem? (i := 775) rfl), rfl⟩
set_option maxRecDepth 100000 in
theorem tw_779 : Cond.instanceMethod yX0_locateOne ∈ LW := List.mem_filter.mpr ⟨List.mem_append_right _ (List.mem_of_getElem? (i := 779) rfl), rfl⟩
set_option maxRecDepth 100000 in
theorem tw_782 : Cond.instanceMethod yX2_log ∈ LW := List.mem_filter.mpr ⟨List.mem_append_right _ (List.mem_of_getElem? (i := 782) rfl), rfl⟩
set_option maxRecDepth 100000 in
theorem tw_787 : Cond.instanceMethod yX0_locateTwo ∈ LW := List.mem_filter.mpr ⟨List.mem_append_right _ (List.mem_of_getElem? (i := 787) rfl), rfl⟩
set_option maxRecDepth 100000 in
theorem tw_791 : Cond.instanceMethod yX5_takeOuterWord ∈ LW := List.mem_filter.mpr ⟨List.mem_append_right _ (List.mem_of_getElem? (i := 791) rfl), rfl⟩
set_option maxRecDepth 100000 in
theorem tw_794 : Cond.instanceMethod yX7_isMarked ∈ LW := List.mem_filter.mpr ⟨List.mem_append_right _ (List.mem_of_getElem? (i := 794) rfl), rfl⟩
set_option maxRecDepth 100000 in
theorem tw_800 : Cond.instanceMethod yX5_mendOuter ∈ LW := List.mem_filter.mpr ⟨List.mem_append_right _ (List.mem_of_getElem? (i := 800) rfl), rfl⟩
set_option maxRecDepth 100000 in
theorem tw_806 : Cond.instanceMethod yX5_countUnsure ∈ LW := List.mem_filter.mpr ⟨List.mem_append_right _ (List.mem_of_getElem? (i := 806) rfl), rfl⟩
set_option maxRecDepth 100000 in
theorem tw_809 : Cond.instanceMethod yX5_sureOf ∈ LW := List.mem_filter.mpr ⟨List.mem_append_right _ (List.mem_of_getElem? (i := 809) rfl), rfl⟩
set_option maxRecDepth 100000 in
theorem tw_813 : Cond.static yX5_rowOf ∈ LW := List.mem_filter.mpr ⟨List.mem_append_right _ (List.mem_of_getElem? (i := 813) rfl), rfl⟩
set_option maxRecDepth 100000 in
theorem tw_819 : Cond.instanceMethod yX5_hide ∈ LW := List.mem_filter.mpr ⟨List.mem_append_right _ (List.mem_of_getElem? (i := 819) rfl), rfl⟩
set_option maxRecDepth 100000 in
theorem tw_823 : Cond.instanceMethod yX5_sampleSure ∈ LW := List.mem_filter.mpr ⟨List.mem_append_right _ (List.mem_of_getElem? (i := 823) rfl), rfl⟩
set_option maxRecDepth 100000 in
theorem tw_826 : Cond.static yX5_highByteOf ∈ LW := List.mem_filter.mpr ⟨List.mem_append_right _ (List.mem_of_getElem? (i := 826) rfl), rfl⟩
set_option maxRecDepth 100000 in
theorem tw_830 : Cond.instanceMethod yX5_isSample ∈ LW := List.mem_filter.mpr ⟨List.mem_append_right _ (List.mem_of_getElem? (i := 830) rfl), rfl⟩
set_option maxRecDepth 100000 in
theorem tw_834 : Cond.instanceMethod yX5_sampleOf ∈ LW := List.mem_filter.mpr ⟨List.mem_append_right _ (List.mem_of_getElem? (i := 834) rfl), rfl⟩
set_option maxRecDepth 100000 in
theorem tw_837 : Cond.instanceMethod yX5_byteOf ∈ LW := List.mem_filter.mpr ⟨List.mem_append_right _ (List.mem_of_getElem? (i := 837) rfl), rfl⟩
set_option maxRecDepth 100000 in
theorem tw_842 : Cond.instanceMethod yX5_countSections ∈ LW := List.mem_filter.mpr ⟨List.mem_append_right _ (List.mem_of_getElem? (i := 842) rfl), rfl⟩
set_option maxRecDepth 100000 in
theorem tw_846 : Cond.instanceMethod yX5_beginsSection ∈ LW := List.mem_filter.mpr ⟨List.mem_append_right _ (List.mem_of_getElem? (i := 846) rfl), rfl⟩
set_option maxRecDepth 100000 in
theorem tw_850 : Cond.instanceMethod yX5_wasFound ∈ LW := List.mem_filter.mpr ⟨List.mem_append_right _ (List.mem_of_getElem? (i := 850) rfl), rfl⟩
set_option maxRecDepth 100000 in
theorem tw_853 : Cond.instanceMethod yX9_played ∈ LW := List.mem_filter.mpr ⟨List.mem_append_right _ (List.mem_of_getElem? (i := 853) rfl), rfl⟩
set_option maxRecDepth 100000 in
theorem tw_857 : Cond.instanceMethod yX5_hasByte ∈ LW := List.mem_filter.mpr ⟨List.mem_append_right _ (List.mem_of_getElem? (i := 857) rfl), rfl⟩
set_option maxRecDepth 100000 in
theorem tw_862 : Cond.instanceMethod yX9_isSure ∈ LW := List.mem_filter.mpr ⟨List.mem_append_right _ (List.mem_of_getElem? (i := 862) rfl), rfl⟩
set_option maxRecDepth 100000 in
theorem tw_867 : Cond.instanceMethod yX9_heard ∈ LW := List.mem_filter.mpr ⟨List.mem_append_right _ (List.mem_of_getElem? (i := 867) rfl), rfl⟩
set_option maxRecDepth 100000 in
theorem tw_871 : Cond.instanceMethod yX5_sampleHeard ∈ LW := List.mem_filter.mpr ⟨List.mem_append_right _ (List.mem_of_getElem? (i := 871) rfl), rfl⟩
set_option maxRecDepth 100000 in
theorem tw_876 : Cond.instanceMethod yX9_inner ∈ LW := List.mem_filter.mpr ⟨List.mem_append_right _ (List.mem_of_getElem? (i := 876) rfl), rfl⟩
set_option maxRecDepth 100000 in
theorem tw_880 : Cond.instanceMethod yX5_innerFate ∈ LW := List.mem_filter.mpr ⟨List.mem_append_right _ (List.mem_of_getElem? (i := 880) rfl), rfl⟩
set_option maxRecDepth 100000 in
theorem tw_884 : Cond.instanceMethod yX9_outer ∈ LW := List.mem_filter.mpr ⟨List.mem_append_right _ (List.mem_of_getElem? (i := 884) rfl), rfl⟩
set_option maxRecDepth 100000 in
theorem tw_888 : Cond.instanceMethod yX5_outerFate ∈ LW := List.mem_filter.mpr ⟨List.mem_append_right _ (List.mem_of_getElem? (i := 888) rfl), rfl⟩
set_option maxRecDepth 100000 in
theorem tw_892 : Cond.instanceMethod yX9_told ∈ LW := List.mem_filter.mpr ⟨List.mem_append_right _ (List.mem_of_getElem? (i := 892) rfl), rfl⟩
set_option maxRecDepth 100000 in
theorem tw_896 : Cond.instanceMethod yX5_tally ∈ LW := List.mem_filter.mpr ⟨List.mem_append_right _ (List.mem_of_getElem? (i := 896) rfl), rfl⟩
set_option maxRecDepth 100000 in
theorem tw_900 : Cond.instanceMethod yX9_q ∈ LW := List.mem_filter.mpr ⟨List.mem_append_right _ (List.mem_of_getElem? (i := 900) rfl), rfl⟩
set_option maxRecDepth 100000 in
theorem tw_904 : Cond.instanceMethod yX5_sectionTells ∈ LW := List.mem_filter.mpr ⟨List.mem_append_right _ (List.mem_of_getElem? (i := 904) rfl), rfl⟩
set_option maxRecDepth 100000 in
theorem tw_909 : Cond.instanceMethod yX5_sectionStart ∈ LW := List.mem_filter.mpr ⟨List.mem_append_right _ (List.mem_of_getElem? (i := 909) rfl), rfl⟩
set_option maxRecDepth 100000 in
theorem tw_913 : Cond.instanceMethod yX5_readLabel ∈ LW := List.mem_filter.mpr ⟨List.mem_append_right _ (List.mem_of_getElem? (i := 913) rfl), rfl⟩
set_option maxRecDepth 100000 in
theorem tw_916 : Cond.instanceMethod yX4_setBit ∈ LW := List.mem_filter.mpr ⟨List.mem_append_right _ (List.mem_of_getElem? (i := 916) rfl), rfl⟩
set_option maxRecDepth 100000 in
theorem tw_920 : Cond.instanceMethod yX4_isSound ∈ LW := List.mem_filter.mpr ⟨List.mem_append_right _ (List.mem_of_getElem? (i := 920) rfl), rfl⟩
set_option maxRecDepth 100000 in
theorem tw_925 : Cond.instanceMethod yX4_areFigures ∈ LW := List.mem_filter.mpr ⟨List.mem_append_right _ (List.mem_of_getElem? (i := 925) rfl), rfl⟩
set_option maxRecDepth 100000 in
theorem tw_929 : Cond.instanceMethod yX4_isTime ∈ LW := List.mem_filter.mpr ⟨List.mem_append_right _ (List.mem_of_getElem? (i := 929) rfl), rfl⟩
set_option maxRecDepth 100000 in
theorem tw_933 : Cond.instanceMethod yX4_number ∈ LW := List.mem_filter.mpr ⟨List.mem_append_right _ (List.mem_of_getElem? (i := 933) rfl), rfl⟩
set_option maxRecDepth 100000 in
theorem tw_936 : Cond.instanceMethod yX4_control ∈ LW := List.mem_filter.mpr ⟨List.mem_append_right _ (List.mem_of_getElem? (i := 936) rfl), rfl⟩
set_option maxRecDepth 100000 in
theorem tw_940 : Cond.instanceMethod yX4_track ∈ LW := List.mem_filter.mpr ⟨List.mem_append_right _ (List.mem_of_getElem? (i := 940) rfl), rfl⟩
set_option maxRecDepth 100000 in
theorem tw_944 : Cond.instanceMethod yX4_index ∈ LW := List.mem_filter.mpr ⟨List.mem_append_right _ (List.mem_of_getElem? (i := 944) rfl), rfl⟩
set_option maxRecDepth 100000 in
theorem tw_948 : Cond.instanceMethod yX4_time ∈ LW := List.mem_filter.mpr ⟨List.mem_append_right _ (List.mem_of_getElem? (i := 948) rfl), rfl⟩
set_option maxRecDepth 100000 in
theorem tw_953 : Cond.instanceMethod yX4_timeOf ∈ LW := List.mem_filter.mpr ⟨List.mem_append_right _ (List.mem_of_getElem? (i := 953) rfl), rfl⟩
set_option maxRecDepth 100000 in
theorem tw_956 : Cond.instanceMethod yX4_place ∈ LW := List.mem_filter.mpr ⟨List.mem_append_right _ (List.mem_of_getElem? (i := 956) rfl), rfl⟩
set_option maxRecDepth 100000 in
theorem tw_960 : Cond.instanceMethod yX9_burst ∈ LW := List.mem_filter.mpr ⟨List.mem_append_right _ (List.mem_of_getElem? (i := 960) rfl), rfl⟩
set_option maxRecDepth 100000 in
theorem tw_964 : Cond.instanceMethod yX9_spell ∈ LW := List.mem_filter.mpr ⟨List.mem_append_right _ (List.mem_of_getElem? (i := 964) rfl), rfl⟩
set_option maxRecDepth 100000 in
theorem tw_969 : Cond.instanceMethod yX9_read ∈ LW := List.mem_filter.mpr ⟨List.mem_append_right _ (List.mem_of_getElem? (i := 969) rfl), rfl⟩
set_option maxRecDepth 100000 in
theorem tw_974 : Cond.instanceMethod yX9_put ∈ LW := List.mem_filter.mpr ⟨List.mem_append_right _ (List.mem_of_getElem? (i := 974) rfl), rfl⟩
set_option maxRecDepth 100000 in
theorem tw_979 : Cond.instanceMethod yX9_isBench ∈ LW := List.mem_filter.mpr ⟨List.mem_append_right _ (List.mem_of_getElem? (i := 979) rfl), rfl⟩
set_option maxRecDepth 100000 in
theorem tw_982 : Cond.instanceMethod yX9_mark ∈ LW := List.mem_filter.mpr ⟨List.mem_append_right _ (List.mem_of_getElem? (i := 982) rfl), rfl⟩
set_option maxRecDepth 100000 in
theorem tw_986 : Cond.instanceMethod yX9_at ∈ LW := List.mem_filter.mpr ⟨List.mem_append_right _ (List.mem_of_getElem? (i := 986) rfl), rfl⟩
set_option maxRecDepth 100000 in
theorem tw_990 : Cond.instanceMethod yX9_seal ∈ LW := List.mem_filter.mpr ⟨List.mem_append_right _ (List.mem_of_getElem? (i := 990) rfl), rfl⟩
set_option maxRecDepth 100000 in
theorem tw_995 : Cond.instanceMethod yX9_codeOf ∈ LW := List.mem_filter.mpr ⟨List.mem_append_right _ (List.mem_of_getElem? (i := 995) rfl), rfl⟩
set_option maxRecDepth 100000 in
theorem tw_1000 : Cond.instanceMethod yX9_syndrome ∈ LW := List.mem_filter.mpr ⟨List.mem_append_right _ (List.mem_of_getElem? (i := 1000) rfl), rfl⟩
set_option maxRecDepth 100000 in
theorem tw_1004 : Cond.instanceMethod yX0_sumOf ∈ LW := List.mem_filter.mpr ⟨List.mem_append_right _ (List.mem_of_getElem? (i := 1004) rfl), rfl⟩
set_option maxRecDepth 100000 in
theorem tw_1008 : Cond.instanceMethod yX9_mend ∈ LW := List.mem_filter.mpr ⟨List.mem_append_right _ (List.mem_of_getElem? (i := 1008) rfl), rfl⟩
set_option maxRecDepth 100000 in
theorem tw_1013 : Cond.instantiable RX10 50 ∈ LW := List.mem_filter.mpr ⟨List.mem_append_right _ (List.mem_of_getElem? (i := 1013) rfl), rfl⟩
set_option maxRecDepth 100000 in
theorem tw_1015 : Cond.instanceMethod yX10_init ∈ LW := List.mem_filter.mpr ⟨List.mem_append_right _ (List.mem_of_getElem? (i := 1015) rfl), rfl⟩
set_option maxRecDepth 100000 in
theorem tw_1170 : Cond.arrayClass .boolean ∈ LW := List.mem_filter.mpr ⟨List.mem_append_right _ (List.mem_of_getElem? (i := 1170) rfl), rfl⟩
set_option maxRecDepth 100000 in
theorem tw_1172 : Cond.instanceMethod yX10_feed ∈ LW := List.mem_filter.mpr ⟨List.mem_append_right _ (List.mem_of_getElem? (i := 1172) rfl), rfl⟩
set_option maxRecDepth 100000 in
theorem tw_1177 : Cond.static yX10_in ∈ LW := List.mem_filter.mpr ⟨List.mem_append_right _ (List.mem_of_getElem? (i := 1177) rfl), rfl⟩
set_option maxRecDepth 100000 in
theorem tw_1180 : Cond.instanceMethod yX10_fill ∈ LW := List.mem_filter.mpr ⟨List.mem_append_right _ (List.mem_of_getElem? (i := 1180) rfl), rfl⟩
set_option maxRecDepth 100000 in
theorem tw_1187 : Cond.instanceMethod yX10_wipe ∈ LW := List.mem_filter.mpr ⟨List.mem_append_right _ (List.mem_of_getElem? (i := 1187) rfl), rfl⟩
set_option maxRecDepth 100000 in
theorem tw_1191 : Cond.instanceMethod yX10_streamAt ∈ LW := List.mem_filter.mpr ⟨List.mem_append_right _ (List.mem_of_getElem? (i := 1191) rfl), rfl⟩
set_option maxRecDepth 100000 in
theorem tw_1195 : Cond.instanceMethod yX10_begin ∈ LW := List.mem_filter.mpr ⟨List.mem_append_right _ (List.mem_of_getElem? (i := 1195) rfl), rfl⟩
set_option maxRecDepth 100000 in
theorem tw_1200 : Cond.instanceMethod yX10_entry ∈ LW := List.mem_filter.mpr ⟨List.mem_append_right _ (List.mem_of_getElem? (i := 1200) rfl), rfl⟩
set_option maxRecDepth 100000 in
theorem tw_1207 : Cond.instanceMethod yX10_plain ∈ LW := List.mem_filter.mpr ⟨List.mem_append_right _ (List.mem_of_getElem? (i := 1207) rfl), rfl⟩
set_option maxRecDepth 100000 in
theorem tw_1211 : Cond.instanceMethod yX10_press ∈ LW := List.mem_filter.mpr ⟨List.mem_append_right _ (List.mem_of_getElem? (i := 1211) rfl), rfl⟩
set_option maxRecDepth 100000 in
theorem tw_1216 : Cond.instanceMethod yX10_makeOuter ∈ LW := List.mem_filter.mpr ⟨List.mem_append_right _ (List.mem_of_getElem? (i := 1216) rfl), rfl⟩
set_option maxRecDepth 100000 in
theorem tw_1219 : Cond.static yX10_isCheck ∈ LW := List.mem_filter.mpr ⟨List.mem_append_right _ (List.mem_of_getElem? (i := 1219) rfl), rfl⟩
set_option maxRecDepth 100000 in
theorem tw_1222 : Cond.static yX10_byteAt ∈ LW := List.mem_filter.mpr ⟨List.mem_append_right _ (List.mem_of_getElem? (i := 1222) rfl), rfl⟩
set_option maxRecDepth 100000 in
theorem tw_1226 : Cond.instanceMethod yX10_streamByte ∈ LW := List.mem_filter.mpr ⟨List.mem_append_right _ (List.mem_of_getElem? (i := 1226) rfl), rfl⟩
set_option maxRecDepth 100000 in
theorem tw_1230 : Cond.instanceMethod yX10_check ∈ LW := List.mem_filter.mpr ⟨List.mem_append_right _ (List.mem_of_getElem? (i := 1230) rfl), rfl⟩
set_option maxRecDepth 100000 in
theorem tw_1234 : Cond.instanceMethod yX10_mended ∈ LW := List.mem_filter.mpr ⟨List.mem_append_right _ (List.mem_of_getElem? (i := 1234) rfl), rfl⟩
set_option maxRecDepth 100000 in
theorem tw_1238 : Cond.instanceMethod yX10_findSyndromes ∈ LW := List.mem_filter.mpr ⟨List.mem_append_right _ (List.mem_of_getElem? (i := 1238) rfl), rfl⟩
set_option maxRecDepth 100000 in
theorem tw_1242 : Cond.instanceMethod yX10_power ∈ LW := List.mem_filter.mpr ⟨List.mem_append_right _ (List.mem_of_getElem? (i := 1242) rfl), rfl⟩
set_option maxRecDepth 100000 in
theorem tw_1246 : Cond.instanceMethod yX10_times ∈ LW := List.mem_filter.mpr ⟨List.mem_append_right _ (List.mem_of_getElem? (i := 1246) rfl), rfl⟩
set_option maxRecDepth 100000 in
theorem tw_1250 : Cond.instanceMethod yX10_fits ∈ LW := List.mem_filter.mpr ⟨List.mem_append_right _ (List.mem_of_getElem? (i := 1250) rfl), rfl⟩
set_option maxRecDepth 100000 in
theorem tw_1254 : Cond.instanceMethod yX10_swapRows ∈ LW := List.mem_filter.mpr ⟨List.mem_append_right _ (List.mem_of_getElem? (i := 1254) rfl), rfl⟩
set_option maxRecDepth 100000 in
theorem tw_1258 : Cond.instanceMethod yX10_inverse ∈ LW := List.mem_filter.mpr ⟨List.mem_append_right _ (List.mem_of_getElem? (i := 1258) rfl), rfl⟩
set_option maxRecDepth 100000 in
theorem tw_1262 : Cond.instanceMethod yX10_changed ∈ LW := List.mem_filter.mpr ⟨List.mem_append_right _ (List.mem_of_getElem? (i := 1262) rfl), rfl⟩
set_option maxRecDepth 100000 in
theorem tw_1266 : Cond.instanceMethod yX10_findTwo ∈ LW := List.mem_filter.mpr ⟨List.mem_append_right _ (List.mem_of_getElem? (i := 1266) rfl), rfl⟩
set_option maxRecDepth 100000 in
theorem tw_1270 : Cond.instanceMethod yX10_makeInner ∈ LW := List.mem_filter.mpr ⟨List.mem_append_right _ (List.mem_of_getElem? (i := 1270) rfl), rfl⟩
set_option maxRecDepth 100000 in
theorem tw_1275 : Cond.instanceMethod yX10_layBits ∈ LW := List.mem_filter.mpr ⟨List.mem_append_right _ (List.mem_of_getElem? (i := 1275) rfl), rfl⟩
set_option maxRecDepth 100000 in
theorem tw_1280 : Cond.instanceMethod yX10_besideWord ∈ LW := List.mem_filter.mpr ⟨List.mem_append_right _ (List.mem_of_getElem? (i := 1280) rfl), rfl⟩
set_option maxRecDepth 100000 in
theorem tw_1284 : Cond.instanceMethod yX10_makeChannel ∈ LW := List.mem_filter.mpr ⟨List.mem_append_right _ (List.mem_of_getElem? (i := 1284) rfl), rfl⟩
set_option maxRecDepth 100000 in
theorem tw_1288 : Cond.instanceMethod yX10_entryFor ∈ LW := List.mem_filter.mpr ⟨List.mem_append_right _ (List.mem_of_getElem? (i := 1288) rfl), rfl⟩
set_option maxRecDepth 100000 in
theorem tw_1292 : Cond.instanceMethod yX10_trackOf ∈ LW := List.mem_filter.mpr ⟨List.mem_append_right _ (List.mem_of_getElem? (i := 1292) rfl), rfl⟩
set_option maxRecDepth 100000 in
theorem tw_1296 : Cond.instanceMethod yX10_figures ∈ LW := List.mem_filter.mpr ⟨List.mem_append_right _ (List.mem_of_getElem? (i := 1296) rfl), rfl⟩
set_option maxRecDepth 100000 in
theorem tw_1300 : Cond.instanceMethod yX10_indexOf ∈ LW := List.mem_filter.mpr ⟨List.mem_append_right _ (List.mem_of_getElem? (i := 1300) rfl), rfl⟩
set_option maxRecDepth 100000 in
theorem tw_1304 : Cond.instanceMethod yX10_timeOf ∈ LW := List.mem_filter.mpr ⟨List.mem_append_right _ (List.mem_of_getElem? (i := 1304) rfl), rfl⟩
set_option maxRecDepth 100000 in
theorem tw_1308 : Cond.instanceMethod yX10_clock ∈ LW := List.mem_filter.mpr ⟨List.mem_append_right _ (List.mem_of_getElem? (i := 1308) rfl), rfl⟩
set_option maxRecDepth 100000 in
theorem tw_1311 : Cond.static yX10_checkStep ∈ LW := List.mem_filter.mpr ⟨List.mem_append_right _ (List.mem_of_getElem? (i := 1311) rfl), rfl⟩
set_option maxRecDepth 100000 in
theorem tw_1316 : Cond.instanceMethod yX10_layWord ∈ LW := List.mem_filter.mpr ⟨List.mem_append_right _ (List.mem_of_getElem? (i := 1316) rfl), rfl⟩
set_option maxRecDepth 100000 in
theorem tw_1320 : Cond.instanceMethod yX10_jointFor ∈ LW := List.mem_filter.mpr ⟨List.mem_append_right _ (List.mem_of_getElem? (i := 1320) rfl), rfl⟩
set_option maxRecDepth 100000 in
theorem tw_1324 : Cond.instanceMethod yX10_tryJoint ∈ LW := List.mem_filter.mpr ⟨List.mem_append_right _ (List.mem_of_getElem? (i := 1324) rfl), rfl⟩
set_option maxRecDepth 100000 in
theorem tw_1328 : Cond.instanceMethod yX10_discByte ∈ LW := List.mem_filter.mpr ⟨List.mem_append_right _ (List.mem_of_getElem? (i := 1328) rfl), rfl⟩
set_option maxRecDepth 100000 in
theorem tw_1331 : Cond.static yX10_isTurned ∈ LW := List.mem_filter.mpr ⟨List.mem_append_right _ (List.mem_of_getElem? (i := 1331) rfl), rfl⟩
set_option maxRecDepth 100000 in
theorem tw_1334 : Cond.instanceMethod yX10_frames ∈ LW := List.mem_filter.mpr ⟨List.mem_append_right _ (List.mem_of_getElem? (i := 1334) rfl), rfl⟩
set_option maxRecDepth 100000 in
theorem tw_1338 : Cond.instanceMethod yX10_length ∈ LW := List.mem_filter.mpr ⟨List.mem_append_right _ (List.mem_of_getElem? (i := 1338) rfl), rfl⟩
set_option maxRecDepth 100000 in
theorem tw_1342 : Cond.instanceMethod yX10_bits ∈ LW := List.mem_filter.mpr ⟨List.mem_append_right _ (List.mem_of_getElem? (i := 1342) rfl), rfl⟩
set_option maxRecDepth 100000 in
theorem tw_1347 : Cond.instanceMethod yX10_taken ∈ LW := List.mem_filter.mpr ⟨List.mem_append_right _ (List.mem_of_getElem? (i := 1347) rfl), rfl⟩
set_option maxRecDepth 100000 in
theorem tw_1351 : Cond.instanceMethod yX10_bit ∈ LW := List.mem_filter.mpr ⟨List.mem_append_right _ (List.mem_of_getElem? (i := 1351) rfl), rfl⟩
set_option maxRecDepth 100000 in
theorem tw_1354 : Cond.instanceMethod yX10_word ∈ LW := List.mem_filter.mpr ⟨List.mem_append_right _ (List.mem_of_getElem? (i := 1354) rfl), rfl⟩
set_option maxRecDepth 100000 in
theorem tw_1359 : Cond.instanceMethod yX10_joint ∈ LW := List.mem_filter.mpr ⟨List.mem_append_right _ (List.mem_of_getElem? (i := 1359) rfl), rfl⟩
set_option maxRecDepth 100000 in
theorem tw_1364 : Cond.instanceMethod yX10_balance ∈ LW := List.mem_filter.mpr ⟨List.mem_append_right _ (List.mem_of_getElem? (i := 1364) rfl), rfl⟩
set_option maxRecDepth 100000 in
theorem tw_1369 : Cond.instanceMethod yX10_run ∈ LW := List.mem_filter.mpr ⟨List.mem_append_right _ (List.mem_of_getElem? (i := 1369) rfl), rfl⟩
set_option maxRecDepth 100000 in
theorem tw_1373 : Cond.instanceMethod yX10_signs ∈ LW := List.mem_filter.mpr ⟨List.mem_append_right _ (List.mem_of_getElem? (i := 1373) rfl), rfl⟩
set_option maxRecDepth 100000 in
theorem tw_1378 : Cond.instanceMethod yX10_isSign ∈ LW := List.mem_filter.mpr ⟨List.mem_append_right _ (List.mem_of_getElem? (i := 1378) rfl), rfl⟩
set_option maxRecDepth 100000 in
theorem tw_1381 : Cond.instanceMethod yX10_signAt ∈ LW := List.mem_filter.mpr ⟨List.mem_append_right _ (List.mem_of_getElem? (i := 1381) rfl), rfl⟩
set_option maxRecDepth 100000 in
theorem tw_1385 : Cond.instanceMethod yX10_flip ∈ LW := List.mem_filter.mpr ⟨List.mem_append_right _ (List.mem_of_getElem? (i := 1385) rfl), rfl⟩
set_option maxRecDepth 100000 in
theorem tw_1389 : Cond.instanceMethod yX10_scratch ∈ LW := List.mem_filter.mpr ⟨List.mem_append_right _ (List.mem_of_getElem? (i := 1389) rfl), rfl⟩
set_option maxRecDepth 100000 in
theorem tw_1394 : Cond.instanceMethod yX10_reached ∈ LW := List.mem_filter.mpr ⟨List.mem_append_right _ (List.mem_of_getElem? (i := 1394) rfl), rfl⟩
set_option maxRecDepth 100000 in
theorem tw_1400 : Cond.instanceMethod yX10_noise ∈ LW := List.mem_filter.mpr ⟨List.mem_append_right _ (List.mem_of_getElem? (i := 1400) rfl), rfl⟩
set_option maxRecDepth 100000 in
theorem tw_1404 : Cond.instanceMethod yX10_slip ∈ LW := List.mem_filter.mpr ⟨List.mem_append_right _ (List.mem_of_getElem? (i := 1404) rfl), rfl⟩
set_option maxRecDepth 100000 in
theorem tw_1409 : Cond.instanceMethod yX10_play ∈ LW := List.mem_filter.mpr ⟨List.mem_append_right _ (List.mem_of_getElem? (i := 1409) rfl), rfl⟩
set_option maxRecDepth 100000 in
theorem tw_1416 : Cond.instanceMethod yX10_findFrames ∈ LW := List.mem_filter.mpr ⟨List.mem_append_right _ (List.mem_of_getElem? (i := 1416) rfl), rfl⟩
set_option maxRecDepth 100000 in
theorem tw_1420 : Cond.instanceMethod yX10_nextFrame ∈ LW := List.mem_filter.mpr ⟨List.mem_append_right _ (List.mem_of_getElem? (i := 1420) rfl), rfl⟩
set_option maxRecDepth 100000 in
theorem tw_1424 : Cond.instanceMethod yX10_playInner ∈ LW := List.mem_filter.mpr ⟨List.mem_append_right _ (List.mem_of_getElem? (i := 1424) rfl), rfl⟩
set_option maxRecDepth 100000 in
theorem tw_1428 : Cond.instanceMethod yX10_readInner ∈ LW := List.mem_filter.mpr ⟨List.mem_append_right _ (List.mem_of_getElem? (i := 1428) rfl), rfl⟩
set_option maxRecDepth 100000 in
theorem tw_1432 : Cond.instanceMethod yX10_playOuter ∈ LW := List.mem_filter.mpr ⟨List.mem_append_right _ (List.mem_of_getElem? (i := 1432) rfl), rfl⟩
set_option maxRecDepth 100000 in
theorem tw_1436 : Cond.instanceMethod yX10_takeFrame ∈ LW := List.mem_filter.mpr ⟨List.mem_append_right _ (List.mem_of_getElem? (i := 1436) rfl), rfl⟩
set_option maxRecDepth 100000 in
theorem tw_1439 : Cond.instanceMethod yX10_played ∈ LW := List.mem_filter.mpr ⟨List.mem_append_right _ (List.mem_of_getElem? (i := 1439) rfl), rfl⟩
set_option maxRecDepth 100000 in
theorem tw_1444 : Cond.instanceMethod yX10_isThere ∈ LW := List.mem_filter.mpr ⟨List.mem_append_right _ (List.mem_of_getElem? (i := 1444) rfl), rfl⟩
set_option maxRecDepth 100000 in
theorem tw_1447 : Cond.instanceMethod yX10_isSure ∈ LW := List.mem_filter.mpr ⟨List.mem_append_right _ (List.mem_of_getElem? (i := 1447) rfl), rfl⟩
set_option maxRecDepth 100000 in
theorem tw_1451 : Cond.instanceMethod yX10_heard ∈ LW := List.mem_filter.mpr ⟨List.mem_append_right _ (List.mem_of_getElem? (i := 1451) rfl), rfl⟩
set_option maxRecDepth 100000 in
theorem tw_1457 : Cond.instanceMethod yX10_isSampleSure ∈ LW := List.mem_filter.mpr ⟨List.mem_append_right _ (List.mem_of_getElem? (i := 1457) rfl), rfl⟩
set_option maxRecDepth 100000 in
theorem tw_1460 : Cond.static yX10_sampleAt ∈ LW := List.mem_filter.mpr ⟨List.mem_append_right _ (List.mem_of_getElem? (i := 1460) rfl), rfl⟩
set_option maxRecDepth 100000 in
theorem tw_1464 : Cond.instanceMethod yX10_sample ∈ LW := List.mem_filter.mpr ⟨List.mem_append_right _ (List.mem_of_getElem? (i := 1464) rfl), rfl⟩
set_option maxRecDepth 100000 in
theorem tw_1467 : Cond.instanceMethod yX10_inner ∈ LW := List.mem_filter.mpr ⟨List.mem_append_right _ (List.mem_of_getElem? (i := 1467) rfl), rfl⟩
set_option maxRecDepth 100000 in
theorem tw_1471 : Cond.instanceMethod yX10_outer ∈ LW := List.mem_filter.mpr ⟨List.mem_append_right _ (List.mem_of_getElem? (i := 1471) rfl), rfl⟩
set_option maxRecDepth 100000 in
theorem tw_1475 : Cond.instanceMethod yX10_told ∈ LW := List.mem_filter.mpr ⟨List.mem_append_right _ (List.mem_of_getElem? (i := 1475) rfl), rfl⟩
set_option maxRecDepth 100000 in
theorem tw_1480 : Cond.instanceMethod yX10_hidden ∈ LW := List.mem_filter.mpr ⟨List.mem_append_right _ (List.mem_of_getElem? (i := 1480) rfl), rfl⟩
set_option maxRecDepth 100000 in
theorem tw_1484 : Cond.instanceMethod yX10_sections ∈ LW := List.mem_filter.mpr ⟨List.mem_append_right _ (List.mem_of_getElem? (i := 1484) rfl), rfl⟩
set_option maxRecDepth 100000 in
theorem tw_1488 : Cond.instanceMethod yX10_beginsSection ∈ LW := List.mem_filter.mpr ⟨List.mem_append_right _ (List.mem_of_getElem? (i := 1488) rfl), rfl⟩
set_option maxRecDepth 100000 in
theorem tw_1491 : Cond.instanceMethod yX10_q ∈ LW := List.mem_filter.mpr ⟨List.mem_append_right _ (List.mem_of_getElem? (i := 1491) rfl), rfl⟩
set_option maxRecDepth 100000 in
theorem tw_1496 : Cond.instanceMethod yX10_sectionAt ∈ LW := List.mem_filter.mpr ⟨List.mem_append_right _ (List.mem_of_getElem? (i := 1496) rfl), rfl⟩
set_option maxRecDepth 100000 in
theorem tw_1501 : Cond.instanceMethod yX10_isSound ∈ LW := List.mem_filter.mpr ⟨List.mem_append_right _ (List.mem_of_getElem? (i := 1501) rfl), rfl⟩
set_option maxRecDepth 100000 in
theorem tw_1505 : Cond.instanceMethod yX10_channelBits ∈ LW := List.mem_filter.mpr ⟨List.mem_append_right _ (List.mem_of_getElem? (i := 1505) rfl), rfl⟩
set_option maxRecDepth 100000 in
theorem tw_1509 : Cond.instanceMethod yX10_isClock ∈ LW := List.mem_filter.mpr ⟨List.mem_append_right _ (List.mem_of_getElem? (i := 1509) rfl), rfl⟩
set_option maxRecDepth 100000 in
theorem tw_1513 : Cond.instanceMethod yX10_twoFigures ∈ LW := List.mem_filter.mpr ⟨List.mem_append_right _ (List.mem_of_getElem? (i := 1513) rfl), rfl⟩
set_option maxRecDepth 100000 in
theorem tw_1517 : Cond.instanceMethod yX10_clockOf ∈ LW := List.mem_filter.mpr ⟨List.mem_append_right _ (List.mem_of_getElem? (i := 1517) rfl), rfl⟩
set_option maxRecDepth 100000 in
theorem tw_1520 : Cond.instanceMethod yX10_burst ∈ LW := List.mem_filter.mpr ⟨List.mem_append_right _ (List.mem_of_getElem? (i := 1520) rfl), rfl⟩
set_option maxRecDepth 100000 in
theorem tw_1525 : Cond.instanceMethod yX10_spell ∈ LW := List.mem_filter.mpr ⟨List.mem_append_right _ (List.mem_of_getElem? (i := 1525) rfl), rfl⟩
set_option maxRecDepth 100000 in
theorem tw_1530 : Cond.instanceMethod yX10_read ∈ LW := List.mem_filter.mpr ⟨List.mem_append_right _ (List.mem_of_getElem? (i := 1530) rfl), rfl⟩
set_option maxRecDepth 100000 in
theorem tw_1535 : Cond.instanceMethod yX10_put ∈ LW := List.mem_filter.mpr ⟨List.mem_append_right _ (List.mem_of_getElem? (i := 1535) rfl), rfl⟩
set_option maxRecDepth 100000 in
theorem tw_1540 : Cond.instanceMethod yX10_mark ∈ LW := List.mem_filter.mpr ⟨List.mem_append_right _ (List.mem_of_getElem? (i := 1540) rfl), rfl⟩
set_option maxRecDepth 100000 in
theorem tw_1544 : Cond.instanceMethod yX10_at ∈ LW := List.mem_filter.mpr ⟨List.mem_append_right _ (List.mem_of_getElem? (i := 1544) rfl), rfl⟩
set_option maxRecDepth 100000 in
theorem tw_1548 : Cond.instanceMethod yX10_seal ∈ LW := List.mem_filter.mpr ⟨List.mem_append_right _ (List.mem_of_getElem? (i := 1548) rfl), rfl⟩
set_option maxRecDepth 100000 in
theorem tw_1553 : Cond.instanceMethod yX10_toBench ∈ LW := List.mem_filter.mpr ⟨List.mem_append_right _ (List.mem_of_getElem? (i := 1553) rfl), rfl⟩
set_option maxRecDepth 100000 in
theorem tw_1556 : Cond.instanceMethod yX10_syndrome ∈ LW := List.mem_filter.mpr ⟨List.mem_append_right _ (List.mem_of_getElem? (i := 1556) rfl), rfl⟩
set_option maxRecDepth 100000 in
theorem tw_1561 : Cond.instanceMethod yX10_mend ∈ LW := List.mem_filter.mpr ⟨List.mem_append_right _ (List.mem_of_getElem? (i := 1561) rfl), rfl⟩
set_option maxRecDepth 100000 in
theorem tw_281 : Cond.selects RX9 yX9_feed yX9_feed ∈ LW := List.mem_filter.mpr ⟨List.mem_append_right _ (List.mem_of_getElem? (i := 281) rfl), rfl⟩
set_option maxRecDepth 100000 in
theorem tw_289 : Cond.selects RX9 yX9_fill yX9_fill ∈ LW := List.mem_filter.mpr ⟨List.mem_append_right _ (List.mem_of_getElem? (i := 289) rfl), rfl⟩
set_option maxRecDepth 100000 in
theorem tw_298 : Cond.selects RX9 yX9_wipe yX9_wipe ∈ LW := List.mem_filter.mpr ⟨List.mem_append_right _ (List.mem_of_getElem? (i := 298) rfl), rfl⟩
set_option maxRecDepth 100000 in
theorem tw_302 : Cond.selects RX9 yX9_streamAt yX9_streamAt ∈ LW := List.mem_filter.mpr ⟨List.mem_append_right _ (List.mem_of_getElem? (i := 302) rfl), rfl⟩
set_option maxRecDepth 100000 in
theorem tw_306 : Cond.selects RX9 yX9_begin yX9_begin ∈ LW := List.mem_filter.mpr ⟨List.mem_append_right _ (List.mem_of_getElem? (i := 306) rfl), rfl⟩
set_option maxRecDepth 100000 in
theorem tw_311 : Cond.selects RX1 yX1_startAt yX1_startAt ∈ LW := List.mem_filter.mpr ⟨List.mem_append_right _ (List.mem_of_getElem? (i := 311) rfl), rfl⟩
set_option maxRecDepth 100000 in
theorem tw_315 : Cond.selects RX9 yX9_entry yX9_entry ∈ LW := List.mem_filter.mpr ⟨List.mem_append_right _ (List.mem_of_getElem? (i := 315) rfl), rfl⟩
set_option maxRecDepth 100000 in
theorem tw_319 : Cond.selects RX1 yX1_add yX1_add ∈ LW := List.mem_filter.mpr ⟨List.mem_append_right _ (List.mem_of_getElem? (i := 319) rfl), rfl⟩
set_option maxRecDepth 100000 in
theorem tw_323 : Cond.selects RX9 yX9_plain yX9_plain ∈ LW := List.mem_filter.mpr ⟨List.mem_append_right _ (List.mem_of_getElem? (i := 323) rfl), rfl⟩
set_option maxRecDepth 100000 in
theorem tw_327 : Cond.selects RX1 yX1_clear yX1_clear ∈ LW := List.mem_filter.mpr ⟨List.mem_append_right _ (List.mem_of_getElem? (i := 327) rfl), rfl⟩
set_option maxRecDepth 100000 in
theorem tw_331 : Cond.selects RX9 yX9_press yX9_press ∈ LW := List.mem_filter.mpr ⟨List.mem_append_right _ (List.mem_of_getElem? (i := 331) rfl), rfl⟩
set_option maxRecDepth 100000 in
theorem tw_335 : Cond.selects RX5 yX5_forget yX5_forget ∈ LW := List.mem_filter.mpr ⟨List.mem_append_right _ (List.mem_of_getElem? (i := 335) rfl), rfl⟩
set_option maxRecDepth 100000 in
theorem tw_339 : Cond.selects RX6 yX6_pressStream yX6_pressStream ∈ LW := List.mem_filter.mpr ⟨List.mem_append_right _ (List.mem_of_getElem? (i := 339) rfl), rfl⟩
set_option maxRecDepth 100000 in
theorem tw_343 : Cond.selects RX3 yX3_reset yX3_reset ∈ LW := List.mem_filter.mpr ⟨List.mem_append_right _ (List.mem_of_getElem? (i := 343) rfl), rfl⟩
set_option maxRecDepth 100000 in
theorem tw_350 : Cond.selects RX7 yX7_empty yX7_empty ∈ LW := List.mem_filter.mpr ⟨List.mem_append_right _ (List.mem_of_getElem? (i := 350) rfl), rfl⟩
set_option maxRecDepth 100000 in
theorem tw_368 : Cond.selects RX7 yX7_set yX7_set ∈ LW := List.mem_filter.mpr ⟨List.mem_append_right _ (List.mem_of_getElem? (i := 368) rfl), rfl⟩
set_option maxRecDepth 100000 in
theorem tw_375 : Cond.selects RX7 yX7_cells yX7_cells ∈ LW := List.mem_filter.mpr ⟨List.mem_append_right _ (List.mem_of_getElem? (i := 375) rfl), rfl⟩
set_option maxRecDepth 100000 in
theorem tw_379 : Cond.selects RX7 yX7_startOf yX7_startOf ∈ LW := List.mem_filter.mpr ⟨List.mem_append_right _ (List.mem_of_getElem? (i := 379) rfl), rfl⟩
set_option maxRecDepth 100000 in
theorem tw_383 : Cond.selects RX0 yX0_settle yX0_settle ∈ LW := List.mem_filter.mpr ⟨List.mem_append_right _ (List.mem_of_getElem? (i := 383) rfl), rfl⟩
set_option maxRecDepth 100000 in
theorem tw_409 : Cond.selects RX2 yX2_power yX2_power ∈ LW := List.mem_filter.mpr ⟨List.mem_append_right _ (List.mem_of_getElem? (i := 409) rfl), rfl⟩
set_option maxRecDepth 100000 in
theorem tw_413 : Cond.selects RX2 yX2_times yX2_times ∈ LW := List.mem_filter.mpr ⟨List.mem_append_right _ (List.mem_of_getElem? (i := 413) rfl), rfl⟩
set_option maxRecDepth 100000 in
theorem tw_421 : Cond.selects RX2 yX2_over yX2_over ∈ LW := List.mem_filter.mpr ⟨List.mem_append_right _ (List.mem_of_getElem? (i := 421) rfl), rfl⟩
set_option maxRecDepth 100000 in
theorem tw_429 : Cond.selects RX7 yX7_get yX7_get ∈ LW := List.mem_filter.mpr ⟨List.mem_append_right _ (List.mem_of_getElem? (i := 429) rfl), rfl⟩
set_option maxRecDepth 100000 in
theorem tw_450 : Cond.selects RX3 yX3_append yX3_append ∈ LW := List.mem_filter.mpr ⟨List.mem_append_right _ (List.mem_of_getElem? (i := 450) rfl), rfl⟩
set_option maxRecDepth 100000 in
theorem tw_499 : Cond.selects RX1 yX1_describe yX1_describe ∈ LW := List.mem_filter.mpr ⟨List.mem_append_right _ (List.mem_of_getElem? (i := 499) rfl), rfl⟩
set_option maxRecDepth 100000 in
theorem tw_530 : Cond.selects RX4 yX4_write yX4_write ∈ LW := List.mem_filter.mpr ⟨List.mem_append_right _ (List.mem_of_getElem? (i := 530) rfl), rfl⟩
set_option maxRecDepth 100000 in
theorem tw_545 : Cond.selects RX4 yX4_bitOf yX4_bitOf ∈ LW := List.mem_filter.mpr ⟨List.mem_append_right _ (List.mem_of_getElem? (i := 545) rfl), rfl⟩
set_option maxRecDepth 100000 in
theorem tw_554 : Cond.selects RX1 yX1_isPause yX1_isPause ∈ LW := List.mem_filter.mpr ⟨List.mem_append_right _ (List.mem_of_getElem? (i := 554) rfl), rfl⟩
set_option maxRecDepth 100000 in
theorem tw_559 : Cond.selects RX8 yX8_wordOf yX8_wordOf ∈ LW := List.mem_filter.mpr ⟨List.mem_append_right _ (List.mem_of_getElem? (i := 559) rfl), rfl⟩
set_option maxRecDepth 100000 in
theorem tw_566 : Cond.selects RX9 yX9_frames yX9_frames ∈ LW := List.mem_filter.mpr ⟨List.mem_append_right _ (List.mem_of_getElem? (i := 566) rfl), rfl⟩
set_option maxRecDepth 100000 in
theorem tw_570 : Cond.selects RX3 yX3_framesPressed yX3_framesPressed ∈ LW := List.mem_filter.mpr ⟨List.mem_append_right _ (List.mem_of_getElem? (i := 570) rfl), rfl⟩
set_option maxRecDepth 100000 in
theorem tw_574 : Cond.selects RX9 yX9_length yX9_length ∈ LW := List.mem_filter.mpr ⟨List.mem_append_right _ (List.mem_of_getElem? (i := 574) rfl), rfl⟩
set_option maxRecDepth 100000 in
theorem tw_578 : Cond.selects RX3 yX3_size yX3_size ∈ LW := List.mem_filter.mpr ⟨List.mem_append_right _ (List.mem_of_getElem? (i := 578) rfl), rfl⟩
set_option maxRecDepth 100000 in
theorem tw_582 : Cond.selects RX9 yX9_bits yX9_bits ∈ LW := List.mem_filter.mpr ⟨List.mem_append_right _ (List.mem_of_getElem? (i := 582) rfl), rfl⟩
set_option maxRecDepth 100000 in
theorem tw_586 : Cond.selects RX3 yX3_has yX3_has ∈ LW := List.mem_filter.mpr ⟨List.mem_append_right _ (List.mem_of_getElem? (i := 586) rfl), rfl⟩
set_option maxRecDepth 100000 in
theorem tw_590 : Cond.selects RX3 yX3_peek yX3_peek ∈ LW := List.mem_filter.mpr ⟨List.mem_append_right _ (List.mem_of_getElem? (i := 590) rfl), rfl⟩
set_option maxRecDepth 100000 in
theorem tw_598 : Cond.selects RX9 yX9_word yX9_word ∈ LW := List.mem_filter.mpr ⟨List.mem_append_right _ (List.mem_of_getElem? (i := 598) rfl), rfl⟩
set_option maxRecDepth 100000 in
theorem tw_602 : Cond.selects RX3 yX3_wasPressed yX3_wasPressed ∈ LW := List.mem_filter.mpr ⟨List.mem_append_right _ (List.mem_of_getElem? (i := 602) rfl), rfl⟩
set_option maxRecDepth 100000 in
theorem tw_606 : Cond.selects RX3 yX3_wordAt yX3_wordAt ∈ LW := List.mem_filter.mpr ⟨List.mem_append_right _ (List.mem_of_getElem? (i := 606) rfl), rfl⟩
set_option maxRecDepth 100000 in
theorem tw_611 : Cond.selects RX9 yX9_joint yX9_joint ∈ LW := List.mem_filter.mpr ⟨List.mem_append_right _ (List.mem_of_getElem? (i := 611) rfl), rfl⟩
set_option maxRecDepth 100000 in
theorem tw_615 : Cond.selects RX9 yX9_balance yX9_balance ∈ LW := List.mem_filter.mpr ⟨List.mem_append_right _ (List.mem_of_getElem? (i := 615) rfl), rfl⟩
set_option maxRecDepth 100000 in
theorem tw_620 : Cond.selects RX3 yX3_balanceBehind yX3_balanceBehind ∈ LW := List.mem_filter.mpr ⟨List.mem_append_right _ (List.mem_of_getElem? (i := 620) rfl), rfl⟩
set_option maxRecDepth 100000 in
theorem tw_628 : Cond.selects RX9 yX9_run yX9_run ∈ LW := List.mem_filter.mpr ⟨List.mem_append_right _ (List.mem_of_getElem? (i := 628) rfl), rfl⟩
set_option maxRecDepth 100000 in
theorem tw_632 : Cond.selects RX3 yX3_extremeRun yX3_extremeRun ∈ LW := List.mem_filter.mpr ⟨List.mem_append_right _ (List.mem_of_getElem? (i := 632) rfl), rfl⟩
set_option maxRecDepth 100000 in
theorem tw_636 : Cond.selects RX9 yX9_signs yX9_signs ∈ LW := List.mem_filter.mpr ⟨List.mem_append_right _ (List.mem_of_getElem? (i := 636) rfl), rfl⟩
set_option maxRecDepth 100000 in
theorem tw_640 : Cond.selects RX3 yX3_countSigns yX3_countSigns ∈ LW := List.mem_filter.mpr ⟨List.mem_append_right _ (List.mem_of_getElem? (i := 640) rfl), rfl⟩
set_option maxRecDepth 100000 in
theorem tw_644 : Cond.selects RX3 yX3_nextSign yX3_nextSign ∈ LW := List.mem_filter.mpr ⟨List.mem_append_right _ (List.mem_of_getElem? (i := 644) rfl), rfl⟩
set_option maxRecDepth 100000 in
theorem tw_651 : Cond.selects RX3 yX3_signStands yX3_signStands ∈ LW := List.mem_filter.mpr ⟨List.mem_append_right _ (List.mem_of_getElem? (i := 651) rfl), rfl⟩
set_option maxRecDepth 100000 in
theorem tw_656 : Cond.selects RX9 yX9_signAt yX9_signAt ∈ LW := List.mem_filter.mpr ⟨List.mem_append_right _ (List.mem_of_getElem? (i := 656) rfl), rfl⟩
set_option maxRecDepth 100000 in
theorem tw_660 : Cond.selects RX3 yX3_findSign yX3_findSign ∈ LW := List.mem_filter.mpr ⟨List.mem_append_right _ (List.mem_of_getElem? (i := 660) rfl), rfl⟩
set_option maxRecDepth 100000 in
theorem tw_664 : Cond.selects RX9 yX9_flip yX9_flip ∈ LW := List.mem_filter.mpr ⟨List.mem_append_right _ (List.mem_of_getElem? (i := 664) rfl), rfl⟩
set_option maxRecDepth 100000 in
theorem tw_668 : Cond.selects RX3 yX3_turn yX3_turn ∈ LW := List.mem_filter.mpr ⟨List.mem_append_right _ (List.mem_of_getElem? (i := 668) rfl), rfl⟩
set_option maxRecDepth 100000 in
theorem tw_673 : Cond.selects RX9 yX9_scratch yX9_scratch ∈ LW := List.mem_filter.mpr ⟨List.mem_append_right _ (List.mem_of_getElem? (i := 673) rfl), rfl⟩
set_option maxRecDepth 100000 in
theorem tw_683 : Cond.selects RX3 yX3_blank yX3_blank ∈ LW := List.mem_filter.mpr ⟨List.mem_append_right _ (List.mem_of_getElem? (i := 683) rfl), rfl⟩
set_option maxRecDepth 100000 in
theorem tw_690 : Cond.selects RX9 yX9_noise yX9_noise ∈ LW := List.mem_filter.mpr ⟨List.mem_append_right _ (List.mem_of_getElem? (i := 690) rfl), rfl⟩
set_option maxRecDepth 100000 in
theorem tw_694 : Cond.selects RX9 yX9_slip yX9_slip ∈ LW := List.mem_filter.mpr ⟨List.mem_append_right _ (List.mem_of_getElem? (i := 694) rfl), rfl⟩
set_option maxRecDepth 100000 in
theorem tw_699 : Cond.selects RX3 yX3_insertZeros yX3_insertZeros ∈ LW := List.mem_filter.mpr ⟨List.mem_append_right _ (List.mem_of_getElem? (i := 699) rfl), rfl⟩
set_option maxRecDepth 100000 in
theorem tw_703 : Cond.selects RX3 yX3_remove yX3_remove ∈ LW := List.mem_filter.mpr ⟨List.mem_append_right _ (List.mem_of_getElem? (i := 703) rfl), rfl⟩
set_option maxRecDepth 100000 in
theorem tw_707 : Cond.selects RX9 yX9_play yX9_play ∈ LW := List.mem_filter.mpr ⟨List.mem_append_right _ (List.mem_of_getElem? (i := 707) rfl), rfl⟩
set_option maxRecDepth 100000 in
theorem tw_714 : Cond.selects RX5 yX5_perform yX5_perform ∈ LW := List.mem_filter.mpr ⟨List.mem_append_right _ (List.mem_of_getElem? (i := 714) rfl), rfl⟩
set_option maxRecDepth 100000 in
theorem tw_737 : Cond.selects RX8 yX8_byteOf yX8_byteOf ∈ LW := List.mem_filter.mpr ⟨List.mem_append_right _ (List.mem_of_getElem? (i := 737) rfl), rfl⟩
set_option maxRecDepth 100000 in
theorem tw_744 : Cond.selects RX7 yX7_setMarks yX7_setMarks ∈ LW := List.mem_filter.mpr ⟨List.mem_append_right _ (List.mem_of_getElem? (i := 744) rfl), rfl⟩
set_option maxRecDepth 100000 in
theorem tw_753 : Cond.selects RX7 yX7_marksOf yX7_marksOf ∈ LW := List.mem_filter.mpr ⟨List.mem_append_right _ (List.mem_of_getElem? (i := 753) rfl), rfl⟩
set_option maxRecDepth 100000 in
theorem tw_765 : Cond.selects RX0 yX0_heal yX0_heal ∈ LW := List.mem_filter.mpr ⟨List.mem_append_right _ (List.mem_of_getElem? (i := 765) rfl), rfl⟩
set_option maxRecDepth 100000 in
theorem tw_769 : Cond.selects RX0 yX0_allPlaces yX0_allPlaces ∈ LW := List.mem_filter.mpr ⟨List.mem_append_right _ (List.mem_of_getElem? (i := 769) rfl), rfl⟩
set_option maxRecDepth 100000 in
theorem tw_783 : Cond.selects RX2 yX2_log yX2_log ∈ LW := List.mem_filter.mpr ⟨List.mem_append_right _ (List.mem_of_getElem? (i := 783) rfl), rfl⟩
set_option maxRecDepth 100000 in
theorem tw_795 : Cond.selects RX7 yX7_isMarked yX7_isMarked ∈ LW := List.mem_filter.mpr ⟨List.mem_append_right _ (List.mem_of_getElem? (i := 795) rfl), rfl⟩
set_option maxRecDepth 100000 in
theorem tw_810 : Cond.selects RX5 yX5_sureOf yX5_sureOf ∈ LW := List.mem_filter.mpr ⟨List.mem_append_right _ (List.mem_of_getElem? (i := 810) rfl), rfl⟩
set_option maxRecDepth 100000 in
theorem tw_838 : Cond.selects RX5 yX5_byteOf yX5_byteOf ∈ LW := List.mem_filter.mpr ⟨List.mem_append_right _ (List.mem_of_getElem? (i := 838) rfl), rfl⟩
set_option maxRecDepth 100000 in
theorem tw_854 : Cond.selects RX9 yX9_played yX9_played ∈ LW := List.mem_filter.mpr ⟨List.mem_append_right _ (List.mem_of_getElem? (i := 854) rfl), rfl⟩
set_option maxRecDepth 100000 in
theorem tw_858 : Cond.selects RX5 yX5_hasByte yX5_hasByte ∈ LW := List.mem_filter.mpr ⟨List.mem_append_right _ (List.mem_of_getElem? (i := 858) rfl), rfl⟩
set_option maxRecDepth 100000 in
theorem tw_863 : Cond.selects RX9 yX9_isSure yX9_isSure ∈ LW := List.mem_filter.mpr ⟨List.mem_append_right _ (List.mem_of_getElem? (i := 863) rfl), rfl⟩
set_option maxRecDepth 100000 in
theorem tw_868 : Cond.selects RX9 yX9_heard yX9_heard ∈ LW := List.mem_filter.mpr ⟨List.mem_append_right _ (List.mem_of_getElem? (i := 868) rfl), rfl⟩
set_option maxRecDepth 100000 in
theorem tw_872 : Cond.selects RX5 yX5_sampleHeard yX5_sampleHeard ∈ LW := List.mem_filter.mpr ⟨List.mem_append_right _ (List.mem_of_getElem? (i := 872) rfl), rfl⟩
set_option maxRecDepth 100000 in
theorem tw_877 : Cond.selects RX9 yX9_inner yX9_inner ∈ LW := List.mem_filter.mpr ⟨List.mem_append_right _ (List.mem_of_getElem? (i := 877) rfl), rfl⟩
set_option maxRecDepth 100000 in
theorem tw_881 : Cond.selects RX5 yX5_innerFate yX5_innerFate ∈ LW := List.mem_filter.mpr ⟨List.mem_append_right _ (List.mem_of_getElem? (i := 881) rfl), rfl⟩
set_option maxRecDepth 100000 in
theorem tw_885 : Cond.selects RX9 yX9_outer yX9_outer ∈ LW := List.mem_filter.mpr ⟨List.mem_append_right _ (List.mem_of_getElem? (i := 885) rfl), rfl⟩
set_option maxRecDepth 100000 in
theorem tw_889 : Cond.selects RX5 yX5_outerFate yX5_outerFate ∈ LW := List.mem_filter.mpr ⟨List.mem_append_right _ (List.mem_of_getElem? (i := 889) rfl), rfl⟩
set_option maxRecDepth 100000 in
theorem tw_893 : Cond.selects RX9 yX9_told yX9_told ∈ LW := List.mem_filter.mpr ⟨List.mem_append_right _ (List.mem_of_getElem? (i := 893) rfl), rfl⟩
set_option maxRecDepth 100000 in
theorem tw_897 : Cond.selects RX5 yX5_tally yX5_tally ∈ LW := List.mem_filter.mpr ⟨List.mem_append_right _ (List.mem_of_getElem? (i := 897) rfl), rfl⟩
set_option maxRecDepth 100000 in
theorem tw_901 : Cond.selects RX9 yX9_q yX9_q ∈ LW := List.mem_filter.mpr ⟨List.mem_append_right _ (List.mem_of_getElem? (i := 901) rfl), rfl⟩
set_option maxRecDepth 100000 in
theorem tw_905 : Cond.selects RX5 yX5_sectionTells yX5_sectionTells ∈ LW := List.mem_filter.mpr ⟨List.mem_append_right _ (List.mem_of_getElem? (i := 905) rfl), rfl⟩
set_option maxRecDepth 100000 in
theorem tw_917 : Cond.selects RX4 yX4_setBit yX4_setBit ∈ LW := List.mem_filter.mpr ⟨List.mem_append_right _ (List.mem_of_getElem? (i := 917) rfl), rfl⟩
set_option maxRecDepth 100000 in
theorem tw_921 : Cond.selects RX4 yX4_isSound yX4_isSound ∈ LW := List.mem_filter.mpr ⟨List.mem_append_right _ (List.mem_of_getElem? (i := 921) rfl), rfl⟩
set_option maxRecDepth 100000 in
theorem tw_937 : Cond.selects RX4 yX4_control yX4_control ∈ LW := List.mem_filter.mpr ⟨List.mem_append_right _ (List.mem_of_getElem? (i := 937) rfl), rfl⟩
set_option maxRecDepth 100000 in
theorem tw_941 : Cond.selects RX4 yX4_track yX4_track ∈ LW := List.mem_filter.mpr ⟨List.mem_append_right _ (List.mem_of_getElem? (i := 941) rfl), rfl⟩
set_option maxRecDepth 100000 in
theorem tw_945 : Cond.selects RX4 yX4_index yX4_index ∈ LW := List.mem_filter.mpr ⟨List.mem_append_right _ (List.mem_of_getElem? (i := 945) rfl), rfl⟩
set_option maxRecDepth 100000 in
theorem tw_949 : Cond.selects RX4 yX4_time yX4_time ∈ LW := List.mem_filter.mpr ⟨List.mem_append_right _ (List.mem_of_getElem? (i := 949) rfl), rfl⟩
set_option maxRecDepth 100000 in
theorem tw_957 : Cond.selects RX4 yX4_place yX4_place ∈ LW := List.mem_filter.mpr ⟨List.mem_append_right _ (List.mem_of_getElem? (i := 957) rfl), rfl⟩
set_option maxRecDepth 100000 in
theorem tw_961 : Cond.selects RX9 yX9_burst yX9_burst ∈ LW := List.mem_filter.mpr ⟨List.mem_append_right _ (List.mem_of_getElem? (i := 961) rfl), rfl⟩
set_option maxRecDepth 100000 in
theorem tw_965 : Cond.selects RX9 yX9_spell yX9_spell ∈ LW := List.mem_filter.mpr ⟨List.mem_append_right _ (List.mem_of_getElem? (i := 965) rfl), rfl⟩
set_option maxRecDepth 100000 in
theorem tw_970 : Cond.selects RX9 yX9_read yX9_read ∈ LW := List.mem_filter.mpr ⟨List.mem_append_right _ (List.mem_of_getElem? (i := 970) rfl), rfl⟩
set_option maxRecDepth 100000 in
theorem tw_975 : Cond.selects RX9 yX9_put yX9_put ∈ LW := List.mem_filter.mpr ⟨List.mem_append_right _ (List.mem_of_getElem? (i := 975) rfl), rfl⟩
set_option maxRecDepth 100000 in
theorem tw_983 : Cond.selects RX9 yX9_mark yX9_mark ∈ LW := List.mem_filter.mpr ⟨List.mem_append_right _ (List.mem_of_getElem? (i := 983) rfl), rfl⟩
set_option maxRecDepth 100000 in
theorem tw_987 : Cond.selects RX9 yX9_at yX9_at ∈ LW := List.mem_filter.mpr ⟨List.mem_append_right _ (List.mem_of_getElem? (i := 987) rfl), rfl⟩
set_option maxRecDepth 100000 in
theorem tw_991 : Cond.selects RX9 yX9_seal yX9_seal ∈ LW := List.mem_filter.mpr ⟨List.mem_append_right _ (List.mem_of_getElem? (i := 991) rfl), rfl⟩
set_option maxRecDepth 100000 in
theorem tw_1001 : Cond.selects RX9 yX9_syndrome yX9_syndrome ∈ LW := List.mem_filter.mpr ⟨List.mem_append_right _ (List.mem_of_getElem? (i := 1001) rfl), rfl⟩
set_option maxRecDepth 100000 in
theorem tw_1005 : Cond.selects RX0 yX0_sumOf yX0_sumOf ∈ LW := List.mem_filter.mpr ⟨List.mem_append_right _ (List.mem_of_getElem? (i := 1005) rfl), rfl⟩
set_option maxRecDepth 100000 in
theorem tw_1009 : Cond.selects RX9 yX9_mend yX9_mend ∈ LW := List.mem_filter.mpr ⟨List.mem_append_right _ (List.mem_of_getElem? (i := 1009) rfl), rfl⟩
set_option maxRecDepth 100000 in
theorem tw_1173 : Cond.selects RX10 yX10_feed yX10_feed ∈ LW := List.mem_filter.mpr ⟨List.mem_append_right _ (List.mem_of_getElem? (i := 1173) rfl), rfl⟩
set_option maxRecDepth 100000 in
theorem tw_1181 : Cond.selects RX10 yX10_fill yX10_fill ∈ LW := List.mem_filter.mpr ⟨List.mem_append_right _ (List.mem_of_getElem? (i := 1181) rfl), rfl⟩
set_option maxRecDepth 100000 in
theorem tw_1188 : Cond.selects RX10 yX10_wipe yX10_wipe ∈ LW := List.mem_filter.mpr ⟨List.mem_append_right _ (List.mem_of_getElem? (i := 1188) rfl), rfl⟩
set_option maxRecDepth 100000 in
theorem tw_1192 : Cond.selects RX10 yX10_streamAt yX10_streamAt ∈ LW := List.mem_filter.mpr ⟨List.mem_append_right _ (List.mem_of_getElem? (i := 1192) rfl), rfl⟩
set_option maxRecDepth 100000 in
theorem tw_1196 : Cond.selects RX10 yX10_begin yX10_begin ∈ LW := List.mem_filter.mpr ⟨List.mem_append_right _ (List.mem_of_getElem? (i := 1196) rfl), rfl⟩
set_option maxRecDepth 100000 in
theorem tw_1201 : Cond.selects RX10 yX10_entry yX10_entry ∈ LW := List.mem_filter.mpr ⟨List.mem_append_right _ (List.mem_of_getElem? (i := 1201) rfl), rfl⟩
set_option maxRecDepth 100000 in
theorem tw_1208 : Cond.selects RX10 yX10_plain yX10_plain ∈ LW := List.mem_filter.mpr ⟨List.mem_append_right _ (List.mem_of_getElem? (i := 1208) rfl), rfl⟩
set_option maxRecDepth 100000 in
theorem tw_1212 : Cond.selects RX10 yX10_press yX10_press ∈ LW := List.mem_filter.mpr ⟨List.mem_append_right _ (List.mem_of_getElem? (i := 1212) rfl), rfl⟩
set_option maxRecDepth 100000 in
theorem tw_1335 : Cond.selects RX10 yX10_frames yX10_frames ∈ LW := List.mem_filter.mpr ⟨List.mem_append_right _ (List.mem_of_getElem? (i := 1335) rfl), rfl⟩
set_option maxRecDepth 100000 in
theorem tw_1339 : Cond.selects RX10 yX10_length yX10_length ∈ LW := List.mem_filter.mpr ⟨List.mem_append_right _ (List.mem_of_getElem? (i := 1339) rfl), rfl⟩
set_option maxRecDepth 100000 in
theorem tw_1343 : Cond.selects RX10 yX10_bits yX10_bits ∈ LW := List.mem_filter.mpr ⟨List.mem_append_right _ (List.mem_of_getElem? (i := 1343) rfl), rfl⟩
set_option maxRecDepth 100000 in
theorem tw_1355 : Cond.selects RX10 yX10_word yX10_word ∈ LW := List.mem_filter.mpr ⟨List.mem_append_right _ (List.mem_of_getElem? (i := 1355) rfl), rfl⟩
set_option maxRecDepth 100000 in
theorem tw_1360 : Cond.selects RX10 yX10_joint yX10_joint ∈ LW := List.mem_filter.mpr ⟨List.mem_append_right _ (List.mem_of_getElem? (i := 1360) rfl), rfl⟩
set_option maxRecDepth 100000 in
theorem tw_1365 : Cond.selects RX10 yX10_balance yX10_balance ∈ LW := List.mem_filter.mpr ⟨List.mem_append_right _ (List.mem_of_getElem? (i := 1365) rfl), rfl⟩
set_option maxRecDepth 100000 in
theorem tw_1370 : Cond.selects RX10 yX10_run yX10_run ∈ LW := List.mem_filter.mpr ⟨List.mem_append_right _ (List.mem_of_getElem? (i := 1370) rfl), rfl⟩
set_option maxRecDepth 100000 in
theorem tw_1374 : Cond.selects RX10 yX10_signs yX10_signs ∈ LW := List.mem_filter.mpr ⟨List.mem_append_right _ (List.mem_of_getElem? (i := 1374) rfl), rfl⟩
set_option maxRecDepth 100000 in
theorem tw_1382 : Cond.selects RX10 yX10_signAt yX10_signAt ∈ LW := List.mem_filter.mpr ⟨List.mem_append_right _ (List.mem_of_getElem? (i := 1382) rfl), rfl⟩
set_option maxRecDepth 100000 in
theorem tw_1386 : Cond.selects RX10 yX10_flip yX10_flip ∈ LW := List.mem_filter.mpr ⟨List.mem_append_right _ (List.mem_of_getElem? (i := 1386) rfl), rfl⟩
set_option maxRecDepth 100000 in
theorem tw_1390 : Cond.selects RX10 yX10_scratch yX10_scratch ∈ LW := List.mem_filter.mpr ⟨List.mem_append_right _ (List.mem_of_getElem? (i := 1390) rfl), rfl⟩
set_option maxRecDepth 100000 in
theorem tw_1401 : Cond.selects RX10 yX10_noise yX10_noise ∈ LW := List.mem_filter.mpr ⟨List.mem_append_right _ (List.mem_of_getElem? (i := 1401) rfl), rfl⟩
set_option maxRecDepth 100000 in
theorem tw_1405 : Cond.selects RX10 yX10_slip yX10_slip ∈ LW := List.mem_filter.mpr ⟨List.mem_append_right _ (List.mem_of_getElem? (i := 1405) rfl), rfl⟩
set_option maxRecDepth 100000 in
theorem tw_1410 : Cond.selects RX10 yX10_play yX10_play ∈ LW := List.mem_filter.mpr ⟨List.mem_append_right _ (List.mem_of_getElem? (i := 1410) rfl), rfl⟩
set_option maxRecDepth 100000 in
theorem tw_1440 : Cond.selects RX10 yX10_played yX10_played ∈ LW := List.mem_filter.mpr ⟨List.mem_append_right _ (List.mem_of_getElem? (i := 1440) rfl), rfl⟩
set_option maxRecDepth 100000 in
theorem tw_1448 : Cond.selects RX10 yX10_isSure yX10_isSure ∈ LW := List.mem_filter.mpr ⟨List.mem_append_right _ (List.mem_of_getElem? (i := 1448) rfl), rfl⟩
set_option maxRecDepth 100000 in
theorem tw_1452 : Cond.selects RX10 yX10_heard yX10_heard ∈ LW := List.mem_filter.mpr ⟨List.mem_append_right _ (List.mem_of_getElem? (i := 1452) rfl), rfl⟩
set_option maxRecDepth 100000 in
theorem tw_1468 : Cond.selects RX10 yX10_inner yX10_inner ∈ LW := List.mem_filter.mpr ⟨List.mem_append_right _ (List.mem_of_getElem? (i := 1468) rfl), rfl⟩
set_option maxRecDepth 100000 in
theorem tw_1472 : Cond.selects RX10 yX10_outer yX10_outer ∈ LW := List.mem_filter.mpr ⟨List.mem_append_right _ (List.mem_of_getElem? (i := 1472) rfl), rfl⟩
set_option maxRecDepth 100000 in
theorem tw_1476 : Cond.selects RX10 yX10_told yX10_told ∈ LW := List.mem_filter.mpr ⟨List.mem_append_right _ (List.mem_of_getElem? (i := 1476) rfl), rfl⟩
set_option maxRecDepth 100000 in
theorem tw_1492 : Cond.selects RX10 yX10_q yX10_q ∈ LW := List.mem_filter.mpr ⟨List.mem_append_right _ (List.mem_of_getElem? (i := 1492) rfl), rfl⟩
set_option maxRecDepth 100000 in
theorem tw_1521 : Cond.selects RX10 yX10_burst yX10_burst ∈ LW := List.mem_filter.mpr ⟨List.mem_append_right _ (List.mem_of_getElem? (i := 1521) rfl), rfl⟩
set_option maxRecDepth 100000 in
theorem tw_1526 : Cond.selects RX10 yX10_spell yX10_spell ∈ LW := List.mem_filter.mpr ⟨List.mem_append_right _ (List.mem_of_getElem? (i := 1526) rfl), rfl⟩
set_option maxRecDepth 100000 in
theorem tw_1531 : Cond.selects RX10 yX10_read yX10_read ∈ LW := List.mem_filter.mpr ⟨List.mem_append_right _ (List.mem_of_getElem? (i := 1531) rfl), rfl⟩
set_option maxRecDepth 100000 in
theorem tw_1536 : Cond.selects RX10 yX10_put yX10_put ∈ LW := List.mem_filter.mpr ⟨List.mem_append_right _ (List.mem_of_getElem? (i := 1536) rfl), rfl⟩
set_option maxRecDepth 100000 in
theorem tw_1541 : Cond.selects RX10 yX10_mark yX10_mark ∈ LW := List.mem_filter.mpr ⟨List.mem_append_right _ (List.mem_of_getElem? (i := 1541) rfl), rfl⟩
set_option maxRecDepth 100000 in
theorem tw_1545 : Cond.selects RX10 yX10_at yX10_at ∈ LW := List.mem_filter.mpr ⟨List.mem_append_right _ (List.mem_of_getElem? (i := 1545) rfl), rfl⟩
set_option maxRecDepth 100000 in
theorem tw_1549 : Cond.selects RX10 yX10_seal yX10_seal ∈ LW := List.mem_filter.mpr ⟨List.mem_append_right _ (List.mem_of_getElem? (i := 1549) rfl), rfl⟩
set_option maxRecDepth 100000 in
theorem tw_1557 : Cond.selects RX10 yX10_syndrome yX10_syndrome ∈ LW := List.mem_filter.mpr ⟨List.mem_append_right _ (List.mem_of_getElem? (i := 1557) rfl), rfl⟩
set_option maxRecDepth 100000 in
theorem tw_1562 : Cond.selects RX10 yX10_mend yX10_mend ∈ LW := List.mem_filter.mpr ⟨List.mem_append_right _ (List.mem_of_getElem? (i := 1562) rfl), rfl⟩
theorem sel_0 : Cond.selects RX9 yX9_addByte yX9_addByte ∈ LW := List.mem_filter.mpr ⟨List.mem_append_left _ (List.mem_of_getElem? (i := 0) rfl), rfl⟩
theorem sel_1 : Cond.selects RX6 yX6_makeOuterWords yX6_makeOuterWords ∈ LW := List.mem_filter.mpr ⟨List.mem_append_left _ (List.mem_of_getElem? (i := 1) rfl), rfl⟩
theorem sel_2 : Cond.selects RX0 yX0_sumUp yX0_sumUp ∈ LW := List.mem_filter.mpr ⟨List.mem_append_left _ (List.mem_of_getElem? (i := 2) rfl), rfl⟩
theorem sel_3 : Cond.selects RX0 yX0_fits yX0_fits ∈ LW := List.mem_filter.mpr ⟨List.mem_append_left _ (List.mem_of_getElem? (i := 3) rfl), rfl⟩
theorem sel_4 : Cond.selects RX0 yX0_addSpot yX0_addSpot ∈ LW := List.mem_filter.mpr ⟨List.mem_append_left _ (List.mem_of_getElem? (i := 4) rfl), rfl⟩
theorem sel_5 : Cond.selects RX0 yX0_correct yX0_correct ∈ LW := List.mem_filter.mpr ⟨List.mem_append_left _ (List.mem_of_getElem? (i := 5) rfl), rfl⟩
theorem sel_6 : Cond.selects RX0 yX0_spread yX0_spread ∈ LW := List.mem_filter.mpr ⟨List.mem_append_left _ (List.mem_of_getElem? (i := 6) rfl), rfl⟩
theorem sel_7 : Cond.selects RX0 yX0_without yX0_without ∈ LW := List.mem_filter.mpr ⟨List.mem_append_left _ (List.mem_of_getElem? (i := 7) rfl), rfl⟩
theorem sel_8 : Cond.selects RX6 yX6_makeInnerWords yX6_makeInnerWords ∈ LW := List.mem_filter.mpr ⟨List.mem_append_left _ (List.mem_of_getElem? (i := 8) rfl), rfl⟩
theorem sel_9 : Cond.selects RX6 yX6_makeFrames yX6_makeFrames ∈ LW := List.mem_filter.mpr ⟨List.mem_append_left _ (List.mem_of_getElem? (i := 9) rfl), rfl⟩
theorem sel_10 : Cond.selects RX6 yX6_cut yX6_cut ∈ LW := List.mem_filter.mpr ⟨List.mem_append_left _ (List.mem_of_getElem? (i := 10) rfl), rfl⟩
theorem sel_11 : Cond.selects RX6 yX6_startGroove yX6_startGroove ∈ LW := List.mem_filter.mpr ⟨List.mem_append_left _ (List.mem_of_getElem? (i := 11) rfl), rfl⟩
theorem sel_12 : Cond.selects RX6 yX6_carve yX6_carve ∈ LW := List.mem_filter.mpr ⟨List.mem_append_left _ (List.mem_of_getElem? (i := 12) rfl), rfl⟩
theorem sel_13 : Cond.selects RX3 yX3_merge yX3_merge ∈ LW := List.mem_filter.mpr ⟨List.mem_append_left _ (List.mem_of_getElem? (i := 13) rfl), rfl⟩
theorem sel_14 : Cond.selects RX6 yX6_carveJoined yX6_carveJoined ∈ LW := List.mem_filter.mpr ⟨List.mem_append_left _ (List.mem_of_getElem? (i := 14) rfl), rfl⟩
theorem sel_15 : Cond.selects RX6 yX6_chooseJoint yX6_chooseJoint ∈ LW := List.mem_filter.mpr ⟨List.mem_append_left _ (List.mem_of_getElem? (i := 15) rfl), rfl⟩
theorem sel_16 : Cond.selects RX6 yX6_mayBe yX6_mayBe ∈ LW := List.mem_filter.mpr ⟨List.mem_append_left _ (List.mem_of_getElem? (i := 16) rfl), rfl⟩
theorem sel_17 : Cond.selects RX6 yX6_mocks yX6_mocks ∈ LW := List.mem_filter.mpr ⟨List.mem_append_left _ (List.mem_of_getElem? (i := 17) rfl), rfl⟩
theorem sel_18 : Cond.selects RX1 yX1_entryFor yX1_entryFor ∈ LW := List.mem_filter.mpr ⟨List.mem_append_left _ (List.mem_of_getElem? (i := 18) rfl), rfl⟩
theorem sel_19 : Cond.selects RX1 yX1_controlOf yX1_controlOf ∈ LW := List.mem_filter.mpr ⟨List.mem_append_left _ (List.mem_of_getElem? (i := 19) rfl), rfl⟩
theorem sel_20 : Cond.selects RX1 yX1_trackOf yX1_trackOf ∈ LW := List.mem_filter.mpr ⟨List.mem_append_left _ (List.mem_of_getElem? (i := 20) rfl), rfl⟩
theorem sel_21 : Cond.selects RX1 yX1_indexOf yX1_indexOf ∈ LW := List.mem_filter.mpr ⟨List.mem_append_left _ (List.mem_of_getElem? (i := 21) rfl), rfl⟩
theorem sel_22 : Cond.selects RX1 yX1_timeOf yX1_timeOf ∈ LW := List.mem_filter.mpr ⟨List.mem_append_left _ (List.mem_of_getElem? (i := 22) rfl), rfl⟩
theorem sel_23 : Cond.selects RX1 yX1_belongs yX1_belongs ∈ LW := List.mem_filter.mpr ⟨List.mem_append_left _ (List.mem_of_getElem? (i := 23) rfl), rfl⟩
theorem sel_24 : Cond.selects RX4 yX4_writeTime yX4_writeTime ∈ LW := List.mem_filter.mpr ⟨List.mem_append_left _ (List.mem_of_getElem? (i := 24) rfl), rfl⟩
theorem sel_25 : Cond.selects RX4 yX4_restOf80 yX4_restOf80 ∈ LW := List.mem_filter.mpr ⟨List.mem_append_left _ (List.mem_of_getElem? (i := 25) rfl), rfl⟩
theorem sel_26 : Cond.selects RX6 yX6_wordBeside yX6_wordBeside ∈ LW := List.mem_filter.mpr ⟨List.mem_append_left _ (List.mem_of_getElem? (i := 26) rfl), rfl⟩
theorem sel_27 : Cond.selects RX3 yX3_cell yX3_cell ∈ LW := List.mem_filter.mpr ⟨List.mem_append_left _ (List.mem_of_getElem? (i := 27) rfl), rfl⟩
theorem sel_28 : Cond.selects RX9 yX9_canSpoil yX9_canSpoil ∈ LW := List.mem_filter.mpr ⟨List.mem_append_left _ (List.mem_of_getElem? (i := 28) rfl), rfl⟩
theorem sel_29 : Cond.selects RX5 yX5_findFrames yX5_findFrames ∈ LW := List.mem_filter.mpr ⟨List.mem_append_left _ (List.mem_of_getElem? (i := 29) rfl), rfl⟩
theorem sel_30 : Cond.selects RX5 yX5_nextStart yX5_nextStart ∈ LW := List.mem_filter.mpr ⟨List.mem_append_left _ (List.mem_of_getElem? (i := 30) rfl), rfl⟩
theorem sel_31 : Cond.selects RX5 yX5_readFrame yX5_readFrame ∈ LW := List.mem_filter.mpr ⟨List.mem_append_left _ (List.mem_of_getElem? (i := 31) rfl), rfl⟩
theorem sel_32 : Cond.selects RX5 yX5_takeInnerWord yX5_takeInnerWord ∈ LW := List.mem_filter.mpr ⟨List.mem_append_left _ (List.mem_of_getElem? (i := 32) rfl), rfl⟩
theorem sel_33 : Cond.selects RX5 yX5_mendInner yX5_mendInner ∈ LW := List.mem_filter.mpr ⟨List.mem_append_left _ (List.mem_of_getElem? (i := 33) rfl), rfl⟩
theorem sel_34 : Cond.selects RX0 yX0_locate yX0_locate ∈ LW := List.mem_filter.mpr ⟨List.mem_append_left _ (List.mem_of_getElem? (i := 34) rfl), rfl⟩
theorem sel_35 : Cond.selects RX0 yX0_locateOne yX0_locateOne ∈ LW := List.mem_filter.mpr ⟨List.mem_append_left _ (List.mem_of_getElem? (i := 35) rfl), rfl⟩
theorem sel_36 : Cond.selects RX0 yX0_locateTwo yX0_locateTwo ∈ LW := List.mem_filter.mpr ⟨List.mem_append_left _ (List.mem_of_getElem? (i := 36) rfl), rfl⟩
theorem sel_37 : Cond.selects RX5 yX5_takeOuterWord yX5_takeOuterWord ∈ LW := List.mem_filter.mpr ⟨List.mem_append_left _ (List.mem_of_getElem? (i := 37) rfl), rfl⟩
theorem sel_38 : Cond.selects RX5 yX5_mendOuter yX5_mendOuter ∈ LW := List.mem_filter.mpr ⟨List.mem_append_left _ (List.mem_of_getElem? (i := 38) rfl), rfl⟩
theorem sel_39 : Cond.selects RX5 yX5_countUnsure yX5_countUnsure ∈ LW := List.mem_filter.mpr ⟨List.mem_append_left _ (List.mem_of_getElem? (i := 39) rfl), rfl⟩
theorem sel_40 : Cond.selects RX5 yX5_hide yX5_hide ∈ LW := List.mem_filter.mpr ⟨List.mem_append_left _ (List.mem_of_getElem? (i := 40) rfl), rfl⟩
theorem sel_41 : Cond.selects RX5 yX5_sampleSure yX5_sampleSure ∈ LW := List.mem_filter.mpr ⟨List.mem_append_left _ (List.mem_of_getElem? (i := 41) rfl), rfl⟩
theorem sel_42 : Cond.selects RX5 yX5_isSample yX5_isSample ∈ LW := List.mem_filter.mpr ⟨List.mem_append_left _ (List.mem_of_getElem? (i := 42) rfl), rfl⟩
theorem sel_43 : Cond.selects RX5 yX5_sampleOf yX5_sampleOf ∈ LW := List.mem_filter.mpr ⟨List.mem_append_left _ (List.mem_of_getElem? (i := 43) rfl), rfl⟩
theorem sel_44 : Cond.selects RX5 yX5_countSections yX5_countSections ∈ LW := List.mem_filter.mpr ⟨List.mem_append_left _ (List.mem_of_getElem? (i := 44) rfl), rfl⟩
theorem sel_45 : Cond.selects RX5 yX5_beginsSection yX5_beginsSection ∈ LW := List.mem_filter.mpr ⟨List.mem_append_left _ (List.mem_of_getElem? (i := 45) rfl), rfl⟩
theorem sel_46 : Cond.selects RX5 yX5_wasFound yX5_wasFound ∈ LW := List.mem_filter.mpr ⟨List.mem_append_left _ (List.mem_of_getElem? (i := 46) rfl), rfl⟩
theorem sel_47 : Cond.selects RX5 yX5_sectionStart yX5_sectionStart ∈ LW := List.mem_filter.mpr ⟨List.mem_append_left _ (List.mem_of_getElem? (i := 47) rfl), rfl⟩
theorem sel_48 : Cond.selects RX5 yX5_readLabel yX5_readLabel ∈ LW := List.mem_filter.mpr ⟨List.mem_append_left _ (List.mem_of_getElem? (i := 48) rfl), rfl⟩
theorem sel_49 : Cond.selects RX4 yX4_areFigures yX4_areFigures ∈ LW := List.mem_filter.mpr ⟨List.mem_append_left _ (List.mem_of_getElem? (i := 49) rfl), rfl⟩
theorem sel_50 : Cond.selects RX4 yX4_isTime yX4_isTime ∈ LW := List.mem_filter.mpr ⟨List.mem_append_left _ (List.mem_of_getElem? (i := 50) rfl), rfl⟩
theorem sel_51 : Cond.selects RX4 yX4_number yX4_number ∈ LW := List.mem_filter.mpr ⟨List.mem_append_left _ (List.mem_of_getElem? (i := 51) rfl), rfl⟩
theorem sel_52 : Cond.selects RX4 yX4_timeOf yX4_timeOf ∈ LW := List.mem_filter.mpr ⟨List.mem_append_left _ (List.mem_of_getElem? (i := 52) rfl), rfl⟩
theorem sel_53 : Cond.selects RX9 yX9_isBench yX9_isBench ∈ LW := List.mem_filter.mpr ⟨List.mem_append_left _ (List.mem_of_getElem? (i := 53) rfl), rfl⟩
theorem sel_54 : Cond.selects RX9 yX9_codeOf yX9_codeOf ∈ LW := List.mem_filter.mpr ⟨List.mem_append_left _ (List.mem_of_getElem? (i := 54) rfl), rfl⟩
theorem sel_55 : Cond.selects RX10 yX10_makeOuter yX10_makeOuter ∈ LW := List.mem_filter.mpr ⟨List.mem_append_left _ (List.mem_of_getElem? (i := 55) rfl), rfl⟩
theorem sel_56 : Cond.selects RX10 yX10_streamByte yX10_streamByte ∈ LW := List.mem_filter.mpr ⟨List.mem_append_left _ (List.mem_of_getElem? (i := 56) rfl), rfl⟩
theorem sel_57 : Cond.selects RX10 yX10_check yX10_check ∈ LW := List.mem_filter.mpr ⟨List.mem_append_left _ (List.mem_of_getElem? (i := 57) rfl), rfl⟩
theorem sel_58 : Cond.selects RX10 yX10_mended yX10_mended ∈ LW := List.mem_filter.mpr ⟨List.mem_append_left _ (List.mem_of_getElem? (i := 58) rfl), rfl⟩
theorem sel_59 : Cond.selects RX10 yX10_findSyndromes yX10_findSyndromes ∈ LW := List.mem_filter.mpr ⟨List.mem_append_left _ (List.mem_of_getElem? (i := 59) rfl), rfl⟩
theorem sel_60 : Cond.selects RX10 yX10_power yX10_power ∈ LW := List.mem_filter.mpr ⟨List.mem_append_left _ (List.mem_of_getElem? (i := 60) rfl), rfl⟩
theorem sel_61 : Cond.selects RX10 yX10_times yX10_times ∈ LW := List.mem_filter.mpr ⟨List.mem_append_left _ (List.mem_of_getElem? (i := 61) rfl), rfl⟩
theorem sel_62 : Cond.selects RX10 yX10_fits yX10_fits ∈ LW := List.mem_filter.mpr ⟨List.mem_append_left _ (List.mem_of_getElem? (i := 62) rfl), rfl⟩
theorem sel_63 : Cond.selects RX10 yX10_swapRows yX10_swapRows ∈ LW := List.mem_filter.mpr ⟨List.mem_append_left _ (List.mem_of_getElem? (i := 63) rfl), rfl⟩
theorem sel_64 : Cond.selects RX10 yX10_inverse yX10_inverse ∈ LW := List.mem_filter.mpr ⟨List.mem_append_left _ (List.mem_of_getElem? (i := 64) rfl), rfl⟩
theorem sel_65 : Cond.selects RX10 yX10_changed yX10_changed ∈ LW := List.mem_filter.mpr ⟨List.mem_append_left _ (List.mem_of_getElem? (i := 65) rfl), rfl⟩
theorem sel_66 : Cond.selects RX10 yX10_findTwo yX10_findTwo ∈ LW := List.mem_filter.mpr ⟨List.mem_append_left _ (List.mem_of_getElem? (i := 66) rfl), rfl⟩
theorem sel_67 : Cond.selects RX10 yX10_makeInner yX10_makeInner ∈ LW := List.mem_filter.mpr ⟨List.mem_append_left _ (List.mem_of_getElem? (i := 67) rfl), rfl⟩
theorem sel_68 : Cond.selects RX10 yX10_layBits yX10_layBits ∈ LW := List.mem_filter.mpr ⟨List.mem_append_left _ (List.mem_of_getElem? (i := 68) rfl), rfl⟩
theorem sel_69 : Cond.selects RX10 yX10_besideWord yX10_besideWord ∈ LW := List.mem_filter.mpr ⟨List.mem_append_left _ (List.mem_of_getElem? (i := 69) rfl), rfl⟩
theorem sel_70 : Cond.selects RX10 yX10_makeChannel yX10_makeChannel ∈ LW := List.mem_filter.mpr ⟨List.mem_append_left _ (List.mem_of_getElem? (i := 70) rfl), rfl⟩
theorem sel_71 : Cond.selects RX10 yX10_entryFor yX10_entryFor ∈ LW := List.mem_filter.mpr ⟨List.mem_append_left _ (List.mem_of_getElem? (i := 71) rfl), rfl⟩
theorem sel_72 : Cond.selects RX10 yX10_trackOf yX10_trackOf ∈ LW := List.mem_filter.mpr ⟨List.mem_append_left _ (List.mem_of_getElem? (i := 72) rfl), rfl⟩
theorem sel_73 : Cond.selects RX10 yX10_figures yX10_figures ∈ LW := List.mem_filter.mpr ⟨List.mem_append_left _ (List.mem_of_getElem? (i := 73) rfl), rfl⟩
theorem sel_74 : Cond.selects RX10 yX10_indexOf yX10_indexOf ∈ LW := List.mem_filter.mpr ⟨List.mem_append_left _ (List.mem_of_getElem? (i := 74) rfl), rfl⟩
theorem sel_75 : Cond.selects RX10 yX10_timeOf yX10_timeOf ∈ LW := List.mem_filter.mpr ⟨List.mem_append_left _ (List.mem_of_getElem? (i := 75) rfl), rfl⟩
theorem sel_76 : Cond.selects RX10 yX10_clock yX10_clock ∈ LW := List.mem_filter.mpr ⟨List.mem_append_left _ (List.mem_of_getElem? (i := 76) rfl), rfl⟩
theorem sel_77 : Cond.selects RX10 yX10_layWord yX10_layWord ∈ LW := List.mem_filter.mpr ⟨List.mem_append_left _ (List.mem_of_getElem? (i := 77) rfl), rfl⟩
theorem sel_78 : Cond.selects RX10 yX10_jointFor yX10_jointFor ∈ LW := List.mem_filter.mpr ⟨List.mem_append_left _ (List.mem_of_getElem? (i := 78) rfl), rfl⟩
theorem sel_79 : Cond.selects RX10 yX10_tryJoint yX10_tryJoint ∈ LW := List.mem_filter.mpr ⟨List.mem_append_left _ (List.mem_of_getElem? (i := 79) rfl), rfl⟩
theorem sel_80 : Cond.selects RX10 yX10_discByte yX10_discByte ∈ LW := List.mem_filter.mpr ⟨List.mem_append_left _ (List.mem_of_getElem? (i := 80) rfl), rfl⟩
theorem sel_81 : Cond.selects RX10 yX10_taken yX10_taken ∈ LW := List.mem_filter.mpr ⟨List.mem_append_left _ (List.mem_of_getElem? (i := 81) rfl), rfl⟩
theorem sel_82 : Cond.selects RX10 yX10_bit yX10_bit ∈ LW := List.mem_filter.mpr ⟨List.mem_append_left _ (List.mem_of_getElem? (i := 82) rfl), rfl⟩
theorem sel_83 : Cond.selects RX10 yX10_isSign yX10_isSign ∈ LW := List.mem_filter.mpr ⟨List.mem_append_left _ (List.mem_of_getElem? (i := 83) rfl), rfl⟩
theorem sel_84 : Cond.selects RX10 yX10_reached yX10_reached ∈ LW := List.mem_filter.mpr ⟨List.mem_append_left _ (List.mem_of_getElem? (i := 84) rfl), rfl⟩
theorem sel_85 : Cond.selects RX10 yX10_findFrames yX10_findFrames ∈ LW := List.mem_filter.mpr ⟨List.mem_append_left _ (List.mem_of_getElem? (i := 85) rfl), rfl⟩
theorem sel_86 : Cond.selects RX10 yX10_nextFrame yX10_nextFrame ∈ LW := List.mem_filter.mpr ⟨List.mem_append_left _ (List.mem_of_getElem? (i := 86) rfl), rfl⟩
theorem sel_87 : Cond.selects RX10 yX10_playInner yX10_playInner ∈ LW := List.mem_filter.mpr ⟨List.mem_append_left _ (List.mem_of_getElem? (i := 87) rfl), rfl⟩
theorem sel_88 : Cond.selects RX10 yX10_readInner yX10_readInner ∈ LW := List.mem_filter.mpr ⟨List.mem_append_left _ (List.mem_of_getElem? (i := 88) rfl), rfl⟩
theorem sel_89 : Cond.selects RX10 yX10_playOuter yX10_playOuter ∈ LW := List.mem_filter.mpr ⟨List.mem_append_left _ (List.mem_of_getElem? (i := 89) rfl), rfl⟩
theorem sel_90 : Cond.selects RX10 yX10_takeFrame yX10_takeFrame ∈ LW := List.mem_filter.mpr ⟨List.mem_append_left _ (List.mem_of_getElem? (i := 90) rfl), rfl⟩
theorem sel_91 : Cond.selects RX10 yX10_isThere yX10_isThere ∈ LW := List.mem_filter.mpr ⟨List.mem_append_left _ (List.mem_of_getElem? (i := 91) rfl), rfl⟩
theorem sel_92 : Cond.selects RX10 yX10_isSampleSure yX10_isSampleSure ∈ LW := List.mem_filter.mpr ⟨List.mem_append_left _ (List.mem_of_getElem? (i := 92) rfl), rfl⟩
theorem sel_93 : Cond.selects RX10 yX10_sample yX10_sample ∈ LW := List.mem_filter.mpr ⟨List.mem_append_left _ (List.mem_of_getElem? (i := 93) rfl), rfl⟩
theorem sel_94 : Cond.selects RX10 yX10_hidden yX10_hidden ∈ LW := List.mem_filter.mpr ⟨List.mem_append_left _ (List.mem_of_getElem? (i := 94) rfl), rfl⟩
theorem sel_95 : Cond.selects RX10 yX10_sections yX10_sections ∈ LW := List.mem_filter.mpr ⟨List.mem_append_left _ (List.mem_of_getElem? (i := 95) rfl), rfl⟩
theorem sel_96 : Cond.selects RX10 yX10_beginsSection yX10_beginsSection ∈ LW := List.mem_filter.mpr ⟨List.mem_append_left _ (List.mem_of_getElem? (i := 96) rfl), rfl⟩
theorem sel_97 : Cond.selects RX10 yX10_sectionAt yX10_sectionAt ∈ LW := List.mem_filter.mpr ⟨List.mem_append_left _ (List.mem_of_getElem? (i := 97) rfl), rfl⟩
theorem sel_98 : Cond.selects RX10 yX10_isSound yX10_isSound ∈ LW := List.mem_filter.mpr ⟨List.mem_append_left _ (List.mem_of_getElem? (i := 98) rfl), rfl⟩
theorem sel_99 : Cond.selects RX10 yX10_channelBits yX10_channelBits ∈ LW := List.mem_filter.mpr ⟨List.mem_append_left _ (List.mem_of_getElem? (i := 99) rfl), rfl⟩
theorem sel_100 : Cond.selects RX10 yX10_isClock yX10_isClock ∈ LW := List.mem_filter.mpr ⟨List.mem_append_left _ (List.mem_of_getElem? (i := 100) rfl), rfl⟩
theorem sel_101 : Cond.selects RX10 yX10_twoFigures yX10_twoFigures ∈ LW := List.mem_filter.mpr ⟨List.mem_append_left _ (List.mem_of_getElem? (i := 101) rfl), rfl⟩
theorem sel_102 : Cond.selects RX10 yX10_clockOf yX10_clockOf ∈ LW := List.mem_filter.mpr ⟨List.mem_append_left _ (List.mem_of_getElem? (i := 102) rfl), rfl⟩
theorem sel_103 : Cond.selects RX10 yX10_toBench yX10_toBench ∈ LW := List.mem_filter.mpr ⟨List.mem_append_left _ (List.mem_of_getElem? (i := 103) rfl), rfl⟩
set_option maxRecDepth 100000 in
theorem tw_19 : Cond.code yX9_init cX9_init 3 none ∈ LW := List.mem_filter.mpr ⟨List.mem_append_right _ (List.mem_of_getElem? (i := 19) rfl), rfl⟩
set_option maxRecDepth 100000 in
theorem tw_27 : Cond.code yX2_init cX2_init 3 none ∈ LW := List.mem_filter.mpr ⟨List.mem_append_right _ (List.mem_of_getElem? (i := 27) rfl), rfl⟩
set_option maxRecDepth 100000 in
theorem tw_31 : Cond.code yX2_twice cX2_twice 2 (some .int) ∈ LW := List.mem_filter.mpr ⟨List.mem_append_right _ (List.mem_of_getElem? (i := 31) rfl), rfl⟩
set_option maxRecDepth 100000 in
theorem tw_44 : Cond.code yX7_init cX7_init 1 none ∈ LW := List.mem_filter.mpr ⟨List.mem_append_right _ (List.mem_of_getElem? (i := 44) rfl), rfl⟩
set_option maxRecDepth 100000 in
theorem tw_58 : Cond.code yX1_init cX1_init 1 none ∈ LW := List.mem_filter.mpr ⟨List.mem_append_right _ (List.mem_of_getElem? (i := 58) rfl), rfl⟩
set_option maxRecDepth 100000 in
theorem tw_83 : Cond.code yX8_init cX8_init 5 none ∈ LW := List.mem_filter.mpr ⟨List.mem_append_right _ (List.mem_of_getElem? (i := 83) rfl), rfl⟩
set_option maxRecDepth 100000 in
theorem tw_98 : Cond.code yX0_init cX0_init 4 none ∈ LW := List.mem_filter.mpr ⟨List.mem_append_right _ (List.mem_of_getElem? (i := 98) rfl), rfl⟩
set_option maxRecDepth 100000 in
theorem tw_129 : Cond.code yX3_init cX3_init 1 none ∈ LW := List.mem_filter.mpr ⟨List.mem_append_right _ (List.mem_of_getElem? (i := 129) rfl), rfl⟩
set_option maxRecDepth 100000 in
theorem tw_145 : Cond.code yX6_init cX6_init 7 none ∈ LW := List.mem_filter.mpr ⟨List.mem_append_right _ (List.mem_of_getElem? (i := 145) rfl), rfl⟩
set_option maxRecDepth 100000 in
theorem tw_151 : Cond.code yX4_init cX4_init 1 none ∈ LW := List.mem_filter.mpr ⟨List.mem_append_right _ (List.mem_of_getElem? (i := 151) rfl), rfl⟩
set_option maxRecDepth 100000 in
theorem tw_195 : Cond.code yX5_init cX5_init 6 none ∈ LW := List.mem_filter.mpr ⟨List.mem_append_right _ (List.mem_of_getElem? (i := 195) rfl), rfl⟩
set_option maxRecDepth 100000 in
theorem tw_282 : Cond.code yX9_feed cX9_feed 5 (some .int) ∈ LW := List.mem_filter.mpr ⟨List.mem_append_right _ (List.mem_of_getElem? (i := 282) rfl), rfl⟩
set_option maxRecDepth 100000 in
theorem tw_286 : Cond.code yX9_addByte cX9_addByte 2 none ∈ LW := List.mem_filter.mpr ⟨List.mem_append_right _ (List.mem_of_getElem? (i := 286) rfl), rfl⟩
set_option maxRecDepth 100000 in
theorem tw_290 : Cond.code yX9_fill cX9_fill 5 (some .int) ∈ LW := List.mem_filter.mpr ⟨List.mem_append_right _ (List.mem_of_getElem? (i := 290) rfl), rfl⟩
set_option maxRecDepth 100000 in
theorem tw_293 : Cond.code yX9_nextNoise cX9_nextNoise 1 (some .int) ∈ LW := List.mem_filter.mpr ⟨List.mem_append_right _ (List.mem_of_getElem? (i := 293) rfl), rfl⟩
set_option maxRecDepth 100000 in
theorem tw_299 : Cond.code yX9_wipe cX9_wipe 2 (some .int) ∈ LW := List.mem_filter.mpr ⟨List.mem_append_right _ (List.mem_of_getElem? (i := 299) rfl), rfl⟩
set_option maxRecDepth 100000 in
theorem tw_303 : Cond.code yX9_streamAt cX9_streamAt 2 (some .int) ∈ LW := List.mem_filter.mpr ⟨List.mem_append_right _ (List.mem_of_getElem? (i := 303) rfl), rfl⟩
set_option maxRecDepth 100000 in
theorem tw_307 : Cond.code yX9_begin cX9_begin 2 (some .boolean) ∈ LW := List.mem_filter.mpr ⟨List.mem_append_right _ (List.mem_of_getElem? (i := 307) rfl), rfl⟩
set_option maxRecDepth 100000 in
theorem tw_312 : Cond.code yX1_startAt cX1_startAt 2 none ∈ LW := List.mem_filter.mpr ⟨List.mem_append_right _ (List.mem_of_getElem? (i := 312) rfl), rfl⟩
set_option maxRecDepth 100000 in
theorem tw_316 : Cond.code yX9_entry cX9_entry 6 (some .int) ∈ LW := List.mem_filter.mpr ⟨List.mem_append_right _ (List.mem_of_getElem? (i := 316) rfl), rfl⟩
set_option maxRecDepth 100000 in
theorem tw_320 : Cond.code yX1_add cX1_add 5 (some .int) ∈ LW := List.mem_filter.mpr ⟨List.mem_append_right _ (List.mem_of_getElem? (i := 320) rfl), rfl⟩
set_option maxRecDepth 100000 in
theorem tw_324 : Cond.code yX9_plain cX9_plain 1 (some .int) ∈ LW := List.mem_filter.mpr ⟨List.mem_append_right _ (List.mem_of_getElem? (i := 324) rfl), rfl⟩
set_option maxRecDepth 100000 in
theorem tw_328 : Cond.code yX1_clear cX1_clear 2 (some .int) ∈ LW := List.mem_filter.mpr ⟨List.mem_append_right _ (List.mem_of_getElem? (i := 328) rfl), rfl⟩
set_option maxRecDepth 100000 in
theorem tw_332 : Cond.code yX9_press cX9_press 1 (some .int) ∈ LW := List.mem_filter.mpr ⟨List.mem_append_right _ (List.mem_of_getElem? (i := 332) rfl), rfl⟩
set_option maxRecDepth 100000 in
theorem tw_336 : Cond.code yX5_forget cX5_forget 1 none ∈ LW := List.mem_filter.mpr ⟨List.mem_append_right _ (List.mem_of_getElem? (i := 336) rfl), rfl⟩
set_option maxRecDepth 100000 in
theorem tw_340 : Cond.code yX6_pressStream cX6_pressStream 4 (some .int) ∈ LW := List.mem_filter.mpr ⟨List.mem_append_right _ (List.mem_of_getElem? (i := 340) rfl), rfl⟩
set_option maxRecDepth 100000 in
theorem tw_344 : Cond.code yX3_reset cX3_reset 2 none ∈ LW := List.mem_filter.mpr ⟨List.mem_append_right _ (List.mem_of_getElem? (i := 344) rfl), rfl⟩
set_option maxRecDepth 100000 in
theorem tw_347 : Cond.code yJ7_fill_53178 cJ7_fill_53178 4 none ∈ LW := List.mem_filter.mpr ⟨List.mem_append_right _ (List.mem_of_getElem? (i := 347) rfl), rfl⟩
set_option maxRecDepth 100000 in
theorem tw_351 : Cond.code yX7_empty cX7_empty 1 none ∈ LW := List.mem_filter.mpr ⟨List.mem_append_right _ (List.mem_of_getElem? (i := 351) rfl), rfl⟩
set_option maxRecDepth 100000 in
theorem tw_354 : Cond.code yJ7_fill_031fb cJ7_fill_031fb 4 none ∈ LW := List.mem_filter.mpr ⟨List.mem_append_right _ (List.mem_of_getElem? (i := 354) rfl), rfl⟩
set_option maxRecDepth 100000 in
theorem tw_359 : Cond.code yX6_makeOuterWords cX6_makeOuterWords 6 none ∈ LW := List.mem_filter.mpr ⟨List.mem_append_right _ (List.mem_of_getElem? (i := 359) rfl), rfl⟩
set_option maxRecDepth 100000 in
theorem tw_362 : Cond.code yX7_lagOf cX7_lagOf 1 (some .int) ∈ LW := List.mem_filter.mpr ⟨List.mem_append_right _ (List.mem_of_getElem? (i := 362) rfl), rfl⟩
set_option maxRecDepth 100000 in
theorem tw_365 : Cond.code yX7_placeOf cX7_placeOf 4 (some .int) ∈ LW := List.mem_filter.mpr ⟨List.mem_append_right _ (List.mem_of_getElem? (i := 365) rfl), rfl⟩
set_option maxRecDepth 100000 in
theorem tw_369 : Cond.code yX7_set cX7_set 4 none ∈ LW := List.mem_filter.mpr ⟨List.mem_append_right _ (List.mem_of_getElem? (i := 369) rfl), rfl⟩
set_option maxRecDepth 100000 in
theorem tw_372 : Cond.code yX7_isCell cX7_isCell 2 (some .boolean) ∈ LW := List.mem_filter.mpr ⟨List.mem_append_right _ (List.mem_of_getElem? (i := 372) rfl), rfl⟩
set_option maxRecDepth 100000 in
theorem tw_376 : Cond.code yX7_cells cX7_cells 1 (some (.array .byte)) ∈ LW := List.mem_filter.mpr ⟨List.mem_append_right _ (List.mem_of_getElem? (i := 376) rfl), rfl⟩
set_option maxRecDepth 100000 in
theorem tw_380 : Cond.code yX7_startOf cX7_startOf 2 (some .int) ∈ LW := List.mem_filter.mpr ⟨List.mem_append_right _ (List.mem_of_getElem? (i := 380) rfl), rfl⟩
set_option maxRecDepth 100000 in
theorem tw_384 : Cond.code yX0_settle cX0_settle 4 none ∈ LW := List.mem_filter.mpr ⟨List.mem_append_right _ (List.mem_of_getElem? (i := 384) rfl), rfl⟩
set_option maxRecDepth 100000 in
theorem tw_388 : Cond.code yX0_sumUp cX0_sumUp 10 none ∈ LW := List.mem_filter.mpr ⟨List.mem_append_right _ (List.mem_of_getElem? (i := 388) rfl), rfl⟩
set_option maxRecDepth 100000 in
theorem tw_392 : Cond.code yX0_fits cX0_fits 3 (some .boolean) ∈ LW := List.mem_filter.mpr ⟨List.mem_append_right _ (List.mem_of_getElem? (i := 392) rfl), rfl⟩
set_option maxRecDepth 100000 in
theorem tw_397 : Cond.code yX0_addSpot cX0_addSpot 2 none ∈ LW := List.mem_filter.mpr ⟨List.mem_append_right _ (List.mem_of_getElem? (i := 397) rfl), rfl⟩
set_option maxRecDepth 100000 in
theorem tw_401 : Cond.code yX0_correct cX0_correct 8 none ∈ LW := List.mem_filter.mpr ⟨List.mem_append_right _ (List.mem_of_getElem? (i := 401) rfl), rfl⟩
set_option maxRecDepth 100000 in
theorem tw_405 : Cond.code yX0_spread cX0_spread 6 (some .int) ∈ LW := List.mem_filter.mpr ⟨List.mem_append_right _ (List.mem_of_getElem? (i := 405) rfl), rfl⟩
set_option maxRecDepth 100000 in
theorem tw_410 : Cond.code yX2_power cX2_power 2 (some .int) ∈ LW := List.mem_filter.mpr ⟨List.mem_append_right _ (List.mem_of_getElem? (i := 410) rfl), rfl⟩
set_option maxRecDepth 100000 in
theorem tw_414 : Cond.code yX2_times cX2_times 3 (some .int) ∈ LW := List.mem_filter.mpr ⟨List.mem_append_right _ (List.mem_of_getElem? (i := 414) rfl), rfl⟩
set_option maxRecDepth 100000 in
theorem tw_418 : Cond.code yX0_without cX0_without 5 (some .int) ∈ LW := List.mem_filter.mpr ⟨List.mem_append_right _ (List.mem_of_getElem? (i := 418) rfl), rfl⟩
set_option maxRecDepth 100000 in
theorem tw_422 : Cond.code yX2_over cX2_over 3 (some .int) ∈ LW := List.mem_filter.mpr ⟨List.mem_append_right _ (List.mem_of_getElem? (i := 422) rfl), rfl⟩
set_option maxRecDepth 100000 in
theorem tw_426 : Cond.code yX6_makeInnerWords cX6_makeInnerWords 4 none ∈ LW := List.mem_filter.mpr ⟨List.mem_append_right _ (List.mem_of_getElem? (i := 426) rfl), rfl⟩
set_option maxRecDepth 100000 in
theorem tw_430 : Cond.code yX7_get cX7_get 3 (some .int) ∈ LW := List.mem_filter.mpr ⟨List.mem_append_right _ (List.mem_of_getElem? (i := 430) rfl), rfl⟩
set_option maxRecDepth 100000 in
theorem tw_434 : Cond.code yX6_makeFrames cX6_makeFrames 4 none ∈ LW := List.mem_filter.mpr ⟨List.mem_append_right _ (List.mem_of_getElem? (i := 434) rfl), rfl⟩
set_option maxRecDepth 100000 in
theorem tw_438 : Cond.code yX6_cut cX6_cut 6 none ∈ LW := List.mem_filter.mpr ⟨List.mem_append_right _ (List.mem_of_getElem? (i := 438) rfl), rfl⟩
set_option maxRecDepth 100000 in
theorem tw_442 : Cond.code yX6_startGroove cX6_startGroove 1 none ∈ LW := List.mem_filter.mpr ⟨List.mem_append_right _ (List.mem_of_getElem? (i := 442) rfl), rfl⟩
set_option maxRecDepth 100000 in
theorem tw_447 : Cond.code yX6_carve cX6_carve 4 none ∈ LW := List.mem_filter.mpr ⟨List.mem_append_right _ (List.mem_of_getElem? (i := 447) rfl), rfl⟩
set_option maxRecDepth 100000 in
theorem tw_451 : Cond.code yX3_append cX3_append 5 none ∈ LW := List.mem_filter.mpr ⟨List.mem_append_right _ (List.mem_of_getElem? (i := 451) rfl), rfl⟩
set_option maxRecDepth 100000 in
theorem tw_455 : Cond.code yX3_merge cX3_merge 3 none ∈ LW := List.mem_filter.mpr ⟨List.mem_append_right _ (List.mem_of_getElem? (i := 455) rfl), rfl⟩
set_option maxRecDepth 100000 in
theorem tw_458 : Cond.code yX3_rise cX3_rise 4 (some .int) ∈ LW := List.mem_filter.mpr ⟨List.mem_append_right _ (List.mem_of_getElem? (i := 458) rfl), rfl⟩
set_option maxRecDepth 100000 in
theorem tw_461 : Cond.code yJ6_bitCount_0f7a4 cJ6_bitCount_0f7a4 1 (some .int) ∈ LW := List.mem_filter.mpr ⟨List.mem_append_right _ (List.mem_of_getElem? (i := 461) rfl), rfl⟩
set_option maxRecDepth 100000 in
theorem tw_468 : Cond.code yX6_zerosBehind cX6_zerosBehind 3 (some .int) ∈ LW := List.mem_filter.mpr ⟨List.mem_append_right _ (List.mem_of_getElem? (i := 468) rfl), rfl⟩
set_option maxRecDepth 100000 in
theorem tw_472 : Cond.code yX6_carveJoined cX6_carveJoined 3 none ∈ LW := List.mem_filter.mpr ⟨List.mem_append_right _ (List.mem_of_getElem? (i := 472) rfl), rfl⟩
set_option maxRecDepth 100000 in
theorem tw_476 : Cond.code yX6_chooseJoint cX6_chooseJoint 13 (some .int) ∈ LW := List.mem_filter.mpr ⟨List.mem_append_right _ (List.mem_of_getElem? (i := 476) rfl), rfl⟩
set_option maxRecDepth 100000 in
theorem tw_479 : Cond.code yX6_zerosAhead cX6_zerosAhead 3 (some .int) ∈ LW := List.mem_filter.mpr ⟨List.mem_append_right _ (List.mem_of_getElem? (i := 479) rfl), rfl⟩
set_option maxRecDepth 100000 in
theorem tw_484 : Cond.code yX6_mayBe cX6_mayBe 3 (some .boolean) ∈ LW := List.mem_filter.mpr ⟨List.mem_append_right _ (List.mem_of_getElem? (i := 484) rfl), rfl⟩
set_option maxRecDepth 100000 in
theorem tw_487 : Cond.code yX6_isRun cX6_isRun 1 (some .boolean) ∈ LW := List.mem_filter.mpr ⟨List.mem_append_right _ (List.mem_of_getElem? (i := 487) rfl), rfl⟩
set_option maxRecDepth 100000 in
theorem tw_491 : Cond.code yX6_mocks cX6_mocks 8 (some .boolean) ∈ LW := List.mem_filter.mpr ⟨List.mem_append_right _ (List.mem_of_getElem? (i := 491) rfl), rfl⟩
set_option maxRecDepth 100000 in
theorem tw_496 : Cond.code yJ9_abs_0f7a4 cJ9_abs_0f7a4 1 (some .int) ∈ LW := List.mem_filter.mpr ⟨List.mem_append_right _ (List.mem_of_getElem? (i := 496) rfl), rfl⟩
set_option maxRecDepth 100000 in
theorem tw_500 : Cond.code yX1_describe cX1_describe 5 none ∈ LW := List.mem_filter.mpr ⟨List.mem_append_right _ (List.mem_of_getElem? (i := 500) rfl), rfl⟩
set_option maxRecDepth 100000 in
theorem tw_504 : Cond.code yX1_entryFor cX1_entryFor 4 (some .int) ∈ LW := List.mem_filter.mpr ⟨List.mem_append_right _ (List.mem_of_getElem? (i := 504) rfl), rfl⟩
set_option maxRecDepth 100000 in
theorem tw_508 : Cond.code yX1_controlOf cX1_controlOf 2 (some .int) ∈ LW := List.mem_filter.mpr ⟨List.mem_append_right _ (List.mem_of_getElem? (i := 508) rfl), rfl⟩
set_option maxRecDepth 100000 in
theorem tw_511 : Cond.code yX1_isEntry cX1_isEntry 1 (some .boolean) ∈ LW := List.mem_filter.mpr ⟨List.mem_append_right _ (List.mem_of_getElem? (i := 511) rfl), rfl⟩
set_option maxRecDepth 100000 in
theorem tw_515 : Cond.code yX1_trackOf cX1_trackOf 2 (some .int) ∈ LW := List.mem_filter.mpr ⟨List.mem_append_right _ (List.mem_of_getElem? (i := 515) rfl), rfl⟩
set_option maxRecDepth 100000 in
theorem tw_519 : Cond.code yX1_indexOf cX1_indexOf 2 (some .int) ∈ LW := List.mem_filter.mpr ⟨List.mem_append_right _ (List.mem_of_getElem? (i := 519) rfl), rfl⟩
set_option maxRecDepth 100000 in
theorem tw_523 : Cond.code yX1_timeOf cX1_timeOf 6 (some .int) ∈ LW := List.mem_filter.mpr ⟨List.mem_append_right _ (List.mem_of_getElem? (i := 523) rfl), rfl⟩
set_option maxRecDepth 100000 in
theorem tw_527 : Cond.code yX1_belongs cX1_belongs 3 (some .boolean) ∈ LW := List.mem_filter.mpr ⟨List.mem_append_right _ (List.mem_of_getElem? (i := 527) rfl), rfl⟩
set_option maxRecDepth 100000 in
theorem tw_531 : Cond.code yX4_write cX4_write 7 none ∈ LW := List.mem_filter.mpr ⟨List.mem_append_right _ (List.mem_of_getElem? (i := 531) rfl), rfl⟩
set_option maxRecDepth 100000 in
theorem tw_534 : Cond.code yX4_figures cX4_figures 1 (some .int) ∈ LW := List.mem_filter.mpr ⟨List.mem_append_right _ (List.mem_of_getElem? (i := 534) rfl), rfl⟩
set_option maxRecDepth 100000 in
theorem tw_538 : Cond.code yX4_writeTime cX4_writeTime 3 none ∈ LW := List.mem_filter.mpr ⟨List.mem_append_right _ (List.mem_of_getElem? (i := 538) rfl), rfl⟩
set_option maxRecDepth 100000 in
theorem tw_542 : Cond.code yX4_restOf80 cX4_restOf80 4 (some .int) ∈ LW := List.mem_filter.mpr ⟨List.mem_append_right _ (List.mem_of_getElem? (i := 542) rfl), rfl⟩
set_option maxRecDepth 100000 in
theorem tw_546 : Cond.code yX4_bitOf cX4_bitOf 2 (some .int) ∈ LW := List.mem_filter.mpr ⟨List.mem_append_right _ (List.mem_of_getElem? (i := 546) rfl), rfl⟩
set_option maxRecDepth 100000 in
theorem tw_551 : Cond.code yX6_wordBeside cX6_wordBeside 4 (some .int) ∈ LW := List.mem_filter.mpr ⟨List.mem_append_right _ (List.mem_of_getElem? (i := 551) rfl), rfl⟩
set_option maxRecDepth 100000 in
theorem tw_555 : Cond.code yX1_isPause cX1_isPause 2 (some .boolean) ∈ LW := List.mem_filter.mpr ⟨List.mem_append_right _ (List.mem_of_getElem? (i := 555) rfl), rfl⟩
set_option maxRecDepth 100000 in
theorem tw_560 : Cond.code yX8_wordOf cX8_wordOf 2 (some .int) ∈ LW := List.mem_filter.mpr ⟨List.mem_append_right _ (List.mem_of_getElem? (i := 560) rfl), rfl⟩
set_option maxRecDepth 100000 in
theorem tw_563 : Cond.code yX7_isTurned cX7_isTurned 1 (some .boolean) ∈ LW := List.mem_filter.mpr ⟨List.mem_append_right _ (List.mem_of_getElem? (i := 563) rfl), rfl⟩
set_option maxRecDepth 100000 in
theorem tw_567 : Cond.code yX9_frames cX9_frames 1 (some .int) ∈ LW := List.mem_filter.mpr ⟨List.mem_append_right _ (List.mem_of_getElem? (i := 567) rfl), rfl⟩
set_option maxRecDepth 100000 in
theorem tw_571 : Cond.code yX3_framesPressed cX3_framesPressed 1 (some .int) ∈ LW := List.mem_filter.mpr ⟨List.mem_append_right _ (List.mem_of_getElem? (i := 571) rfl), rfl⟩
set_option maxRecDepth 100000 in
theorem tw_575 : Cond.code yX9_length cX9_length 1 (some .int) ∈ LW := List.mem_filter.mpr ⟨List.mem_append_right _ (List.mem_of_getElem? (i := 575) rfl), rfl⟩
set_option maxRecDepth 100000 in
theorem tw_579 : Cond.code yX3_size cX3_size 1 (some .int) ∈ LW := List.mem_filter.mpr ⟨List.mem_append_right _ (List.mem_of_getElem? (i := 579) rfl), rfl⟩
set_option maxRecDepth 100000 in
theorem tw_583 : Cond.code yX9_bits cX9_bits 2 (some .int) ∈ LW := List.mem_filter.mpr ⟨List.mem_append_right _ (List.mem_of_getElem? (i := 583) rfl), rfl⟩
set_option maxRecDepth 100000 in
theorem tw_587 : Cond.code yX3_has cX3_has 2 (some .boolean) ∈ LW := List.mem_filter.mpr ⟨List.mem_append_right _ (List.mem_of_getElem? (i := 587) rfl), rfl⟩
set_option maxRecDepth 100000 in
theorem tw_591 : Cond.code yX3_peek cX3_peek 4 (some .int) ∈ LW := List.mem_filter.mpr ⟨List.mem_append_right _ (List.mem_of_getElem? (i := 591) rfl), rfl⟩
set_option maxRecDepth 100000 in
theorem tw_595 : Cond.code yX3_cell cX3_cell 2 (some .int) ∈ LW := List.mem_filter.mpr ⟨List.mem_append_right _ (List.mem_of_getElem? (i := 595) rfl), rfl⟩
set_option maxRecDepth 100000 in
theorem tw_599 : Cond.code yX9_word cX9_word 3 (some .int) ∈ LW := List.mem_filter.mpr ⟨List.mem_append_right _ (List.mem_of_getElem? (i := 599) rfl), rfl⟩
set_option maxRecDepth 100000 in
theorem tw_603 : Cond.code yX3_wasPressed cX3_wasPressed 2 (some .boolean) ∈ LW := List.mem_filter.mpr ⟨List.mem_append_right _ (List.mem_of_getElem? (i := 603) rfl), rfl⟩
set_option maxRecDepth 100000 in
theorem tw_607 : Cond.code yX3_wordAt cX3_wordAt 3 (some .int) ∈ LW := List.mem_filter.mpr ⟨List.mem_append_right _ (List.mem_of_getElem? (i := 607) rfl), rfl⟩
set_option maxRecDepth 100000 in
theorem tw_612 : Cond.code yX9_joint cX9_joint 3 (some .int) ∈ LW := List.mem_filter.mpr ⟨List.mem_append_right _ (List.mem_of_getElem? (i := 612) rfl), rfl⟩
set_option maxRecDepth 100000 in
theorem tw_616 : Cond.code yX9_balance cX9_balance 2 (some .int) ∈ LW := List.mem_filter.mpr ⟨List.mem_append_right _ (List.mem_of_getElem? (i := 616) rfl), rfl⟩
set_option maxRecDepth 100000 in
theorem tw_621 : Cond.code yX3_balanceBehind cX3_balanceBehind 6 (some .int) ∈ LW := List.mem_filter.mpr ⟨List.mem_append_right _ (List.mem_of_getElem? (i := 621) rfl), rfl⟩
set_option maxRecDepth 100000 in
theorem tw_624 : Cond.code yJ9_min_7cf53 cJ9_min_7cf53 2 (some .int) ∈ LW := List.mem_filter.mpr ⟨List.mem_append_right _ (List.mem_of_getElem? (i := 624) rfl), rfl⟩
set_option maxRecDepth 100000 in
theorem tw_629 : Cond.code yX9_run cX9_run 2 (some .int) ∈ LW := List.mem_filter.mpr ⟨List.mem_append_right _ (List.mem_of_getElem? (i := 629) rfl), rfl⟩
set_option maxRecDepth 100000 in
theorem tw_633 : Cond.code yX3_extremeRun cX3_extremeRun 7 (some .int) ∈ LW := List.mem_filter.mpr ⟨List.mem_append_right _ (List.mem_of_getElem? (i := 633) rfl), rfl⟩
set_option maxRecDepth 100000 in
theorem tw_637 : Cond.code yX9_signs cX9_signs 1 (some .int) ∈ LW := List.mem_filter.mpr ⟨List.mem_append_right _ (List.mem_of_getElem? (i := 637) rfl), rfl⟩
set_option maxRecDepth 100000 in
theorem tw_641 : Cond.code yX3_countSigns cX3_countSigns 3 (some .int) ∈ LW := List.mem_filter.mpr ⟨List.mem_append_right _ (List.mem_of_getElem? (i := 641) rfl), rfl⟩
set_option maxRecDepth 100000 in
theorem tw_645 : Cond.code yX3_nextSign cX3_nextSign 5 (some .int) ∈ LW := List.mem_filter.mpr ⟨List.mem_append_right _ (List.mem_of_getElem? (i := 645) rfl), rfl⟩
set_option maxRecDepth 100000 in
theorem tw_648 : Cond.code yJ9_max_7cf53 cJ9_max_7cf53 2 (some .int) ∈ LW := List.mem_filter.mpr ⟨List.mem_append_right _ (List.mem_of_getElem? (i := 648) rfl), rfl⟩
set_option maxRecDepth 100000 in
theorem tw_652 : Cond.code yX3_signStands cX3_signStands 2 (some .boolean) ∈ LW := List.mem_filter.mpr ⟨List.mem_append_right _ (List.mem_of_getElem? (i := 652) rfl), rfl⟩
set_option maxRecDepth 100000 in
theorem tw_657 : Cond.code yX9_signAt cX9_signAt 2 (some .int) ∈ LW := List.mem_filter.mpr ⟨List.mem_append_right _ (List.mem_of_getElem? (i := 657) rfl), rfl⟩
set_option maxRecDepth 100000 in
theorem tw_661 : Cond.code yX3_findSign cX3_findSign 4 (some .int) ∈ LW := List.mem_filter.mpr ⟨List.mem_append_right _ (List.mem_of_getElem? (i := 661) rfl), rfl⟩
set_option maxRecDepth 100000 in
theorem tw_665 : Cond.code yX9_flip cX9_flip 2 (some .boolean) ∈ LW := List.mem_filter.mpr ⟨List.mem_append_right _ (List.mem_of_getElem? (i := 665) rfl), rfl⟩
set_option maxRecDepth 100000 in
theorem tw_669 : Cond.code yX3_turn cX3_turn 2 none ∈ LW := List.mem_filter.mpr ⟨List.mem_append_right _ (List.mem_of_getElem? (i := 669) rfl), rfl⟩
set_option maxRecDepth 100000 in
theorem tw_674 : Cond.code yX9_scratch cX9_scratch 5 (some .int) ∈ LW := List.mem_filter.mpr ⟨List.mem_append_right _ (List.mem_of_getElem? (i := 674) rfl), rfl⟩
set_option maxRecDepth 100000 in
theorem tw_678 : Cond.code yX9_canSpoil cX9_canSpoil 3 (some .boolean) ∈ LW := List.mem_filter.mpr ⟨List.mem_append_right _ (List.mem_of_getElem? (i := 678) rfl), rfl⟩
set_option maxRecDepth 100000 in
theorem tw_684 : Cond.code yX3_blank cX3_blank 4 none ∈ LW := List.mem_filter.mpr ⟨List.mem_append_right _ (List.mem_of_getElem? (i := 684) rfl), rfl⟩
set_option maxRecDepth 100000 in
theorem tw_687 : Cond.code yX3_behind cX3_behind 3 (some .int) ∈ LW := List.mem_filter.mpr ⟨List.mem_append_right _ (List.mem_of_getElem? (i := 687) rfl), rfl⟩
set_option maxRecDepth 100000 in
theorem tw_691 : Cond.code yX9_noise cX9_noise 9 (some .int) ∈ LW := List.mem_filter.mpr ⟨List.mem_append_right _ (List.mem_of_getElem? (i := 691) rfl), rfl⟩
set_option maxRecDepth 100000 in
theorem tw_695 : Cond.code yX9_slip cX9_slip 3 (some .int) ∈ LW := List.mem_filter.mpr ⟨List.mem_append_right _ (List.mem_of_getElem? (i := 695) rfl), rfl⟩
set_option maxRecDepth 100000 in
theorem tw_700 : Cond.code yX3_insertZeros cX3_insertZeros 4 none ∈ LW := List.mem_filter.mpr ⟨List.mem_append_right _ (List.mem_of_getElem? (i := 700) rfl), rfl⟩
set_option maxRecDepth 100000 in
theorem tw_704 : Cond.code yX3_remove cX3_remove 5 none ∈ LW := List.mem_filter.mpr ⟨List.mem_append_right _ (List.mem_of_getElem? (i := 704) rfl), rfl⟩
set_option maxRecDepth 100000 in
theorem tw_708 : Cond.code yX9_play cX9_play 4 (some .int) ∈ LW := List.mem_filter.mpr ⟨List.mem_append_right _ (List.mem_of_getElem? (i := 708) rfl), rfl⟩
set_option maxRecDepth 100000 in
theorem tw_711 : Cond.code yX9_isReach cX9_isReach 1 (some .boolean) ∈ LW := List.mem_filter.mpr ⟨List.mem_append_right _ (List.mem_of_getElem? (i := 711) rfl), rfl⟩
set_option maxRecDepth 100000 in
theorem tw_715 : Cond.code yX5_perform cX5_perform 6 (some .int) ∈ LW := List.mem_filter.mpr ⟨List.mem_append_right _ (List.mem_of_getElem? (i := 715) rfl), rfl⟩
set_option maxRecDepth 100000 in
theorem tw_721 : Cond.code yX5_findFrames cX5_findFrames 3 none ∈ LW := List.mem_filter.mpr ⟨List.mem_append_right _ (List.mem_of_getElem? (i := 721) rfl), rfl⟩
set_option maxRecDepth 100000 in
theorem tw_727 : Cond.code yX5_nextStart cX5_nextStart 4 (some .int) ∈ LW := List.mem_filter.mpr ⟨List.mem_append_right _ (List.mem_of_getElem? (i := 727) rfl), rfl⟩
set_option maxRecDepth 100000 in
theorem tw_733 : Cond.code yX5_readFrame cX5_readFrame 5 none ∈ LW := List.mem_filter.mpr ⟨List.mem_append_right _ (List.mem_of_getElem? (i := 733) rfl), rfl⟩
set_option maxRecDepth 100000 in
theorem tw_738 : Cond.code yX8_byteOf cX8_byteOf 3 (some .int) ∈ LW := List.mem_filter.mpr ⟨List.mem_append_right _ (List.mem_of_getElem? (i := 738) rfl), rfl⟩
set_option maxRecDepth 100000 in
theorem tw_745 : Cond.code yX7_setMarks cX7_setMarks 3 none ∈ LW := List.mem_filter.mpr ⟨List.mem_append_right _ (List.mem_of_getElem? (i := 745) rfl), rfl⟩
set_option maxRecDepth 100000 in
theorem tw_749 : Cond.code yX5_takeInnerWord cX5_takeInnerWord 4 none ∈ LW := List.mem_filter.mpr ⟨List.mem_append_right _ (List.mem_of_getElem? (i := 749) rfl), rfl⟩
set_option maxRecDepth 100000 in
theorem tw_754 : Cond.code yX7_marksOf cX7_marksOf 2 (some .int) ∈ LW := List.mem_filter.mpr ⟨List.mem_append_right _ (List.mem_of_getElem? (i := 754) rfl), rfl⟩
set_option maxRecDepth 100000 in
theorem tw_760 : Cond.code yX5_mendInner cX5_mendInner 4 none ∈ LW := List.mem_filter.mpr ⟨List.mem_append_right _ (List.mem_of_getElem? (i := 760) rfl), rfl⟩
set_option maxRecDepth 100000 in
theorem tw_766 : Cond.code yX0_heal cX0_heal 7 (some .int) ∈ LW := List.mem_filter.mpr ⟨List.mem_append_right _ (List.mem_of_getElem? (i := 766) rfl), rfl⟩
set_option maxRecDepth 100000 in
theorem tw_770 : Cond.code yX0_allPlaces cX0_allPlaces 1 (some .int) ∈ LW := List.mem_filter.mpr ⟨List.mem_append_right _ (List.mem_of_getElem? (i := 770) rfl), rfl⟩
set_option maxRecDepth 100000 in
theorem tw_776 : Cond.code yX0_locate cX0_locate 6 (some .boolean) ∈ LW := List.mem_filter.mpr ⟨List.mem_append_right _ (List.mem_of_getElem? (i := 776) rfl), rfl⟩
set_option maxRecDepth 100000 in
theorem tw_780 : Cond.code yX0_locateOne cX0_locateOne 4 (some .boolean) ∈ LW := List.mem_filter.mpr ⟨List.mem_append_right _ (List.mem_of_getElem? (i := 780) rfl), rfl⟩
set_option maxRecDepth 100000 in
theorem tw_784 : Cond.code yX2_log cX2_log 2 (some .int) ∈ LW := List.mem_filter.mpr ⟨List.mem_append_right _ (List.mem_of_getElem? (i := 784) rfl), rfl⟩
set_option maxRecDepth 100000 in
theorem tw_788 : Cond.code yX0_locateTwo cX0_locateTwo 6 (some .boolean) ∈ LW := List.mem_filter.mpr ⟨List.mem_append_right _ (List.mem_of_getElem? (i := 788) rfl), rfl⟩
set_option maxRecDepth 100000 in
theorem tw_792 : Cond.code yX5_takeOuterWord cX5_takeOuterWord 5 (some .int) ∈ LW := List.mem_filter.mpr ⟨List.mem_append_right _ (List.mem_of_getElem? (i := 792) rfl), rfl⟩
set_option maxRecDepth 100000 in
theorem tw_796 : Cond.code yX7_isMarked cX7_isMarked 3 (some .boolean) ∈ LW := List.mem_filter.mpr ⟨List.mem_append_right _ (List.mem_of_getElem? (i := 796) rfl), rfl⟩
set_option maxRecDepth 100000 in
theorem tw_801 : Cond.code yX5_mendOuter cX5_mendOuter 7 none ∈ LW := List.mem_filter.mpr ⟨List.mem_append_right _ (List.mem_of_getElem? (i := 801) rfl), rfl⟩
set_option maxRecDepth 100000 in
theorem tw_807 : Cond.code yX5_countUnsure cX5_countUnsure 2 none ∈ LW := List.mem_filter.mpr ⟨List.mem_append_right _ (List.mem_of_getElem? (i := 807) rfl), rfl⟩
set_option maxRecDepth 100000 in
theorem tw_811 : Cond.code yX5_sureOf cX5_sureOf 3 (some .boolean) ∈ LW := List.mem_filter.mpr ⟨List.mem_append_right _ (List.mem_of_getElem? (i := 811) rfl), rfl⟩
set_option maxRecDepth 100000 in
theorem tw_814 : Cond.code yX5_rowOf cX5_rowOf 1 (some .int) ∈ LW := List.mem_filter.mpr ⟨List.mem_append_right _ (List.mem_of_getElem? (i := 814) rfl), rfl⟩
set_option maxRecDepth 100000 in
theorem tw_820 : Cond.code yX5_hide cX5_hide 4 none ∈ LW := List.mem_filter.mpr ⟨List.mem_append_right _ (List.mem_of_getElem? (i := 820) rfl), rfl⟩
set_option maxRecDepth 100000 in
theorem tw_824 : Cond.code yX5_sampleSure cX5_sampleSure 4 (some .boolean) ∈ LW := List.mem_filter.mpr ⟨List.mem_append_right _ (List.mem_of_getElem? (i := 824) rfl), rfl⟩
set_option maxRecDepth 100000 in
theorem tw_827 : Cond.code yX5_highByteOf cX5_highByteOf 2 (some .int) ∈ LW := List.mem_filter.mpr ⟨List.mem_append_right _ (List.mem_of_getElem? (i := 827) rfl), rfl⟩
set_option maxRecDepth 100000 in
theorem tw_831 : Cond.code yX5_isSample cX5_isSample 2 (some .boolean) ∈ LW := List.mem_filter.mpr ⟨List.mem_append_right _ (List.mem_of_getElem? (i := 831) rfl), rfl⟩
set_option maxRecDepth 100000 in
theorem tw_835 : Cond.code yX5_sampleOf cX5_sampleOf 4 (some .int) ∈ LW := List.mem_filter.mpr ⟨List.mem_append_right _ (List.mem_of_getElem? (i := 835) rfl), rfl⟩
set_option maxRecDepth 100000 in
theorem tw_839 : Cond.code yX5_byteOf cX5_byteOf 3 (some .int) ∈ LW := List.mem_filter.mpr ⟨List.mem_append_right _ (List.mem_of_getElem? (i := 839) rfl), rfl⟩
set_option maxRecDepth 100000 in
theorem tw_843 : Cond.code yX5_countSections cX5_countSections 3 (some .int) ∈ LW := List.mem_filter.mpr ⟨List.mem_append_right _ (List.mem_of_getElem? (i := 843) rfl), rfl⟩
set_option maxRecDepth 100000 in
theorem tw_847 : Cond.code yX5_beginsSection cX5_beginsSection 2 (some .boolean) ∈ LW := List.mem_filter.mpr ⟨List.mem_append_right _ (List.mem_of_getElem? (i := 847) rfl), rfl⟩
set_option maxRecDepth 100000 in
theorem tw_851 : Cond.code yX5_wasFound cX5_wasFound 2 (some .boolean) ∈ LW := List.mem_filter.mpr ⟨List.mem_append_right _ (List.mem_of_getElem? (i := 851) rfl), rfl⟩
set_option maxRecDepth 100000 in
theorem tw_855 : Cond.code yX9_played cX9_played 2 (some .int) ∈ LW := List.mem_filter.mpr ⟨List.mem_append_right _ (List.mem_of_getElem? (i := 855) rfl), rfl⟩
set_option maxRecDepth 100000 in
theorem tw_859 : Cond.code yX5_hasByte cX5_hasByte 2 (some .boolean) ∈ LW := List.mem_filter.mpr ⟨List.mem_append_right _ (List.mem_of_getElem? (i := 859) rfl), rfl⟩
set_option maxRecDepth 100000 in
theorem tw_864 : Cond.code yX9_isSure cX9_isSure 2 (some .boolean) ∈ LW := List.mem_filter.mpr ⟨List.mem_append_right _ (List.mem_of_getElem? (i := 864) rfl), rfl⟩
set_option maxRecDepth 100000 in
theorem tw_869 : Cond.code yX9_heard cX9_heard 3 (some .int) ∈ LW := List.mem_filter.mpr ⟨List.mem_append_right _ (List.mem_of_getElem? (i := 869) rfl), rfl⟩
set_option maxRecDepth 100000 in
theorem tw_873 : Cond.code yX5_sampleHeard cX5_sampleHeard 3 (some .int) ∈ LW := List.mem_filter.mpr ⟨List.mem_append_right _ (List.mem_of_getElem? (i := 873) rfl), rfl⟩
set_option maxRecDepth 100000 in
theorem tw_878 : Cond.code yX9_inner cX9_inner 2 (some .int) ∈ LW := List.mem_filter.mpr ⟨List.mem_append_right _ (List.mem_of_getElem? (i := 878) rfl), rfl⟩
set_option maxRecDepth 100000 in
theorem tw_882 : Cond.code yX5_innerFate cX5_innerFate 2 (some .int) ∈ LW := List.mem_filter.mpr ⟨List.mem_append_right _ (List.mem_of_getElem? (i := 882) rfl), rfl⟩
set_option maxRecDepth 100000 in
theorem tw_886 : Cond.code yX9_outer cX9_outer 2 (some .int) ∈ LW := List.mem_filter.mpr ⟨List.mem_append_right _ (List.mem_of_getElem? (i := 886) rfl), rfl⟩
set_option maxRecDepth 100000 in
theorem tw_890 : Cond.code yX5_outerFate cX5_outerFate 2 (some .int) ∈ LW := List.mem_filter.mpr ⟨List.mem_append_right _ (List.mem_of_getElem? (i := 890) rfl), rfl⟩
set_option maxRecDepth 100000 in
theorem tw_894 : Cond.code yX9_told cX9_told 2 (some .int) ∈ LW := List.mem_filter.mpr ⟨List.mem_append_right _ (List.mem_of_getElem? (i := 894) rfl), rfl⟩
set_option maxRecDepth 100000 in
theorem tw_898 : Cond.code yX5_tally cX5_tally 2 (some .int) ∈ LW := List.mem_filter.mpr ⟨List.mem_append_right _ (List.mem_of_getElem? (i := 898) rfl), rfl⟩
set_option maxRecDepth 100000 in
theorem tw_902 : Cond.code yX9_q cX9_q 3 (some .int) ∈ LW := List.mem_filter.mpr ⟨List.mem_append_right _ (List.mem_of_getElem? (i := 902) rfl), rfl⟩
set_option maxRecDepth 100000 in
theorem tw_906 : Cond.code yX5_sectionTells cX5_sectionTells 6 (some .int) ∈ LW := List.mem_filter.mpr ⟨List.mem_append_right _ (List.mem_of_getElem? (i := 906) rfl), rfl⟩
set_option maxRecDepth 100000 in
theorem tw_910 : Cond.code yX5_sectionStart cX5_sectionStart 4 (some .int) ∈ LW := List.mem_filter.mpr ⟨List.mem_append_right _ (List.mem_of_getElem? (i := 910) rfl), rfl⟩
set_option maxRecDepth 100000 in
theorem tw_914 : Cond.code yX5_readLabel cX5_readLabel 5 (some .int) ∈ LW := List.mem_filter.mpr ⟨List.mem_append_right _ (List.mem_of_getElem? (i := 914) rfl), rfl⟩
set_option maxRecDepth 100000 in
theorem tw_918 : Cond.code yX4_setBit cX4_setBit 4 none ∈ LW := List.mem_filter.mpr ⟨List.mem_append_right _ (List.mem_of_getElem? (i := 918) rfl), rfl⟩
set_option maxRecDepth 100000 in
theorem tw_922 : Cond.code yX4_isSound cX4_isSound 3 (some .boolean) ∈ LW := List.mem_filter.mpr ⟨List.mem_append_right _ (List.mem_of_getElem? (i := 922) rfl), rfl⟩
set_option maxRecDepth 100000 in
theorem tw_926 : Cond.code yX4_areFigures cX4_areFigures 2 (some .boolean) ∈ LW := List.mem_filter.mpr ⟨List.mem_append_right _ (List.mem_of_getElem? (i := 926) rfl), rfl⟩
set_option maxRecDepth 100000 in
theorem tw_930 : Cond.code yX4_isTime cX4_isTime 2 (some .boolean) ∈ LW := List.mem_filter.mpr ⟨List.mem_append_right _ (List.mem_of_getElem? (i := 930) rfl), rfl⟩
set_option maxRecDepth 100000 in
theorem tw_934 : Cond.code yX4_number cX4_number 2 (some .int) ∈ LW := List.mem_filter.mpr ⟨List.mem_append_right _ (List.mem_of_getElem? (i := 934) rfl), rfl⟩
set_option maxRecDepth 100000 in
theorem tw_938 : Cond.code yX4_control cX4_control 1 (some .int) ∈ LW := List.mem_filter.mpr ⟨List.mem_append_right _ (List.mem_of_getElem? (i := 938) rfl), rfl⟩
set_option maxRecDepth 100000 in
theorem tw_942 : Cond.code yX4_track cX4_track 1 (some .int) ∈ LW := List.mem_filter.mpr ⟨List.mem_append_right _ (List.mem_of_getElem? (i := 942) rfl), rfl⟩
set_option maxRecDepth 100000 in
theorem tw_946 : Cond.code yX4_index cX4_index 1 (some .int) ∈ LW := List.mem_filter.mpr ⟨List.mem_append_right _ (List.mem_of_getElem? (i := 946) rfl), rfl⟩
set_option maxRecDepth 100000 in
theorem tw_950 : Cond.code yX4_time cX4_time 1 (some .int) ∈ LW := List.mem_filter.mpr ⟨List.mem_append_right _ (List.mem_of_getElem? (i := 950) rfl), rfl⟩
set_option maxRecDepth 100000 in
theorem tw_954 : Cond.code yX4_timeOf cX4_timeOf 2 (some .int) ∈ LW := List.mem_filter.mpr ⟨List.mem_append_right _ (List.mem_of_getElem? (i := 954) rfl), rfl⟩
set_option maxRecDepth 100000 in
theorem tw_958 : Cond.code yX4_place cX4_place 1 (some .int) ∈ LW := List.mem_filter.mpr ⟨List.mem_append_right _ (List.mem_of_getElem? (i := 958) rfl), rfl⟩
set_option maxRecDepth 100000 in
theorem tw_962 : Cond.code yX9_burst cX9_burst 2 (some .int) ∈ LW := List.mem_filter.mpr ⟨List.mem_append_right _ (List.mem_of_getElem? (i := 962) rfl), rfl⟩
set_option maxRecDepth 100000 in
theorem tw_966 : Cond.code yX9_spell cX9_spell 2 (some .int) ∈ LW := List.mem_filter.mpr ⟨List.mem_append_right _ (List.mem_of_getElem? (i := 966) rfl), rfl⟩
set_option maxRecDepth 100000 in
theorem tw_971 : Cond.code yX9_read cX9_read 2 (some .int) ∈ LW := List.mem_filter.mpr ⟨List.mem_append_right _ (List.mem_of_getElem? (i := 971) rfl), rfl⟩
set_option maxRecDepth 100000 in
theorem tw_976 : Cond.code yX9_put cX9_put 4 (some .int) ∈ LW := List.mem_filter.mpr ⟨List.mem_append_right _ (List.mem_of_getElem? (i := 976) rfl), rfl⟩
set_option maxRecDepth 100000 in
theorem tw_980 : Cond.code yX9_isBench cX9_isBench 2 (some .boolean) ∈ LW := List.mem_filter.mpr ⟨List.mem_append_right _ (List.mem_of_getElem? (i := 980) rfl), rfl⟩
set_option maxRecDepth 100000 in
theorem tw_984 : Cond.code yX9_mark cX9_mark 4 (some .boolean) ∈ LW := List.mem_filter.mpr ⟨List.mem_append_right _ (List.mem_of_getElem? (i := 984) rfl), rfl⟩
set_option maxRecDepth 100000 in
theorem tw_988 : Cond.code yX9_at cX9_at 2 (some .int) ∈ LW := List.mem_filter.mpr ⟨List.mem_append_right _ (List.mem_of_getElem? (i := 988) rfl), rfl⟩
set_option maxRecDepth 100000 in
theorem tw_992 : Cond.code yX9_seal cX9_seal 3 none ∈ LW := List.mem_filter.mpr ⟨List.mem_append_right _ (List.mem_of_getElem? (i := 992) rfl), rfl⟩
set_option maxRecDepth 100000 in
theorem tw_996 : Cond.code yX9_codeOf cX9_codeOf 2 (some (.object "CompactDisc$Code")) ∈ LW := List.mem_filter.mpr ⟨List.mem_append_right _ (List.mem_of_getElem? (i := 996) rfl), rfl⟩
set_option maxRecDepth 100000 in
theorem tw_1002 : Cond.code yX9_syndrome cX9_syndrome 3 (some .int) ∈ LW := List.mem_filter.mpr ⟨List.mem_append_right _ (List.mem_of_getElem? (i := 1002) rfl), rfl⟩
set_option maxRecDepth 100000 in
theorem tw_1006 : Cond.code yX0_sumOf cX0_sumOf 4 (some .int) ∈ LW := List.mem_filter.mpr ⟨List.mem_append_right _ (List.mem_of_getElem? (i := 1006) rfl), rfl⟩
set_option maxRecDepth 100000 in
theorem tw_1010 : Cond.code yX9_mend cX9_mend 5 (some .int) ∈ LW := List.mem_filter.mpr ⟨List.mem_append_right _ (List.mem_of_getElem? (i := 1010) rfl), rfl⟩
set_option maxRecDepth 100000 in
theorem tw_1016 : Cond.code yX10_init cX10_init 3 none ∈ LW := List.mem_filter.mpr ⟨List.mem_append_right _ (List.mem_of_getElem? (i := 1016) rfl), rfl⟩
set_option maxRecDepth 100000 in
theorem tw_1174 : Cond.code yX10_feed cX10_feed 5 (some .int) ∈ LW := List.mem_filter.mpr ⟨List.mem_append_right _ (List.mem_of_getElem? (i := 1174) rfl), rfl⟩
set_option maxRecDepth 100000 in
theorem tw_1178 : Cond.code yX10_in cX10_in 6 (some .boolean) ∈ LW := List.mem_filter.mpr ⟨List.mem_append_right _ (List.mem_of_getElem? (i := 1178) rfl), rfl⟩
set_option maxRecDepth 100000 in
theorem tw_1182 : Cond.code yX10_fill cX10_fill 5 (some .int) ∈ LW := List.mem_filter.mpr ⟨List.mem_append_right _ (List.mem_of_getElem? (i := 1182) rfl), rfl⟩
set_option maxRecDepth 100000 in
theorem tw_1189 : Cond.code yX10_wipe cX10_wipe 2 (some .int) ∈ LW := List.mem_filter.mpr ⟨List.mem_append_right _ (List.mem_of_getElem? (i := 1189) rfl), rfl⟩
set_option maxRecDepth 100000 in
theorem tw_1193 : Cond.code yX10_streamAt cX10_streamAt 2 (some .int) ∈ LW := List.mem_filter.mpr ⟨List.mem_append_right _ (List.mem_of_getElem? (i := 1193) rfl), rfl⟩
set_option maxRecDepth 100000 in
theorem tw_1197 : Cond.code yX10_begin cX10_begin 3 (some .boolean) ∈ LW := List.mem_filter.mpr ⟨List.mem_append_right _ (List.mem_of_getElem? (i := 1197) rfl), rfl⟩
set_option maxRecDepth 100000 in
theorem tw_1202 : Cond.code yX10_entry cX10_entry 5 (some .int) ∈ LW := List.mem_filter.mpr ⟨List.mem_append_right _ (List.mem_of_getElem? (i := 1202) rfl), rfl⟩
set_option maxRecDepth 100000 in
theorem tw_1209 : Cond.code yX10_plain cX10_plain 2 (some .int) ∈ LW := List.mem_filter.mpr ⟨List.mem_append_right _ (List.mem_of_getElem? (i := 1209) rfl), rfl⟩
set_option maxRecDepth 100000 in
theorem tw_1213 : Cond.code yX10_press cX10_press 3 (some .int) ∈ LW := List.mem_filter.mpr ⟨List.mem_append_right _ (List.mem_of_getElem? (i := 1213) rfl), rfl⟩
set_option maxRecDepth 100000 in
theorem tw_1217 : Cond.code yX10_makeOuter cX10_makeOuter 3 none ∈ LW := List.mem_filter.mpr ⟨List.mem_append_right _ (List.mem_of_getElem? (i := 1217) rfl), rfl⟩
set_option maxRecDepth 100000 in
theorem tw_1220 : Cond.code yX10_isCheck cX10_isCheck 2 (some .boolean) ∈ LW := List.mem_filter.mpr ⟨List.mem_append_right _ (List.mem_of_getElem? (i := 1220) rfl), rfl⟩
set_option maxRecDepth 100000 in
theorem tw_1223 : Cond.code yX10_byteAt cX10_byteAt 3 (some .int) ∈ LW := List.mem_filter.mpr ⟨List.mem_append_right _ (List.mem_of_getElem? (i := 1223) rfl), rfl⟩
set_option maxRecDepth 100000 in
theorem tw_1227 : Cond.code yX10_streamByte cX10_streamByte 4 (some .int) ∈ LW := List.mem_filter.mpr ⟨List.mem_append_right _ (List.mem_of_getElem? (i := 1227) rfl), rfl⟩
set_option maxRecDepth 100000 in
theorem tw_1231 : Cond.code yX10_check cX10_check 4 none ∈ LW := List.mem_filter.mpr ⟨List.mem_append_right _ (List.mem_of_getElem? (i := 1231) rfl), rfl⟩
set_option maxRecDepth 100000 in
theorem tw_1235 : Cond.code yX10_mended cX10_mended 5 (some .int) ∈ LW := List.mem_filter.mpr ⟨List.mem_append_right _ (List.mem_of_getElem? (i := 1235) rfl), rfl⟩
set_option maxRecDepth 100000 in
theorem tw_1239 : Cond.code yX10_findSyndromes cX10_findSyndromes 5 none ∈ LW := List.mem_filter.mpr ⟨List.mem_append_right _ (List.mem_of_getElem? (i := 1239) rfl), rfl⟩
set_option maxRecDepth 100000 in
theorem tw_1243 : Cond.code yX10_power cX10_power 4 (some .int) ∈ LW := List.mem_filter.mpr ⟨List.mem_append_right _ (List.mem_of_getElem? (i := 1243) rfl), rfl⟩
set_option maxRecDepth 100000 in
theorem tw_1247 : Cond.code yX10_times cX10_times 3 (some .int) ∈ LW := List.mem_filter.mpr ⟨List.mem_append_right _ (List.mem_of_getElem? (i := 1247) rfl), rfl⟩
set_option maxRecDepth 100000 in
theorem tw_1251 : Cond.code yX10_fits cX10_fits 9 (some .boolean) ∈ LW := List.mem_filter.mpr ⟨List.mem_append_right _ (List.mem_of_getElem? (i := 1251) rfl), rfl⟩
set_option maxRecDepth 100000 in
theorem tw_1255 : Cond.code yX10_swapRows cX10_swapRows 5 none ∈ LW := List.mem_filter.mpr ⟨List.mem_append_right _ (List.mem_of_getElem? (i := 1255) rfl), rfl⟩
set_option maxRecDepth 100000 in
theorem tw_1259 : Cond.code yX10_inverse cX10_inverse 2 (some .int) ∈ LW := List.mem_filter.mpr ⟨List.mem_append_right _ (List.mem_of_getElem? (i := 1259) rfl), rfl⟩
set_option maxRecDepth 100000 in
theorem tw_1263 : Cond.code yX10_changed cX10_changed 3 (some .int) ∈ LW := List.mem_filter.mpr ⟨List.mem_append_right _ (List.mem_of_getElem? (i := 1263) rfl), rfl⟩
set_option maxRecDepth 100000 in
theorem tw_1267 : Cond.code yX10_findTwo cX10_findTwo 13 (some .boolean) ∈ LW := List.mem_filter.mpr ⟨List.mem_append_right _ (List.mem_of_getElem? (i := 1267) rfl), rfl⟩
set_option maxRecDepth 100000 in
theorem tw_1271 : Cond.code yX10_makeInner cX10_makeInner 3 none ∈ LW := List.mem_filter.mpr ⟨List.mem_append_right _ (List.mem_of_getElem? (i := 1271) rfl), rfl⟩
set_option maxRecDepth 100000 in
theorem tw_1276 : Cond.code yX10_layBits cX10_layBits 5 none ∈ LW := List.mem_filter.mpr ⟨List.mem_append_right _ (List.mem_of_getElem? (i := 1276) rfl), rfl⟩
set_option maxRecDepth 100000 in
theorem tw_1281 : Cond.code yX10_besideWord cX10_besideWord 3 (some .int) ∈ LW := List.mem_filter.mpr ⟨List.mem_append_right _ (List.mem_of_getElem? (i := 1281) rfl), rfl⟩
set_option maxRecDepth 100000 in
theorem tw_1285 : Cond.code yX10_makeChannel cX10_makeChannel 6 none ∈ LW := List.mem_filter.mpr ⟨List.mem_append_right _ (List.mem_of_getElem? (i := 1285) rfl), rfl⟩
set_option maxRecDepth 100000 in
theorem tw_1289 : Cond.code yX10_entryFor cX10_entryFor 4 (some .int) ∈ LW := List.mem_filter.mpr ⟨List.mem_append_right _ (List.mem_of_getElem? (i := 1289) rfl), rfl⟩
set_option maxRecDepth 100000 in
theorem tw_1293 : Cond.code yX10_trackOf cX10_trackOf 2 (some .int) ∈ LW := List.mem_filter.mpr ⟨List.mem_append_right _ (List.mem_of_getElem? (i := 1293) rfl), rfl⟩
set_option maxRecDepth 100000 in
theorem tw_1297 : Cond.code yX10_figures cX10_figures 4 (some .int) ∈ LW := List.mem_filter.mpr ⟨List.mem_append_right _ (List.mem_of_getElem? (i := 1297) rfl), rfl⟩
set_option maxRecDepth 100000 in
theorem tw_1301 : Cond.code yX10_indexOf cX10_indexOf 2 (some .int) ∈ LW := List.mem_filter.mpr ⟨List.mem_append_right _ (List.mem_of_getElem? (i := 1301) rfl), rfl⟩
set_option maxRecDepth 100000 in
theorem tw_1305 : Cond.code yX10_timeOf cX10_timeOf 3 (some .int) ∈ LW := List.mem_filter.mpr ⟨List.mem_append_right _ (List.mem_of_getElem? (i := 1305) rfl), rfl⟩
set_option maxRecDepth 100000 in
theorem tw_1309 : Cond.code yX10_clock cX10_clock 4 (some .int) ∈ LW := List.mem_filter.mpr ⟨List.mem_append_right _ (List.mem_of_getElem? (i := 1309) rfl), rfl⟩
set_option maxRecDepth 100000 in
theorem tw_1312 : Cond.code yX10_checkStep cX10_checkStep 2 (some .int) ∈ LW := List.mem_filter.mpr ⟨List.mem_append_right _ (List.mem_of_getElem? (i := 1312) rfl), rfl⟩
set_option maxRecDepth 100000 in
theorem tw_1317 : Cond.code yX10_layWord cX10_layWord 4 none ∈ LW := List.mem_filter.mpr ⟨List.mem_append_right _ (List.mem_of_getElem? (i := 1317) rfl), rfl⟩
set_option maxRecDepth 100000 in
theorem tw_1321 : Cond.code yX10_jointFor cX10_jointFor 9 (some .int) ∈ LW := List.mem_filter.mpr ⟨List.mem_append_right _ (List.mem_of_getElem? (i := 1321) rfl), rfl⟩
set_option maxRecDepth 100000 in
theorem tw_1325 : Cond.code yX10_tryJoint cX10_tryJoint 10 none ∈ LW := List.mem_filter.mpr ⟨List.mem_append_right _ (List.mem_of_getElem? (i := 1325) rfl), rfl⟩
set_option maxRecDepth 100000 in
theorem tw_1329 : Cond.code yX10_discByte cX10_discByte 5 (some .int) ∈ LW := List.mem_filter.mpr ⟨List.mem_append_right _ (List.mem_of_getElem? (i := 1329) rfl), rfl⟩
set_option maxRecDepth 100000 in
theorem tw_1332 : Cond.code yX10_isTurned cX10_isTurned 1 (some .boolean) ∈ LW := List.mem_filter.mpr ⟨List.mem_append_right _ (List.mem_of_getElem? (i := 1332) rfl), rfl⟩
set_option maxRecDepth 100000 in
theorem tw_1336 : Cond.code yX10_frames cX10_frames 1 (some .int) ∈ LW := List.mem_filter.mpr ⟨List.mem_append_right _ (List.mem_of_getElem? (i := 1336) rfl), rfl⟩
set_option maxRecDepth 100000 in
theorem tw_1340 : Cond.code yX10_length cX10_length 1 (some .int) ∈ LW := List.mem_filter.mpr ⟨List.mem_append_right _ (List.mem_of_getElem? (i := 1340) rfl), rfl⟩
set_option maxRecDepth 100000 in
theorem tw_1344 : Cond.code yX10_bits cX10_bits 2 (some .int) ∈ LW := List.mem_filter.mpr ⟨List.mem_append_right _ (List.mem_of_getElem? (i := 1344) rfl), rfl⟩
set_option maxRecDepth 100000 in
theorem tw_1348 : Cond.code yX10_taken cX10_taken 5 (some .int) ∈ LW := List.mem_filter.mpr ⟨List.mem_append_right _ (List.mem_of_getElem? (i := 1348) rfl), rfl⟩
set_option maxRecDepth 100000 in
theorem tw_1352 : Cond.code yX10_bit cX10_bit 2 (some .int) ∈ LW := List.mem_filter.mpr ⟨List.mem_append_right _ (List.mem_of_getElem? (i := 1352) rfl), rfl⟩
set_option maxRecDepth 100000 in
theorem tw_1356 : Cond.code yX10_word cX10_word 3 (some .int) ∈ LW := List.mem_filter.mpr ⟨List.mem_append_right _ (List.mem_of_getElem? (i := 1356) rfl), rfl⟩
set_option maxRecDepth 100000 in
theorem tw_1361 : Cond.code yX10_joint cX10_joint 3 (some .int) ∈ LW := List.mem_filter.mpr ⟨List.mem_append_right _ (List.mem_of_getElem? (i := 1361) rfl), rfl⟩
set_option maxRecDepth 100000 in
theorem tw_1366 : Cond.code yX10_balance cX10_balance 5 (some .int) ∈ LW := List.mem_filter.mpr ⟨List.mem_append_right _ (List.mem_of_getElem? (i := 1366) rfl), rfl⟩
set_option maxRecDepth 100000 in
theorem tw_1371 : Cond.code yX10_run cX10_run 7 (some .int) ∈ LW := List.mem_filter.mpr ⟨List.mem_append_right _ (List.mem_of_getElem? (i := 1371) rfl), rfl⟩
set_option maxRecDepth 100000 in
theorem tw_1375 : Cond.code yX10_signs cX10_signs 3 (some .int) ∈ LW := List.mem_filter.mpr ⟨List.mem_append_right _ (List.mem_of_getElem? (i := 1375) rfl), rfl⟩
set_option maxRecDepth 100000 in
theorem tw_1379 : Cond.code yX10_isSign cX10_isSign 3 (some .boolean) ∈ LW := List.mem_filter.mpr ⟨List.mem_append_right _ (List.mem_of_getElem? (i := 1379) rfl), rfl⟩
set_option maxRecDepth 100000 in
theorem tw_1383 : Cond.code yX10_signAt cX10_signAt 4 (some .int) ∈ LW := List.mem_filter.mpr ⟨List.mem_append_right _ (List.mem_of_getElem? (i := 1383) rfl), rfl⟩
set_option maxRecDepth 100000 in
theorem tw_1387 : Cond.code yX10_flip cX10_flip 3 (some .boolean) ∈ LW := List.mem_filter.mpr ⟨List.mem_append_right _ (List.mem_of_getElem? (i := 1387) rfl), rfl⟩
set_option maxRecDepth 100000 in
theorem tw_1391 : Cond.code yX10_scratch cX10_scratch 5 (some .int) ∈ LW := List.mem_filter.mpr ⟨List.mem_append_right _ (List.mem_of_getElem? (i := 1391) rfl), rfl⟩
set_option maxRecDepth 100000 in
theorem tw_1395 : Cond.code yX10_reached cX10_reached 5 (some .int) ∈ LW := List.mem_filter.mpr ⟨List.mem_append_right _ (List.mem_of_getElem? (i := 1395) rfl), rfl⟩
set_option maxRecDepth 100000 in
theorem tw_1402 : Cond.code yX10_noise cX10_noise 8 (some .int) ∈ LW := List.mem_filter.mpr ⟨List.mem_append_right _ (List.mem_of_getElem? (i := 1402) rfl), rfl⟩
set_option maxRecDepth 100000 in
theorem tw_1406 : Cond.code yX10_slip cX10_slip 5 (some .int) ∈ LW := List.mem_filter.mpr ⟨List.mem_append_right _ (List.mem_of_getElem? (i := 1406) rfl), rfl⟩
set_option maxRecDepth 100000 in
theorem tw_1411 : Cond.code yX10_play cX10_play 6 (some .int) ∈ LW := List.mem_filter.mpr ⟨List.mem_append_right _ (List.mem_of_getElem? (i := 1411) rfl), rfl⟩
set_option maxRecDepth 100000 in
theorem tw_1417 : Cond.code yX10_findFrames cX10_findFrames 3 none ∈ LW := List.mem_filter.mpr ⟨List.mem_append_right _ (List.mem_of_getElem? (i := 1417) rfl), rfl⟩
set_option maxRecDepth 100000 in
theorem tw_1421 : Cond.code yX10_nextFrame cX10_nextFrame 4 (some .int) ∈ LW := List.mem_filter.mpr ⟨List.mem_append_right _ (List.mem_of_getElem? (i := 1421) rfl), rfl⟩
set_option maxRecDepth 100000 in
theorem tw_1425 : Cond.code yX10_playInner cX10_playInner 5 none ∈ LW := List.mem_filter.mpr ⟨List.mem_append_right _ (List.mem_of_getElem? (i := 1425) rfl), rfl⟩
set_option maxRecDepth 100000 in
theorem tw_1429 : Cond.code yX10_readInner cX10_readInner 6 none ∈ LW := List.mem_filter.mpr ⟨List.mem_append_right _ (List.mem_of_getElem? (i := 1429) rfl), rfl⟩
set_option maxRecDepth 100000 in
theorem tw_1433 : Cond.code yX10_playOuter cX10_playOuter 6 none ∈ LW := List.mem_filter.mpr ⟨List.mem_append_right _ (List.mem_of_getElem? (i := 1433) rfl), rfl⟩
set_option maxRecDepth 100000 in
theorem tw_1437 : Cond.code yX10_takeFrame cX10_takeFrame 5 none ∈ LW := List.mem_filter.mpr ⟨List.mem_append_right _ (List.mem_of_getElem? (i := 1437) rfl), rfl⟩
set_option maxRecDepth 100000 in
theorem tw_1441 : Cond.code yX10_played cX10_played 2 (some .int) ∈ LW := List.mem_filter.mpr ⟨List.mem_append_right _ (List.mem_of_getElem? (i := 1441) rfl), rfl⟩
set_option maxRecDepth 100000 in
theorem tw_1445 : Cond.code yX10_isThere cX10_isThere 2 (some .boolean) ∈ LW := List.mem_filter.mpr ⟨List.mem_append_right _ (List.mem_of_getElem? (i := 1445) rfl), rfl⟩
set_option maxRecDepth 100000 in
theorem tw_1449 : Cond.code yX10_isSure cX10_isSure 2 (some .boolean) ∈ LW := List.mem_filter.mpr ⟨List.mem_append_right _ (List.mem_of_getElem? (i := 1449) rfl), rfl⟩
set_option maxRecDepth 100000 in
theorem tw_1453 : Cond.code yX10_heard cX10_heard 5 (some .int) ∈ LW := List.mem_filter.mpr ⟨List.mem_append_right _ (List.mem_of_getElem? (i := 1453) rfl), rfl⟩
set_option maxRecDepth 100000 in
theorem tw_1458 : Cond.code yX10_isSampleSure cX10_isSampleSure 4 (some .boolean) ∈ LW := List.mem_filter.mpr ⟨List.mem_append_right _ (List.mem_of_getElem? (i := 1458) rfl), rfl⟩
set_option maxRecDepth 100000 in
theorem tw_1461 : Cond.code yX10_sampleAt cX10_sampleAt 2 (some .int) ∈ LW := List.mem_filter.mpr ⟨List.mem_append_right _ (List.mem_of_getElem? (i := 1461) rfl), rfl⟩
set_option maxRecDepth 100000 in
theorem tw_1465 : Cond.code yX10_sample cX10_sample 4 (some .int) ∈ LW := List.mem_filter.mpr ⟨List.mem_append_right _ (List.mem_of_getElem? (i := 1465) rfl), rfl⟩
set_option maxRecDepth 100000 in
theorem tw_1469 : Cond.code yX10_inner cX10_inner 2 (some .int) ∈ LW := List.mem_filter.mpr ⟨List.mem_append_right _ (List.mem_of_getElem? (i := 1469) rfl), rfl⟩
set_option maxRecDepth 100000 in
theorem tw_1473 : Cond.code yX10_outer cX10_outer 2 (some .int) ∈ LW := List.mem_filter.mpr ⟨List.mem_append_right _ (List.mem_of_getElem? (i := 1473) rfl), rfl⟩
set_option maxRecDepth 100000 in
theorem tw_1477 : Cond.code yX10_told cX10_told 2 (some .int) ∈ LW := List.mem_filter.mpr ⟨List.mem_append_right _ (List.mem_of_getElem? (i := 1477) rfl), rfl⟩
set_option maxRecDepth 100000 in
theorem tw_1481 : Cond.code yX10_hidden cX10_hidden 3 (some .int) ∈ LW := List.mem_filter.mpr ⟨List.mem_append_right _ (List.mem_of_getElem? (i := 1481) rfl), rfl⟩
set_option maxRecDepth 100000 in
theorem tw_1485 : Cond.code yX10_sections cX10_sections 3 (some .int) ∈ LW := List.mem_filter.mpr ⟨List.mem_append_right _ (List.mem_of_getElem? (i := 1485) rfl), rfl⟩
set_option maxRecDepth 100000 in
theorem tw_1489 : Cond.code yX10_beginsSection cX10_beginsSection 2 (some .boolean) ∈ LW := List.mem_filter.mpr ⟨List.mem_append_right _ (List.mem_of_getElem? (i := 1489) rfl), rfl⟩
set_option maxRecDepth 100000 in
theorem tw_1493 : Cond.code yX10_q cX10_q 7 (some .int) ∈ LW := List.mem_filter.mpr ⟨List.mem_append_right _ (List.mem_of_getElem? (i := 1493) rfl), rfl⟩
set_option maxRecDepth 100000 in
theorem tw_1497 : Cond.code yX10_sectionAt cX10_sectionAt 4 (some .int) ∈ LW := List.mem_filter.mpr ⟨List.mem_append_right _ (List.mem_of_getElem? (i := 1497) rfl), rfl⟩
set_option maxRecDepth 100000 in
theorem tw_1502 : Cond.code yX10_isSound cX10_isSound 5 (some .boolean) ∈ LW := List.mem_filter.mpr ⟨List.mem_append_right _ (List.mem_of_getElem? (i := 1502) rfl), rfl⟩
set_option maxRecDepth 100000 in
theorem tw_1506 : Cond.code yX10_channelBits cX10_channelBits 5 (some .int) ∈ LW := List.mem_filter.mpr ⟨List.mem_append_right _ (List.mem_of_getElem? (i := 1506) rfl), rfl⟩
set_option maxRecDepth 100000 in
theorem tw_1510 : Cond.code yX10_isClock cX10_isClock 2 (some .boolean) ∈ LW := List.mem_filter.mpr ⟨List.mem_append_right _ (List.mem_of_getElem? (i := 1510) rfl), rfl⟩
set_option maxRecDepth 100000 in
theorem tw_1514 : Cond.code yX10_twoFigures cX10_twoFigures 2 (some .int) ∈ LW := List.mem_filter.mpr ⟨List.mem_append_right _ (List.mem_of_getElem? (i := 1514) rfl), rfl⟩
set_option maxRecDepth 100000 in
theorem tw_1518 : Cond.code yX10_clockOf cX10_clockOf 2 (some .int) ∈ LW := List.mem_filter.mpr ⟨List.mem_append_right _ (List.mem_of_getElem? (i := 1518) rfl), rfl⟩
set_option maxRecDepth 100000 in
theorem tw_1522 : Cond.code yX10_burst cX10_burst 6 (some .int) ∈ LW := List.mem_filter.mpr ⟨List.mem_append_right _ (List.mem_of_getElem? (i := 1522) rfl), rfl⟩
set_option maxRecDepth 100000 in
theorem tw_1527 : Cond.code yX10_spell cX10_spell 2 (some .int) ∈ LW := List.mem_filter.mpr ⟨List.mem_append_right _ (List.mem_of_getElem? (i := 1527) rfl), rfl⟩
set_option maxRecDepth 100000 in
theorem tw_1532 : Cond.code yX10_read cX10_read 2 (some .int) ∈ LW := List.mem_filter.mpr ⟨List.mem_append_right _ (List.mem_of_getElem? (i := 1532) rfl), rfl⟩
set_option maxRecDepth 100000 in
theorem tw_1537 : Cond.code yX10_put cX10_put 4 (some .int) ∈ LW := List.mem_filter.mpr ⟨List.mem_append_right _ (List.mem_of_getElem? (i := 1537) rfl), rfl⟩
set_option maxRecDepth 100000 in
theorem tw_1542 : Cond.code yX10_mark cX10_mark 4 (some .boolean) ∈ LW := List.mem_filter.mpr ⟨List.mem_append_right _ (List.mem_of_getElem? (i := 1542) rfl), rfl⟩
set_option maxRecDepth 100000 in
theorem tw_1546 : Cond.code yX10_at cX10_at 2 (some .int) ∈ LW := List.mem_filter.mpr ⟨List.mem_append_right _ (List.mem_of_getElem? (i := 1546) rfl), rfl⟩
set_option maxRecDepth 100000 in
theorem tw_1550 : Cond.code yX10_seal cX10_seal 3 none ∈ LW := List.mem_filter.mpr ⟨List.mem_append_right _ (List.mem_of_getElem? (i := 1550) rfl), rfl⟩
set_option maxRecDepth 100000 in
theorem tw_1554 : Cond.code yX10_toBench cX10_toBench 3 none ∈ LW := List.mem_filter.mpr ⟨List.mem_append_right _ (List.mem_of_getElem? (i := 1554) rfl), rfl⟩
set_option maxRecDepth 100000 in
theorem tw_1558 : Cond.code yX10_syndrome cX10_syndrome 4 (some .int) ∈ LW := List.mem_filter.mpr ⟨List.mem_append_right _ (List.mem_of_getElem? (i := 1558) rfl), rfl⟩
set_option maxRecDepth 100000 in
theorem tw_1563 : Cond.code yX10_mend cX10_mend 5 (some .int) ∈ LW := List.mem_filter.mpr ⟨List.mem_append_right _ (List.mem_of_getElem? (i := 1563) rfl), rfl⟩
theorem iX0 : ∀ w ∈ u_ws RX0 TX0 8, w ∈ LW := fun w h => List.mem_filter.mpr ⟨(show ∀ w ∈ u_ws RX0 TX0 8, w ∈ lw_tbl by decide +kernel) w h, (show ∀ w ∈ u_ws RX0 TX0 8, goodWord w = true by decide +kernel) w h⟩
theorem iX1 : ∀ w ∈ u_ws RX1 TX1 6, w ∈ LW := fun w h => List.mem_filter.mpr ⟨(show ∀ w ∈ u_ws RX1 TX1 6, w ∈ lw_tbl by decide +kernel) w h, (show ∀ w ∈ u_ws RX1 TX1 6, goodWord w = true by decide +kernel) w h⟩
theorem iX2 : ∀ w ∈ u_ws RX2 TX2 2, w ∈ LW := fun w h => List.mem_filter.mpr ⟨(show ∀ w ∈ u_ws RX2 TX2 2, w ∈ lw_tbl by decide +kernel) w h, (show ∀ w ∈ u_ws RX2 TX2 2, goodWord w = true by decide +kernel) w h⟩
theorem iX3 : ∀ w ∈ u_ws RX3 TX3 3, w ∈ LW := fun w h => List.mem_filter.mpr ⟨(show ∀ w ∈ u_ws RX3 TX3 3, w ∈ lw_tbl by decide +kernel) w h, (show ∀ w ∈ u_ws RX3 TX3 3, goodWord w = true by decide +kernel) w h⟩
theorem iX4 : ∀ w ∈ u_ws RX4 TX4 1, w ∈ LW := fun w h => List.mem_filter.mpr ⟨(show ∀ w ∈ u_ws RX4 TX4 1, w ∈ lw_tbl by decide +kernel) w h, (show ∀ w ∈ u_ws RX4 TX4 1, goodWord w = true by decide +kernel) w h⟩
theorem iX5 : ∀ w ∈ u_ws RX5 TX5 15, w ∈ LW := fun w h => List.mem_filter.mpr ⟨(show ∀ w ∈ u_ws RX5 TX5 15, w ∈ lw_tbl by decide +kernel) w h, (show ∀ w ∈ u_ws RX5 TX5 15, goodWord w = true by decide +kernel) w h⟩
theorem iX6 : ∀ w ∈ u_ws RX6 TX6 11, w ∈ LW := fun w h => List.mem_filter.mpr ⟨(show ∀ w ∈ u_ws RX6 TX6 11, w ∈ lw_tbl by decide +kernel) w h, (show ∀ w ∈ u_ws RX6 TX6 11, goodWord w = true by decide +kernel) w h⟩
theorem iX7 : ∀ w ∈ u_ws RX7 TX7 2, w ∈ LW := fun w h => List.mem_filter.mpr ⟨(show ∀ w ∈ u_ws RX7 TX7 2, w ∈ lw_tbl by decide +kernel) w h, (show ∀ w ∈ u_ws RX7 TX7 2, goodWord w = true by decide +kernel) w h⟩
theorem iX8 : ∀ w ∈ u_ws RX8 TX8 2, w ∈ LW := fun w h => List.mem_filter.mpr ⟨(show ∀ w ∈ u_ws RX8 TX8 2, w ∈ lw_tbl by decide +kernel) w h, (show ∀ w ∈ u_ws RX8 TX8 2, goodWord w = true by decide +kernel) w h⟩
theorem iX9 : ∀ w ∈ u_ws RX9 TX9 11, w ∈ LW := fun w h => List.mem_filter.mpr ⟨(show ∀ w ∈ u_ws RX9 TX9 11, w ∈ lw_tbl by decide +kernel) w h, (show ∀ w ∈ u_ws RX9 TX9 11, goodWord w = true by decide +kernel) w h⟩
theorem iX10 : ∀ w ∈ u_ws RX10 TX10 50, w ∈ LW := fun w h => List.mem_filter.mpr ⟨(show ∀ w ∈ u_ws RX10 TX10 50, w ∈ lw_tbl by decide +kernel) w h, (show ∀ w ∈ u_ws RX10 TX10 50, goodWord w = true by decide +kernel) w h⟩
