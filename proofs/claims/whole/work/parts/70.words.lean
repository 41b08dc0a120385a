/-! WORDS, decode rows, cells of the constructors, by program (wip/whole/gen4.py) -/
theorem oc_w0 : (.instanceMethod objectInit : Cond) ∈ lw_tbl ∧ oh_okw (.instanceMethod objectInit) = true := oh_wd_i (ps := 121) (by decide +kernel)
theorem oc_w1 : (.code objectInit ⟨#[0xb1]⟩ 1 none : Cond) ∈ lw_tbl ∧ oh_okw (.code objectInit ⟨#[0xb1]⟩ 1 none) = true := oh_wd_i (ps := 122) (by decide +kernel)
theorem oc_w2 : (.methodLink RX3 1 objectInit : Cond) ∈ lw_tbl ∧ oh_okw (.methodLink RX3 1 objectInit) = true := oh_wd_i (ps := 195) (by decide +kernel)
theorem oc_w3 : (.methodLink RX3 7 Lib.Math.max.name : Cond) ∈ lw_tbl ∧ oh_okw (.methodLink RX3 7 Lib.Math.max.name) = true := oh_wd_i (ps := 196) (by decide +kernel)
theorem oc_w4 : (.static Lib.Math.max.name : Cond) ∈ lw_tbl ∧ oh_okw (.static Lib.Math.max.name) = true := oh_wd_i (ps := 197) (by decide +kernel)
theorem oc_w5 : (.initialized "java/lang/Math" : Cond) ∈ lw_tbl ∧ oh_okw (.initialized "java/lang/Math") = true := oh_wd_i (ps := 102) (by decide +kernel)
theorem oc_w6 : (.code Lib.Math.max.name Lib.Math.max.code 2 (some .int) : Cond) ∈ lw_tbl ∧ oh_okw (.code Lib.Math.max.name Lib.Math.max.code 2 (some .int)) = true := oh_wd_i (ps := 198) (by decide +kernel)
theorem oc_w7 : (.fieldLink RX3 13 "OtherHat$Row" "items" "[I" : Cond) ∈ lw_tbl ∧ oh_okw (.fieldLink RX3 13 "OtherHat$Row" "items" "[I") = true := oh_wd_i (ps := 199) (by decide +kernel)
theorem oc_w8 : (.methodLink RX4 3 objectInit : Cond) ∈ lw_tbl ∧ oh_okw (.methodLink RX4 3 objectInit) = true := oh_wd_i (ps := 134) (by decide +kernel)
theorem oc_w9 : (.fieldLink RX4 9 "OtherHat$Scene" "kind" "[I" : Cond) ∈ lw_tbl ∧ oh_okw (.fieldLink RX4 9 "OtherHat$Scene" "kind" "[I") = true := oh_wd_i (ps := 138) (by decide +kernel)
theorem oc_w10 : (.fieldLink RX4 15 "OtherHat$Scene" "number" "[I" : Cond) ∈ lw_tbl ∧ oh_okw (.fieldLink RX4 15 "OtherHat$Scene" "number" "[I") = true := oh_wd_i (ps := 141) (by decide +kernel)
theorem oc_w11 : (.fieldLink RX4 18 "OtherHat$Scene" "sees" "[I" : Cond) ∈ lw_tbl ∧ oh_okw (.fieldLink RX4 18 "OtherHat$Scene" "sees" "[I") = true := oh_wd_i (ps := 144) (by decide +kernel)
theorem oc_w12 : (.fieldLink RX4 21 "OtherHat$Scene" "paid" "[I" : Cond) ∈ lw_tbl ∧ oh_okw (.fieldLink RX4 21 "OtherHat$Scene" "paid" "[I") = true := oh_wd_i (ps := 146) (by decide +kernel)
theorem oc_w13 : (.fieldLink RX4 24 "OtherHat$Scene" "fine" "I" : Cond) ∈ lw_tbl ∧ oh_okw (.fieldLink RX4 24 "OtherHat$Scene" "fine" "I") = true := oh_wd_i (ps := 150) (by decide +kernel)
theorem oc_w14 : (.methodLink RX5 3 objectInit : Cond) ∈ lw_tbl ∧ oh_okw (.methodLink RX5 3 objectInit) = true := oh_wd_i (ps := 302) (by decide +kernel)
theorem oc_w15 : (.fieldLink RX5 9 "OtherHat$Sheet" "items" "[I" : Cond) ∈ lw_tbl ∧ oh_okw (.fieldLink RX5 9 "OtherHat$Sheet" "items" "[I") = true := oh_wd_i (ps := 307) (by decide +kernel)
theorem oc_w16 : (.methodLink RX1 3 objectInit : Cond) ∈ lw_tbl ∧ oh_okw (.methodLink RX1 3 objectInit) = true := oh_wd_i (ps := 189) (by decide +kernel)
theorem oc_w17 : (.classLink RX1 9 RX3 : Cond) ∈ lw_tbl ∧ oh_okw (.classLink RX1 9 RX3) = true := oh_wd_i (ps := 190) (by decide +kernel)
theorem oc_w18 : (.instantiable RX3 2 : Cond) ∈ lw_tbl ∧ oh_okw (.instantiable RX3 2) = true := oh_wd_i (ps := 191) (by decide +kernel)
theorem oc_w19 : (.initialized RX3 : Cond) ∈ lw_tbl ∧ oh_okw (.initialized RX3) = true := oh_wd_i (ps := 101) (by decide +kernel)
theorem oc_w20 : (.code yX3_init cX3_init 2 none : Cond) ∈ lw_tbl ∧ oh_okw (.code yX3_init cX3_init 2 none) = true := oh_wd_i (ps := 194) (by decide +kernel)
theorem oc_w21 : (.methodLinkNest RX1 11 yX3_init "OtherHat" : Cond) ∈ lw_tbl ∧ oh_okw (.methodLinkNest RX1 11 yX3_init "OtherHat") = true := oh_wd_i (ps := 192) (by decide +kernel)
theorem oc_w22 : (.instanceMethod yX3_init : Cond) ∈ lw_tbl ∧ oh_okw (.instanceMethod yX3_init) = true := oh_wd_i (ps := 193) (by decide +kernel)
theorem oc_w23 : (.fieldLink RX1 14 "OtherHat$Law" "code" "LOtherHat$Row;" : Cond) ∈ lw_tbl ∧ oh_okw (.fieldLink RX1 14 "OtherHat$Law" "code" "LOtherHat$Row;") = true := oh_wd_i (ps := 210) (by decide +kernel)
theorem oc_w24 : (.fieldLink RX1 20 "OtherHat$Law" "stack" "[I" : Cond) ∈ lw_tbl ∧ oh_okw (.fieldLink RX1 20 "OtherHat$Law" "stack" "[I") = true := oh_wd_i (ps := 213) (by decide +kernel)
theorem oc_w25 : (.fieldLink RX1 24 "OtherHat$Law" "use" "I" : Cond) ∈ lw_tbl ∧ oh_okw (.fieldLink RX1 24 "OtherHat$Law" "use" "I") = true := oh_wd_i (ps := 209) (by decide +kernel)
theorem oc_w26 : (.methodLink RX2 3 objectInit : Cond) ∈ lw_tbl ∧ oh_okw (.methodLink RX2 3 objectInit) = true := oh_wd_i (ps := 255) (by decide +kernel)
theorem oc_w27 : (.classLink RX2 9 RX3 : Cond) ∈ lw_tbl ∧ oh_okw (.classLink RX2 9 RX3) = true := oh_wd_i (ps := 256) (by decide +kernel)
theorem oc_w28 : (.methodLinkNest RX2 11 yX3_init "OtherHat" : Cond) ∈ lw_tbl ∧ oh_okw (.methodLinkNest RX2 11 yX3_init "OtherHat") = true := oh_wd_i (ps := 257) (by decide +kernel)
theorem oc_w29 : (.fieldLink RX2 14 "OtherHat$Reader" "code" "LOtherHat$Row;" : Cond) ∈ lw_tbl ∧ oh_okw (.fieldLink RX2 14 "OtherHat$Reader" "code" "LOtherHat$Row;") = true := oh_wd_i (ps := 259) (by decide +kernel)
theorem oc_w30 : (.fieldLink RX2 20 "OtherHat$Reader" "bytes" "LOtherHat$Row;" : Cond) ∈ lw_tbl ∧ oh_okw (.fieldLink RX2 20 "OtherHat$Reader" "bytes" "LOtherHat$Row;") = true := oh_wd_i (ps := 261) (by decide +kernel)
theorem oc_w31 : (.fieldLink RX2 25 "OtherHat$Reader" "names" "Ljava/lang/String;" : Cond) ∈ lw_tbl ∧ oh_okw (.fieldLink RX2 25 "OtherHat$Reader" "names" "Ljava/lang/String;") = true := oh_wd_i (ps := 262) (by decide +kernel)
theorem oc_w32 : (.methodLink RX6 3 objectInit : Cond) ∈ lw_tbl ∧ oh_okw (.methodLink RX6 3 objectInit) = true := oh_wd_i (ps := 279) (by decide +kernel)
theorem oc_w33 : (.classLink RX6 9 RX3 : Cond) ∈ lw_tbl ∧ oh_okw (.classLink RX6 9 RX3) = true := oh_wd_i (ps := 280) (by decide +kernel)
theorem oc_w34 : (.methodLinkNest RX6 11 yX3_init "OtherHat" : Cond) ∈ lw_tbl ∧ oh_okw (.methodLinkNest RX6 11 yX3_init "OtherHat") = true := oh_wd_i (ps := 281) (by decide +kernel)
theorem oc_w35 : (.fieldLink RX6 14 "OtherHat$Voices" "bodies" "LOtherHat$Row;" : Cond) ∈ lw_tbl ∧ oh_okw (.fieldLink RX6 14 "OtherHat$Voices" "bodies" "LOtherHat$Row;") = true := oh_wd_i (ps := 282) (by decide +kernel)
theorem oc_w36 : (.methodLink RX0 3 objectInit : Cond) ∈ lw_tbl ∧ oh_okw (.methodLink RX0 3 objectInit) = true := oh_wd_i (ps := 128) (by decide +kernel)
theorem oc_w37 : (.classLink RX0 9 RX4 : Cond) ∈ lw_tbl ∧ oh_okw (.classLink RX0 9 RX4) = true := oh_wd_i (ps := 129) (by decide +kernel)
theorem oc_w38 : (.instantiable RX4 11 : Cond) ∈ lw_tbl ∧ oh_okw (.instantiable RX4 11) = true := oh_wd_i (ps := 130) (by decide +kernel)
theorem oc_w39 : (.initialized RX4 : Cond) ∈ lw_tbl ∧ oh_okw (.initialized RX4) = true := oh_wd_i (ps := 99) (by decide +kernel)
theorem oc_w40 : (.code yX4_init cX4_init 1 none : Cond) ∈ lw_tbl ∧ oh_okw (.code yX4_init cX4_init 1 none) = true := oh_wd_i (ps := 133) (by decide +kernel)
theorem oc_w41 : (.methodLinkNest RX0 11 yX4_init "OtherHat" : Cond) ∈ lw_tbl ∧ oh_okw (.methodLinkNest RX0 11 yX4_init "OtherHat") = true := oh_wd_i (ps := 131) (by decide +kernel)
theorem oc_w42 : (.instanceMethod yX4_init : Cond) ∈ lw_tbl ∧ oh_okw (.instanceMethod yX4_init) = true := oh_wd_i (ps := 132) (by decide +kernel)
theorem oc_w43 : (.fieldLink RX0 12 "OtherHat$Book" "scene" "LOtherHat$Scene;" : Cond) ∈ lw_tbl ∧ oh_okw (.fieldLink RX0 12 "OtherHat$Book" "scene" "LOtherHat$Scene;") = true := oh_wd_i (ps := 223) (by decide +kernel)
theorem oc_w44 : (.classLink RX0 18 RX1 : Cond) ∈ lw_tbl ∧ oh_okw (.classLink RX0 18 RX1) = true := oh_wd_i (ps := 184) (by decide +kernel)
theorem oc_w45 : (.instantiable RX1 3 : Cond) ∈ lw_tbl ∧ oh_okw (.instantiable RX1 3) = true := oh_wd_i (ps := 185) (by decide +kernel)
theorem oc_w46 : (.initialized RX1 : Cond) ∈ lw_tbl ∧ oh_okw (.initialized RX1) = true := oh_wd_i (ps := 100) (by decide +kernel)
theorem oc_w47 : (.code yX1_init cX1_init 2 none : Cond) ∈ lw_tbl ∧ oh_okw (.code yX1_init cX1_init 2 none) = true := oh_wd_i (ps := 188) (by decide +kernel)
theorem oc_w48 : (.methodLinkNest RX0 20 yX1_init "OtherHat" : Cond) ∈ lw_tbl ∧ oh_okw (.methodLinkNest RX0 20 yX1_init "OtherHat") = true := oh_wd_i (ps := 186) (by decide +kernel)
theorem oc_w49 : (.instanceMethod yX1_init : Cond) ∈ lw_tbl ∧ oh_okw (.instanceMethod yX1_init) = true := oh_wd_i (ps := 187) (by decide +kernel)
theorem oc_w50 : (.fieldLink RX0 23 "OtherHat$Book" "rule" "LOtherHat$Law;" : Cond) ∈ lw_tbl ∧ oh_okw (.fieldLink RX0 23 "OtherHat$Book" "rule" "LOtherHat$Law;") = true := oh_wd_i (ps := 225) (by decide +kernel)
theorem oc_w51 : (.fieldLink RX0 27 "OtherHat$Book" "pays" "LOtherHat$Law;" : Cond) ∈ lw_tbl ∧ oh_okw (.fieldLink RX0 27 "OtherHat$Book" "pays" "LOtherHat$Law;") = true := oh_wd_i (ps := 227) (by decide +kernel)
theorem oc_w52 : (.classLink RX0 30 RX3 : Cond) ∈ lw_tbl ∧ oh_okw (.classLink RX0 30 RX3) = true := oh_wd_i (ps := 221) (by decide +kernel)
theorem oc_w53 : (.methodLinkNest RX0 32 yX3_init "OtherHat" : Cond) ∈ lw_tbl ∧ oh_okw (.methodLinkNest RX0 32 yX3_init "OtherHat") = true := oh_wd_i (ps := 222) (by decide +kernel)
theorem oc_w54 : (.fieldLink RX0 33 "OtherHat$Book" "tape" "LOtherHat$Row;" : Cond) ∈ lw_tbl ∧ oh_okw (.fieldLink RX0 33 "OtherHat$Book" "tape" "LOtherHat$Row;") = true := oh_wd_i (ps := 229) (by decide +kernel)
theorem oc_w55 : (.fieldLink RX0 37 "OtherHat$Book" "waiting" "LOtherHat$Row;" : Cond) ∈ lw_tbl ∧ oh_okw (.fieldLink RX0 37 "OtherHat$Book" "waiting" "LOtherHat$Row;") = true := oh_wd_i (ps := 231) (by decide +kernel)
theorem oc_w56 : (.fieldLink RX0 40 "OtherHat$Book" "z" "I" : Cond) ∈ lw_tbl ∧ oh_okw (.fieldLink RX0 40 "OtherHat$Book" "z" "I") = true := oh_wd_i (ps := 233) (by decide +kernel)
theorem oc_w57 : (.methodLink RX7 3 objectInit : Cond) ∈ lw_tbl ∧ oh_okw (.methodLink RX7 3 objectInit) = true := oh_wd_i (ps := 120) (by decide +kernel)
theorem oc_w58 : (.classLink RX7 9 RX0 : Cond) ∈ lw_tbl ∧ oh_okw (.classLink RX7 9 RX0) = true := oh_wd_i (ps := 123) (by decide +kernel)
theorem oc_w59 : (.instantiable RX0 6 : Cond) ∈ lw_tbl ∧ oh_okw (.instantiable RX0 6) = true := oh_wd_i (ps := 124) (by decide +kernel)
theorem oc_w60 : (.initialized RX0 : Cond) ∈ lw_tbl ∧ oh_okw (.initialized RX0) = true := oh_wd_i (ps := 98) (by decide +kernel)
theorem oc_w61 : (.code yX0_init cX0_init 1 none : Cond) ∈ lw_tbl ∧ oh_okw (.code yX0_init cX0_init 1 none) = true := oh_wd_i (ps := 127) (by decide +kernel)
theorem oc_w62 : (.methodLinkNest RX7 11 yX0_init "OtherHat" : Cond) ∈ lw_tbl ∧ oh_okw (.methodLinkNest RX7 11 yX0_init "OtherHat") = true := oh_wd_i (ps := 125) (by decide +kernel)
theorem oc_w63 : (.instanceMethod yX0_init : Cond) ∈ lw_tbl ∧ oh_okw (.instanceMethod yX0_init) = true := oh_wd_i (ps := 126) (by decide +kernel)
theorem oc_w64 : (.fieldLink RX7 12 "OtherHat" "now" "LOtherHat$Book;" : Cond) ∈ lw_tbl ∧ oh_okw (.fieldLink RX7 12 "OtherHat" "now" "LOtherHat$Book;") = true := oh_wd_i (ps := 316) (by decide +kernel)
theorem oc_w65 : (.fieldLink RX7 16 "OtherHat" "kept" "LOtherHat$Book;" : Cond) ∈ lw_tbl ∧ oh_okw (.fieldLink RX7 16 "OtherHat" "kept" "LOtherHat$Book;") = true := oh_wd_i (ps := 317) (by decide +kernel)
theorem oc_w66 : (.classLink RX7 19 RX4 : Cond) ∈ lw_tbl ∧ oh_okw (.classLink RX7 19 RX4) = true := oh_wd_i (ps := 248) (by decide +kernel)
theorem oc_w67 : (.methodLinkNest RX7 21 yX4_init "OtherHat" : Cond) ∈ lw_tbl ∧ oh_okw (.methodLinkNest RX7 21 yX4_init "OtherHat") = true := oh_wd_i (ps := 249) (by decide +kernel)
theorem oc_w68 : (.fieldLink RX7 22 "OtherHat" "ahead" "LOtherHat$Scene;" : Cond) ∈ lw_tbl ∧ oh_okw (.fieldLink RX7 22 "OtherHat" "ahead" "LOtherHat$Scene;") = true := oh_wd_i (ps := 318) (by decide +kernel)
theorem oc_w69 : (.classLink RX7 26 RX2 : Cond) ∈ lw_tbl ∧ oh_okw (.classLink RX7 26 RX2) = true := oh_wd_i (ps := 250) (by decide +kernel)
theorem oc_w70 : (.instantiable RX2 4 : Cond) ∈ lw_tbl ∧ oh_okw (.instantiable RX2 4) = true := oh_wd_i (ps := 251) (by decide +kernel)
theorem oc_w71 : (.initialized RX2 : Cond) ∈ lw_tbl ∧ oh_okw (.initialized RX2) = true := oh_wd_i (ps := 103) (by decide +kernel)
theorem oc_w72 : (.code yX2_init cX2_init 1 none : Cond) ∈ lw_tbl ∧ oh_okw (.code yX2_init cX2_init 1 none) = true := oh_wd_i (ps := 254) (by decide +kernel)
theorem oc_w73 : (.methodLinkNest RX7 28 yX2_init "OtherHat" : Cond) ∈ lw_tbl ∧ oh_okw (.methodLinkNest RX7 28 yX2_init "OtherHat") = true := oh_wd_i (ps := 252) (by decide +kernel)
theorem oc_w74 : (.instanceMethod yX2_init : Cond) ∈ lw_tbl ∧ oh_okw (.instanceMethod yX2_init) = true := oh_wd_i (ps := 253) (by decide +kernel)
theorem oc_w75 : (.fieldLink RX7 29 "OtherHat" "reader" "LOtherHat$Reader;" : Cond) ∈ lw_tbl ∧ oh_okw (.fieldLink RX7 29 "OtherHat" "reader" "LOtherHat$Reader;") = true := oh_wd_i (ps := 319) (by decide +kernel)
theorem oc_w76 : (.classLink RX7 33 RX6 : Cond) ∈ lw_tbl ∧ oh_okw (.classLink RX7 33 RX6) = true := oh_wd_i (ps := 274) (by decide +kernel)
theorem oc_w77 : (.instantiable RX6 4 : Cond) ∈ lw_tbl ∧ oh_okw (.instantiable RX6 4) = true := oh_wd_i (ps := 275) (by decide +kernel)
theorem oc_w78 : (.initialized RX6 : Cond) ∈ lw_tbl ∧ oh_okw (.initialized RX6) = true := oh_wd_i (ps := 104) (by decide +kernel)
theorem oc_w79 : (.code yX6_init cX6_init 1 none : Cond) ∈ lw_tbl ∧ oh_okw (.code yX6_init cX6_init 1 none) = true := oh_wd_i (ps := 278) (by decide +kernel)
theorem oc_w80 : (.methodLinkNest RX7 35 yX6_init "OtherHat" : Cond) ∈ lw_tbl ∧ oh_okw (.methodLinkNest RX7 35 yX6_init "OtherHat") = true := oh_wd_i (ps := 276) (by decide +kernel)
theorem oc_w81 : (.instanceMethod yX6_init : Cond) ∈ lw_tbl ∧ oh_okw (.instanceMethod yX6_init) = true := oh_wd_i (ps := 277) (by decide +kernel)
theorem oc_w82 : (.fieldLink RX7 36 "OtherHat" "voices" "LOtherHat$Voices;" : Cond) ∈ lw_tbl ∧ oh_okw (.fieldLink RX7 36 "OtherHat" "voices" "LOtherHat$Voices;") = true := oh_wd_i (ps := 320) (by decide +kernel)
theorem oc_w83 : (.classLink RX7 40 RX5 : Cond) ∈ lw_tbl ∧ oh_okw (.classLink RX7 40 RX5) = true := oh_wd_i (ps := 296) (by decide +kernel)
theorem oc_w84 : (.instantiable RX5 3 : Cond) ∈ lw_tbl ∧ oh_okw (.instantiable RX5 3) = true := oh_wd_i (ps := 298) (by decide +kernel)
theorem oc_w85 : (.initialized RX5 : Cond) ∈ lw_tbl ∧ oh_okw (.initialized RX5) = true := oh_wd_i (ps := 105) (by decide +kernel)
theorem oc_w86 : (.code yX5_init cX5_init 1 none : Cond) ∈ lw_tbl ∧ oh_okw (.code yX5_init cX5_init 1 none) = true := oh_wd_i (ps := 301) (by decide +kernel)
theorem oc_w87 : (.methodLinkNest RX7 42 yX5_init "OtherHat" : Cond) ∈ lw_tbl ∧ oh_okw (.methodLinkNest RX7 42 yX5_init "OtherHat") = true := oh_wd_i (ps := 299) (by decide +kernel)
theorem oc_w88 : (.instanceMethod yX5_init : Cond) ∈ lw_tbl ∧ oh_okw (.instanceMethod yX5_init) = true := oh_wd_i (ps := 300) (by decide +kernel)
theorem oc_w89 : (.fieldLink RX7 43 "OtherHat" "sheets" "[LOtherHat$Sheet;" : Cond) ∈ lw_tbl ∧ oh_okw (.fieldLink RX7 43 "OtherHat" "sheets" "[LOtherHat$Sheet;") = true := oh_wd_i (ps := 321) (by decide +kernel)
theorem oc_w90 : (.fieldLink RX7 47 "OtherHat" "errors" "[I" : Cond) ∈ lw_tbl ∧ oh_okw (.fieldLink RX7 47 "OtherHat" "errors" "[I") = true := oh_wd_i (ps := 322) (by decide +kernel)
theorem oc_w91 : (.methodLink RX8 1 objectInit : Cond) ∈ lw_tbl ∧ oh_okw (.methodLink RX8 1 objectInit) = true := oh_wd_i (ps := 899) (by decide +kernel)
theorem oc_w92 : (.fieldLink RX8 7 "OtherHatModel" "d" "[I" : Cond) ∈ lw_tbl ∧ oh_okw (.fieldLink RX8 7 "OtherHatModel" "d" "[I") = true := oh_wd_i (ps := 900) (by decide +kernel)
theorem oc_w93 : (.fieldLink RX8 13 "OtherHatModel" "e" "[I" : Cond) ∈ lw_tbl ∧ oh_okw (.fieldLink RX8 13 "OtherHatModel" "e" "[I") = true := oh_wd_i (ps := 901) (by decide +kernel)
theorem oc_w94 : (.fieldLink RX8 16 "OtherHatModel" "kept" "[I" : Cond) ∈ lw_tbl ∧ oh_okw (.fieldLink RX8 16 "OtherHatModel" "kept" "[I") = true := oh_wd_i (ps := 902) (by decide +kernel)
theorem oc_w95 : (.fieldLink RX8 19 "OtherHatModel" "found" "[I" : Cond) ∈ lw_tbl ∧ oh_okw (.fieldLink RX8 19 "OtherHatModel" "found" "[I") = true := oh_wd_i (ps := 907) (by decide +kernel)
theorem oc_w96 : (.fieldLink RX8 22 "OtherHatModel" "names" "[I" : Cond) ∈ lw_tbl ∧ oh_okw (.fieldLink RX8 22 "OtherHatModel" "names" "[I") = true := oh_wd_i (ps := 914) (by decide +kernel)
theorem oc_w97 : (.fieldLink RX8 25 "OtherHatModel" "blackBy" "[I" : Cond) ∈ lw_tbl ∧ oh_okw (.fieldLink RX8 25 "OtherHatModel" "blackBy" "[I") = true := oh_wd_i (ps := 915) (by decide +kernel)
theorem oc_w98 : (.fieldLink RX8 28 "OtherHatModel" "whiteBy" "[I" : Cond) ∈ lw_tbl ∧ oh_okw (.fieldLink RX8 28 "OtherHatModel" "whiteBy" "[I") = true := oh_wd_i (ps := 916) (by decide +kernel)
theorem oc_w99 : (.fieldLink RX8 31 "OtherHatModel" "blackIn" "[I" : Cond) ∈ lw_tbl ∧ oh_okw (.fieldLink RX8 31 "OtherHatModel" "blackIn" "[I") = true := oh_wd_i (ps := 917) (by decide +kernel)
theorem oc_w100 : (.fieldLink RX8 34 "OtherHatModel" "whiteIn" "[I" : Cond) ∈ lw_tbl ∧ oh_okw (.fieldLink RX8 34 "OtherHatModel" "whiteIn" "[I") = true := oh_wd_i (ps := 918) (by decide +kernel)
theorem oc_w101 : (.fieldLink RX8 37 "OtherHatModel" "traced" "[I" : Cond) ∈ lw_tbl ∧ oh_okw (.fieldLink RX8 37 "OtherHatModel" "traced" "[I") = true := oh_wd_i (ps := 919) (by decide +kernel)
theorem oc_w102 : (.fieldLink RX8 40 "OtherHatModel" "bitsOf" "[I" : Cond) ∈ lw_tbl ∧ oh_okw (.fieldLink RX8 40 "OtherHatModel" "bitsOf" "[I") = true := oh_wd_i (ps := 922) (by decide +kernel)
theorem oc_w103 : (.fieldLink RX8 43 "OtherHatModel" "sizeOf" "[I" : Cond) ∈ lw_tbl ∧ oh_okw (.fieldLink RX8 43 "OtherHatModel" "sizeOf" "[I") = true := oh_wd_i (ps := 923) (by decide +kernel)
theorem oc_w104 : (.fieldLink RX8 46 "OtherHatModel" "number" "[I" : Cond) ∈ lw_tbl ∧ oh_okw (.fieldLink RX8 46 "OtherHatModel" "number" "[I") = true := oh_wd_i (ps := 924) (by decide +kernel)
theorem oc_w105 : (.fieldLink RX8 49 "OtherHatModel" "lifted" "[I" : Cond) ∈ lw_tbl ∧ oh_okw (.fieldLink RX8 49 "OtherHatModel" "lifted" "[I") = true := oh_wd_i (ps := 925) (by decide +kernel)
theorem dX0_init_0 : decode cX0_init 0 = .ok (.aload_n 0, 1) := by decide +kernel
theorem dX0_init_1 : decode cX0_init 1 = .ok (.invokespecial 3, 3) := by decide +kernel
theorem dX0_init_4 : decode cX0_init 4 = .ok (.aload_n 0, 1) := by decide +kernel
theorem dX0_init_5 : decode cX0_init 5 = .ok (.new 9, 3) := by decide +kernel
theorem dX0_init_8 : decode cX0_init 8 = .ok (.dup, 1) := by decide +kernel
theorem dX0_init_9 : decode cX0_init 9 = .ok (.invokespecial 11, 3) := by decide +kernel
theorem dX0_init_12 : decode cX0_init 12 = .ok (.putfield 12, 3) := by decide +kernel
theorem dX0_init_15 : decode cX0_init 15 = .ok (.aload_n 0, 1) := by decide +kernel
theorem dX0_init_16 : decode cX0_init 16 = .ok (.new 18, 3) := by decide +kernel
theorem dX0_init_19 : decode cX0_init 19 = .ok (.dup, 1) := by decide +kernel
theorem dX0_init_20 : decode cX0_init 20 = .ok (.iconst 0, 1) := by decide +kernel
theorem dX0_init_21 : decode cX0_init 21 = .ok (.invokespecial 20, 3) := by decide +kernel
theorem dX0_init_24 : decode cX0_init 24 = .ok (.putfield 23, 3) := by decide +kernel
theorem dX0_init_27 : decode cX0_init 27 = .ok (.aload_n 0, 1) := by decide +kernel
theorem dX0_init_28 : decode cX0_init 28 = .ok (.new 18, 3) := by decide +kernel
theorem dX0_init_31 : decode cX0_init 31 = .ok (.dup, 1) := by decide +kernel
theorem dX0_init_32 : decode cX0_init 32 = .ok (.iconst 1, 1) := by decide +kernel
theorem dX0_init_33 : decode cX0_init 33 = .ok (.invokespecial 20, 3) := by decide +kernel
theorem dX0_init_36 : decode cX0_init 36 = .ok (.putfield 27, 3) := by decide +kernel
theorem dX0_init_39 : decode cX0_init 39 = .ok (.aload_n 0, 1) := by decide +kernel
theorem dX0_init_40 : decode cX0_init 40 = .ok (.new 30, 3) := by decide +kernel
theorem dX0_init_43 : decode cX0_init 43 = .ok (.dup, 1) := by decide +kernel
theorem dX0_init_44 : decode cX0_init 44 = .ok (.bipush 50, 2) := by decide +kernel
theorem dX0_init_46 : decode cX0_init 46 = .ok (.invokespecial 32, 3) := by decide +kernel
theorem dX0_init_49 : decode cX0_init 49 = .ok (.putfield 33, 3) := by decide +kernel
theorem dX0_init_52 : decode cX0_init 52 = .ok (.aload_n 0, 1) := by decide +kernel
theorem dX0_init_53 : decode cX0_init 53 = .ok (.new 30, 3) := by decide +kernel
theorem dX0_init_56 : decode cX0_init 56 = .ok (.dup, 1) := by decide +kernel
theorem dX0_init_57 : decode cX0_init 57 = .ok (.bipush 20, 2) := by decide +kernel
theorem dX0_init_59 : decode cX0_init 59 = .ok (.invokespecial 32, 3) := by decide +kernel
theorem dX0_init_62 : decode cX0_init 62 = .ok (.putfield 37, 3) := by decide +kernel
theorem dX0_init_65 : decode cX0_init 65 = .ok (.aload_n 0, 1) := by decide +kernel
theorem dX0_init_66 : decode cX0_init 66 = .ok (.iconst 1, 1) := by decide +kernel
theorem dX0_init_67 : decode cX0_init 67 = .ok (.putfield 40, 3) := by decide +kernel
theorem dX0_init_70 : decode cX0_init 70 = .ok (.return_, 1) := by decide +kernel
theorem dX1_init_0 : decode cX1_init 0 = .ok (.aload_n 0, 1) := by decide +kernel
theorem dX1_init_1 : decode cX1_init 1 = .ok (.invokespecial 3, 3) := by decide +kernel
theorem dX1_init_4 : decode cX1_init 4 = .ok (.aload_n 0, 1) := by decide +kernel
theorem dX1_init_5 : decode cX1_init 5 = .ok (.new 9, 3) := by decide +kernel
theorem dX1_init_8 : decode cX1_init 8 = .ok (.dup, 1) := by decide +kernel
theorem dX1_init_9 : decode cX1_init 9 = .ok (.bipush 50, 2) := by decide +kernel
theorem dX1_init_11 : decode cX1_init 11 = .ok (.invokespecial 11, 3) := by decide +kernel
theorem dX1_init_14 : decode cX1_init 14 = .ok (.putfield 14, 3) := by decide +kernel
theorem dX1_init_17 : decode cX1_init 17 = .ok (.aload_n 0, 1) := by decide +kernel
theorem dX1_init_18 : decode cX1_init 18 = .ok (.bipush 50, 2) := by decide +kernel
theorem dX1_init_20 : decode cX1_init 20 = .ok (.newarray .int, 2) := by decide +kernel
theorem dX1_init_22 : decode cX1_init 22 = .ok (.putfield 20, 3) := by decide +kernel
theorem dX1_init_25 : decode cX1_init 25 = .ok (.aload_n 0, 1) := by decide +kernel
theorem dX1_init_26 : decode cX1_init 26 = .ok (.iload_n 1, 1) := by decide +kernel
theorem dX1_init_27 : decode cX1_init 27 = .ok (.putfield 24, 3) := by decide +kernel
theorem dX1_init_30 : decode cX1_init 30 = .ok (.return_, 1) := by decide +kernel
theorem dX2_init_0 : decode cX2_init 0 = .ok (.aload_n 0, 1) := by decide +kernel
theorem dX2_init_1 : decode cX2_init 1 = .ok (.invokespecial 3, 3) := by decide +kernel
theorem dX2_init_4 : decode cX2_init 4 = .ok (.aload_n 0, 1) := by decide +kernel
theorem dX2_init_5 : decode cX2_init 5 = .ok (.new 9, 3) := by decide +kernel
theorem dX2_init_8 : decode cX2_init 8 = .ok (.dup, 1) := by decide +kernel
theorem dX2_init_9 : decode cX2_init 9 = .ok (.bipush 50, 2) := by decide +kernel
theorem dX2_init_11 : decode cX2_init 11 = .ok (.invokespecial 11, 3) := by decide +kernel
theorem dX2_init_14 : decode cX2_init 14 = .ok (.putfield 14, 3) := by decide +kernel
theorem dX2_init_17 : decode cX2_init 17 = .ok (.aload_n 0, 1) := by decide +kernel
theorem dX2_init_18 : decode cX2_init 18 = .ok (.new 9, 3) := by decide +kernel
theorem dX2_init_21 : decode cX2_init 21 = .ok (.dup, 1) := by decide +kernel
theorem dX2_init_22 : decode cX2_init 22 = .ok (.bipush 50, 2) := by decide +kernel
theorem dX2_init_24 : decode cX2_init 24 = .ok (.invokespecial 11, 3) := by decide +kernel
theorem dX2_init_27 : decode cX2_init 27 = .ok (.putfield 20, 3) := by decide +kernel
theorem dX2_init_30 : decode cX2_init 30 = .ok (.aload_n 0, 1) := by decide +kernel
theorem dX2_init_31 : decode cX2_init 31 = .ok (.ldc 23, 2) := by decide +kernel
theorem dX2_init_33 : decode cX2_init 33 = .ok (.putfield 25, 3) := by decide +kernel
theorem dX2_init_36 : decode cX2_init 36 = .ok (.return_, 1) := by decide +kernel
theorem dX3_init_0 : decode cX3_init 0 = .ok (.aload_n 0, 1) := by decide +kernel
theorem dX3_init_1 : decode cX3_init 1 = .ok (.invokespecial 1, 3) := by decide +kernel
theorem dX3_init_4 : decode cX3_init 4 = .ok (.aload_n 0, 1) := by decide +kernel
theorem dX3_init_5 : decode cX3_init 5 = .ok (.iconst 0, 1) := by decide +kernel
theorem dX3_init_6 : decode cX3_init 6 = .ok (.iload_n 1, 1) := by decide +kernel
theorem dX3_init_7 : decode cX3_init 7 = .ok (.invokestatic 7, 3) := by decide +kernel
theorem dX3_init_10 : decode cX3_init 10 = .ok (.newarray .int, 2) := by decide +kernel
theorem dX3_init_12 : decode cX3_init 12 = .ok (.putfield 13, 3) := by decide +kernel
theorem dX3_init_15 : decode cX3_init 15 = .ok (.return_, 1) := by decide +kernel
theorem dX4_init_0 : decode cX4_init 0 = .ok (.aload_n 0, 1) := by decide +kernel
theorem dX4_init_1 : decode cX4_init 1 = .ok (.invokespecial 3, 3) := by decide +kernel
theorem dX4_init_4 : decode cX4_init 4 = .ok (.aload_n 0, 1) := by decide +kernel
theorem dX4_init_5 : decode cX4_init 5 = .ok (.bipush 6, 2) := by decide +kernel
theorem dX4_init_7 : decode cX4_init 7 = .ok (.newarray .int, 2) := by decide +kernel
theorem dX4_init_9 : decode cX4_init 9 = .ok (.putfield 9, 3) := by decide +kernel
theorem dX4_init_12 : decode cX4_init 12 = .ok (.aload_n 0, 1) := by decide +kernel
theorem dX4_init_13 : decode cX4_init 13 = .ok (.bipush 6, 2) := by decide +kernel
theorem dX4_init_15 : decode cX4_init 15 = .ok (.newarray .int, 2) := by decide +kernel
theorem dX4_init_17 : decode cX4_init 17 = .ok (.putfield 15, 3) := by decide +kernel
theorem dX4_init_20 : decode cX4_init 20 = .ok (.aload_n 0, 1) := by decide +kernel
theorem dX4_init_21 : decode cX4_init 21 = .ok (.bipush 6, 2) := by decide +kernel
theorem dX4_init_23 : decode cX4_init 23 = .ok (.newarray .int, 2) := by decide +kernel
theorem dX4_init_25 : decode cX4_init 25 = .ok (.putfield 18, 3) := by decide +kernel
theorem dX4_init_28 : decode cX4_init 28 = .ok (.aload_n 0, 1) := by decide +kernel
theorem dX4_init_29 : decode cX4_init 29 = .ok (.bipush 6, 2) := by decide +kernel
theorem dX4_init_31 : decode cX4_init 31 = .ok (.newarray .int, 2) := by decide +kernel
theorem dX4_init_33 : decode cX4_init 33 = .ok (.putfield 21, 3) := by decide +kernel
theorem dX4_init_36 : decode cX4_init 36 = .ok (.aload_n 0, 1) := by decide +kernel
theorem dX4_init_37 : decode cX4_init 37 = .ok (.iconst 3, 1) := by decide +kernel
theorem dX4_init_38 : decode cX4_init 38 = .ok (.putfield 24, 3) := by decide +kernel
theorem dX4_init_41 : decode cX4_init 41 = .ok (.return_, 1) := by decide +kernel
theorem dX5_init_0 : decode cX5_init 0 = .ok (.aload_n 0, 1) := by decide +kernel
theorem dX5_init_1 : decode cX5_init 1 = .ok (.invokespecial 3, 3) := by decide +kernel
theorem dX5_init_4 : decode cX5_init 4 = .ok (.aload_n 0, 1) := by decide +kernel
theorem dX5_init_5 : decode cX5_init 5 = .ok (.bipush 40, 2) := by decide +kernel
theorem dX5_init_7 : decode cX5_init 7 = .ok (.newarray .int, 2) := by decide +kernel
theorem dX5_init_9 : decode cX5_init 9 = .ok (.putfield 9, 3) := by decide +kernel
theorem dX5_init_12 : decode cX5_init 12 = .ok (.return_, 1) := by decide +kernel
theorem dX6_init_0 : decode cX6_init 0 = .ok (.aload_n 0, 1) := by decide +kernel
theorem dX6_init_1 : decode cX6_init 1 = .ok (.invokespecial 3, 3) := by decide +kernel
theorem dX6_init_4 : decode cX6_init 4 = .ok (.aload_n 0, 1) := by decide +kernel
theorem dX6_init_5 : decode cX6_init 5 = .ok (.new 9, 3) := by decide +kernel
theorem dX6_init_8 : decode cX6_init 8 = .ok (.dup, 1) := by decide +kernel
theorem dX6_init_9 : decode cX6_init 9 = .ok (.bipush 40, 2) := by decide +kernel
theorem dX6_init_11 : decode cX6_init 11 = .ok (.invokespecial 11, 3) := by decide +kernel
theorem dX6_init_14 : decode cX6_init 14 = .ok (.putfield 14, 3) := by decide +kernel
theorem dX6_init_17 : decode cX6_init 17 = .ok (.return_, 1) := by decide +kernel
theorem dX7_init_0 : decode cX7_init 0 = .ok (.aload_n 0, 1) := by decide +kernel
theorem dX7_init_1 : decode cX7_init 1 = .ok (.invokespecial 3, 3) := by decide +kernel
theorem dX7_init_4 : decode cX7_init 4 = .ok (.aload_n 0, 1) := by decide +kernel
theorem dX7_init_5 : decode cX7_init 5 = .ok (.new 9, 3) := by decide +kernel
theorem dX7_init_8 : decode cX7_init 8 = .ok (.dup, 1) := by decide +kernel
theorem dX7_init_9 : decode cX7_init 9 = .ok (.invokespecial 11, 3) := by decide +kernel
theorem dX7_init_12 : decode cX7_init 12 = .ok (.putfield 12, 3) := by decide +kernel
theorem dX7_init_15 : decode cX7_init 15 = .ok (.aload_n 0, 1) := by decide +kernel
theorem dX7_init_16 : decode cX7_init 16 = .ok (.new 9, 3) := by decide +kernel
theorem dX7_init_19 : decode cX7_init 19 = .ok (.dup, 1) := by decide +kernel
theorem dX7_init_20 : decode cX7_init 20 = .ok (.invokespecial 11, 3) := by decide +kernel
theorem dX7_init_23 : decode cX7_init 23 = .ok (.putfield 16, 3) := by decide +kernel
theorem dX7_init_26 : decode cX7_init 26 = .ok (.aload_n 0, 1) := by decide +kernel
theorem dX7_init_27 : decode cX7_init 27 = .ok (.new 19, 3) := by decide +kernel
theorem dX7_init_30 : decode cX7_init 30 = .ok (.dup, 1) := by decide +kernel
theorem dX7_init_31 : decode cX7_init 31 = .ok (.invokespecial 21, 3) := by decide +kernel
theorem dX7_init_34 : decode cX7_init 34 = .ok (.putfield 22, 3) := by decide +kernel
theorem dX7_init_37 : decode cX7_init 37 = .ok (.aload_n 0, 1) := by decide +kernel
theorem dX7_init_38 : decode cX7_init 38 = .ok (.new 26, 3) := by decide +kernel
theorem dX7_init_41 : decode cX7_init 41 = .ok (.dup, 1) := by decide +kernel
theorem dX7_init_42 : decode cX7_init 42 = .ok (.invokespecial 28, 3) := by decide +kernel
theorem dX7_init_45 : decode cX7_init 45 = .ok (.putfield 29, 3) := by decide +kernel
theorem dX7_init_48 : decode cX7_init 48 = .ok (.aload_n 0, 1) := by decide +kernel
theorem dX7_init_49 : decode cX7_init 49 = .ok (.new 33, 3) := by decide +kernel
theorem dX7_init_52 : decode cX7_init 52 = .ok (.dup, 1) := by decide +kernel
theorem dX7_init_53 : decode cX7_init 53 = .ok (.invokespecial 35, 3) := by decide +kernel
theorem dX7_init_56 : decode cX7_init 56 = .ok (.putfield 36, 3) := by decide +kernel
theorem dX7_init_59 : decode cX7_init 59 = .ok (.aload_n 0, 1) := by decide +kernel
theorem dX7_init_60 : decode cX7_init 60 = .ok (.iconst 4, 1) := by decide +kernel
theorem dX7_init_61 : decode cX7_init 61 = .ok (.anewarray 40, 3) := by decide +kernel
theorem dX7_init_64 : decode cX7_init 64 = .ok (.dup, 1) := by decide +kernel
theorem dX7_init_65 : decode cX7_init 65 = .ok (.iconst 0, 1) := by decide +kernel
theorem dX7_init_66 : decode cX7_init 66 = .ok (.new 40, 3) := by decide +kernel
theorem dX7_init_69 : decode cX7_init 69 = .ok (.dup, 1) := by decide +kernel
theorem dX7_init_70 : decode cX7_init 70 = .ok (.invokespecial 42, 3) := by decide +kernel
theorem dX7_init_73 : decode cX7_init 73 = .ok (.aastore, 1) := by decide +kernel
theorem dX7_init_74 : decode cX7_init 74 = .ok (.dup, 1) := by decide +kernel
theorem dX7_init_75 : decode cX7_init 75 = .ok (.iconst 1, 1) := by decide +kernel
theorem dX7_init_76 : decode cX7_init 76 = .ok (.new 40, 3) := by decide +kernel
theorem dX7_init_79 : decode cX7_init 79 = .ok (.dup, 1) := by decide +kernel
theorem dX7_init_80 : decode cX7_init 80 = .ok (.invokespecial 42, 3) := by decide +kernel
theorem dX7_init_83 : decode cX7_init 83 = .ok (.aastore, 1) := by decide +kernel
theorem dX7_init_84 : decode cX7_init 84 = .ok (.dup, 1) := by decide +kernel
theorem dX7_init_85 : decode cX7_init 85 = .ok (.iconst 2, 1) := by decide +kernel
theorem dX7_init_86 : decode cX7_init 86 = .ok (.new 40, 3) := by decide +kernel
theorem dX7_init_89 : decode cX7_init 89 = .ok (.dup, 1) := by decide +kernel
theorem dX7_init_90 : decode cX7_init 90 = .ok (.invokespecial 42, 3) := by decide +kernel
theorem dX7_init_93 : decode cX7_init 93 = .ok (.aastore, 1) := by decide +kernel
theorem dX7_init_94 : decode cX7_init 94 = .ok (.dup, 1) := by decide +kernel
theorem dX7_init_95 : decode cX7_init 95 = .ok (.iconst 3, 1) := by decide +kernel
theorem dX7_init_96 : decode cX7_init 96 = .ok (.new 40, 3) := by decide +kernel
theorem dX7_init_99 : decode cX7_init 99 = .ok (.dup, 1) := by decide +kernel
theorem dX7_init_100 : decode cX7_init 100 = .ok (.invokespecial 42, 3) := by decide +kernel
theorem dX7_init_103 : decode cX7_init 103 = .ok (.aastore, 1) := by decide +kernel
theorem dX7_init_104 : decode cX7_init 104 = .ok (.putfield 43, 3) := by decide +kernel
theorem dX7_init_107 : decode cX7_init 107 = .ok (.aload_n 0, 1) := by decide +kernel
theorem dX7_init_108 : decode cX7_init 108 = .ok (.bipush 6, 2) := by decide +kernel
theorem dX7_init_110 : decode cX7_init 110 = .ok (.newarray .int, 2) := by decide +kernel
theorem dX7_init_112 : decode cX7_init 112 = .ok (.putfield 47, 3) := by decide +kernel
theorem dX7_init_115 : decode cX7_init 115 = .ok (.return_, 1) := by decide +kernel
theorem dX8_init_0 : decode cX8_init 0 = .ok (.aload_n 0, 1) := by decide +kernel
theorem dX8_init_1 : decode cX8_init 1 = .ok (.invokespecial 1, 3) := by decide +kernel
theorem dX8_init_4 : decode cX8_init 4 = .ok (.aload_n 0, 1) := by decide +kernel
theorem dX8_init_5 : decode cX8_init 5 = .ok (.sipush 210, 3) := by decide +kernel
theorem dX8_init_8 : decode cX8_init 8 = .ok (.newarray .int, 2) := by decide +kernel
theorem dX8_init_10 : decode cX8_init 10 = .ok (.putfield 7, 3) := by decide +kernel
theorem dX8_init_13 : decode cX8_init 13 = .ok (.aload_n 0, 1) := by decide +kernel
theorem dX8_init_14 : decode cX8_init 14 = .ok (.sipush 210, 3) := by decide +kernel
theorem dX8_init_17 : decode cX8_init 17 = .ok (.newarray .int, 2) := by decide +kernel
theorem dX8_init_19 : decode cX8_init 19 = .ok (.putfield 13, 3) := by decide +kernel
theorem dX8_init_22 : decode cX8_init 22 = .ok (.aload_n 0, 1) := by decide +kernel
theorem dX8_init_23 : decode cX8_init 23 = .ok (.sipush 210, 3) := by decide +kernel
theorem dX8_init_26 : decode cX8_init 26 = .ok (.newarray .int, 2) := by decide +kernel
theorem dX8_init_28 : decode cX8_init 28 = .ok (.putfield 16, 3) := by decide +kernel
theorem dX8_init_31 : decode cX8_init 31 = .ok (.aload_n 0, 1) := by decide +kernel
theorem dX8_init_32 : decode cX8_init 32 = .ok (.bipush 6, 2) := by decide +kernel
theorem dX8_init_34 : decode cX8_init 34 = .ok (.newarray .int, 2) := by decide +kernel
theorem dX8_init_36 : decode cX8_init 36 = .ok (.putfield 19, 3) := by decide +kernel
theorem dX8_init_39 : decode cX8_init 39 = .ok (.aload_n 0, 1) := by decide +kernel
theorem dX8_init_40 : decode cX8_init 40 = .ok (.iconst 4, 1) := by decide +kernel
theorem dX8_init_41 : decode cX8_init 41 = .ok (.newarray .int, 2) := by decide +kernel
theorem dX8_init_43 : decode cX8_init 43 = .ok (.putfield 22, 3) := by decide +kernel
theorem dX8_init_46 : decode cX8_init 46 = .ok (.aload_n 0, 1) := by decide +kernel
theorem dX8_init_47 : decode cX8_init 47 = .ok (.sipush 384, 3) := by decide +kernel
theorem dX8_init_50 : decode cX8_init 50 = .ok (.newarray .int, 2) := by decide +kernel
theorem dX8_init_52 : decode cX8_init 52 = .ok (.putfield 25, 3) := by decide +kernel
theorem dX8_init_55 : decode cX8_init 55 = .ok (.aload_n 0, 1) := by decide +kernel
theorem dX8_init_56 : decode cX8_init 56 = .ok (.sipush 384, 3) := by decide +kernel
theorem dX8_init_59 : decode cX8_init 59 = .ok (.newarray .int, 2) := by decide +kernel
theorem dX8_init_61 : decode cX8_init 61 = .ok (.putfield 28, 3) := by decide +kernel
theorem dX8_init_64 : decode cX8_init 64 = .ok (.aload_n 0, 1) := by decide +kernel
theorem dX8_init_65 : decode cX8_init 65 = .ok (.bipush 6, 2) := by decide +kernel
theorem dX8_init_67 : decode cX8_init 67 = .ok (.newarray .int, 2) := by decide +kernel
theorem dX8_init_69 : decode cX8_init 69 = .ok (.putfield 31, 3) := by decide +kernel
theorem dX8_init_72 : decode cX8_init 72 = .ok (.aload_n 0, 1) := by decide +kernel
theorem dX8_init_73 : decode cX8_init 73 = .ok (.bipush 6, 2) := by decide +kernel
theorem dX8_init_75 : decode cX8_init 75 = .ok (.newarray .int, 2) := by decide +kernel
theorem dX8_init_77 : decode cX8_init 77 = .ok (.putfield 34, 3) := by decide +kernel
theorem dX8_init_80 : decode cX8_init 80 = .ok (.aload_n 0, 1) := by decide +kernel
theorem dX8_init_81 : decode cX8_init 81 = .ok (.bipush 40, 2) := by decide +kernel
theorem dX8_init_83 : decode cX8_init 83 = .ok (.newarray .int, 2) := by decide +kernel
theorem dX8_init_85 : decode cX8_init 85 = .ok (.putfield 37, 3) := by decide +kernel
theorem dX8_init_88 : decode cX8_init 88 = .ok (.aload_n 0, 1) := by decide +kernel
theorem dX8_init_89 : decode cX8_init 89 = .ok (.iconst 4, 1) := by decide +kernel
theorem dX8_init_90 : decode cX8_init 90 = .ok (.newarray .int, 2) := by decide +kernel
theorem dX8_init_92 : decode cX8_init 92 = .ok (.putfield 40, 3) := by decide +kernel
theorem dX8_init_95 : decode cX8_init 95 = .ok (.aload_n 0, 1) := by decide +kernel
theorem dX8_init_96 : decode cX8_init 96 = .ok (.iconst 4, 1) := by decide +kernel
theorem dX8_init_97 : decode cX8_init 97 = .ok (.newarray .int, 2) := by decide +kernel
theorem dX8_init_99 : decode cX8_init 99 = .ok (.putfield 43, 3) := by decide +kernel
theorem dX8_init_102 : decode cX8_init 102 = .ok (.aload_n 0, 1) := by decide +kernel
theorem dX8_init_103 : decode cX8_init 103 = .ok (.sipush 160, 3) := by decide +kernel
theorem dX8_init_106 : decode cX8_init 106 = .ok (.newarray .int, 2) := by decide +kernel
theorem dX8_init_108 : decode cX8_init 108 = .ok (.putfield 46, 3) := by decide +kernel
theorem dX8_init_111 : decode cX8_init 111 = .ok (.aload_n 0, 1) := by decide +kernel
theorem dX8_init_112 : decode cX8_init 112 = .ok (.bipush 40, 2) := by decide +kernel
theorem dX8_init_114 : decode cX8_init 114 = .ok (.newarray .int, 2) := by decide +kernel
theorem dX8_init_116 : decode cX8_init 116 = .ok (.putfield 49, 3) := by decide +kernel
theorem dX8_init_119 : decode cX8_init 119 = .ok (.aload_n 0, 1) := by decide +kernel
theorem dX8_init_120 : decode cX8_init 120 = .ok (.getfield 7, 3) := by decide +kernel
theorem dX8_init_123 : decode cX8_init 123 = .ok (.iconst 4, 1) := by decide +kernel
theorem dX8_init_124 : decode cX8_init 124 = .ok (.iconst 3, 1) := by decide +kernel
theorem dX8_init_125 : decode cX8_init 125 = .ok (.iastore, 1) := by decide +kernel
theorem dX8_init_126 : decode cX8_init 126 = .ok (.aload_n 0, 1) := by decide +kernel
theorem dX8_init_127 : decode cX8_init 127 = .ok (.getfield 7, 3) := by decide +kernel
theorem dX8_init_130 : decode cX8_init 130 = .ok (.iconst 5, 1) := by decide +kernel
theorem dX8_init_131 : decode cX8_init 131 = .ok (.iconst 1, 1) := by decide +kernel
theorem dX8_init_132 : decode cX8_init 132 = .ok (.iastore, 1) := by decide +kernel
theorem dX8_init_133 : decode cX8_init 133 = .ok (.return_, 1) := by decide +kernel
theorem oc_def_3 : ∀ j, j < 2 → defaultValue (tyX3 j) = vp_V [.null, .int 0] j := by decide +kernel
theorem oc_def_4 : ∀ j, j < 11 → defaultValue (tyX4 j) = vp_V [.int 0, .null, .null, .null, .null, .int 0, .int 0, .int 0, .long 0, .int 0, .int 0] j := by decide +kernel
theorem oc_def_5 : ∀ j, j < 3 → defaultValue (tyX5 j) = vp_V [.int 0, .int 0, .null] j := by decide +kernel
theorem oc_def_1 : ∀ j, j < 3 → defaultValue (tyX1 j) = vp_V [.int 0, .null, .null] j := by decide +kernel
theorem oc_def_2 : ∀ j, j < 4 → defaultValue (tyX2 j) = vp_V [.null, .null, .null, .int 0] j := by decide +kernel
theorem oc_def_6 : ∀ j, j < 4 → defaultValue (tyX6 j) = vp_V [.null, .int 0, .int 0, .int 0] j := by decide +kernel
theorem oc_def_0 : ∀ j, j < 6 → defaultValue (tyX0 j) = vp_V [.null, .null, .null, .null, .null, .int 0] j := by decide +kernel
theorem oc_def_7 : ∀ j, j < 8 → defaultValue (tyX7 j) = vp_V [.null, .null, .null, .null, .null, .null, .null, .int 0] j := by decide +kernel
theorem oc_def_8 : ∀ j, j < 26 → defaultValue (tyX8 j) = vp_V [.null, .null, .null, .long 0, .long 0, .long 0, .int 0, .null, .int 0, .int 0, .int 0, .int 0, .int 0, .int 0, .null, .null, .null, .null, .null, .null, .int 0, .int 0, .null, .null, .null, .null] j := by decide +kernel
def cRow (cI : ClassId) (n : Nat) (a : Nat → Nat) : va_W := [(a 0, .inr (3, [.ref (a 1), .int 0])), (a 1, .inl (cI, n, .inl (fun _ => 0)))]
def cSce (cI : ClassId) (a : Nat → Nat) : va_W := [(a 0, .inr (4, [.int 0, .ref (a 1), .ref (a 2), .ref (a 3), .ref (a 4), .int 0, .int 3, .int 0, .long 0, .int 0, .int 0])), (a 1, .inl (cI, 6, .inl (fun _ => 0))), (a 2, .inl (cI, 6, .inl (fun _ => 0))), (a 3, .inl (cI, 6, .inl (fun _ => 0))), (a 4, .inl (cI, 6, .inl (fun _ => 0)))]
def cShe (cI : ClassId) (a : Nat → Nat) : va_W := [(a 0, .inr (5, [.int 0, .int 0, .ref (a 1)])), (a 1, .inl (cI, 40, .inl (fun _ => 0)))]
def cLaw (cI : ClassId) (u : Int32) (a : Nat → Nat) : va_W := (a 0, .inr (1, [.int u, .ref (a 1), .ref (a 3)])) :: (cRow cI 50 (fun i => a (i + 1)) ++ [(a 3, .inl (cI, 50, .inl (fun _ => 0)))])
def cRea (cI : ClassId) (t : Nat) (a : Nat → Nat) : va_W := (a 0, .inr (2, [.ref (a 1), .ref (a 3), .ref t, .int 0])) :: (cRow cI 50 (fun i => a (i + 1)) ++ cRow cI 50 (fun i => a (i + 3)))
def cVoi (cI : ClassId) (a : Nat → Nat) : va_W := (a 0, .inr (6, [.ref (a 1), .int 0, .int 0, .int 0])) :: cRow cI 40 (fun i => a (i + 1))
def cBook (cI : ClassId) (a : Nat → Nat) : va_W := (a 0, .inr (0, [.ref (a 1), .ref (a 6), .ref (a 10), .ref (a 14), .ref (a 16), .int 1])) :: ((((cSce cI (fun i => a (i + 1)) ++ cLaw cI 0 (fun i => a (i + 6))) ++ cLaw cI 1 (fun i => a (i + 10))) ++ cRow cI 50 (fun i => a (i + 14))) ++ cRow cI 20 (fun i => a (i + 16)))
def cHat (cI cR : ClassId) (t : Nat) (a : Nat → Nat) : va_W := (a 0, .inr (7, [.ref (a 1), .ref (a 19), .ref (a 37), .ref (a 42), .ref (a 47), .ref (a 50), .ref (a 59), .int 0])) :: ((((((((((cBook cI (fun i => a (i + 1)) ++ cBook cI (fun i => a (i + 19))) ++ cSce cI (fun i => a (i + 37))) ++ cRea cI t (fun i => a (i + 42))) ++ cVoi cI (fun i => a (i + 47))) ++ [(a 50, .inl (cR, 4, .inr (.inr (.inr (.inr (va_up (va_up (va_up (va_up (fun _ => none) (0 : Int32).toNatClampNeg (some (a 51))) (1 : Int32).toNatClampNeg (some (a 53))) (2 : Int32).toNatClampNeg (some (a 55))) (3 : Int32).toNatClampNeg (some (a 57))))))))]) ++ cShe cI (fun i => a (i + 51))) ++ cShe cI (fun i => a (i + 53))) ++ cShe cI (fun i => a (i + 55))) ++ cShe cI (fun i => a (i + 57))) ++ [(a 59, .inl (cI, 6, .inl (fun _ => 0)))])
def cMod (cI : ClassId) (a : Nat → Nat) : va_W := (a 0, .inr (8, [.ref (a 1), .ref (a 2), .ref (a 3), .long 0, .long 0, .long 0, .int 0, .ref (a 4), .int 0, .int 0, .int 0, .int 0, .int 0, .int 0, .ref (a 5), .ref (a 6), .ref (a 7), .ref (a 8), .ref (a 9), .ref (a 10), .int 0, .int 0, .ref (a 11), .ref (a 12), .ref (a 13), .ref (a 14)])) :: ((((((((((((([(a 1, .inl (cI, 210, .inl (upd (upd (fun _ => 0) (4 : Int32).toNatClampNeg 3) (5 : Int32).toNatClampNeg 1)))] ++ [(a 2, .inl (cI, 210, .inl (fun _ => 0)))]) ++ [(a 3, .inl (cI, 210, .inl (fun _ => 0)))]) ++ [(a 4, .inl (cI, 6, .inl (fun _ => 0)))]) ++ [(a 5, .inl (cI, 4, .inl (fun _ => 0)))]) ++ [(a 6, .inl (cI, 384, .inl (fun _ => 0)))]) ++ [(a 7, .inl (cI, 384, .inl (fun _ => 0)))]) ++ [(a 8, .inl (cI, 6, .inl (fun _ => 0)))]) ++ [(a 9, .inl (cI, 6, .inl (fun _ => 0)))]) ++ [(a 10, .inl (cI, 40, .inl (fun _ => 0)))]) ++ [(a 11, .inl (cI, 4, .inl (fun _ => 0)))]) ++ [(a 12, .inl (cI, 4, .inl (fun _ => 0)))]) ++ [(a 13, .inl (cI, 160, .inl (fun _ => 0)))]) ++ [(a 14, .inl (cI, 40, .inl (fun _ => 0)))])
theorem oc_newS {p : Program} {l : Launch} {e : Env} {R : Room} {s : State} {m : MethodId} {args : Array Value} {below : List Frame} {meth : Method} {c : Code} {H : Heap} {locs : List Loc} {cells slots : Nat} {Q : State → Prop} {bytes : ByteArray} {pc : Nat} {ls : Array Slot} {rest : List Value} {D : va_G} {A : Nat → Prop} {cI cR : ClassId} {ad : Nat → Nat} {b0 : Nat} {own : String} {index : Nat} {ws : va_W} {n : Int32} {N' : Nat} (hx : p.tables.exec = Jvm.exec) (hb : c.code = bytes) (hown : s.vm.findClass own = some m.cls) (hcl : (Cond.classLink own index RX5).before args s = true) (hAO : va_AO RX5 s) (hAmb : oh_Amb D cI cR ad b0 s s.heap) (hP : va_P D vwCl ws H) (hD : va_D A ws) (hS : va_S A s.heap H locs) (hA : ∀ x, s.heap.size ≤ x → A x) (hn : ¬ n < 0) (hN : n.toNatClampNeg = N') (hbytes : N' * 4 ≤ 536870912) (hcells : cells + 1 ≤ R.cells) (hslots : slots + N' ≤ R.slots) (hdg : decode bytes pc = .ok (.anewarray index, 3))
    (kk : ∀ (q : Nat) (H1 : Heap), va_P D vwCl (ws ++ [(q, .inl (cR, N', .inr (.inr (.inr (.inr (fun _ => none))))))]) H1 → va_D A (ws ++ [(q, .inl (cR, N', .inr (.inr (.inr (.inr (fun _ => none))))))]) → va_S A s.heap H1 locs → W p l e R s m args below meth c H1 locs (cells + 1) (slots + N') Q (F0 m (pc + 3) ls (.ref q :: rest))) : W p l e R s m args below meth c H locs cells slots Q (F0 m pc ls (.int n :: rest)) := by
  refine va_newq hx hb hown hcl hAO hAmb.1 hP hD hS hA hn hN hbytes hcells hslots hdg (fun q cA H1 hK1 hP1 hD1 hS1 => ?_)
  obtain ⟨_, _, _, _, _, e1⟩ := (hK1.2 2 (cA, .object RX5) rfl).2
  obtain ⟨_, _, _, _, _, e2⟩ := (hK1.2 1 (cR, .object RX5) rfl).2
  have e3 : cA = cR := Option.some.inj (e1.symm.trans e2)
  subst e3
  exact kk q H1 hP1 hD1 hS1
