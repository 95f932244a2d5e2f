set_option maxRecDepth 20000 in
theorem wi_L : (.initialized RL : Cond) ∈ zt := zt_of (List.mem_of_getElem? (i := 36) (by decide +kernel)) rfl
set_option maxRecDepth 20000 in
theorem wi_X11 : (.initialized RX11 : Cond) ∈ zt := zt_of (List.mem_of_getElem? (i := 37) (by decide +kernel)) rfl
set_option maxRecDepth 20000 in
theorem wi_X10 : (.initialized RX10 : Cond) ∈ zt := zt_of (List.mem_of_getElem? (i := 38) (by decide +kernel)) rfl
set_option maxRecDepth 20000 in
theorem wi_X1 : (.initialized RX1 : Cond) ∈ zt := zt_of (List.mem_of_getElem? (i := 39) (by decide +kernel)) rfl
set_option maxRecDepth 20000 in
theorem wi_X8 : (.initialized RX8 : Cond) ∈ zt := zt_of (List.mem_of_getElem? (i := 40) (by decide +kernel)) rfl
set_option maxRecDepth 20000 in
theorem wi_X6 : (.initialized RX6 : Cond) ∈ zt := zt_of (List.mem_of_getElem? (i := 41) (by decide +kernel)) rfl
set_option maxRecDepth 20000 in
theorem wi_X9 : (.initialized RX9 : Cond) ∈ zt := zt_of (List.mem_of_getElem? (i := 42) (by decide +kernel)) rfl
set_option maxRecDepth 20000 in
theorem wi_X5 : (.initialized RX5 : Cond) ∈ zt := zt_of (List.mem_of_getElem? (i := 43) (by decide +kernel)) rfl
set_option maxRecDepth 20000 in
theorem wi_X0 : (.initialized RX0 : Cond) ∈ zt := zt_of (List.mem_of_getElem? (i := 44) (by decide +kernel)) rfl
set_option maxRecDepth 20000 in
theorem wi_X4 : (.initialized RX4 : Cond) ∈ zt := zt_of (List.mem_of_getElem? (i := 45) (by decide +kernel)) rfl
set_option maxRecDepth 20000 in
theorem wi_X2 : (.initialized RX2 : Cond) ∈ zt := zt_of (List.mem_of_getElem? (i := 46) (by decide +kernel)) rfl
set_option maxRecDepth 20000 in
theorem wi_X7 : (.initialized RX7 : Cond) ∈ zt := zt_of (List.mem_of_getElem? (i := 47) (by decide +kernel)) rfl
set_option maxRecDepth 20000 in
theorem wi_X3 : (.initialized RX3 : Cond) ∈ zt := zt_of (List.mem_of_getElem? (i := 48) (by decide +kernel)) rfl
set_option maxRecDepth 20000 in
theorem wi_X12 : (.initialized RX12 : Cond) ∈ zt := zt_of (List.mem_of_getElem? (i := 49) (by decide +kernel)) rfl
set_option maxRecDepth 20000 in
theorem wi_J9 : (.initialized RJ9 : Cond) ∈ zt := zt_of (List.mem_of_getElem? (i := 50) (by decide +kernel)) rfl
set_option maxRecDepth 20000 in
theorem wi_J10 : (.initialized RJ10 : Cond) ∈ zt := zt_of (List.mem_of_getElem? (i := 51) (by decide +kernel)) rfl
set_option maxRecDepth 20000 in
theorem wi_J6 : (.initialized RJ6 : Cond) ∈ zt := zt_of (List.mem_of_getElem? (i := 52) (by decide +kernel)) rfl
set_option maxRecDepth 20000 in
theorem wk_L_7 : (.classLink RL 7 RX11 : Cond) ∈ zt := zt_of (List.mem_of_getElem? (i := 53) (by decide +kernel)) rfl
set_option maxRecDepth 20000 in
theorem wn_X11 : (.instantiable RX11 11 : Cond) ∈ zt := zt_of (List.mem_of_getElem? (i := 54) (by decide +kernel)) rfl
set_option maxRecDepth 20000 in
theorem wm_L_9 : (.methodLink RL 9 yX11_init : Cond) ∈ zt := zt_of (List.mem_of_getElem? (i := 55) (by decide +kernel)) rfl
set_option maxRecDepth 20000 in
theorem wo_X11_init : (.instanceMethod yX11_init : Cond) ∈ zt := zt_of (List.mem_of_getElem? (i := 56) (by decide +kernel)) rfl
set_option maxRecDepth 20000 in
theorem wd_X11_init : (.code yX11_init cX11_init 1 none : Cond) ∈ zt := zt_of (List.mem_of_getElem? (i := 57) rfl) rfl
set_option maxRecDepth 20000 in
theorem wm_X11_1 : (.methodLink RX11 1 objectInit : Cond) ∈ zt := zt_of (List.mem_of_getElem? (i := 58) (by decide +kernel)) rfl
set_option maxRecDepth 20000 in
theorem wo_java_lang_Object_init_ : (.instanceMethod objectInit : Cond) ∈ zt := zt_of (List.mem_of_getElem? (i := 59) (by decide +kernel)) rfl
set_option maxRecDepth 20000 in
theorem wd_objectInit : (.code objectInit ⟨#[0xb1]⟩ 1 none : Cond) ∈ zt := zt_of (List.mem_of_getElem? (i := 60) rfl) rfl
set_option maxRecDepth 20000 in
theorem wk_X11_7 : (.classLink RX11 7 RX10 : Cond) ∈ zt := zt_of (List.mem_of_getElem? (i := 61) (by decide +kernel)) rfl
set_option maxRecDepth 20000 in
theorem wn_X10 : (.instantiable RX10 8 : Cond) ∈ zt := zt_of (List.mem_of_getElem? (i := 62) (by decide +kernel)) rfl
set_option maxRecDepth 20000 in
theorem wm_X11_9 : (.methodLinkNest RX11 9 yX10_init "SkipRope" : Cond) ∈ lw_tbl := List.mem_of_getElem? (i := 63) (by decide +kernel)
set_option maxRecDepth 20000 in
theorem wo_X10_init : (.instanceMethod yX10_init : Cond) ∈ zt := zt_of (List.mem_of_getElem? (i := 64) (by decide +kernel)) rfl
set_option maxRecDepth 20000 in
theorem wd_X10_init : (.code yX10_init cX10_init 1 none : Cond) ∈ zt := zt_of (List.mem_of_getElem? (i := 65) rfl) rfl
set_option maxRecDepth 20000 in
theorem wm_X10_3 : (.methodLink RX10 3 objectInit : Cond) ∈ zt := zt_of (List.mem_of_getElem? (i := 66) (by decide +kernel)) rfl
set_option maxRecDepth 20000 in
theorem wf_X10_9 : (.fieldLink RX10 9 "SkipRope$Text" "letters" "[I" : Cond) ∈ zt := zt_of (List.mem_of_getElem? (i := 67) (by decide +kernel)) rfl
set_option maxRecDepth 20000 in
theorem wf_X11_88 : (.fieldLink RX11 88 "SkipRope$Text" "letters" "[I" : Cond) ∈ zt := zt_of (List.mem_of_getElem? (i := 68) (by decide +kernel)) rfl
set_option maxRecDepth 20000 in
theorem wf_X10_15 : (.fieldLink RX10 15 "SkipRope$Text" "parts" "[I" : Cond) ∈ zt := zt_of (List.mem_of_getElem? (i := 69) (by decide +kernel)) rfl
set_option maxRecDepth 20000 in
theorem wf_X11_84 : (.fieldLink RX11 84 "SkipRope$Text" "length" "I" : Cond) ∈ zt := zt_of (List.mem_of_getElem? (i := 70) (by decide +kernel)) rfl
set_option maxRecDepth 20000 in
theorem wf_X10_73 : (.fieldLink RX10 73 "SkipRope$Text" "length" "I" : Cond) ∈ zt := zt_of (List.mem_of_getElem? (i := 71) (by decide +kernel)) rfl
set_option maxRecDepth 20000 in
theorem wf_X10_23 : (.fieldLink RX10 23 "SkipRope$Text" "items" "I" : Cond) ∈ zt := zt_of (List.mem_of_getElem? (i := 72) (by decide +kernel)) rfl
set_option maxRecDepth 20000 in
theorem wf_X11_100 : (.fieldLink RX11 100 "SkipRope$Text" "items" "I" : Cond) ∈ zt := zt_of (List.mem_of_getElem? (i := 73) (by decide +kernel)) rfl
set_option maxRecDepth 20000 in
theorem wf_X10_27 : (.fieldLink RX10 27 "SkipRope$Text" "place" "I" : Cond) ∈ zt := zt_of (List.mem_of_getElem? (i := 74) (by decide +kernel)) rfl
set_option maxRecDepth 20000 in
theorem wf_X10_46 : (.fieldLink RX10 46 "SkipRope$Text" "start" "I" : Cond) ∈ zt := zt_of (List.mem_of_getElem? (i := 75) (by decide +kernel)) rfl
set_option maxRecDepth 20000 in
theorem wf_X10_33 : (.fieldLink RX10 33 "SkipRope$Text" "token" "I" : Cond) ∈ zt := zt_of (List.mem_of_getElem? (i := 76) (by decide +kernel)) rfl
set_option maxRecDepth 20000 in
theorem wf_X10_53 : (.fieldLink RX10 53 "SkipRope$Text" "value" "I" : Cond) ∈ zt := zt_of (List.mem_of_getElem? (i := 77) (by decide +kernel)) rfl
set_option maxRecDepth 20000 in
theorem wu_X10 : (.superclass RX10 "java/lang/Object" : Cond) ∈ zt := zt_of (List.mem_of_getElem? (i := 94) (by decide +kernel)) rfl
set_option maxRecDepth 20000 in
theorem wa_int : (.arrayClass .int : Cond) ∈ zt := zt_of (List.mem_of_getElem? (i := 95) (by decide +kernel)) rfl
set_option maxRecDepth 20000 in
theorem wk_X11_16 : (.classLink RX11 16 RX1 : Cond) ∈ zt := zt_of (List.mem_of_getElem? (i := 96) (by decide +kernel)) rfl
set_option maxRecDepth 20000 in
theorem wn_X1 : (.instantiable RX1 6 : Cond) ∈ zt := zt_of (List.mem_of_getElem? (i := 97) (by decide +kernel)) rfl
set_option maxRecDepth 20000 in
theorem wm_X11_18 : (.methodLinkNest RX11 18 yX1_init "SkipRope" : Cond) ∈ lw_tbl := List.mem_of_getElem? (i := 98) (by decide +kernel)
set_option maxRecDepth 20000 in
theorem wo_X1_init : (.instanceMethod yX1_init : Cond) ∈ zt := zt_of (List.mem_of_getElem? (i := 99) (by decide +kernel)) rfl
set_option maxRecDepth 20000 in
theorem wd_X1_init : (.code yX1_init cX1_init 1 none : Cond) ∈ zt := zt_of (List.mem_of_getElem? (i := 100) rfl) rfl
set_option maxRecDepth 20000 in
theorem wm_X1_3 : (.methodLink RX1 3 objectInit : Cond) ∈ zt := zt_of (List.mem_of_getElem? (i := 101) (by decide +kernel)) rfl
set_option maxRecDepth 20000 in
theorem wf_X1_9 : (.fieldLink RX1 9 "SkipRope$Crew" "every" "I" : Cond) ∈ zt := zt_of (List.mem_of_getElem? (i := 102) (by decide +kernel)) rfl
set_option maxRecDepth 20000 in
theorem wf_X8_25 : (.fieldLink RX8 25 "SkipRope$Crew" "every" "I" : Cond) ∈ zt := zt_of (List.mem_of_getElem? (i := 103) (by decide +kernel)) rfl
set_option maxRecDepth 20000 in
theorem wf_X10_56 : (.fieldLink RX10 56 "SkipRope$Crew" "every" "I" : Cond) ∈ zt := zt_of (List.mem_of_getElem? (i := 104) (by decide +kernel)) rfl
set_option maxRecDepth 20000 in
theorem wf_X1_28 : (.fieldLink RX1 28 "SkipRope$Crew" "size" "I" : Cond) ∈ zt := zt_of (List.mem_of_getElem? (i := 105) (by decide +kernel)) rfl
set_option maxRecDepth 20000 in
theorem wf_X8_34 : (.fieldLink RX8 34 "SkipRope$Crew" "size" "I" : Cond) ∈ zt := zt_of (List.mem_of_getElem? (i := 106) (by decide +kernel)) rfl
set_option maxRecDepth 20000 in
theorem wf_X10_40 : (.fieldLink RX10 40 "SkipRope$Crew" "size" "I" : Cond) ∈ zt := zt_of (List.mem_of_getElem? (i := 107) (by decide +kernel)) rfl
set_option maxRecDepth 20000 in
theorem wf_X11_183 : (.fieldLink RX11 183 "SkipRope$Crew" "size" "I" : Cond) ∈ zt := zt_of (List.mem_of_getElem? (i := 108) (by decide +kernel)) rfl
set_option maxRecDepth 20000 in
theorem wf_X1_15 : (.fieldLink RX1 15 "SkipRope$Crew" "period" "[I" : Cond) ∈ zt := zt_of (List.mem_of_getElem? (i := 109) (by decide +kernel)) rfl
set_option maxRecDepth 20000 in
theorem wf_X11_107 : (.fieldLink RX11 107 "SkipRope$Crew" "period" "[I" : Cond) ∈ zt := zt_of (List.mem_of_getElem? (i := 110) (by decide +kernel)) rfl
set_option maxRecDepth 20000 in
theorem wf_X8_65 : (.fieldLink RX8 65 "SkipRope$Crew" "period" "[I" : Cond) ∈ zt := zt_of (List.mem_of_getElem? (i := 111) (by decide +kernel)) rfl
set_option maxRecDepth 20000 in
theorem wf_X1_19 : (.fieldLink RX1 19 "SkipRope$Crew" "hang" "[I" : Cond) ∈ zt := zt_of (List.mem_of_getElem? (i := 112) (by decide +kernel)) rfl
set_option maxRecDepth 20000 in
theorem wf_X0_23 : (.fieldLink RX0 23 "SkipRope$Crew" "hang" "[I" : Cond) ∈ zt := zt_of (List.mem_of_getElem? (i := 113) (by decide +kernel)) rfl
set_option maxRecDepth 20000 in
theorem wf_X11_110 : (.fieldLink RX11 110 "SkipRope$Crew" "hang" "[I" : Cond) ∈ zt := zt_of (List.mem_of_getElem? (i := 114) (by decide +kernel)) rfl
set_option maxRecDepth 20000 in
theorem wf_X8_68 : (.fieldLink RX8 68 "SkipRope$Crew" "hang" "[I" : Cond) ∈ zt := zt_of (List.mem_of_getElem? (i := 115) (by decide +kernel)) rfl
set_option maxRecDepth 20000 in
theorem wf_X1_22 : (.fieldLink RX1 22 "SkipRope$Crew" "start" "[I" : Cond) ∈ zt := zt_of (List.mem_of_getElem? (i := 116) (by decide +kernel)) rfl
set_option maxRecDepth 20000 in
theorem wf_X8_40 : (.fieldLink RX8 40 "SkipRope$Crew" "start" "[I" : Cond) ∈ zt := zt_of (List.mem_of_getElem? (i := 117) (by decide +kernel)) rfl
set_option maxRecDepth 20000 in
theorem wf_X1_25 : (.fieldLink RX1 25 "SkipRope$Crew" "wind" "[I" : Cond) ∈ zt := zt_of (List.mem_of_getElem? (i := 118) (by decide +kernel)) rfl
set_option maxRecDepth 20000 in
theorem wf_X8_43 : (.fieldLink RX8 43 "SkipRope$Crew" "wind" "[I" : Cond) ∈ zt := zt_of (List.mem_of_getElem? (i := 119) (by decide +kernel)) rfl
set_option maxRecDepth 20000 in
theorem wu_X1 : (.superclass RX1 "java/lang/Object" : Cond) ∈ zt := zt_of (List.mem_of_getElem? (i := 132) (by decide +kernel)) rfl
set_option maxRecDepth 20000 in
theorem wk_X11_26 : (.classLink RX11 26 RX8 : Cond) ∈ zt := zt_of (List.mem_of_getElem? (i := 133) (by decide +kernel)) rfl
set_option maxRecDepth 20000 in
theorem wn_X8 : (.instantiable RX8 7 : Cond) ∈ zt := zt_of (List.mem_of_getElem? (i := 134) (by decide +kernel)) rfl
set_option maxRecDepth 20000 in
theorem wm_X11_28 : (.methodLinkNest RX11 28 yX8_init "SkipRope" : Cond) ∈ lw_tbl := List.mem_of_getElem? (i := 135) (by decide +kernel)
set_option maxRecDepth 20000 in
theorem wo_X8_init : (.instanceMethod yX8_init : Cond) ∈ zt := zt_of (List.mem_of_getElem? (i := 136) (by decide +kernel)) rfl
set_option maxRecDepth 20000 in
theorem wd_X8_init : (.code yX8_init cX8_init 1 none : Cond) ∈ zt := zt_of (List.mem_of_getElem? (i := 137) rfl) rfl
set_option maxRecDepth 20000 in
theorem wm_X8_3 : (.methodLink RX8 3 objectInit : Cond) ∈ zt := zt_of (List.mem_of_getElem? (i := 138) (by decide +kernel)) rfl
set_option maxRecDepth 20000 in
theorem wf_X8_21 : (.fieldLink RX8 21 "SkipRope$Scene" "tick" "I" : Cond) ∈ zt := zt_of (List.mem_of_getElem? (i := 139) (by decide +kernel)) rfl
set_option maxRecDepth 20000 in
theorem wf_X3_23 : (.fieldLink RX3 23 "SkipRope$Scene" "tick" "I" : Cond) ∈ zt := zt_of (List.mem_of_getElem? (i := 140) (by decide +kernel)) rfl
set_option maxRecDepth 20000 in
theorem wf_X11_129 : (.fieldLink RX11 129 "SkipRope$Scene" "tick" "I" : Cond) ∈ zt := zt_of (List.mem_of_getElem? (i := 141) (by decide +kernel)) rfl
set_option maxRecDepth 20000 in
theorem wf_X8_30 : (.fieldLink RX8 30 "SkipRope$Scene" "every" "I" : Cond) ∈ zt := zt_of (List.mem_of_getElem? (i := 142) (by decide +kernel)) rfl
set_option maxRecDepth 20000 in
theorem wf_X11_132 : (.fieldLink RX11 132 "SkipRope$Scene" "every" "I" : Cond) ∈ zt := zt_of (List.mem_of_getElem? (i := 143) (by decide +kernel)) rfl
set_option maxRecDepth 20000 in
theorem wf_X8_31 : (.fieldLink RX8 31 "SkipRope$Scene" "round" "I" : Cond) ∈ zt := zt_of (List.mem_of_getElem? (i := 144) (by decide +kernel)) rfl
set_option maxRecDepth 20000 in
theorem wf_X4_23 : (.fieldLink RX4 23 "SkipRope$Scene" "round" "I" : Cond) ∈ zt := zt_of (List.mem_of_getElem? (i := 145) (by decide +kernel)) rfl
set_option maxRecDepth 20000 in
theorem wf_X11_135 : (.fieldLink RX11 135 "SkipRope$Scene" "round" "I" : Cond) ∈ zt := zt_of (List.mem_of_getElem? (i := 146) (by decide +kernel)) rfl
set_option maxRecDepth 20000 in
theorem wf_X8_37 : (.fieldLink RX8 37 "SkipRope$Scene" "inside" "I" : Cond) ∈ zt := zt_of (List.mem_of_getElem? (i := 147) (by decide +kernel)) rfl
set_option maxRecDepth 20000 in
theorem wf_X11_138 : (.fieldLink RX11 138 "SkipRope$Scene" "inside" "I" : Cond) ∈ zt := zt_of (List.mem_of_getElem? (i := 148) (by decide +kernel)) rfl
set_option maxRecDepth 20000 in
theorem wf_X8_9 : (.fieldLink RX8 9 "SkipRope$Scene" "up" "[I" : Cond) ∈ zt := zt_of (List.mem_of_getElem? (i := 149) (by decide +kernel)) rfl
set_option maxRecDepth 20000 in
theorem wf_X11_119 : (.fieldLink RX11 119 "SkipRope$Scene" "up" "[I" : Cond) ∈ zt := zt_of (List.mem_of_getElem? (i := 150) (by decide +kernel)) rfl
set_option maxRecDepth 20000 in
theorem wf_X8_15 : (.fieldLink RX8 15 "SkipRope$Scene" "due" "[I" : Cond) ∈ zt := zt_of (List.mem_of_getElem? (i := 151) (by decide +kernel)) rfl
set_option maxRecDepth 20000 in
theorem wf_X11_122 : (.fieldLink RX11 122 "SkipRope$Scene" "due" "[I" : Cond) ∈ zt := zt_of (List.mem_of_getElem? (i := 152) (by decide +kernel)) rfl
set_option maxRecDepth 20000 in
theorem wf_X8_18 : (.fieldLink RX8 18 "SkipRope$Scene" "wind" "[I" : Cond) ∈ zt := zt_of (List.mem_of_getElem? (i := 153) (by decide +kernel)) rfl
set_option maxRecDepth 20000 in
theorem wf_X5_17 : (.fieldLink RX5 17 "SkipRope$Scene" "wind" "[I" : Cond) ∈ zt := zt_of (List.mem_of_getElem? (i := 154) (by decide +kernel)) rfl
set_option maxRecDepth 20000 in
theorem wf_X11_113 : (.fieldLink RX11 113 "SkipRope$Scene" "wind" "[I" : Cond) ∈ zt := zt_of (List.mem_of_getElem? (i := 155) (by decide +kernel)) rfl
set_option maxRecDepth 20000 in
theorem wu_X8 : (.superclass RX8 "java/lang/Object" : Cond) ∈ zt := zt_of (List.mem_of_getElem? (i := 170) (by decide +kernel)) rfl
set_option maxRecDepth 20000 in
theorem wk_X11_36 : (.classLink RX11 36 RX6 : Cond) ∈ zt := zt_of (List.mem_of_getElem? (i := 171) (by decide +kernel)) rfl
set_option maxRecDepth 20000 in
theorem wn_X6 : (.instantiable RX6 3 : Cond) ∈ zt := zt_of (List.mem_of_getElem? (i := 172) (by decide +kernel)) rfl
set_option maxRecDepth 20000 in
theorem wm_X11_38 : (.methodLink RX11 38 yX6_init : Cond) ∈ zt := zt_of (List.mem_of_getElem? (i := 173) (by decide +kernel)) rfl
set_option maxRecDepth 20000 in
theorem wo_X6_init : (.instanceMethod yX6_init : Cond) ∈ zt := zt_of (List.mem_of_getElem? (i := 174) (by decide +kernel)) rfl
set_option maxRecDepth 20000 in
theorem wd_X6_init : (.code yX6_init cX6_init 2 none : Cond) ∈ zt := zt_of (List.mem_of_getElem? (i := 175) rfl) rfl
set_option maxRecDepth 20000 in
theorem wm_X6_3 : (.methodLink RX6 3 objectInit : Cond) ∈ zt := zt_of (List.mem_of_getElem? (i := 176) (by decide +kernel)) rfl
set_option maxRecDepth 20000 in
theorem wk_X6_9 : (.classLink RX6 9 RX8 : Cond) ∈ zt := zt_of (List.mem_of_getElem? (i := 177) (by decide +kernel)) rfl
set_option maxRecDepth 20000 in
theorem wm_X6_17 : (.methodLinkNest RX6 17 yX8_init "SkipRope" : Cond) ∈ lw_tbl := List.mem_of_getElem? (i := 179) (by decide +kernel)
set_option maxRecDepth 20000 in
theorem wf_X6_11 : (.fieldLink RX6 11 "SkipRope$Past" "ring" "[LSkipRope$Scene;" : Cond) ∈ zt := zt_of (List.mem_of_getElem? (i := 180) (by decide +kernel)) rfl
set_option maxRecDepth 20000 in
theorem wf_X6_18 : (.fieldLink RX6 18 "SkipRope$Past" "next" "I" : Cond) ∈ zt := zt_of (List.mem_of_getElem? (i := 181) (by decide +kernel)) rfl
set_option maxRecDepth 20000 in
theorem wf_X6_26 : (.fieldLink RX6 26 "SkipRope$Past" "size" "I" : Cond) ∈ zt := zt_of (List.mem_of_getElem? (i := 182) (by decide +kernel)) rfl
set_option maxRecDepth 20000 in
theorem wf_X11_96 : (.fieldLink RX11 96 "SkipRope$Past" "size" "I" : Cond) ∈ zt := zt_of (List.mem_of_getElem? (i := 183) (by decide +kernel)) rfl
set_option maxRecDepth 20000 in
theorem wu_X6 : (.superclass RX6 "java/lang/Object" : Cond) ∈ zt := zt_of (List.mem_of_getElem? (i := 190) (by decide +kernel)) rfl
set_option maxRecDepth 20000 in
theorem wk_X11_51 : (.classLink RX11 51 RX9 : Cond) ∈ zt := zt_of (List.mem_of_getElem? (i := 191) (by decide +kernel)) rfl
set_option maxRecDepth 20000 in
theorem wn_X9 : (.instantiable RX9 7 : Cond) ∈ zt := zt_of (List.mem_of_getElem? (i := 192) (by decide +kernel)) rfl
set_option maxRecDepth 20000 in
theorem wm_X11_53 : (.methodLinkNest RX11 53 yX9_init "SkipRope" : Cond) ∈ lw_tbl := List.mem_of_getElem? (i := 193) (by decide +kernel)
set_option maxRecDepth 20000 in
theorem wo_X9_init : (.instanceMethod yX9_init : Cond) ∈ zt := zt_of (List.mem_of_getElem? (i := 194) (by decide +kernel)) rfl
set_option maxRecDepth 20000 in
theorem wd_X9_init : (.code yX9_init cX9_init 1 none : Cond) ∈ zt := zt_of (List.mem_of_getElem? (i := 195) rfl) rfl
set_option maxRecDepth 20000 in
theorem wm_X9_3 : (.methodLink RX9 3 objectInit : Cond) ∈ zt := zt_of (List.mem_of_getElem? (i := 196) (by decide +kernel)) rfl
set_option maxRecDepth 20000 in
theorem wf_X9_28 : (.fieldLink RX9 28 "SkipRope$Sight" "size" "I" : Cond) ∈ zt := zt_of (List.mem_of_getElem? (i := 197) (by decide +kernel)) rfl
set_option maxRecDepth 20000 in
theorem wf_X11_99 : (.fieldLink RX11 99 "SkipRope$Sight" "size" "I" : Cond) ∈ zt := zt_of (List.mem_of_getElem? (i := 198) (by decide +kernel)) rfl
set_option maxRecDepth 20000 in
theorem wf_X9_9 : (.fieldLink RX9 9 "SkipRope$Sight" "hangs" "[I" : Cond) ∈ zt := zt_of (List.mem_of_getElem? (i := 199) (by decide +kernel)) rfl
set_option maxRecDepth 20000 in
theorem wf_X9_15 : (.fieldLink RX9 15 "SkipRope$Sight" "ticksSeen" "[I" : Cond) ∈ zt := zt_of (List.mem_of_getElem? (i := 200) (by decide +kernel)) rfl
set_option maxRecDepth 20000 in
theorem wf_X9_18 : (.fieldLink RX9 18 "SkipRope$Sight" "ups" "[Z" : Cond) ∈ zt := zt_of (List.mem_of_getElem? (i := 201) (by decide +kernel)) rfl
set_option maxRecDepth 20000 in
theorem wf_X9_32 : (.fieldLink RX9 32 "SkipRope$Sight" "found" "I" : Cond) ∈ zt := zt_of (List.mem_of_getElem? (i := 202) (by decide +kernel)) rfl
set_option maxRecDepth 20000 in
theorem wf_X11_202 : (.fieldLink RX11 202 "SkipRope$Sight" "found" "I" : Cond) ∈ zt := zt_of (List.mem_of_getElem? (i := 203) (by decide +kernel)) rfl
set_option maxRecDepth 20000 in
theorem wf_X9_22 : (.fieldLink RX9 22 "SkipRope$Sight" "periods" "[I" : Cond) ∈ zt := zt_of (List.mem_of_getElem? (i := 204) (by decide +kernel)) rfl
set_option maxRecDepth 20000 in
theorem wf_X11_205 : (.fieldLink RX11 205 "SkipRope$Sight" "periods" "[I" : Cond) ∈ zt := zt_of (List.mem_of_getElem? (i := 205) (by decide +kernel)) rfl
set_option maxRecDepth 20000 in
theorem wf_X9_25 : (.fieldLink RX9 25 "SkipRope$Sight" "starts" "[I" : Cond) ∈ zt := zt_of (List.mem_of_getElem? (i := 206) (by decide +kernel)) rfl
set_option maxRecDepth 20000 in
theorem wf_X11_208 : (.fieldLink RX11 208 "SkipRope$Sight" "starts" "[I" : Cond) ∈ zt := zt_of (List.mem_of_getElem? (i := 207) (by decide +kernel)) rfl
set_option maxRecDepth 20000 in
theorem wu_X9 : (.superclass RX9 "java/lang/Object" : Cond) ∈ zt := zt_of (List.mem_of_getElem? (i := 222) (by decide +kernel)) rfl
set_option maxRecDepth 20000 in
theorem wa_boolean : (.arrayClass .boolean : Cond) ∈ zt := zt_of (List.mem_of_getElem? (i := 223) (by decide +kernel)) rfl
set_option maxRecDepth 20000 in
theorem wk_X11_58 : (.classLink RX11 58 RX5 : Cond) ∈ zt := zt_of (List.mem_of_getElem? (i := 224) (by decide +kernel)) rfl
set_option maxRecDepth 20000 in
theorem wn_X5 : (.instantiable RX5 0 : Cond) ∈ zt := zt_of (List.mem_of_getElem? (i := 226) (by decide +kernel)) rfl
set_option maxRecDepth 20000 in
theorem wm_X11_60 : (.methodLinkNest RX11 60 yX5_init "SkipRope" : Cond) ∈ lw_tbl := List.mem_of_getElem? (i := 227) (by decide +kernel)
set_option maxRecDepth 20000 in
theorem wo_X5_init : (.instanceMethod yX5_init : Cond) ∈ zt := zt_of (List.mem_of_getElem? (i := 228) (by decide +kernel)) rfl
set_option maxRecDepth 20000 in
theorem wd_X5_init : (.code yX5_init cX5_init 1 none : Cond) ∈ zt := zt_of (List.mem_of_getElem? (i := 229) rfl) rfl
set_option maxRecDepth 20000 in
theorem wm_X5_1 : (.methodLink RX5 1 objectInit : Cond) ∈ zt := zt_of (List.mem_of_getElem? (i := 230) (by decide +kernel)) rfl
set_option maxRecDepth 20000 in
theorem wu_X5 : (.superclass RX5 "java/lang/Object" : Cond) ∈ zt := zt_of (List.mem_of_getElem? (i := 231) (by decide +kernel)) rfl
set_option maxRecDepth 20000 in
theorem wk_X11_61 : (.classLink RX11 61 RX0 : Cond) ∈ zt := zt_of (List.mem_of_getElem? (i := 232) (by decide +kernel)) rfl
set_option maxRecDepth 20000 in
theorem wn_X0 : (.instantiable RX0 0 : Cond) ∈ zt := zt_of (List.mem_of_getElem? (i := 233) (by decide +kernel)) rfl
set_option maxRecDepth 20000 in
theorem wm_X11_63 : (.methodLinkNest RX11 63 yX0_init "SkipRope" : Cond) ∈ lw_tbl := List.mem_of_getElem? (i := 234) (by decide +kernel)
set_option maxRecDepth 20000 in
theorem wo_X0_init : (.instanceMethod yX0_init : Cond) ∈ zt := zt_of (List.mem_of_getElem? (i := 235) (by decide +kernel)) rfl
set_option maxRecDepth 20000 in
theorem wd_X0_init : (.code yX0_init cX0_init 1 none : Cond) ∈ zt := zt_of (List.mem_of_getElem? (i := 236) rfl) rfl
set_option maxRecDepth 20000 in
theorem wm_X0_1 : (.methodLinkNest RX0 1 yX5_init "SkipRope" : Cond) ∈ lw_tbl := List.mem_of_getElem? (i := 237) (by decide +kernel)
set_option maxRecDepth 20000 in
theorem wu_X0 : (.superclass RX0 RX5 : Cond) ∈ zt := zt_of (List.mem_of_getElem? (i := 238) (by decide +kernel)) rfl
set_option maxRecDepth 20000 in
theorem wk_X11_64 : (.classLink RX11 64 RX4 : Cond) ∈ zt := zt_of (List.mem_of_getElem? (i := 239) (by decide +kernel)) rfl
set_option maxRecDepth 20000 in
theorem wn_X4 : (.instantiable RX4 0 : Cond) ∈ zt := zt_of (List.mem_of_getElem? (i := 240) (by decide +kernel)) rfl
set_option maxRecDepth 20000 in
theorem wm_X11_66 : (.methodLinkNest RX11 66 yX4_init "SkipRope" : Cond) ∈ lw_tbl := List.mem_of_getElem? (i := 241) (by decide +kernel)
set_option maxRecDepth 20000 in
theorem wo_X4_init : (.instanceMethod yX4_init : Cond) ∈ zt := zt_of (List.mem_of_getElem? (i := 242) (by decide +kernel)) rfl
set_option maxRecDepth 20000 in
theorem wd_X4_init : (.code yX4_init cX4_init 1 none : Cond) ∈ zt := zt_of (List.mem_of_getElem? (i := 243) rfl) rfl
set_option maxRecDepth 20000 in
theorem wm_X4_1 : (.methodLinkNest RX4 1 yX5_init "SkipRope" : Cond) ∈ lw_tbl := List.mem_of_getElem? (i := 244) (by decide +kernel)
set_option maxRecDepth 20000 in
theorem wu_X4 : (.superclass RX4 RX5 : Cond) ∈ zt := zt_of (List.mem_of_getElem? (i := 245) (by decide +kernel)) rfl
set_option maxRecDepth 20000 in
theorem wk_X11_67 : (.classLink RX11 67 RX2 : Cond) ∈ zt := zt_of (List.mem_of_getElem? (i := 246) (by decide +kernel)) rfl
set_option maxRecDepth 20000 in
theorem wn_X2 : (.instantiable RX2 0 : Cond) ∈ zt := zt_of (List.mem_of_getElem? (i := 247) (by decide +kernel)) rfl
set_option maxRecDepth 20000 in
theorem wm_X11_69 : (.methodLinkNest RX11 69 yX2_init "SkipRope" : Cond) ∈ lw_tbl := List.mem_of_getElem? (i := 248) (by decide +kernel)
set_option maxRecDepth 20000 in
theorem wo_X2_init : (.instanceMethod yX2_init : Cond) ∈ zt := zt_of (List.mem_of_getElem? (i := 249) (by decide +kernel)) rfl
set_option maxRecDepth 20000 in
theorem wd_X2_init : (.code yX2_init cX2_init 1 none : Cond) ∈ zt := zt_of (List.mem_of_getElem? (i := 250) rfl) rfl
set_option maxRecDepth 20000 in
theorem wm_X2_1 : (.methodLinkNest RX2 1 yX0_init "SkipRope" : Cond) ∈ lw_tbl := List.mem_of_getElem? (i := 251) (by decide +kernel)
set_option maxRecDepth 20000 in
theorem wu_X2 : (.superclass RX2 RX0 : Cond) ∈ zt := zt_of (List.mem_of_getElem? (i := 252) (by decide +kernel)) rfl
set_option maxRecDepth 20000 in
theorem wk_X11_70 : (.classLink RX11 70 RX7 : Cond) ∈ zt := zt_of (List.mem_of_getElem? (i := 253) (by decide +kernel)) rfl
set_option maxRecDepth 20000 in
theorem wn_X7 : (.instantiable RX7 0 : Cond) ∈ zt := zt_of (List.mem_of_getElem? (i := 254) (by decide +kernel)) rfl
set_option maxRecDepth 20000 in
theorem wm_X11_72 : (.methodLinkNest RX11 72 yX7_init "SkipRope" : Cond) ∈ lw_tbl := List.mem_of_getElem? (i := 255) (by decide +kernel)
set_option maxRecDepth 20000 in
theorem wo_X7_init : (.instanceMethod yX7_init : Cond) ∈ zt := zt_of (List.mem_of_getElem? (i := 256) (by decide +kernel)) rfl
set_option maxRecDepth 20000 in
theorem wd_X7_init : (.code yX7_init cX7_init 1 none : Cond) ∈ zt := zt_of (List.mem_of_getElem? (i := 257) rfl) rfl
set_option maxRecDepth 20000 in
theorem wm_X7_1 : (.methodLinkNest RX7 1 yX4_init "SkipRope" : Cond) ∈ lw_tbl := List.mem_of_getElem? (i := 258) (by decide +kernel)
set_option maxRecDepth 20000 in
theorem wu_X7 : (.superclass RX7 RX4 : Cond) ∈ zt := zt_of (List.mem_of_getElem? (i := 259) (by decide +kernel)) rfl
set_option maxRecDepth 20000 in
theorem wk_X11_73 : (.classLink RX11 73 RX3 : Cond) ∈ zt := zt_of (List.mem_of_getElem? (i := 260) (by decide +kernel)) rfl
set_option maxRecDepth 20000 in
theorem wn_X3 : (.instantiable RX3 0 : Cond) ∈ zt := zt_of (List.mem_of_getElem? (i := 261) (by decide +kernel)) rfl
set_option maxRecDepth 20000 in
theorem wm_X11_75 : (.methodLinkNest RX11 75 yX3_init "SkipRope" : Cond) ∈ lw_tbl := List.mem_of_getElem? (i := 262) (by decide +kernel)
set_option maxRecDepth 20000 in
theorem wo_X3_init : (.instanceMethod yX3_init : Cond) ∈ zt := zt_of (List.mem_of_getElem? (i := 263) (by decide +kernel)) rfl
set_option maxRecDepth 20000 in
theorem wd_X3_init : (.code yX3_init cX3_init 1 none : Cond) ∈ zt := zt_of (List.mem_of_getElem? (i := 264) rfl) rfl
set_option maxRecDepth 20000 in
theorem wm_X3_1 : (.methodLinkNest RX3 1 yX5_init "SkipRope" : Cond) ∈ lw_tbl := List.mem_of_getElem? (i := 265) (by decide +kernel)
set_option maxRecDepth 20000 in
theorem wu_X3 : (.superclass RX3 RX5 : Cond) ∈ zt := zt_of (List.mem_of_getElem? (i := 266) (by decide +kernel)) rfl
set_option maxRecDepth 20000 in
theorem wm_X11_80 : (.methodLink RX11 80 yX8_open : Cond) ∈ zt := zt_of (List.mem_of_getElem? (i := 267) (by decide +kernel)) rfl
set_option maxRecDepth 20000 in
theorem wo_X8_open : (.instanceMethod yX8_open : Cond) ∈ zt := zt_of (List.mem_of_getElem? (i := 268) (by decide +kernel)) rfl
set_option maxRecDepth 20000 in
theorem we_X8_X8_open : (.selects RX8 yX8_open yX8_open : Cond) ∈ zt := zt_of (List.mem_of_getElem? (i := 269) (by decide +kernel)) rfl
set_option maxRecDepth 20000 in
theorem wd_X8_open : (.code yX8_open cX8_open 3 none : Cond) ∈ zt := zt_of (List.mem_of_getElem? (i := 270) rfl) rfl
set_option maxRecDepth 20000 in
theorem wf_X11_10 : (.fieldLink RX11 10 "SkipRope" "text" "LSkipRope$Text;" : Cond) ∈ zt := zt_of (List.mem_of_getElem? (i := 271) (by decide +kernel)) rfl
set_option maxRecDepth 20000 in
theorem wf_X11_19 : (.fieldLink RX11 19 "SkipRope" "crew" "LSkipRope$Crew;" : Cond) ∈ zt := zt_of (List.mem_of_getElem? (i := 272) (by decide +kernel)) rfl
set_option maxRecDepth 20000 in
theorem wf_X0_19 : (.fieldLinkNest RX0 19 "SkipRope" "crew" "LSkipRope$Crew;" "SkipRope" : Cond) ∈ lw_tbl := List.mem_of_getElem? (i := 273) (by decide +kernel)
set_option maxRecDepth 20000 in
theorem wf_X11_23 : (.fieldLink RX11 23 "SkipRope" "draft" "LSkipRope$Crew;" : Cond) ∈ zt := zt_of (List.mem_of_getElem? (i := 274) (by decide +kernel)) rfl
set_option maxRecDepth 20000 in
theorem wf_X11_29 : (.fieldLink RX11 29 "SkipRope" "scene" "LSkipRope$Scene;" : Cond) ∈ zt := zt_of (List.mem_of_getElem? (i := 275) (by decide +kernel)) rfl
set_option maxRecDepth 20000 in
theorem wf_X5_13 : (.fieldLinkNest RX5 13 "SkipRope" "scene" "LSkipRope$Scene;" "SkipRope" : Cond) ∈ lw_tbl := List.mem_of_getElem? (i := 276) (by decide +kernel)
set_option maxRecDepth 20000 in
theorem wf_X3_19 : (.fieldLinkNest RX3 19 "SkipRope" "scene" "LSkipRope$Scene;" "SkipRope" : Cond) ∈ lw_tbl := List.mem_of_getElem? (i := 277) (by decide +kernel)
set_option maxRecDepth 20000 in
theorem wf_X4_19 : (.fieldLinkNest RX4 19 "SkipRope" "scene" "LSkipRope$Scene;" "SkipRope" : Cond) ∈ lw_tbl := List.mem_of_getElem? (i := 278) (by decide +kernel)
set_option maxRecDepth 20000 in
theorem wf_X11_33 : (.fieldLink RX11 33 "SkipRope" "trial" "LSkipRope$Scene;" : Cond) ∈ zt := zt_of (List.mem_of_getElem? (i := 279) (by decide +kernel)) rfl
set_option maxRecDepth 20000 in
theorem wf_X11_39 : (.fieldLink RX11 39 "SkipRope" "past" "LSkipRope$Past;" : Cond) ∈ zt := zt_of (List.mem_of_getElem? (i := 280) (by decide +kernel)) rfl
set_option maxRecDepth 20000 in
theorem wf_X11_43 : (.fieldLink RX11 43 "SkipRope" "images" "[LSkipRope$Scene;" : Cond) ∈ zt := zt_of (List.mem_of_getElem? (i := 281) (by decide +kernel)) rfl
set_option maxRecDepth 20000 in
theorem wf_X11_47 : (.fieldLink RX11 47 "SkipRope" "kept" "[Z" : Cond) ∈ zt := zt_of (List.mem_of_getElem? (i := 282) (by decide +kernel)) rfl
set_option maxRecDepth 20000 in
theorem wf_X11_54 : (.fieldLink RX11 54 "SkipRope" "sight" "LSkipRope$Sight;" : Cond) ∈ zt := zt_of (List.mem_of_getElem? (i := 283) (by decide +kernel)) rfl
set_option maxRecDepth 20000 in
theorem wf_X11_76 : (.fieldLink RX11 76 "SkipRope" "kinds" "[LSkipRope$JumperKind;" : Cond) ∈ zt := zt_of (List.mem_of_getElem? (i := 284) (by decide +kernel)) rfl
set_option maxRecDepth 20000 in
theorem wf_X5_7 : (.fieldLinkNest RX5 7 "SkipRope" "asked" "J" "SkipRope" : Cond) ∈ lw_tbl := List.mem_of_getElem? (i := 285) (by decide +kernel)
set_option maxRecDepth 20000 in
theorem wf_X0_7 : (.fieldLinkNest RX0 7 "SkipRope" "asked" "J" "SkipRope" : Cond) ∈ lw_tbl := List.mem_of_getElem? (i := 286) (by decide +kernel)
set_option maxRecDepth 20000 in
theorem wf_X2_7 : (.fieldLinkNest RX2 7 "SkipRope" "asked" "J" "SkipRope" : Cond) ∈ lw_tbl := List.mem_of_getElem? (i := 287) (by decide +kernel)
set_option maxRecDepth 20000 in
theorem wf_X3_7 : (.fieldLinkNest RX3 7 "SkipRope" "asked" "J" "SkipRope" : Cond) ∈ lw_tbl := List.mem_of_getElem? (i := 288) (by decide +kernel)
set_option maxRecDepth 20000 in
theorem wf_X4_7 : (.fieldLinkNest RX4 7 "SkipRope" "asked" "J" "SkipRope" : Cond) ∈ lw_tbl := List.mem_of_getElem? (i := 289) (by decide +kernel)
set_option maxRecDepth 20000 in
theorem wf_X7_7 : (.fieldLinkNest RX7 7 "SkipRope" "asked" "J" "SkipRope" : Cond) ∈ lw_tbl := List.mem_of_getElem? (i := 290) (by decide +kernel)
set_option maxRecDepth 20000 in
theorem wf_X11_222 : (.fieldLink RX11 222 "SkipRope" "asked" "J" : Cond) ∈ zt := zt_of (List.mem_of_getElem? (i := 291) (by decide +kernel)) rfl
set_option maxRecDepth 20000 in
theorem wu_X11 : (.superclass RX11 "java/lang/Object" : Cond) ∈ zt := zt_of (List.mem_of_getElem? (i := 314) (by decide +kernel)) rfl
set_option maxRecDepth 20000 in
theorem wm_L_13 : (.methodLink RL 13 yX11_type : Cond) ∈ zt := zt_of (List.mem_of_getElem? (i := 315) (by decide +kernel)) rfl
set_option maxRecDepth 20000 in
theorem wo_X11_type : (.instanceMethod yX11_type : Cond) ∈ zt := zt_of (List.mem_of_getElem? (i := 316) (by decide +kernel)) rfl
set_option maxRecDepth 20000 in
theorem we_X11_X11_type : (.selects RX11 yX11_type yX11_type : Cond) ∈ zt := zt_of (List.mem_of_getElem? (i := 317) (by decide +kernel)) rfl
set_option maxRecDepth 20000 in
theorem wd_X11_type : (.code yX11_type cX11_type 2 (some .int) : Cond) ∈ zt := zt_of (List.mem_of_getElem? (i := 318) rfl) rfl
set_option maxRecDepth 20000 in
theorem wm_L_18 : (.methodLink RL 18 yX11_clear : Cond) ∈ zt := zt_of (List.mem_of_getElem? (i := 319) (by decide +kernel)) rfl
set_option maxRecDepth 20000 in
theorem wo_X11_clear : (.instanceMethod yX11_clear : Cond) ∈ zt := zt_of (List.mem_of_getElem? (i := 320) (by decide +kernel)) rfl
set_option maxRecDepth 20000 in
theorem we_X11_X11_clear : (.selects RX11 yX11_clear yX11_clear : Cond) ∈ zt := zt_of (List.mem_of_getElem? (i := 321) (by decide +kernel)) rfl
set_option maxRecDepth 20000 in
theorem wd_X11_clear : (.code yX11_clear cX11_clear 2 (some .int) : Cond) ∈ zt := zt_of (List.mem_of_getElem? (i := 322) rfl) rfl
set_option maxRecDepth 20000 in
theorem wm_L_23 : (.methodLink RL 23 yX11_yard : Cond) ∈ zt := zt_of (List.mem_of_getElem? (i := 323) (by decide +kernel)) rfl
set_option maxRecDepth 20000 in
theorem wo_X11_yard : (.instanceMethod yX11_yard : Cond) ∈ zt := zt_of (List.mem_of_getElem? (i := 324) (by decide +kernel)) rfl
set_option maxRecDepth 20000 in
theorem we_X11_X11_yard : (.selects RX11 yX11_yard yX11_yard : Cond) ∈ zt := zt_of (List.mem_of_getElem? (i := 325) (by decide +kernel)) rfl
set_option maxRecDepth 20000 in
theorem wd_X11_yard : (.code yX11_yard cX11_yard 4 (some .int) : Cond) ∈ zt := zt_of (List.mem_of_getElem? (i := 326) rfl) rfl
set_option maxRecDepth 20000 in
theorem wm_X11_92 : (.methodLink RX11 92 yX10_readInto : Cond) ∈ zt := zt_of (List.mem_of_getElem? (i := 327) (by decide +kernel)) rfl
set_option maxRecDepth 20000 in
theorem wo_X10_readInto : (.instanceMethod yX10_readInto : Cond) ∈ zt := zt_of (List.mem_of_getElem? (i := 328) (by decide +kernel)) rfl
set_option maxRecDepth 20000 in
theorem we_X10_X10_readInto : (.selects RX10 yX10_readInto yX10_readInto : Cond) ∈ zt := zt_of (List.mem_of_getElem? (i := 329) (by decide +kernel)) rfl
set_option maxRecDepth 20000 in
theorem wd_X10_readInto : (.code yX10_readInto cX10_readInto 5 (some .int) : Cond) ∈ zt := zt_of (List.mem_of_getElem? (i := 330) rfl) rfl
set_option maxRecDepth 20000 in
theorem wm_X10_18 : (.methodLink RX10 18 yX1_reset : Cond) ∈ zt := zt_of (List.mem_of_getElem? (i := 331) (by decide +kernel)) rfl
set_option maxRecDepth 20000 in
theorem wo_X1_reset : (.instanceMethod yX1_reset : Cond) ∈ zt := zt_of (List.mem_of_getElem? (i := 332) (by decide +kernel)) rfl
set_option maxRecDepth 20000 in
theorem we_X1_X1_reset : (.selects RX1 yX1_reset yX1_reset : Cond) ∈ zt := zt_of (List.mem_of_getElem? (i := 333) (by decide +kernel)) rfl
set_option maxRecDepth 20000 in
theorem wd_X1_reset : (.code yX1_reset cX1_reset 1 none : Cond) ∈ zt := zt_of (List.mem_of_getElem? (i := 334) rfl) rfl
set_option maxRecDepth 20000 in
theorem wm_X10_30 : (.methodLink RX10 30 yX10_advance : Cond) ∈ zt := zt_of (List.mem_of_getElem? (i := 335) (by decide +kernel)) rfl
set_option maxRecDepth 20000 in
theorem wo_X10_advance : (.instanceMethod yX10_advance : Cond) ∈ zt := zt_of (List.mem_of_getElem? (i := 337) (by decide +kernel)) rfl
set_option maxRecDepth 20000 in
theorem wd_X10_advance : (.code yX10_advance cX10_advance 2 none : Cond) ∈ zt := zt_of (List.mem_of_getElem? (i := 338) rfl) rfl
set_option maxRecDepth 20000 in
theorem wm_X10_76 : (.methodLink RX10 76 yX10_isDigit : Cond) ∈ zt := zt_of (List.mem_of_getElem? (i := 339) (by decide +kernel)) rfl
set_option maxRecDepth 20000 in
theorem ws_X10_isDigit : (.static yX10_isDigit : Cond) ∈ zt := zt_of (List.mem_of_getElem? (i := 340) (by decide +kernel)) rfl
set_option maxRecDepth 20000 in
theorem wd_X10_isDigit : (.code yX10_isDigit cX10_isDigit 1 (some .boolean) : Cond) ∈ zt := zt_of (List.mem_of_getElem? (i := 341) rfl) rfl
set_option maxRecDepth 20000 in
theorem wm_X10_80 : (.methodLink RX10 80 yX10_advanceDigits : Cond) ∈ zt := zt_of (List.mem_of_getElem? (i := 342) (by decide +kernel)) rfl
set_option maxRecDepth 20000 in
theorem wo_X10_advanceDigits : (.instanceMethod yX10_advanceDigits : Cond) ∈ zt := zt_of (List.mem_of_getElem? (i := 344) (by decide +kernel)) rfl
set_option maxRecDepth 20000 in
theorem wd_X10_advanceDigits : (.code yX10_advanceDigits cX10_advanceDigits 3 none : Cond) ∈ zt := zt_of (List.mem_of_getElem? (i := 345) rfl) rfl
set_option maxRecDepth 20000 in
theorem wm_X10_83 : (.methodLink RX10 83 yJ9_min_7cf53 : Cond) ∈ zt := zt_of (List.mem_of_getElem? (i := 346) (by decide +kernel)) rfl
set_option maxRecDepth 20000 in
theorem ws_J9_min_7cf53 : (.static yJ9_min_7cf53 : Cond) ∈ zt := zt_of (List.mem_of_getElem? (i := 347) (by decide +kernel)) rfl
set_option maxRecDepth 20000 in
theorem wd_J9_min_7cf53 : (.code yJ9_min_7cf53 cJ9_min_7cf53 2 (some .int) : Cond) ∈ zt := zt_of (List.mem_of_getElem? (i := 348) rfl) rfl
set_option maxRecDepth 20000 in
theorem wm_X10_36 : (.methodLink RX10 36 yX10_readEvery : Cond) ∈ zt := zt_of (List.mem_of_getElem? (i := 349) (by decide +kernel)) rfl
set_option maxRecDepth 20000 in
theorem wo_X10_readEvery : (.instanceMethod yX10_readEvery : Cond) ∈ zt := zt_of (List.mem_of_getElem? (i := 351) (by decide +kernel)) rfl
set_option maxRecDepth 20000 in
theorem wd_X10_readEvery : (.code yX10_readEvery cX10_readEvery 2 (some .boolean) : Cond) ∈ zt := zt_of (List.mem_of_getElem? (i := 352) rfl) rfl
set_option maxRecDepth 20000 in
theorem wm_X10_49 : (.methodLink RX10 49 yX10_readNumber : Cond) ∈ zt := zt_of (List.mem_of_getElem? (i := 353) (by decide +kernel)) rfl
set_option maxRecDepth 20000 in
theorem wo_X10_readNumber : (.instanceMethod yX10_readNumber : Cond) ∈ zt := zt_of (List.mem_of_getElem? (i := 355) (by decide +kernel)) rfl
set_option maxRecDepth 20000 in
theorem wd_X10_readNumber : (.code yX10_readNumber cX10_readNumber 3 (some .boolean) : Cond) ∈ zt := zt_of (List.mem_of_getElem? (i := 356) rfl) rfl
set_option maxRecDepth 20000 in
theorem wm_X10_59 : (.methodLink RX10 59 yX10_readStop : Cond) ∈ zt := zt_of (List.mem_of_getElem? (i := 357) (by decide +kernel)) rfl
set_option maxRecDepth 20000 in
theorem wo_X10_readStop : (.instanceMethod yX10_readStop : Cond) ∈ zt := zt_of (List.mem_of_getElem? (i := 359) (by decide +kernel)) rfl
set_option maxRecDepth 20000 in
theorem wd_X10_readStop : (.code yX10_readStop cX10_readStop 1 (some .boolean) : Cond) ∈ zt := zt_of (List.mem_of_getElem? (i := 360) rfl) rfl
set_option maxRecDepth 20000 in
theorem wm_X10_43 : (.methodLink RX10 43 yX10_readJumper : Cond) ∈ zt := zt_of (List.mem_of_getElem? (i := 361) (by decide +kernel)) rfl
set_option maxRecDepth 20000 in
theorem wo_X10_readJumper : (.instanceMethod yX10_readJumper : Cond) ∈ zt := zt_of (List.mem_of_getElem? (i := 363) (by decide +kernel)) rfl
set_option maxRecDepth 20000 in
theorem wd_X10_readJumper : (.code yX10_readJumper cX10_readJumper 3 (some .boolean) : Cond) ∈ zt := zt_of (List.mem_of_getElem? (i := 364) rfl) rfl
set_option maxRecDepth 20000 in
theorem wf_X10_63 : (.fieldLink RX10 63 "SkipRope$Text" "LEAST" "[I" : Cond) ∈ zt := zt_of (List.mem_of_getElem? (i := 365) (by decide +kernel)) rfl
set_option maxRecDepth 20000 in
theorem wf_X10_66 : (.fieldLink RX10 66 "SkipRope$Text" "MOST" "[I" : Cond) ∈ zt := zt_of (List.mem_of_getElem? (i := 367) (by decide +kernel)) rfl
set_option maxRecDepth 20000 in
theorem wm_X10_69 : (.methodLink RX10 69 yX1_add : Cond) ∈ zt := zt_of (List.mem_of_getElem? (i := 369) (by decide +kernel)) rfl
set_option maxRecDepth 20000 in
theorem wo_X1_add : (.instanceMethod yX1_add : Cond) ∈ zt := zt_of (List.mem_of_getElem? (i := 370) (by decide +kernel)) rfl
set_option maxRecDepth 20000 in
theorem we_X1_X1_add : (.selects RX1 yX1_add yX1_add : Cond) ∈ zt := zt_of (List.mem_of_getElem? (i := 371) (by decide +kernel)) rfl
set_option maxRecDepth 20000 in
theorem wd_X1_add : (.code yX1_add cX1_add 5 none : Cond) ∈ zt := zt_of (List.mem_of_getElem? (i := 372) rfl) rfl
set_option maxRecDepth 20000 in
theorem wm_L_27 : (.methodLink RL 27 yX11_jumper : Cond) ∈ zt := zt_of (List.mem_of_getElem? (i := 373) (by decide +kernel)) rfl
set_option maxRecDepth 20000 in
theorem wo_X11_jumper : (.instanceMethod yX11_jumper : Cond) ∈ zt := zt_of (List.mem_of_getElem? (i := 374) (by decide +kernel)) rfl
set_option maxRecDepth 20000 in
theorem we_X11_X11_jumper : (.selects RX11 yX11_jumper yX11_jumper : Cond) ∈ zt := zt_of (List.mem_of_getElem? (i := 375) (by decide +kernel)) rfl
set_option maxRecDepth 20000 in
theorem wd_X11_jumper : (.code yX11_jumper cX11_jumper 3 (some .int) : Cond) ∈ zt := zt_of (List.mem_of_getElem? (i := 376) rfl) rfl
set_option maxRecDepth 20000 in
theorem wm_X11_103 : (.methodLink RX11 103 yX11_isNobody : Cond) ∈ zt := zt_of (List.mem_of_getElem? (i := 377) (by decide +kernel)) rfl
set_option maxRecDepth 20000 in
theorem wo_X11_isNobody : (.instanceMethod yX11_isNobody : Cond) ∈ zt := zt_of (List.mem_of_getElem? (i := 379) (by decide +kernel)) rfl
set_option maxRecDepth 20000 in
theorem wd_X11_isNobody : (.code yX11_isNobody cX11_isNobody 2 (some .boolean) : Cond) ∈ zt := zt_of (List.mem_of_getElem? (i := 380) rfl) rfl
set_option maxRecDepth 20000 in
theorem wm_X11_116 : (.methodLink RX11 116 yX8_holds : Cond) ∈ zt := zt_of (List.mem_of_getElem? (i := 381) (by decide +kernel)) rfl
set_option maxRecDepth 20000 in
theorem wo_X8_holds : (.instanceMethod yX8_holds : Cond) ∈ zt := zt_of (List.mem_of_getElem? (i := 382) (by decide +kernel)) rfl
set_option maxRecDepth 20000 in
theorem we_X8_X8_holds : (.selects RX8 yX8_holds yX8_holds : Cond) ∈ zt := zt_of (List.mem_of_getElem? (i := 383) (by decide +kernel)) rfl
set_option maxRecDepth 20000 in
theorem wd_X8_holds : (.code yX8_holds cX8_holds 2 (some .boolean) : Cond) ∈ zt := zt_of (List.mem_of_getElem? (i := 384) rfl) rfl
set_option maxRecDepth 20000 in
theorem wm_X11_125 : (.methodLink RX11 125 yX11_tripNow : Cond) ∈ zt := zt_of (List.mem_of_getElem? (i := 385) (by decide +kernel)) rfl
set_option maxRecDepth 20000 in
theorem wo_X11_tripNow : (.instanceMethod yX11_tripNow : Cond) ∈ zt := zt_of (List.mem_of_getElem? (i := 387) (by decide +kernel)) rfl
set_option maxRecDepth 20000 in
theorem wd_X11_tripNow : (.code yX11_tripNow cX11_tripNow 2 (some .int) : Cond) ∈ zt := zt_of (List.mem_of_getElem? (i := 388) rfl) rfl
set_option maxRecDepth 20000 in
theorem wm_X11_174 : (.methodLink RX11 174 yX8_become : Cond) ∈ zt := zt_of (List.mem_of_getElem? (i := 389) (by decide +kernel)) rfl
set_option maxRecDepth 20000 in
theorem wo_X8_become : (.instanceMethod yX8_become : Cond) ∈ zt := zt_of (List.mem_of_getElem? (i := 390) (by decide +kernel)) rfl
set_option maxRecDepth 20000 in
theorem we_X8_X8_become : (.selects RX8 yX8_become yX8_become : Cond) ∈ zt := zt_of (List.mem_of_getElem? (i := 391) (by decide +kernel)) rfl
set_option maxRecDepth 20000 in
theorem wd_X8_become : (.code yX8_become cX8_become 2 none : Cond) ∈ zt := zt_of (List.mem_of_getElem? (i := 392) rfl) rfl
set_option maxRecDepth 20000 in
theorem wm_X8_44 : (.methodLink RX8 44 arraycopyName : Cond) ∈ zt := zt_of (List.mem_of_getElem? (i := 393) (by decide +kernel)) rfl
set_option maxRecDepth 20000 in
theorem ws_java_lang_Systemarraycopy : (.static arraycopyName : Cond) ∈ zt := zt_of (List.mem_of_getElem? (i := 394) (by decide +kernel)) rfl
set_option maxRecDepth 20000 in
theorem wt_java_lang_Systemarraycopy : (.native arraycopyName : Cond) ∈ zt := zt_of (List.mem_of_getElem? (i := 395) (by decide +kernel)) rfl
set_option maxRecDepth 20000 in
theorem wm_X11_180 : (.methodLink RX11 180 yX11_playTillOut : Cond) ∈ zt := zt_of (List.mem_of_getElem? (i := 396) (by decide +kernel)) rfl
set_option maxRecDepth 20000 in
theorem wo_X11_playTillOut : (.instanceMethod yX11_playTillOut : Cond) ∈ zt := zt_of (List.mem_of_getElem? (i := 398) (by decide +kernel)) rfl
set_option maxRecDepth 20000 in
theorem wd_X11_playTillOut : (.code yX11_playTillOut cX11_playTillOut 3 (some .int) : Cond) ∈ zt := zt_of (List.mem_of_getElem? (i := 399) rfl) rfl
set_option maxRecDepth 20000 in
theorem wm_X11_152 : (.methodLink RX11 152 yX8_step : Cond) ∈ zt := zt_of (List.mem_of_getElem? (i := 400) (by decide +kernel)) rfl
set_option maxRecDepth 20000 in
theorem wo_X8_step : (.instanceMethod yX8_step : Cond) ∈ zt := zt_of (List.mem_of_getElem? (i := 401) (by decide +kernel)) rfl
set_option maxRecDepth 20000 in
theorem we_X8_X8_step : (.selects RX8 yX8_step yX8_step : Cond) ∈ zt := zt_of (List.mem_of_getElem? (i := 402) (by decide +kernel)) rfl
set_option maxRecDepth 20000 in
theorem wd_X8_step : (.code yX8_step cX8_step 3 (some .int) : Cond) ∈ zt := zt_of (List.mem_of_getElem? (i := 403) rfl) rfl
set_option maxRecDepth 20000 in
theorem wm_X8_50 : (.methodLink RX8 50 yX8_jumpAll : Cond) ∈ zt := zt_of (List.mem_of_getElem? (i := 404) (by decide +kernel)) rfl
set_option maxRecDepth 20000 in
theorem wo_X8_jumpAll : (.instanceMethod yX8_jumpAll : Cond) ∈ zt := zt_of (List.mem_of_getElem? (i := 406) (by decide +kernel)) rfl
set_option maxRecDepth 20000 in
theorem wd_X8_jumpAll : (.code yX8_jumpAll cX8_jumpAll 3 none : Cond) ∈ zt := zt_of (List.mem_of_getElem? (i := 407) rfl) rfl
set_option maxRecDepth 20000 in
theorem wm_X8_61 : (.methodLink RX8 61 yX8_holds : Cond) ∈ zt := zt_of (List.mem_of_getElem? (i := 408) (by decide +kernel)) rfl
set_option maxRecDepth 20000 in
theorem wm_X8_54 : (.methodLink RX8 54 yX8_airborne : Cond) ∈ zt := zt_of (List.mem_of_getElem? (i := 409) (by decide +kernel)) rfl
set_option maxRecDepth 20000 in
theorem wo_X8_airborne : (.instanceMethod yX8_airborne : Cond) ∈ zt := zt_of (List.mem_of_getElem? (i := 411) (by decide +kernel)) rfl
set_option maxRecDepth 20000 in
theorem wd_X8_airborne : (.code yX8_airborne cX8_airborne 3 (some .int) : Cond) ∈ zt := zt_of (List.mem_of_getElem? (i := 412) rfl) rfl
set_option maxRecDepth 20000 in
theorem wm_X8_58 : (.methodLink RX8 58 yX8_pass : Cond) ∈ zt := zt_of (List.mem_of_getElem? (i := 413) (by decide +kernel)) rfl
set_option maxRecDepth 20000 in
theorem wo_X8_pass : (.instanceMethod yX8_pass : Cond) ∈ zt := zt_of (List.mem_of_getElem? (i := 415) (by decide +kernel)) rfl
set_option maxRecDepth 20000 in
theorem wd_X8_pass : (.code yX8_pass cX8_pass 2 none : Cond) ∈ zt := zt_of (List.mem_of_getElem? (i := 416) rfl) rfl
set_option maxRecDepth 20000 in
theorem wm_L_32 : (.methodLink RL 32 yX11_now : Cond) ∈ zt := zt_of (List.mem_of_getElem? (i := 417) (by decide +kernel)) rfl
set_option maxRecDepth 20000 in
theorem wo_X11_now : (.instanceMethod yX11_now : Cond) ∈ zt := zt_of (List.mem_of_getElem? (i := 418) (by decide +kernel)) rfl
set_option maxRecDepth 20000 in
theorem we_X11_X11_now : (.selects RX11 yX11_now yX11_now : Cond) ∈ zt := zt_of (List.mem_of_getElem? (i := 419) (by decide +kernel)) rfl
set_option maxRecDepth 20000 in
theorem wd_X11_now : (.code yX11_now cX11_now 2 (some .int) : Cond) ∈ zt := zt_of (List.mem_of_getElem? (i := 420) rfl) rfl
set_option maxRecDepth 20000 in
theorem wm_X11_141 : (.methodLink RX11 141 yX11_playTillFirst : Cond) ∈ zt := zt_of (List.mem_of_getElem? (i := 421) (by decide +kernel)) rfl
set_option maxRecDepth 20000 in
theorem wo_X11_playTillFirst : (.instanceMethod yX11_playTillFirst : Cond) ∈ zt := zt_of (List.mem_of_getElem? (i := 423) (by decide +kernel)) rfl
set_option maxRecDepth 20000 in
theorem wd_X11_playTillFirst : (.code yX11_playTillFirst cX11_playTillFirst 2 (some .int) : Cond) ∈ zt := zt_of (List.mem_of_getElem? (i := 424) rfl) rfl
set_option maxRecDepth 20000 in
theorem wm_X11_145 : (.methodLink RX11 145 yX11_firstOnes : Cond) ∈ zt := zt_of (List.mem_of_getElem? (i := 425) (by decide +kernel)) rfl
set_option maxRecDepth 20000 in
theorem wo_X11_firstOnes : (.instanceMethod yX11_firstOnes : Cond) ∈ zt := zt_of (List.mem_of_getElem? (i := 427) (by decide +kernel)) rfl
set_option maxRecDepth 20000 in
theorem wd_X11_firstOnes : (.code yX11_firstOnes cX11_firstOnes 1 (some .int) : Cond) ∈ zt := zt_of (List.mem_of_getElem? (i := 428) rfl) rfl
set_option maxRecDepth 20000 in
theorem wm_L_36 : (.methodLink RL 36 yX11_ticks : Cond) ∈ zt := zt_of (List.mem_of_getElem? (i := 429) (by decide +kernel)) rfl
set_option maxRecDepth 20000 in
theorem wo_X11_ticks : (.instanceMethod yX11_ticks : Cond) ∈ zt := zt_of (List.mem_of_getElem? (i := 430) (by decide +kernel)) rfl
set_option maxRecDepth 20000 in
theorem we_X11_X11_ticks : (.selects RX11 yX11_ticks yX11_ticks : Cond) ∈ zt := zt_of (List.mem_of_getElem? (i := 431) (by decide +kernel)) rfl
set_option maxRecDepth 20000 in
theorem wd_X11_ticks : (.code yX11_ticks cX11_ticks 1 (some .int) : Cond) ∈ zt := zt_of (List.mem_of_getElem? (i := 432) rfl) rfl
set_option maxRecDepth 20000 in
theorem wm_X11_148 : (.methodLink RX11 148 yX6_push : Cond) ∈ zt := zt_of (List.mem_of_getElem? (i := 433) (by decide +kernel)) rfl
set_option maxRecDepth 20000 in
theorem wo_X6_push : (.instanceMethod yX6_push : Cond) ∈ zt := zt_of (List.mem_of_getElem? (i := 434) (by decide +kernel)) rfl
set_option maxRecDepth 20000 in
theorem we_X6_X6_push : (.selects RX6 yX6_push yX6_push : Cond) ∈ zt := zt_of (List.mem_of_getElem? (i := 435) (by decide +kernel)) rfl
set_option maxRecDepth 20000 in
theorem wd_X6_push : (.code yX6_push cX6_push 3 none : Cond) ∈ zt := zt_of (List.mem_of_getElem? (i := 436) rfl) rfl
set_option maxRecDepth 20000 in
theorem wm_X6_22 : (.methodLink RX6 22 yX8_become : Cond) ∈ zt := zt_of (List.mem_of_getElem? (i := 437) (by decide +kernel)) rfl
set_option maxRecDepth 20000 in
theorem wm_X6_29 : (.methodLink RX6 29 yJ9_min_7cf53 : Cond) ∈ zt := zt_of (List.mem_of_getElem? (i := 438) (by decide +kernel)) rfl
set_option maxRecDepth 20000 in
theorem wm_L_40 : (.methodLink RL 40 yX11_speeds : Cond) ∈ zt := zt_of (List.mem_of_getElem? (i := 439) (by decide +kernel)) rfl
set_option maxRecDepth 20000 in
theorem wo_X11_speeds : (.instanceMethod yX11_speeds : Cond) ∈ zt := zt_of (List.mem_of_getElem? (i := 440) (by decide +kernel)) rfl
set_option maxRecDepth 20000 in
theorem we_X11_X11_speeds : (.selects RX11 yX11_speeds yX11_speeds : Cond) ∈ zt := zt_of (List.mem_of_getElem? (i := 441) (by decide +kernel)) rfl
set_option maxRecDepth 20000 in
theorem wd_X11_speeds : (.code yX11_speeds cX11_speeds 3 (some .int) : Cond) ∈ zt := zt_of (List.mem_of_getElem? (i := 442) rfl) rfl
set_option maxRecDepth 20000 in
theorem wm_X11_155 : (.methodLink RX11 155 yX8_turn : Cond) ∈ zt := zt_of (List.mem_of_getElem? (i := 443) (by decide +kernel)) rfl
set_option maxRecDepth 20000 in
theorem wo_X8_turn : (.instanceMethod yX8_turn : Cond) ∈ zt := zt_of (List.mem_of_getElem? (i := 444) (by decide +kernel)) rfl
set_option maxRecDepth 20000 in
theorem we_X8_X8_turn : (.selects RX8 yX8_turn yX8_turn : Cond) ∈ zt := zt_of (List.mem_of_getElem? (i := 445) (by decide +kernel)) rfl
set_option maxRecDepth 20000 in
theorem wd_X8_turn : (.code yX8_turn cX8_turn 2 none : Cond) ∈ zt := zt_of (List.mem_of_getElem? (i := 446) rfl) rfl
set_option maxRecDepth 20000 in
theorem wm_X8_71 : (.methodLink RX8 71 yJ9_min_7cf53 : Cond) ∈ zt := zt_of (List.mem_of_getElem? (i := 447) (by decide +kernel)) rfl
set_option maxRecDepth 20000 in
theorem wm_L_44 : (.methodLink RL 44 yX11_goes : Cond) ∈ zt := zt_of (List.mem_of_getElem? (i := 448) (by decide +kernel)) rfl
set_option maxRecDepth 20000 in
theorem wo_X11_goes : (.instanceMethod yX11_goes : Cond) ∈ zt := zt_of (List.mem_of_getElem? (i := 449) (by decide +kernel)) rfl
set_option maxRecDepth 20000 in
theorem we_X11_X11_goes : (.selects RX11 yX11_goes yX11_goes : Cond) ∈ zt := zt_of (List.mem_of_getElem? (i := 450) (by decide +kernel)) rfl
set_option maxRecDepth 20000 in
theorem wd_X11_goes : (.code yX11_goes cX11_goes 2 (some .int) : Cond) ∈ zt := zt_of (List.mem_of_getElem? (i := 451) rfl) rfl
set_option maxRecDepth 20000 in
theorem wm_X11_159 : (.methodLink RX11 159 yX8_leave : Cond) ∈ zt := zt_of (List.mem_of_getElem? (i := 452) (by decide +kernel)) rfl
set_option maxRecDepth 20000 in
theorem wo_X8_leave : (.instanceMethod yX8_leave : Cond) ∈ zt := zt_of (List.mem_of_getElem? (i := 453) (by decide +kernel)) rfl
set_option maxRecDepth 20000 in
theorem we_X8_X8_leave : (.selects RX8 yX8_leave yX8_leave : Cond) ∈ zt := zt_of (List.mem_of_getElem? (i := 454) (by decide +kernel)) rfl
set_option maxRecDepth 20000 in
theorem wd_X8_leave : (.code yX8_leave cX8_leave 2 none : Cond) ∈ zt := zt_of (List.mem_of_getElem? (i := 455) rfl) rfl
set_option maxRecDepth 20000 in
theorem wm_X11_162 : (.methodLink RX11 162 yJ6_bitCount_0f7a4 : Cond) ∈ zt := zt_of (List.mem_of_getElem? (i := 456) (by decide +kernel)) rfl
set_option maxRecDepth 20000 in
theorem ws_J6_bitCount_0f7a4 : (.static yJ6_bitCount_0f7a4 : Cond) ∈ zt := zt_of (List.mem_of_getElem? (i := 457) (by decide +kernel)) rfl
set_option maxRecDepth 20000 in
theorem wd_J6_bitCount_0f7a4 : (.code yJ6_bitCount_0f7a4 cJ6_bitCount_0f7a4 1 (some .int) : Cond) ∈ zt := zt_of (List.mem_of_getElem? (i := 458) rfl) rfl
set_option maxRecDepth 20000 in
theorem wc_J6_265 : (.constant RJ6 265 (1431655765) : Cond) ∈ zt := zt_of (List.mem_of_getElem? (i := 459) (by decide +kernel)) rfl
set_option maxRecDepth 20000 in
theorem wc_J6_266 : (.constant RJ6 266 (858993459) : Cond) ∈ zt := zt_of (List.mem_of_getElem? (i := 460) (by decide +kernel)) rfl
set_option maxRecDepth 20000 in
theorem wc_J6_267 : (.constant RJ6 267 (252645135) : Cond) ∈ zt := zt_of (List.mem_of_getElem? (i := 461) (by decide +kernel)) rfl
set_option maxRecDepth 20000 in
theorem wm_L_48 : (.methodLink RL 48 yX11_comes : Cond) ∈ zt := zt_of (List.mem_of_getElem? (i := 462) (by decide +kernel)) rfl
set_option maxRecDepth 20000 in
theorem wo_X11_comes : (.instanceMethod yX11_comes : Cond) ∈ zt := zt_of (List.mem_of_getElem? (i := 463) (by decide +kernel)) rfl
set_option maxRecDepth 20000 in
theorem we_X11_X11_comes : (.selects RX11 yX11_comes yX11_comes : Cond) ∈ zt := zt_of (List.mem_of_getElem? (i := 464) (by decide +kernel)) rfl
set_option maxRecDepth 20000 in
theorem wd_X11_comes : (.code yX11_comes cX11_comes 3 (some .int) : Cond) ∈ zt := zt_of (List.mem_of_getElem? (i := 465) rfl) rfl
set_option maxRecDepth 20000 in
theorem wm_X11_167 : (.methodLink RX11 167 yX8_enter : Cond) ∈ zt := zt_of (List.mem_of_getElem? (i := 466) (by decide +kernel)) rfl
set_option maxRecDepth 20000 in
theorem wo_X8_enter : (.instanceMethod yX8_enter : Cond) ∈ zt := zt_of (List.mem_of_getElem? (i := 467) (by decide +kernel)) rfl
set_option maxRecDepth 20000 in
theorem we_X8_X8_enter : (.selects RX8 yX8_enter yX8_enter : Cond) ∈ zt := zt_of (List.mem_of_getElem? (i := 468) (by decide +kernel)) rfl
set_option maxRecDepth 20000 in
theorem wd_X8_enter : (.code yX8_enter cX8_enter 3 none : Cond) ∈ zt := zt_of (List.mem_of_getElem? (i := 469) rfl) rfl
set_option maxRecDepth 20000 in
theorem wm_L_52 : (.methodLink RL 52 yX11_undo : Cond) ∈ zt := zt_of (List.mem_of_getElem? (i := 470) (by decide +kernel)) rfl
set_option maxRecDepth 20000 in
theorem wo_X11_undo : (.instanceMethod yX11_undo : Cond) ∈ zt := zt_of (List.mem_of_getElem? (i := 471) (by decide +kernel)) rfl
set_option maxRecDepth 20000 in
theorem we_X11_X11_undo : (.selects RX11 yX11_undo yX11_undo : Cond) ∈ zt := zt_of (List.mem_of_getElem? (i := 472) (by decide +kernel)) rfl
set_option maxRecDepth 20000 in
theorem wd_X11_undo : (.code yX11_undo cX11_undo 1 (some .int) : Cond) ∈ zt := zt_of (List.mem_of_getElem? (i := 473) rfl) rfl
set_option maxRecDepth 20000 in
theorem wm_X11_171 : (.methodLink RX11 171 yX6_popInto : Cond) ∈ zt := zt_of (List.mem_of_getElem? (i := 474) (by decide +kernel)) rfl
set_option maxRecDepth 20000 in
theorem wo_X6_popInto : (.instanceMethod yX6_popInto : Cond) ∈ zt := zt_of (List.mem_of_getElem? (i := 475) (by decide +kernel)) rfl
set_option maxRecDepth 20000 in
theorem we_X6_X6_popInto : (.selects RX6 yX6_popInto yX6_popInto : Cond) ∈ zt := zt_of (List.mem_of_getElem? (i := 476) (by decide +kernel)) rfl
set_option maxRecDepth 20000 in
theorem wd_X6_popInto : (.code yX6_popInto cX6_popInto 4 none : Cond) ∈ zt := zt_of (List.mem_of_getElem? (i := 477) rfl) rfl
set_option maxRecDepth 20000 in
theorem wm_L_56 : (.methodLink RL 56 yX11_stay : Cond) ∈ zt := zt_of (List.mem_of_getElem? (i := 478) (by decide +kernel)) rfl
set_option maxRecDepth 20000 in
theorem wo_X11_stay : (.instanceMethod yX11_stay : Cond) ∈ zt := zt_of (List.mem_of_getElem? (i := 479) (by decide +kernel)) rfl
set_option maxRecDepth 20000 in
theorem we_X11_X11_stay : (.selects RX11 yX11_stay yX11_stay : Cond) ∈ zt := zt_of (List.mem_of_getElem? (i := 480) (by decide +kernel)) rfl
set_option maxRecDepth 20000 in
theorem wd_X11_stay : (.code yX11_stay cX11_stay 2 (some .int) : Cond) ∈ zt := zt_of (List.mem_of_getElem? (i := 481) rfl) rfl
set_option maxRecDepth 20000 in
theorem wm_X11_177 : (.methodLink RX11 177 yX11_playOn : Cond) ∈ zt := zt_of (List.mem_of_getElem? (i := 482) (by decide +kernel)) rfl
set_option maxRecDepth 20000 in
theorem wo_X11_playOn : (.instanceMethod yX11_playOn : Cond) ∈ zt := zt_of (List.mem_of_getElem? (i := 484) (by decide +kernel)) rfl
set_option maxRecDepth 20000 in
theorem wd_X11_playOn : (.code yX11_playOn cX11_playOn 3 none : Cond) ∈ zt := zt_of (List.mem_of_getElem? (i := 485) rfl) rfl
set_option maxRecDepth 20000 in
theorem wm_L_60 : (.methodLink RL 60 yX11_pace : Cond) ∈ zt := zt_of (List.mem_of_getElem? (i := 486) (by decide +kernel)) rfl
set_option maxRecDepth 20000 in
theorem wo_X11_pace : (.instanceMethod yX11_pace : Cond) ∈ zt := zt_of (List.mem_of_getElem? (i := 487) (by decide +kernel)) rfl
set_option maxRecDepth 20000 in
theorem we_X11_X11_pace : (.selects RX11 yX11_pace yX11_pace : Cond) ∈ zt := zt_of (List.mem_of_getElem? (i := 488) (by decide +kernel)) rfl
set_option maxRecDepth 20000 in
theorem wd_X11_pace : (.code yX11_pace cX11_pace 6 (some .int) : Cond) ∈ zt := zt_of (List.mem_of_getElem? (i := 489) rfl) rfl
set_option maxRecDepth 20000 in
theorem wm_L_64 : (.methodLink RL 64 yX11_entry : Cond) ∈ zt := zt_of (List.mem_of_getElem? (i := 490) (by decide +kernel)) rfl
set_option maxRecDepth 20000 in
theorem wo_X11_entry : (.instanceMethod yX11_entry : Cond) ∈ zt := zt_of (List.mem_of_getElem? (i := 491) (by decide +kernel)) rfl
set_option maxRecDepth 20000 in
theorem we_X11_X11_entry : (.selects RX11 yX11_entry yX11_entry : Cond) ∈ zt := zt_of (List.mem_of_getElem? (i := 492) (by decide +kernel)) rfl
set_option maxRecDepth 20000 in
theorem wd_X11_entry : (.code yX11_entry cX11_entry 7 (some .int) : Cond) ∈ zt := zt_of (List.mem_of_getElem? (i := 493) rfl) rfl
set_option maxRecDepth 20000 in
theorem wm_L_68 : (.methodLink RL 68 yX11_odds : Cond) ∈ zt := zt_of (List.mem_of_getElem? (i := 494) (by decide +kernel)) rfl
set_option maxRecDepth 20000 in
theorem wo_X11_odds : (.instanceMethod yX11_odds : Cond) ∈ zt := zt_of (List.mem_of_getElem? (i := 495) (by decide +kernel)) rfl
set_option maxRecDepth 20000 in
theorem we_X11_X11_odds : (.selects RX11 yX11_odds yX11_odds : Cond) ∈ zt := zt_of (List.mem_of_getElem? (i := 496) (by decide +kernel)) rfl
set_option maxRecDepth 20000 in
theorem wd_X11_odds : (.code yX11_odds cX11_odds 7 (some .int) : Cond) ∈ zt := zt_of (List.mem_of_getElem? (i := 497) rfl) rfl
set_option maxRecDepth 20000 in
theorem wm_X11_184 : (.methodLink RX11 184 yX11_tenthsThatStay : Cond) ∈ zt := zt_of (List.mem_of_getElem? (i := 498) (by decide +kernel)) rfl
set_option maxRecDepth 20000 in
theorem wo_X11_tenthsThatStay : (.instanceMethod yX11_tenthsThatStay : Cond) ∈ zt := zt_of (List.mem_of_getElem? (i := 500) (by decide +kernel)) rfl
set_option maxRecDepth 20000 in
theorem wd_X11_tenthsThatStay : (.code yX11_tenthsThatStay cX11_tenthsThatStay 5 (some .int) : Cond) ∈ zt := zt_of (List.mem_of_getElem? (i := 501) rfl) rfl
set_option maxRecDepth 20000 in
theorem wm_X11_226 : (.methodLink RX11 226 yX11_staysAlone : Cond) ∈ zt := zt_of (List.mem_of_getElem? (i := 502) (by decide +kernel)) rfl
set_option maxRecDepth 20000 in
theorem wo_X11_staysAlone : (.instanceMethod yX11_staysAlone : Cond) ∈ zt := zt_of (List.mem_of_getElem? (i := 504) (by decide +kernel)) rfl
set_option maxRecDepth 20000 in
theorem wd_X11_staysAlone : (.code yX11_staysAlone cX11_staysAlone 4 (some .boolean) : Cond) ∈ zt := zt_of (List.mem_of_getElem? (i := 505) rfl) rfl
set_option maxRecDepth 20000 in
theorem wm_X11_188 : (.methodLink RX11 188 yX11_commonDivisor : Cond) ∈ zt := zt_of (List.mem_of_getElem? (i := 506) (by decide +kernel)) rfl
set_option maxRecDepth 20000 in
theorem ws_X11_commonDivisor : (.static yX11_commonDivisor : Cond) ∈ zt := zt_of (List.mem_of_getElem? (i := 507) (by decide +kernel)) rfl
set_option maxRecDepth 20000 in
theorem wd_X11_commonDivisor : (.code yX11_commonDivisor cX11_commonDivisor 6 (some .int) : Cond) ∈ zt := zt_of (List.mem_of_getElem? (i := 508) rfl) rfl
set_option maxRecDepth 20000 in
theorem wm_L_73 : (.methodLink RL 73 yX11_sees : Cond) ∈ zt := zt_of (List.mem_of_getElem? (i := 509) (by decide +kernel)) rfl
set_option maxRecDepth 20000 in
theorem wo_X11_sees : (.instanceMethod yX11_sees : Cond) ∈ zt := zt_of (List.mem_of_getElem? (i := 510) (by decide +kernel)) rfl
set_option maxRecDepth 20000 in
theorem we_X11_X11_sees : (.selects RX11 yX11_sees yX11_sees : Cond) ∈ zt := zt_of (List.mem_of_getElem? (i := 511) (by decide +kernel)) rfl
set_option maxRecDepth 20000 in
theorem wd_X11_sees : (.code yX11_sees cX11_sees 4 (some .int) : Cond) ∈ zt := zt_of (List.mem_of_getElem? (i := 512) rfl) rfl
set_option maxRecDepth 20000 in
theorem wm_X11_192 : (.methodLink RX11 192 yX11_isNoHang : Cond) ∈ zt := zt_of (List.mem_of_getElem? (i := 513) (by decide +kernel)) rfl
set_option maxRecDepth 20000 in
theorem ws_X11_isNoHang : (.static yX11_isNoHang : Cond) ∈ zt := zt_of (List.mem_of_getElem? (i := 514) (by decide +kernel)) rfl
set_option maxRecDepth 20000 in
theorem wd_X11_isNoHang : (.code yX11_isNoHang cX11_isNoHang 1 (some .boolean) : Cond) ∈ zt := zt_of (List.mem_of_getElem? (i := 515) rfl) rfl
set_option maxRecDepth 20000 in
theorem wm_X11_195 : (.methodLink RX11 195 yX9_add : Cond) ∈ zt := zt_of (List.mem_of_getElem? (i := 516) (by decide +kernel)) rfl
set_option maxRecDepth 20000 in
theorem wo_X9_add : (.instanceMethod yX9_add : Cond) ∈ zt := zt_of (List.mem_of_getElem? (i := 517) (by decide +kernel)) rfl
set_option maxRecDepth 20000 in
theorem we_X9_X9_add : (.selects RX9 yX9_add yX9_add : Cond) ∈ zt := zt_of (List.mem_of_getElem? (i := 518) (by decide +kernel)) rfl
set_option maxRecDepth 20000 in
theorem wd_X9_add : (.code yX9_add cX9_add 4 none : Cond) ∈ zt := zt_of (List.mem_of_getElem? (i := 519) rfl) rfl
set_option maxRecDepth 20000 in
theorem wm_L_77 : (.methodLink RL 77 yX11_forget : Cond) ∈ zt := zt_of (List.mem_of_getElem? (i := 520) (by decide +kernel)) rfl
set_option maxRecDepth 20000 in
theorem wo_X11_forget : (.instanceMethod yX11_forget : Cond) ∈ zt := zt_of (List.mem_of_getElem? (i := 521) (by decide +kernel)) rfl
set_option maxRecDepth 20000 in
theorem we_X11_X11_forget : (.selects RX11 yX11_forget yX11_forget : Cond) ∈ zt := zt_of (List.mem_of_getElem? (i := 522) (by decide +kernel)) rfl
set_option maxRecDepth 20000 in
theorem wd_X11_forget : (.code yX11_forget cX11_forget 2 (some .int) : Cond) ∈ zt := zt_of (List.mem_of_getElem? (i := 523) rfl) rfl
set_option maxRecDepth 20000 in
theorem wm_L_81 : (.methodLink RL 81 yX11_ways : Cond) ∈ zt := zt_of (List.mem_of_getElem? (i := 524) (by decide +kernel)) rfl
set_option maxRecDepth 20000 in
theorem wo_X11_ways : (.instanceMethod yX11_ways : Cond) ∈ zt := zt_of (List.mem_of_getElem? (i := 525) (by decide +kernel)) rfl
set_option maxRecDepth 20000 in
theorem we_X11_X11_ways : (.selects RX11 yX11_ways yX11_ways : Cond) ∈ zt := zt_of (List.mem_of_getElem? (i := 526) (by decide +kernel)) rfl
set_option maxRecDepth 20000 in
theorem wd_X11_ways : (.code yX11_ways cX11_ways 2 (some .int) : Cond) ∈ zt := zt_of (List.mem_of_getElem? (i := 527) rfl) rfl
set_option maxRecDepth 20000 in
theorem wm_X11_199 : (.methodLink RX11 199 yX9_gather : Cond) ∈ zt := zt_of (List.mem_of_getElem? (i := 528) (by decide +kernel)) rfl
set_option maxRecDepth 20000 in
theorem wo_X9_gather : (.instanceMethod yX9_gather : Cond) ∈ zt := zt_of (List.mem_of_getElem? (i := 529) (by decide +kernel)) rfl
set_option maxRecDepth 20000 in
theorem we_X9_X9_gather : (.selects RX9 yX9_gather yX9_gather : Cond) ∈ zt := zt_of (List.mem_of_getElem? (i := 530) (by decide +kernel)) rfl
set_option maxRecDepth 20000 in
theorem wd_X9_gather : (.code yX9_gather cX9_gather 3 none : Cond) ∈ zt := zt_of (List.mem_of_getElem? (i := 531) rfl) rfl
set_option maxRecDepth 20000 in
theorem wm_X9_35 : (.methodLink RX9 35 yX9_agrees : Cond) ∈ zt := zt_of (List.mem_of_getElem? (i := 532) (by decide +kernel)) rfl
set_option maxRecDepth 20000 in
theorem wo_X9_agrees : (.instanceMethod yX9_agrees : Cond) ∈ zt := zt_of (List.mem_of_getElem? (i := 534) (by decide +kernel)) rfl
set_option maxRecDepth 20000 in
theorem wd_X9_agrees : (.code yX9_agrees cX9_agrees 4 (some .boolean) : Cond) ∈ zt := zt_of (List.mem_of_getElem? (i := 535) rfl) rfl
set_option maxRecDepth 20000 in
theorem wm_X9_39 : (.methodLink RX9 39 yX9_isUp : Cond) ∈ zt := zt_of (List.mem_of_getElem? (i := 536) (by decide +kernel)) rfl
set_option maxRecDepth 20000 in
theorem ws_X9_isUp : (.static yX9_isUp : Cond) ∈ zt := zt_of (List.mem_of_getElem? (i := 537) (by decide +kernel)) rfl
set_option maxRecDepth 20000 in
theorem wd_X9_isUp : (.code yX9_isUp cX9_isUp 4 (some .boolean) : Cond) ∈ zt := zt_of (List.mem_of_getElem? (i := 538) rfl) rfl
set_option maxRecDepth 20000 in
theorem wm_L_85 : (.methodLink RL 85 yX11_look : Cond) ∈ zt := zt_of (List.mem_of_getElem? (i := 539) (by decide +kernel)) rfl
set_option maxRecDepth 20000 in
theorem wo_X11_look : (.instanceMethod yX11_look : Cond) ∈ zt := zt_of (List.mem_of_getElem? (i := 540) (by decide +kernel)) rfl
set_option maxRecDepth 20000 in
theorem we_X11_X11_look : (.selects RX11 yX11_look yX11_look : Cond) ∈ zt := zt_of (List.mem_of_getElem? (i := 541) (by decide +kernel)) rfl
set_option maxRecDepth 20000 in
theorem wd_X11_look : (.code yX11_look cX11_look 2 (some .int) : Cond) ∈ zt := zt_of (List.mem_of_getElem? (i := 542) rfl) rfl
set_option maxRecDepth 20000 in
theorem wm_X11_211 : (.methodLink RX11 211 yX9_bestTick : Cond) ∈ zt := zt_of (List.mem_of_getElem? (i := 543) (by decide +kernel)) rfl
set_option maxRecDepth 20000 in
theorem wo_X9_bestTick : (.instanceMethod yX9_bestTick : Cond) ∈ zt := zt_of (List.mem_of_getElem? (i := 544) (by decide +kernel)) rfl
set_option maxRecDepth 20000 in
theorem we_X9_X9_bestTick : (.selects RX9 yX9_bestTick yX9_bestTick : Cond) ∈ zt := zt_of (List.mem_of_getElem? (i := 545) (by decide +kernel)) rfl
set_option maxRecDepth 20000 in
theorem wd_X9_bestTick : (.code yX9_bestTick cX9_bestTick 7 (some .int) : Cond) ∈ zt := zt_of (List.mem_of_getElem? (i := 546) rfl) rfl
set_option maxRecDepth 20000 in
theorem wm_X9_43 : (.methodLink RX9 43 yJ9_max_7cf53 : Cond) ∈ zt := zt_of (List.mem_of_getElem? (i := 547) (by decide +kernel)) rfl
set_option maxRecDepth 20000 in
theorem ws_J9_max_7cf53 : (.static yJ9_max_7cf53 : Cond) ∈ zt := zt_of (List.mem_of_getElem? (i := 548) (by decide +kernel)) rfl
set_option maxRecDepth 20000 in
theorem wd_J9_max_7cf53 : (.code yJ9_max_7cf53 cJ9_max_7cf53 2 (some .int) : Cond) ∈ zt := zt_of (List.mem_of_getElem? (i := 549) rfl) rfl
set_option maxRecDepth 20000 in
theorem wm_L_89 : (.methodLink RL 89 yX11_rate : Cond) ∈ zt := zt_of (List.mem_of_getElem? (i := 550) (by decide +kernel)) rfl
set_option maxRecDepth 20000 in
theorem wo_X11_rate : (.instanceMethod yX11_rate : Cond) ∈ zt := zt_of (List.mem_of_getElem? (i := 551) (by decide +kernel)) rfl
set_option maxRecDepth 20000 in
theorem we_X11_X11_rate : (.selects RX11 yX11_rate yX11_rate : Cond) ∈ zt := zt_of (List.mem_of_getElem? (i := 552) (by decide +kernel)) rfl
set_option maxRecDepth 20000 in
theorem wd_X11_rate : (.code yX11_rate cX11_rate 4 (some .int) : Cond) ∈ zt := zt_of (List.mem_of_getElem? (i := 553) rfl) rfl
set_option maxRecDepth 20000 in
theorem wc_X11_214 : (.constant RX11 214 (-1000000) : Cond) ∈ zt := zt_of (List.mem_of_getElem? (i := 554) (by decide +kernel)) rfl
set_option maxRecDepth 20000 in
theorem wm_X11_215 : (.methodLink RX11 215 yX5_worth : Cond) ∈ zt := zt_of (List.mem_of_getElem? (i := 555) (by decide +kernel)) rfl
set_option maxRecDepth 20000 in
theorem wo_X5_worth : (.instanceMethod yX5_worth : Cond) ∈ zt := zt_of (List.mem_of_getElem? (i := 556) (by decide +kernel)) rfl
set_option maxRecDepth 20000 in
theorem we_X5_X5_worth : (.selects RX5 yX5_worth yX5_worth : Cond) ∈ zt := zt_of (List.mem_of_getElem? (i := 557) (by decide +kernel)) rfl
set_option maxRecDepth 20000 in
theorem wS_X5 : (.sameMethod "SkipRope$JumperKind" "SkipRope$JumperKind" "worth" "(LSkipRope;I)I" : Cond) ∈ zt := zt_of (List.mem_of_getElem? (i := 558) (by decide +kernel)) rfl
set_option maxRecDepth 20000 in
theorem wE_X0_X0_worth : (.selects RX0 yX5_worth yX0_worth : Cond) ∈ zt := zt_of (List.mem_of_getElem? (i := 559) (by decide +kernel)) rfl
set_option maxRecDepth 20000 in
theorem wo_X0_worth : (.instanceMethod yX0_worth : Cond) ∈ zt := zt_of (List.mem_of_getElem? (i := 560) (by decide +kernel)) rfl
set_option maxRecDepth 20000 in
theorem wd_X0_worth : (.code yX0_worth cX0_worth 3 (some .int) : Cond) ∈ zt := zt_of (List.mem_of_getElem? (i := 561) rfl) rfl
set_option maxRecDepth 20000 in
theorem wc_X0_13 : (.constantLong RX0 13 (10) : Cond) ∈ zt := zt_of (List.mem_of_getElem? (i := 562) (by decide +kernel)) rfl
set_option maxRecDepth 20000 in
theorem wm_X0_15 : (.methodLink RX0 15 yX5_worth : Cond) ∈ zt := zt_of (List.mem_of_getElem? (i := 563) (by decide +kernel)) rfl
set_option maxRecDepth 20000 in
theorem wE_X2_X2_worth : (.selects RX2 yX5_worth yX2_worth : Cond) ∈ zt := zt_of (List.mem_of_getElem? (i := 564) (by decide +kernel)) rfl
set_option maxRecDepth 20000 in
theorem wo_X2_worth : (.instanceMethod yX2_worth : Cond) ∈ zt := zt_of (List.mem_of_getElem? (i := 565) (by decide +kernel)) rfl
set_option maxRecDepth 20000 in
theorem wd_X2_worth : (.code yX2_worth cX2_worth 3 (some .int) : Cond) ∈ zt := zt_of (List.mem_of_getElem? (i := 566) rfl) rfl
set_option maxRecDepth 20000 in
theorem wc_X2_13 : (.constantLong RX2 13 (1000) : Cond) ∈ zt := zt_of (List.mem_of_getElem? (i := 567) (by decide +kernel)) rfl
set_option maxRecDepth 20000 in
theorem wm_X2_15 : (.methodLink RX2 15 yX0_worth : Cond) ∈ zt := zt_of (List.mem_of_getElem? (i := 568) (by decide +kernel)) rfl
set_option maxRecDepth 20000 in
theorem wE_X3_X3_worth : (.selects RX3 yX5_worth yX3_worth : Cond) ∈ zt := zt_of (List.mem_of_getElem? (i := 569) (by decide +kernel)) rfl
set_option maxRecDepth 20000 in
theorem wo_X3_worth : (.instanceMethod yX3_worth : Cond) ∈ zt := zt_of (List.mem_of_getElem? (i := 570) (by decide +kernel)) rfl
set_option maxRecDepth 20000 in
theorem wd_X3_worth : (.code yX3_worth cX3_worth 3 (some .int) : Cond) ∈ zt := zt_of (List.mem_of_getElem? (i := 571) rfl) rfl
set_option maxRecDepth 20000 in
theorem wc_X3_13 : (.constantLong RX3 13 (100000) : Cond) ∈ zt := zt_of (List.mem_of_getElem? (i := 572) (by decide +kernel)) rfl
set_option maxRecDepth 20000 in
theorem wm_X3_15 : (.methodLink RX3 15 yX5_worth : Cond) ∈ zt := zt_of (List.mem_of_getElem? (i := 573) (by decide +kernel)) rfl
set_option maxRecDepth 20000 in
theorem wE_X4_X4_worth : (.selects RX4 yX5_worth yX4_worth : Cond) ∈ zt := zt_of (List.mem_of_getElem? (i := 574) (by decide +kernel)) rfl
set_option maxRecDepth 20000 in
theorem wo_X4_worth : (.instanceMethod yX4_worth : Cond) ∈ zt := zt_of (List.mem_of_getElem? (i := 575) (by decide +kernel)) rfl
set_option maxRecDepth 20000 in
theorem wd_X4_worth : (.code yX4_worth cX4_worth 3 (some .int) : Cond) ∈ zt := zt_of (List.mem_of_getElem? (i := 576) rfl) rfl
set_option maxRecDepth 20000 in
theorem wc_X4_13 : (.constantLong RX4 13 (100) : Cond) ∈ zt := zt_of (List.mem_of_getElem? (i := 577) (by decide +kernel)) rfl
set_option maxRecDepth 20000 in
theorem wm_X4_15 : (.methodLink RX4 15 yX5_worth : Cond) ∈ zt := zt_of (List.mem_of_getElem? (i := 578) (by decide +kernel)) rfl
set_option maxRecDepth 20000 in
theorem wE_X7_X7_worth : (.selects RX7 yX5_worth yX7_worth : Cond) ∈ zt := zt_of (List.mem_of_getElem? (i := 579) (by decide +kernel)) rfl
set_option maxRecDepth 20000 in
theorem wo_X7_worth : (.instanceMethod yX7_worth : Cond) ∈ zt := zt_of (List.mem_of_getElem? (i := 580) (by decide +kernel)) rfl
set_option maxRecDepth 20000 in
theorem wd_X7_worth : (.code yX7_worth cX7_worth 3 (some .int) : Cond) ∈ zt := zt_of (List.mem_of_getElem? (i := 581) rfl) rfl
set_option maxRecDepth 20000 in
theorem wc_X7_13 : (.constantLong RX7 13 (10000) : Cond) ∈ zt := zt_of (List.mem_of_getElem? (i := 582) (by decide +kernel)) rfl
set_option maxRecDepth 20000 in
theorem wm_X7_15 : (.methodLink RX7 15 yX4_worth : Cond) ∈ zt := zt_of (List.mem_of_getElem? (i := 583) (by decide +kernel)) rfl
set_option maxRecDepth 20000 in
theorem wd_X5_worth : (.code yX5_worth cX5_worth 3 (some .int) : Cond) ∈ zt := zt_of (List.mem_of_getElem? (i := 584) rfl) rfl
set_option maxRecDepth 20000 in
theorem wm_L_93 : (.methodLink RL 93 yX11_keep : Cond) ∈ zt := zt_of (List.mem_of_getElem? (i := 585) (by decide +kernel)) rfl
set_option maxRecDepth 20000 in
theorem wo_X11_keep : (.instanceMethod yX11_keep : Cond) ∈ zt := zt_of (List.mem_of_getElem? (i := 586) (by decide +kernel)) rfl
set_option maxRecDepth 20000 in
theorem we_X11_X11_keep : (.selects RX11 yX11_keep yX11_keep : Cond) ∈ zt := zt_of (List.mem_of_getElem? (i := 587) (by decide +kernel)) rfl
set_option maxRecDepth 20000 in
theorem wd_X11_keep : (.code yX11_keep cX11_keep 2 (some .int) : Cond) ∈ zt := zt_of (List.mem_of_getElem? (i := 588) rfl) rfl
set_option maxRecDepth 20000 in
theorem wm_X11_219 : (.methodLink RX11 219 yX11_isNoImage : Cond) ∈ zt := zt_of (List.mem_of_getElem? (i := 589) (by decide +kernel)) rfl
set_option maxRecDepth 20000 in
theorem wo_X11_isNoImage : (.instanceMethod yX11_isNoImage : Cond) ∈ zt := zt_of (List.mem_of_getElem? (i := 591) (by decide +kernel)) rfl
set_option maxRecDepth 20000 in
theorem wd_X11_isNoImage : (.code yX11_isNoImage cX11_isNoImage 2 (some .boolean) : Cond) ∈ zt := zt_of (List.mem_of_getElem? (i := 592) rfl) rfl
set_option maxRecDepth 20000 in
theorem wm_L_97 : (.methodLink RL 97 yX11_back : Cond) ∈ zt := zt_of (List.mem_of_getElem? (i := 593) (by decide +kernel)) rfl
set_option maxRecDepth 20000 in
theorem wo_X11_back : (.instanceMethod yX11_back : Cond) ∈ zt := zt_of (List.mem_of_getElem? (i := 594) (by decide +kernel)) rfl
set_option maxRecDepth 20000 in
theorem we_X11_X11_back : (.selects RX11 yX11_back yX11_back : Cond) ∈ zt := zt_of (List.mem_of_getElem? (i := 595) (by decide +kernel)) rfl
set_option maxRecDepth 20000 in
theorem wd_X11_back : (.code yX11_back cX11_back 2 (some .int) : Cond) ∈ zt := zt_of (List.mem_of_getElem? (i := 596) rfl) rfl
set_option maxRecDepth 20000 in
theorem wm_L_101 : (.methodLink RL 101 yX11_count : Cond) ∈ zt := zt_of (List.mem_of_getElem? (i := 597) (by decide +kernel)) rfl
set_option maxRecDepth 20000 in
theorem wo_X11_count : (.instanceMethod yX11_count : Cond) ∈ zt := zt_of (List.mem_of_getElem? (i := 598) (by decide +kernel)) rfl
set_option maxRecDepth 20000 in
theorem we_X11_X11_count : (.selects RX11 yX11_count yX11_count : Cond) ∈ zt := zt_of (List.mem_of_getElem? (i := 599) (by decide +kernel)) rfl
set_option maxRecDepth 20000 in
theorem wd_X11_count : (.code yX11_count cX11_count 2 (some .int) : Cond) ∈ zt := zt_of (List.mem_of_getElem? (i := 600) rfl) rfl
set_option maxRecDepth 20000 in
theorem wm_L_105 : (.methodLink RL 105 yX11_trace : Cond) ∈ zt := zt_of (List.mem_of_getElem? (i := 601) (by decide +kernel)) rfl
set_option maxRecDepth 20000 in
theorem wo_X11_trace : (.instanceMethod yX11_trace : Cond) ∈ zt := zt_of (List.mem_of_getElem? (i := 602) (by decide +kernel)) rfl
set_option maxRecDepth 20000 in
theorem we_X11_X11_trace : (.selects RX11 yX11_trace yX11_trace : Cond) ∈ zt := zt_of (List.mem_of_getElem? (i := 603) (by decide +kernel)) rfl
set_option maxRecDepth 20000 in
theorem wd_X11_trace : (.code yX11_trace cX11_trace 1 (some .long) : Cond) ∈ zt := zt_of (List.mem_of_getElem? (i := 604) rfl) rfl
set_option maxRecDepth 20000 in
theorem wk_L_10 : (.classLink RL 10 RX12 : Cond) ∈ zt := zt_of (List.mem_of_getElem? (i := 605) (by decide +kernel)) rfl
set_option maxRecDepth 20000 in
theorem wn_X12 : (.instantiable RX12 23 : Cond) ∈ zt := zt_of (List.mem_of_getElem? (i := 606) (by decide +kernel)) rfl
set_option maxRecDepth 20000 in
theorem wm_L_12 : (.methodLink RL 12 yX12_init : Cond) ∈ zt := zt_of (List.mem_of_getElem? (i := 607) (by decide +kernel)) rfl
set_option maxRecDepth 20000 in
theorem wo_X12_init : (.instanceMethod yX12_init : Cond) ∈ zt := zt_of (List.mem_of_getElem? (i := 608) (by decide +kernel)) rfl
set_option maxRecDepth 20000 in
theorem wd_X12_init : (.code yX12_init cX12_init 1 none : Cond) ∈ zt := zt_of (List.mem_of_getElem? (i := 609) rfl) rfl
set_option maxRecDepth 20000 in
theorem wm_X12_1 : (.methodLink RX12 1 objectInit : Cond) ∈ zt := zt_of (List.mem_of_getElem? (i := 610) (by decide +kernel)) rfl
set_option maxRecDepth 20000 in
theorem wf_X12_7 : (.fieldLink RX12 7 "SkipRopeModel" "letters" "[I" : Cond) ∈ zt := zt_of (List.mem_of_getElem? (i := 611) (by decide +kernel)) rfl
set_option maxRecDepth 20000 in
theorem wf_X12_55 : (.fieldLink RX12 55 "SkipRopeModel" "length" "I" : Cond) ∈ zt := zt_of (List.mem_of_getElem? (i := 612) (by decide +kernel)) rfl
set_option maxRecDepth 20000 in
theorem wf_X12_47 : (.fieldLink RX12 47 "SkipRopeModel" "jumpers" "I" : Cond) ∈ zt := zt_of (List.mem_of_getElem? (i := 613) (by decide +kernel)) rfl
set_option maxRecDepth 20000 in
theorem wf_X12_13 : (.fieldLink RX12 13 "SkipRopeModel" "period" "[I" : Cond) ∈ zt := zt_of (List.mem_of_getElem? (i := 614) (by decide +kernel)) rfl
set_option maxRecDepth 20000 in
theorem wf_X12_16 : (.fieldLink RX12 16 "SkipRopeModel" "hang" "[I" : Cond) ∈ zt := zt_of (List.mem_of_getElem? (i := 615) (by decide +kernel)) rfl
set_option maxRecDepth 20000 in
theorem wf_X12_19 : (.fieldLink RX12 19 "SkipRopeModel" "st" "[I" : Cond) ∈ zt := zt_of (List.mem_of_getElem? (i := 616) (by decide +kernel)) rfl
set_option maxRecDepth 20000 in
theorem wf_X12_22 : (.fieldLink RX12 22 "SkipRopeModel" "now" "[I" : Cond) ∈ zt := zt_of (List.mem_of_getElem? (i := 617) (by decide +kernel)) rfl
set_option maxRecDepth 20000 in
theorem wf_X12_25 : (.fieldLink RX12 25 "SkipRopeModel" "book" "[I" : Cond) ∈ zt := zt_of (List.mem_of_getElem? (i := 618) (by decide +kernel)) rfl
set_option maxRecDepth 20000 in
theorem wf_X12_101 : (.fieldLink RX12 101 "SkipRopeModel" "undos" "I" : Cond) ∈ zt := zt_of (List.mem_of_getElem? (i := 619) (by decide +kernel)) rfl
set_option maxRecDepth 20000 in
theorem wf_X12_28 : (.fieldLink RX12 28 "SkipRopeModel" "images" "[I" : Cond) ∈ zt := zt_of (List.mem_of_getElem? (i := 620) (by decide +kernel)) rfl
set_option maxRecDepth 20000 in
theorem wf_X12_31 : (.fieldLink RX12 31 "SkipRopeModel" "isKept" "[Z" : Cond) ∈ zt := zt_of (List.mem_of_getElem? (i := 621) (by decide +kernel)) rfl
set_option maxRecDepth 20000 in
theorem wf_X12_104 : (.fieldLink RX12 104 "SkipRopeModel" "seen" "I" : Cond) ∈ zt := zt_of (List.mem_of_getElem? (i := 622) (by decide +kernel)) rfl
set_option maxRecDepth 20000 in
theorem wf_X12_35 : (.fieldLink RX12 35 "SkipRopeModel" "seenHang" "[I" : Cond) ∈ zt := zt_of (List.mem_of_getElem? (i := 623) (by decide +kernel)) rfl
set_option maxRecDepth 20000 in
theorem wf_X12_38 : (.fieldLink RX12 38 "SkipRopeModel" "seenTick" "[I" : Cond) ∈ zt := zt_of (List.mem_of_getElem? (i := 624) (by decide +kernel)) rfl
set_option maxRecDepth 20000 in
theorem wf_X12_41 : (.fieldLink RX12 41 "SkipRopeModel" "seenUp" "[I" : Cond) ∈ zt := zt_of (List.mem_of_getElem? (i := 625) (by decide +kernel)) rfl
set_option maxRecDepth 20000 in
theorem wf_X12_174 : (.fieldLink RX12 174 "SkipRopeModel" "trail" "J" : Cond) ∈ zt := zt_of (List.mem_of_getElem? (i := 626) (by decide +kernel)) rfl
set_option maxRecDepth 20000 in
theorem wf_X12_58 : (.fieldLink RX12 58 "SkipRopeModel" "place" "I" : Cond) ∈ zt := zt_of (List.mem_of_getElem? (i := 627) (by decide +kernel)) rfl
set_option maxRecDepth 20000 in
theorem wf_X12_65 : (.fieldLink RX12 65 "SkipRopeModel" "wrong" "I" : Cond) ∈ zt := zt_of (List.mem_of_getElem? (i := 628) (by decide +kernel)) rfl
set_option maxRecDepth 20000 in
theorem wf_X12_75 : (.fieldLink RX12 75 "SkipRopeModel" "items" "I" : Cond) ∈ zt := zt_of (List.mem_of_getElem? (i := 629) (by decide +kernel)) rfl
set_option maxRecDepth 20000 in
theorem wf_X12_81 : (.fieldLink RX12 81 "SkipRopeModel" "saidEvery" "Z" : Cond) ∈ zt := zt_of (List.mem_of_getElem? (i := 630) (by decide +kernel)) rfl
set_option maxRecDepth 20000 in
theorem wf_X12_89 : (.fieldLink RX12 89 "SkipRopeModel" "readEvery" "I" : Cond) ∈ zt := zt_of (List.mem_of_getElem? (i := 631) (by decide +kernel)) rfl
set_option maxRecDepth 20000 in
theorem wf_X12_78 : (.fieldLink RX12 78 "SkipRopeModel" "readJumpers" "I" : Cond) ∈ zt := zt_of (List.mem_of_getElem? (i := 632) (by decide +kernel)) rfl
set_option maxRecDepth 20000 in
theorem wf_X12_44 : (.fieldLink RX12 44 "SkipRopeModel" "readOne" "[I" : Cond) ∈ zt := zt_of (List.mem_of_getElem? (i := 633) (by decide +kernel)) rfl
set_option maxRecDepth 20000 in
theorem wu_X12 : (.superclass RX12 "java/lang/Object" : Cond) ∈ zt := zt_of (List.mem_of_getElem? (i := 680) (by decide +kernel)) rfl
set_option maxRecDepth 20000 in
theorem wm_L_17 : (.methodLink RL 17 yX12_type : Cond) ∈ zt := zt_of (List.mem_of_getElem? (i := 681) (by decide +kernel)) rfl
set_option maxRecDepth 20000 in
theorem wo_X12_type : (.instanceMethod yX12_type : Cond) ∈ zt := zt_of (List.mem_of_getElem? (i := 682) (by decide +kernel)) rfl
set_option maxRecDepth 20000 in
theorem we_X12_X12_type : (.selects RX12 yX12_type yX12_type : Cond) ∈ zt := zt_of (List.mem_of_getElem? (i := 683) (by decide +kernel)) rfl
set_option maxRecDepth 20000 in
theorem wd_X12_type : (.code yX12_type cX12_type 2 (some .int) : Cond) ∈ zt := zt_of (List.mem_of_getElem? (i := 684) rfl) rfl
set_option maxRecDepth 20000 in
theorem wm_X12_51 : (.methodLink RX12 51 yX12_in : Cond) ∈ zt := zt_of (List.mem_of_getElem? (i := 685) (by decide +kernel)) rfl
set_option maxRecDepth 20000 in
theorem ws_X12_in : (.static yX12_in : Cond) ∈ zt := zt_of (List.mem_of_getElem? (i := 686) (by decide +kernel)) rfl
set_option maxRecDepth 20000 in
theorem wd_X12_in : (.code yX12_in cX12_in 3 (some .boolean) : Cond) ∈ zt := zt_of (List.mem_of_getElem? (i := 687) rfl) rfl
set_option maxRecDepth 20000 in
theorem wm_L_22 : (.methodLink RL 22 yX12_clear : Cond) ∈ zt := zt_of (List.mem_of_getElem? (i := 688) (by decide +kernel)) rfl
set_option maxRecDepth 20000 in
theorem wo_X12_clear : (.instanceMethod yX12_clear : Cond) ∈ zt := zt_of (List.mem_of_getElem? (i := 689) (by decide +kernel)) rfl
set_option maxRecDepth 20000 in
theorem we_X12_X12_clear : (.selects RX12 yX12_clear yX12_clear : Cond) ∈ zt := zt_of (List.mem_of_getElem? (i := 690) (by decide +kernel)) rfl
set_option maxRecDepth 20000 in
theorem wd_X12_clear : (.code yX12_clear cX12_clear 2 (some .int) : Cond) ∈ zt := zt_of (List.mem_of_getElem? (i := 691) rfl) rfl
set_option maxRecDepth 20000 in
theorem wm_L_26 : (.methodLink RL 26 yX12_yard : Cond) ∈ zt := zt_of (List.mem_of_getElem? (i := 692) (by decide +kernel)) rfl
set_option maxRecDepth 20000 in
theorem wo_X12_yard : (.instanceMethod yX12_yard : Cond) ∈ zt := zt_of (List.mem_of_getElem? (i := 693) (by decide +kernel)) rfl
set_option maxRecDepth 20000 in
theorem we_X12_X12_yard : (.selects RX12 yX12_yard yX12_yard : Cond) ∈ zt := zt_of (List.mem_of_getElem? (i := 694) (by decide +kernel)) rfl
set_option maxRecDepth 20000 in
theorem wd_X12_yard : (.code yX12_yard cX12_yard 2 (some .int) : Cond) ∈ zt := zt_of (List.mem_of_getElem? (i := 695) rfl) rfl
set_option maxRecDepth 20000 in
theorem wm_X12_98 : (.methodLink RX12 98 yX12_readYard : Cond) ∈ zt := zt_of (List.mem_of_getElem? (i := 696) (by decide +kernel)) rfl
set_option maxRecDepth 20000 in
theorem wo_X12_readYard : (.instanceMethod yX12_readYard : Cond) ∈ zt := zt_of (List.mem_of_getElem? (i := 698) (by decide +kernel)) rfl
set_option maxRecDepth 20000 in
theorem wd_X12_readYard : (.code yX12_readYard cX12_readYard 1 none : Cond) ∈ zt := zt_of (List.mem_of_getElem? (i := 699) rfl) rfl
set_option maxRecDepth 20000 in
theorem wm_X12_68 : (.methodLink RX12 68 yX12_skips : Cond) ∈ zt := zt_of (List.mem_of_getElem? (i := 700) (by decide +kernel)) rfl
set_option maxRecDepth 20000 in
theorem wo_X12_skips : (.instanceMethod yX12_skips : Cond) ∈ zt := zt_of (List.mem_of_getElem? (i := 702) (by decide +kernel)) rfl
set_option maxRecDepth 20000 in
theorem wd_X12_skips : (.code yX12_skips cX12_skips 1 none : Cond) ∈ zt := zt_of (List.mem_of_getElem? (i := 703) rfl) rfl
set_option maxRecDepth 20000 in
theorem wm_X12_61 : (.methodLink RX12 61 yX12_here : Cond) ∈ zt := zt_of (List.mem_of_getElem? (i := 704) (by decide +kernel)) rfl
set_option maxRecDepth 20000 in
theorem wo_X12_here : (.instanceMethod yX12_here : Cond) ∈ zt := zt_of (List.mem_of_getElem? (i := 706) (by decide +kernel)) rfl
set_option maxRecDepth 20000 in
theorem wd_X12_here : (.code yX12_here cX12_here 1 (some .int) : Cond) ∈ zt := zt_of (List.mem_of_getElem? (i := 707) rfl) rfl
set_option maxRecDepth 20000 in
theorem wm_X12_95 : (.methodLink RX12 95 yX12_readItem : Cond) ∈ zt := zt_of (List.mem_of_getElem? (i := 708) (by decide +kernel)) rfl
set_option maxRecDepth 20000 in
theorem wo_X12_readItem : (.instanceMethod yX12_readItem : Cond) ∈ zt := zt_of (List.mem_of_getElem? (i := 710) (by decide +kernel)) rfl
set_option maxRecDepth 20000 in
theorem wd_X12_readItem : (.code yX12_readItem cX12_readItem 2 none : Cond) ∈ zt := zt_of (List.mem_of_getElem? (i := 711) rfl) rfl
set_option maxRecDepth 20000 in
theorem wm_X12_85 : (.methodLink RX12 85 yX12_number : Cond) ∈ zt := zt_of (List.mem_of_getElem? (i := 712) (by decide +kernel)) rfl
set_option maxRecDepth 20000 in
theorem wo_X12_number : (.instanceMethod yX12_number : Cond) ∈ zt := zt_of (List.mem_of_getElem? (i := 714) (by decide +kernel)) rfl
set_option maxRecDepth 20000 in
theorem wd_X12_number : (.code yX12_number cX12_number 6 (some .int) : Cond) ∈ zt := zt_of (List.mem_of_getElem? (i := 715) rfl) rfl
set_option maxRecDepth 20000 in
theorem wm_X12_71 : (.methodLink RX12 71 yX12_isFigure : Cond) ∈ zt := zt_of (List.mem_of_getElem? (i := 716) (by decide +kernel)) rfl
set_option maxRecDepth 20000 in
theorem ws_X12_isFigure : (.static yX12_isFigure : Cond) ∈ zt := zt_of (List.mem_of_getElem? (i := 717) (by decide +kernel)) rfl
set_option maxRecDepth 20000 in
theorem wd_X12_isFigure : (.code yX12_isFigure cX12_isFigure 1 (some .boolean) : Cond) ∈ zt := zt_of (List.mem_of_getElem? (i := 718) rfl) rfl
set_option maxRecDepth 20000 in
theorem wm_X12_92 : (.methodLink RX12 92 yX12_ends : Cond) ∈ zt := zt_of (List.mem_of_getElem? (i := 719) (by decide +kernel)) rfl
set_option maxRecDepth 20000 in
theorem wo_X12_ends : (.instanceMethod yX12_ends : Cond) ∈ zt := zt_of (List.mem_of_getElem? (i := 721) (by decide +kernel)) rfl
set_option maxRecDepth 20000 in
theorem wd_X12_ends : (.code yX12_ends cX12_ends 1 none : Cond) ∈ zt := zt_of (List.mem_of_getElem? (i := 722) rfl) rfl
set_option maxRecDepth 20000 in
theorem wm_L_31 : (.methodLink RL 31 yX12_jumper : Cond) ∈ zt := zt_of (List.mem_of_getElem? (i := 723) (by decide +kernel)) rfl
set_option maxRecDepth 20000 in
theorem wo_X12_jumper : (.instanceMethod yX12_jumper : Cond) ∈ zt := zt_of (List.mem_of_getElem? (i := 724) (by decide +kernel)) rfl
set_option maxRecDepth 20000 in
theorem we_X12_X12_jumper : (.selects RX12 yX12_jumper yX12_jumper : Cond) ∈ zt := zt_of (List.mem_of_getElem? (i := 725) (by decide +kernel)) rfl
set_option maxRecDepth 20000 in
theorem wd_X12_jumper : (.code yX12_jumper cX12_jumper 4 (some .int) : Cond) ∈ zt := zt_of (List.mem_of_getElem? (i := 726) rfl) rfl
set_option maxRecDepth 20000 in
theorem wm_X12_127 : (.methodLink RX12 127 yX12_isJumper : Cond) ∈ zt := zt_of (List.mem_of_getElem? (i := 727) (by decide +kernel)) rfl
set_option maxRecDepth 20000 in
theorem wo_X12_isJumper : (.instanceMethod yX12_isJumper : Cond) ∈ zt := zt_of (List.mem_of_getElem? (i := 729) (by decide +kernel)) rfl
set_option maxRecDepth 20000 in
theorem wd_X12_isJumper : (.code yX12_isJumper cX12_isJumper 2 (some .boolean) : Cond) ∈ zt := zt_of (List.mem_of_getElem? (i := 730) rfl) rfl
set_option maxRecDepth 20000 in
theorem wm_X12_107 : (.methodLink RX12 107 yX12_has : Cond) ∈ zt := zt_of (List.mem_of_getElem? (i := 731) (by decide +kernel)) rfl
set_option maxRecDepth 20000 in
theorem ws_X12_has : (.static yX12_has : Cond) ∈ zt := zt_of (List.mem_of_getElem? (i := 732) (by decide +kernel)) rfl
set_option maxRecDepth 20000 in
theorem wd_X12_has : (.code yX12_has cX12_has 2 (some .boolean) : Cond) ∈ zt := zt_of (List.mem_of_getElem? (i := 733) rfl) rfl
set_option maxRecDepth 20000 in
theorem wm_X12_130 : (.methodLink RX12 130 yX12_asItIs : Cond) ∈ zt := zt_of (List.mem_of_getElem? (i := 734) (by decide +kernel)) rfl
set_option maxRecDepth 20000 in
theorem wo_X12_asItIs : (.instanceMethod yX12_asItIs : Cond) ∈ zt := zt_of (List.mem_of_getElem? (i := 736) (by decide +kernel)) rfl
set_option maxRecDepth 20000 in
theorem wd_X12_asItIs : (.code yX12_asItIs cX12_asItIs 1 none : Cond) ∈ zt := zt_of (List.mem_of_getElem? (i := 737) rfl) rfl
set_option maxRecDepth 20000 in
theorem wm_X12_119 : (.methodLink RX12 119 yX12_bring : Cond) ∈ zt := zt_of (List.mem_of_getElem? (i := 738) (by decide +kernel)) rfl
set_option maxRecDepth 20000 in
theorem ws_X12_bring : (.static yX12_bring : Cond) ∈ zt := zt_of (List.mem_of_getElem? (i := 739) (by decide +kernel)) rfl
set_option maxRecDepth 20000 in
theorem wd_X12_bring : (.code yX12_bring cX12_bring 6 none : Cond) ∈ zt := zt_of (List.mem_of_getElem? (i := 740) rfl) rfl
set_option maxRecDepth 20000 in
theorem wm_X12_133 : (.methodLink RX12 133 yX12_tripOf : Cond) ∈ zt := zt_of (List.mem_of_getElem? (i := 741) (by decide +kernel)) rfl
set_option maxRecDepth 20000 in
theorem wo_X12_tripOf : (.instanceMethod yX12_tripOf : Cond) ∈ zt := zt_of (List.mem_of_getElem? (i := 743) (by decide +kernel)) rfl
set_option maxRecDepth 20000 in
theorem wd_X12_tripOf : (.code yX12_tripOf cX12_tripOf 3 (some .int) : Cond) ∈ zt := zt_of (List.mem_of_getElem? (i := 744) rfl) rfl
set_option maxRecDepth 20000 in
theorem wm_X12_123 : (.methodLink RX12 123 yX12_tickOn : Cond) ∈ zt := zt_of (List.mem_of_getElem? (i := 745) (by decide +kernel)) rfl
set_option maxRecDepth 20000 in
theorem wo_X12_tickOn : (.instanceMethod yX12_tickOn : Cond) ∈ zt := zt_of (List.mem_of_getElem? (i := 747) (by decide +kernel)) rfl
set_option maxRecDepth 20000 in
theorem wd_X12_tickOn : (.code yX12_tickOn cX12_tickOn 5 (some .int) : Cond) ∈ zt := zt_of (List.mem_of_getElem? (i := 748) rfl) rfl
set_option maxRecDepth 20000 in
theorem wm_X12_111 : (.methodLink RX12 111 yX12_jumps : Cond) ∈ zt := zt_of (List.mem_of_getElem? (i := 749) (by decide +kernel)) rfl
set_option maxRecDepth 20000 in
theorem wo_X12_jumps : (.instanceMethod yX12_jumps : Cond) ∈ zt := zt_of (List.mem_of_getElem? (i := 751) (by decide +kernel)) rfl
set_option maxRecDepth 20000 in
theorem wd_X12_jumps : (.code yX12_jumps cX12_jumps 4 none : Cond) ∈ zt := zt_of (List.mem_of_getElem? (i := 752) rfl) rfl
set_option maxRecDepth 20000 in
theorem wm_X12_115 : (.methodLink RX12 115 yX12_outs : Cond) ∈ zt := zt_of (List.mem_of_getElem? (i := 753) (by decide +kernel)) rfl
set_option maxRecDepth 20000 in
theorem wo_X12_outs : (.instanceMethod yX12_outs : Cond) ∈ zt := zt_of (List.mem_of_getElem? (i := 755) (by decide +kernel)) rfl
set_option maxRecDepth 20000 in
theorem wd_X12_outs : (.code yX12_outs cX12_outs 3 none : Cond) ∈ zt := zt_of (List.mem_of_getElem? (i := 756) rfl) rfl
set_option maxRecDepth 20000 in
theorem wm_L_35 : (.methodLink RL 35 yX12_now : Cond) ∈ zt := zt_of (List.mem_of_getElem? (i := 757) (by decide +kernel)) rfl
set_option maxRecDepth 20000 in
theorem wo_X12_now : (.instanceMethod yX12_now : Cond) ∈ zt := zt_of (List.mem_of_getElem? (i := 758) (by decide +kernel)) rfl
set_option maxRecDepth 20000 in
theorem we_X12_X12_now : (.selects RX12 yX12_now yX12_now : Cond) ∈ zt := zt_of (List.mem_of_getElem? (i := 759) (by decide +kernel)) rfl
set_option maxRecDepth 20000 in
theorem wd_X12_now : (.code yX12_now cX12_now 2 (some .int) : Cond) ∈ zt := zt_of (List.mem_of_getElem? (i := 760) rfl) rfl
set_option maxRecDepth 20000 in
theorem wm_X12_137 : (.methodLink RX12 137 yX12_firstOf : Cond) ∈ zt := zt_of (List.mem_of_getElem? (i := 761) (by decide +kernel)) rfl
set_option maxRecDepth 20000 in
theorem wo_X12_firstOf : (.instanceMethod yX12_firstOf : Cond) ∈ zt := zt_of (List.mem_of_getElem? (i := 763) (by decide +kernel)) rfl
set_option maxRecDepth 20000 in
theorem wd_X12_firstOf : (.code yX12_firstOf cX12_firstOf 4 (some .int) : Cond) ∈ zt := zt_of (List.mem_of_getElem? (i := 764) rfl) rfl
set_option maxRecDepth 20000 in
theorem wm_L_39 : (.methodLink RL 39 yX12_ticks : Cond) ∈ zt := zt_of (List.mem_of_getElem? (i := 765) (by decide +kernel)) rfl
set_option maxRecDepth 20000 in
theorem wo_X12_ticks : (.instanceMethod yX12_ticks : Cond) ∈ zt := zt_of (List.mem_of_getElem? (i := 766) (by decide +kernel)) rfl
set_option maxRecDepth 20000 in
theorem we_X12_X12_ticks : (.selects RX12 yX12_ticks yX12_ticks : Cond) ∈ zt := zt_of (List.mem_of_getElem? (i := 767) (by decide +kernel)) rfl
set_option maxRecDepth 20000 in
theorem wd_X12_ticks : (.code yX12_ticks cX12_ticks 1 (some .int) : Cond) ∈ zt := zt_of (List.mem_of_getElem? (i := 768) rfl) rfl
set_option maxRecDepth 20000 in
theorem wm_X12_140 : (.methodLink RX12 140 yX12_notes : Cond) ∈ zt := zt_of (List.mem_of_getElem? (i := 769) (by decide +kernel)) rfl
set_option maxRecDepth 20000 in
theorem wo_X12_notes : (.instanceMethod yX12_notes : Cond) ∈ zt := zt_of (List.mem_of_getElem? (i := 771) (by decide +kernel)) rfl
set_option maxRecDepth 20000 in
theorem wd_X12_notes : (.code yX12_notes cX12_notes 1 none : Cond) ∈ zt := zt_of (List.mem_of_getElem? (i := 772) rfl) rfl
set_option maxRecDepth 20000 in
theorem wm_L_43 : (.methodLink RL 43 yX12_speeds : Cond) ∈ zt := zt_of (List.mem_of_getElem? (i := 773) (by decide +kernel)) rfl
set_option maxRecDepth 20000 in
theorem wo_X12_speeds : (.instanceMethod yX12_speeds : Cond) ∈ zt := zt_of (List.mem_of_getElem? (i := 774) (by decide +kernel)) rfl
set_option maxRecDepth 20000 in
theorem we_X12_X12_speeds : (.selects RX12 yX12_speeds yX12_speeds : Cond) ∈ zt := zt_of (List.mem_of_getElem? (i := 775) (by decide +kernel)) rfl
set_option maxRecDepth 20000 in
theorem wd_X12_speeds : (.code yX12_speeds cX12_speeds 3 (some .int) : Cond) ∈ zt := zt_of (List.mem_of_getElem? (i := 776) rfl) rfl
set_option maxRecDepth 20000 in
theorem wm_X12_143 : (.methodLink RX12 143 yX12_turns : Cond) ∈ zt := zt_of (List.mem_of_getElem? (i := 777) (by decide +kernel)) rfl
set_option maxRecDepth 20000 in
theorem ws_X12_turns : (.static yX12_turns : Cond) ∈ zt := zt_of (List.mem_of_getElem? (i := 778) (by decide +kernel)) rfl
set_option maxRecDepth 20000 in
theorem wd_X12_turns : (.code yX12_turns cX12_turns 2 none : Cond) ∈ zt := zt_of (List.mem_of_getElem? (i := 779) rfl) rfl
set_option maxRecDepth 20000 in
theorem wm_L_47 : (.methodLink RL 47 yX12_goes : Cond) ∈ zt := zt_of (List.mem_of_getElem? (i := 780) (by decide +kernel)) rfl
set_option maxRecDepth 20000 in
theorem wo_X12_goes : (.instanceMethod yX12_goes : Cond) ∈ zt := zt_of (List.mem_of_getElem? (i := 781) (by decide +kernel)) rfl
set_option maxRecDepth 20000 in
theorem we_X12_X12_goes : (.selects RX12 yX12_goes yX12_goes : Cond) ∈ zt := zt_of (List.mem_of_getElem? (i := 782) (by decide +kernel)) rfl
set_option maxRecDepth 20000 in
theorem wd_X12_goes : (.code yX12_goes cX12_goes 2 (some .int) : Cond) ∈ zt := zt_of (List.mem_of_getElem? (i := 783) rfl) rfl
set_option maxRecDepth 20000 in
theorem wm_X12_146 : (.methodLink RX12 146 yX12_bits : Cond) ∈ zt := zt_of (List.mem_of_getElem? (i := 784) (by decide +kernel)) rfl
set_option maxRecDepth 20000 in
theorem ws_X12_bits : (.static yX12_bits : Cond) ∈ zt := zt_of (List.mem_of_getElem? (i := 785) (by decide +kernel)) rfl
set_option maxRecDepth 20000 in
theorem wd_X12_bits : (.code yX12_bits cX12_bits 3 (some .int) : Cond) ∈ zt := zt_of (List.mem_of_getElem? (i := 786) rfl) rfl
set_option maxRecDepth 20000 in
theorem wm_L_51 : (.methodLink RL 51 yX12_comes : Cond) ∈ zt := zt_of (List.mem_of_getElem? (i := 787) (by decide +kernel)) rfl
set_option maxRecDepth 20000 in
theorem wo_X12_comes : (.instanceMethod yX12_comes : Cond) ∈ zt := zt_of (List.mem_of_getElem? (i := 788) (by decide +kernel)) rfl
set_option maxRecDepth 20000 in
theorem we_X12_X12_comes : (.selects RX12 yX12_comes yX12_comes : Cond) ∈ zt := zt_of (List.mem_of_getElem? (i := 789) (by decide +kernel)) rfl
set_option maxRecDepth 20000 in
theorem wd_X12_comes : (.code yX12_comes cX12_comes 3 (some .int) : Cond) ∈ zt := zt_of (List.mem_of_getElem? (i := 790) rfl) rfl
set_option maxRecDepth 20000 in
theorem wm_X12_149 : (.methodLink RX12 149 yX12_enters : Cond) ∈ zt := zt_of (List.mem_of_getElem? (i := 791) (by decide +kernel)) rfl
set_option maxRecDepth 20000 in
theorem ws_X12_enters : (.static yX12_enters : Cond) ∈ zt := zt_of (List.mem_of_getElem? (i := 792) (by decide +kernel)) rfl
set_option maxRecDepth 20000 in
theorem wd_X12_enters : (.code yX12_enters cX12_enters 3 none : Cond) ∈ zt := zt_of (List.mem_of_getElem? (i := 793) rfl) rfl
set_option maxRecDepth 20000 in
theorem wm_L_55 : (.methodLink RL 55 yX12_undo : Cond) ∈ zt := zt_of (List.mem_of_getElem? (i := 794) (by decide +kernel)) rfl
set_option maxRecDepth 20000 in
theorem wo_X12_undo : (.instanceMethod yX12_undo : Cond) ∈ zt := zt_of (List.mem_of_getElem? (i := 795) (by decide +kernel)) rfl
set_option maxRecDepth 20000 in
theorem we_X12_X12_undo : (.selects RX12 yX12_undo yX12_undo : Cond) ∈ zt := zt_of (List.mem_of_getElem? (i := 796) (by decide +kernel)) rfl
set_option maxRecDepth 20000 in
theorem wd_X12_undo : (.code yX12_undo cX12_undo 1 (some .int) : Cond) ∈ zt := zt_of (List.mem_of_getElem? (i := 797) rfl) rfl
set_option maxRecDepth 20000 in
theorem wm_L_59 : (.methodLink RL 59 yX12_stay : Cond) ∈ zt := zt_of (List.mem_of_getElem? (i := 798) (by decide +kernel)) rfl
set_option maxRecDepth 20000 in
theorem wo_X12_stay : (.instanceMethod yX12_stay : Cond) ∈ zt := zt_of (List.mem_of_getElem? (i := 799) (by decide +kernel)) rfl
set_option maxRecDepth 20000 in
theorem we_X12_X12_stay : (.selects RX12 yX12_stay yX12_stay : Cond) ∈ zt := zt_of (List.mem_of_getElem? (i := 800) (by decide +kernel)) rfl
set_option maxRecDepth 20000 in
theorem wd_X12_stay : (.code yX12_stay cX12_stay 2 (some .int) : Cond) ∈ zt := zt_of (List.mem_of_getElem? (i := 801) rfl) rfl
set_option maxRecDepth 20000 in
theorem wm_X12_153 : (.methodLink RX12 153 yX12_goesOn : Cond) ∈ zt := zt_of (List.mem_of_getElem? (i := 802) (by decide +kernel)) rfl
set_option maxRecDepth 20000 in
theorem wo_X12_goesOn : (.instanceMethod yX12_goesOn : Cond) ∈ zt := zt_of (List.mem_of_getElem? (i := 804) (by decide +kernel)) rfl
set_option maxRecDepth 20000 in
theorem wd_X12_goesOn : (.code yX12_goesOn cX12_goesOn 3 none : Cond) ∈ zt := zt_of (List.mem_of_getElem? (i := 805) rfl) rfl
set_option maxRecDepth 20000 in
theorem wm_L_63 : (.methodLink RL 63 yX12_pace : Cond) ∈ zt := zt_of (List.mem_of_getElem? (i := 806) (by decide +kernel)) rfl
set_option maxRecDepth 20000 in
theorem wo_X12_pace : (.instanceMethod yX12_pace : Cond) ∈ zt := zt_of (List.mem_of_getElem? (i := 807) (by decide +kernel)) rfl
set_option maxRecDepth 20000 in
theorem we_X12_X12_pace : (.selects RX12 yX12_pace yX12_pace : Cond) ∈ zt := zt_of (List.mem_of_getElem? (i := 808) (by decide +kernel)) rfl
set_option maxRecDepth 20000 in
theorem wd_X12_pace : (.code yX12_pace cX12_pace 6 (some .int) : Cond) ∈ zt := zt_of (List.mem_of_getElem? (i := 809) rfl) rfl
set_option maxRecDepth 20000 in
theorem wm_L_67 : (.methodLink RL 67 yX12_entry : Cond) ∈ zt := zt_of (List.mem_of_getElem? (i := 810) (by decide +kernel)) rfl
set_option maxRecDepth 20000 in
theorem wo_X12_entry : (.instanceMethod yX12_entry : Cond) ∈ zt := zt_of (List.mem_of_getElem? (i := 811) (by decide +kernel)) rfl
set_option maxRecDepth 20000 in
theorem we_X12_X12_entry : (.selects RX12 yX12_entry yX12_entry : Cond) ∈ zt := zt_of (List.mem_of_getElem? (i := 812) (by decide +kernel)) rfl
set_option maxRecDepth 20000 in
theorem wd_X12_entry : (.code yX12_entry cX12_entry 7 (some .int) : Cond) ∈ zt := zt_of (List.mem_of_getElem? (i := 813) rfl) rfl
set_option maxRecDepth 20000 in
theorem wm_L_72 : (.methodLink RL 72 yX12_odds : Cond) ∈ zt := zt_of (List.mem_of_getElem? (i := 814) (by decide +kernel)) rfl
set_option maxRecDepth 20000 in
theorem wo_X12_odds : (.instanceMethod yX12_odds : Cond) ∈ zt := zt_of (List.mem_of_getElem? (i := 815) (by decide +kernel)) rfl
set_option maxRecDepth 20000 in
theorem we_X12_X12_odds : (.selects RX12 yX12_odds yX12_odds : Cond) ∈ zt := zt_of (List.mem_of_getElem? (i := 816) (by decide +kernel)) rfl
set_option maxRecDepth 20000 in
theorem wd_X12_odds : (.code yX12_odds cX12_odds 9 (some .int) : Cond) ∈ zt := zt_of (List.mem_of_getElem? (i := 817) rfl) rfl
set_option maxRecDepth 20000 in
theorem wm_X12_157 : (.methodLink RX12 157 yX12_allStay : Cond) ∈ zt := zt_of (List.mem_of_getElem? (i := 818) (by decide +kernel)) rfl
set_option maxRecDepth 20000 in
theorem wo_X12_allStay : (.instanceMethod yX12_allStay : Cond) ∈ zt := zt_of (List.mem_of_getElem? (i := 820) (by decide +kernel)) rfl
set_option maxRecDepth 20000 in
theorem wd_X12_allStay : (.code yX12_allStay cX12_allStay 7 (some .boolean) : Cond) ∈ zt := zt_of (List.mem_of_getElem? (i := 821) rfl) rfl
set_option maxRecDepth 20000 in
theorem wm_X12_160 : (.methodLink RX12 160 yX12_divisor : Cond) ∈ zt := zt_of (List.mem_of_getElem? (i := 822) (by decide +kernel)) rfl
set_option maxRecDepth 20000 in
theorem ws_X12_divisor : (.static yX12_divisor : Cond) ∈ zt := zt_of (List.mem_of_getElem? (i := 823) (by decide +kernel)) rfl
set_option maxRecDepth 20000 in
theorem wd_X12_divisor : (.code yX12_divisor cX12_divisor 5 (some .int) : Cond) ∈ zt := zt_of (List.mem_of_getElem? (i := 824) rfl) rfl
set_option maxRecDepth 20000 in
theorem wm_L_76 : (.methodLink RL 76 yX12_sees : Cond) ∈ zt := zt_of (List.mem_of_getElem? (i := 825) (by decide +kernel)) rfl
set_option maxRecDepth 20000 in
theorem wo_X12_sees : (.instanceMethod yX12_sees : Cond) ∈ zt := zt_of (List.mem_of_getElem? (i := 826) (by decide +kernel)) rfl
set_option maxRecDepth 20000 in
theorem we_X12_X12_sees : (.selects RX12 yX12_sees yX12_sees : Cond) ∈ zt := zt_of (List.mem_of_getElem? (i := 827) (by decide +kernel)) rfl
set_option maxRecDepth 20000 in
theorem wd_X12_sees : (.code yX12_sees cX12_sees 4 (some .int) : Cond) ∈ zt := zt_of (List.mem_of_getElem? (i := 828) rfl) rfl
set_option maxRecDepth 20000 in
theorem wm_L_80 : (.methodLink RL 80 yX12_forget : Cond) ∈ zt := zt_of (List.mem_of_getElem? (i := 829) (by decide +kernel)) rfl
set_option maxRecDepth 20000 in
theorem wo_X12_forget : (.instanceMethod yX12_forget : Cond) ∈ zt := zt_of (List.mem_of_getElem? (i := 830) (by decide +kernel)) rfl
set_option maxRecDepth 20000 in
theorem we_X12_X12_forget : (.selects RX12 yX12_forget yX12_forget : Cond) ∈ zt := zt_of (List.mem_of_getElem? (i := 831) (by decide +kernel)) rfl
set_option maxRecDepth 20000 in
theorem wd_X12_forget : (.code yX12_forget cX12_forget 2 (some .int) : Cond) ∈ zt := zt_of (List.mem_of_getElem? (i := 832) rfl) rfl
set_option maxRecDepth 20000 in
theorem wm_L_84 : (.methodLink RL 84 yX12_ways : Cond) ∈ zt := zt_of (List.mem_of_getElem? (i := 833) (by decide +kernel)) rfl
set_option maxRecDepth 20000 in
theorem wo_X12_ways : (.instanceMethod yX12_ways : Cond) ∈ zt := zt_of (List.mem_of_getElem? (i := 834) (by decide +kernel)) rfl
set_option maxRecDepth 20000 in
theorem we_X12_X12_ways : (.selects RX12 yX12_ways yX12_ways : Cond) ∈ zt := zt_of (List.mem_of_getElem? (i := 835) (by decide +kernel)) rfl
set_option maxRecDepth 20000 in
theorem wd_X12_ways : (.code yX12_ways cX12_ways 6 (some .int) : Cond) ∈ zt := zt_of (List.mem_of_getElem? (i := 836) rfl) rfl
set_option maxRecDepth 20000 in
theorem wm_X12_167 : (.methodLink RX12 167 yX12_fits : Cond) ∈ zt := zt_of (List.mem_of_getElem? (i := 837) (by decide +kernel)) rfl
set_option maxRecDepth 20000 in
theorem wo_X12_fits : (.instanceMethod yX12_fits : Cond) ∈ zt := zt_of (List.mem_of_getElem? (i := 839) (by decide +kernel)) rfl
set_option maxRecDepth 20000 in
theorem wd_X12_fits : (.code yX12_fits cX12_fits 5 (some .boolean) : Cond) ∈ zt := zt_of (List.mem_of_getElem? (i := 840) rfl) rfl
set_option maxRecDepth 20000 in
theorem wm_X12_163 : (.methodLink RX12 163 yX12_isUp : Cond) ∈ zt := zt_of (List.mem_of_getElem? (i := 841) (by decide +kernel)) rfl
set_option maxRecDepth 20000 in
theorem ws_X12_isUp : (.static yX12_isUp : Cond) ∈ zt := zt_of (List.mem_of_getElem? (i := 842) (by decide +kernel)) rfl
set_option maxRecDepth 20000 in
theorem wd_X12_isUp : (.code yX12_isUp cX12_isUp 4 (some .boolean) : Cond) ∈ zt := zt_of (List.mem_of_getElem? (i := 843) rfl) rfl
set_option maxRecDepth 20000 in
theorem wm_L_88 : (.methodLink RL 88 yX12_look : Cond) ∈ zt := zt_of (List.mem_of_getElem? (i := 844) (by decide +kernel)) rfl
set_option maxRecDepth 20000 in
theorem wo_X12_look : (.instanceMethod yX12_look : Cond) ∈ zt := zt_of (List.mem_of_getElem? (i := 845) (by decide +kernel)) rfl
set_option maxRecDepth 20000 in
theorem we_X12_X12_look : (.selects RX12 yX12_look yX12_look : Cond) ∈ zt := zt_of (List.mem_of_getElem? (i := 846) (by decide +kernel)) rfl
set_option maxRecDepth 20000 in
theorem wd_X12_look : (.code yX12_look cX12_look 9 (some .int) : Cond) ∈ zt := zt_of (List.mem_of_getElem? (i := 847) rfl) rfl
set_option maxRecDepth 20000 in
theorem wm_X12_170 : (.methodLink RX12 170 yX12_ways : Cond) ∈ zt := zt_of (List.mem_of_getElem? (i := 848) (by decide +kernel)) rfl
set_option maxRecDepth 20000 in
theorem wm_L_92 : (.methodLink RL 92 yX12_rate : Cond) ∈ zt := zt_of (List.mem_of_getElem? (i := 849) (by decide +kernel)) rfl
set_option maxRecDepth 20000 in
theorem wo_X12_rate : (.instanceMethod yX12_rate : Cond) ∈ zt := zt_of (List.mem_of_getElem? (i := 850) (by decide +kernel)) rfl
set_option maxRecDepth 20000 in
theorem we_X12_X12_rate : (.selects RX12 yX12_rate yX12_rate : Cond) ∈ zt := zt_of (List.mem_of_getElem? (i := 851) (by decide +kernel)) rfl
set_option maxRecDepth 20000 in
theorem wd_X12_rate : (.code yX12_rate cX12_rate 4 (some .int) : Cond) ∈ zt := zt_of (List.mem_of_getElem? (i := 852) rfl) rfl
set_option maxRecDepth 20000 in
theorem wc_X12_173 : (.constant RX12 173 (-1000000) : Cond) ∈ zt := zt_of (List.mem_of_getElem? (i := 853) (by decide +kernel)) rfl
set_option maxRecDepth 20000 in
theorem wc_X12_178 : (.constantLong RX12 178 (10) : Cond) ∈ zt := zt_of (List.mem_of_getElem? (i := 854) (by decide +kernel)) rfl
set_option maxRecDepth 20000 in
theorem wc_X12_180 : (.constantLong RX12 180 (100) : Cond) ∈ zt := zt_of (List.mem_of_getElem? (i := 855) (by decide +kernel)) rfl
set_option maxRecDepth 20000 in
theorem wc_X12_182 : (.constantLong RX12 182 (1010) : Cond) ∈ zt := zt_of (List.mem_of_getElem? (i := 856) (by decide +kernel)) rfl
set_option maxRecDepth 20000 in
theorem wc_X12_184 : (.constantLong RX12 184 (10100) : Cond) ∈ zt := zt_of (List.mem_of_getElem? (i := 857) (by decide +kernel)) rfl
set_option maxRecDepth 20000 in
theorem wc_X12_186 : (.constantLong RX12 186 (100000) : Cond) ∈ zt := zt_of (List.mem_of_getElem? (i := 858) (by decide +kernel)) rfl
set_option maxRecDepth 20000 in
theorem wm_L_96 : (.methodLink RL 96 yX12_keep : Cond) ∈ zt := zt_of (List.mem_of_getElem? (i := 859) (by decide +kernel)) rfl
set_option maxRecDepth 20000 in
theorem wo_X12_keep : (.instanceMethod yX12_keep : Cond) ∈ zt := zt_of (List.mem_of_getElem? (i := 860) (by decide +kernel)) rfl
set_option maxRecDepth 20000 in
theorem we_X12_X12_keep : (.selects RX12 yX12_keep yX12_keep : Cond) ∈ zt := zt_of (List.mem_of_getElem? (i := 861) (by decide +kernel)) rfl
set_option maxRecDepth 20000 in
theorem wd_X12_keep : (.code yX12_keep cX12_keep 2 (some .int) : Cond) ∈ zt := zt_of (List.mem_of_getElem? (i := 862) rfl) rfl
set_option maxRecDepth 20000 in
theorem wm_L_100 : (.methodLink RL 100 yX12_back : Cond) ∈ zt := zt_of (List.mem_of_getElem? (i := 863) (by decide +kernel)) rfl
set_option maxRecDepth 20000 in
theorem wo_X12_back : (.instanceMethod yX12_back : Cond) ∈ zt := zt_of (List.mem_of_getElem? (i := 864) (by decide +kernel)) rfl
set_option maxRecDepth 20000 in
theorem we_X12_X12_back : (.selects RX12 yX12_back yX12_back : Cond) ∈ zt := zt_of (List.mem_of_getElem? (i := 865) (by decide +kernel)) rfl
set_option maxRecDepth 20000 in
theorem wd_X12_back : (.code yX12_back cX12_back 2 (some .int) : Cond) ∈ zt := zt_of (List.mem_of_getElem? (i := 866) rfl) rfl
set_option maxRecDepth 20000 in
theorem wm_L_104 : (.methodLink RL 104 yX12_count : Cond) ∈ zt := zt_of (List.mem_of_getElem? (i := 867) (by decide +kernel)) rfl
set_option maxRecDepth 20000 in
theorem wo_X12_count : (.instanceMethod yX12_count : Cond) ∈ zt := zt_of (List.mem_of_getElem? (i := 868) (by decide +kernel)) rfl
set_option maxRecDepth 20000 in
theorem we_X12_X12_count : (.selects RX12 yX12_count yX12_count : Cond) ∈ zt := zt_of (List.mem_of_getElem? (i := 869) (by decide +kernel)) rfl
set_option maxRecDepth 20000 in
theorem wd_X12_count : (.code yX12_count cX12_count 2 (some .int) : Cond) ∈ zt := zt_of (List.mem_of_getElem? (i := 870) rfl) rfl
set_option maxRecDepth 20000 in
theorem wm_L_109 : (.methodLink RL 109 yX12_trace : Cond) ∈ zt := zt_of (List.mem_of_getElem? (i := 871) (by decide +kernel)) rfl
set_option maxRecDepth 20000 in
theorem wo_X12_trace : (.instanceMethod yX12_trace : Cond) ∈ zt := zt_of (List.mem_of_getElem? (i := 872) (by decide +kernel)) rfl
set_option maxRecDepth 20000 in
theorem we_X12_X12_trace : (.selects RX12 yX12_trace yX12_trace : Cond) ∈ zt := zt_of (List.mem_of_getElem? (i := 873) (by decide +kernel)) rfl
set_option maxRecDepth 20000 in
theorem wd_X12_trace : (.code yX12_trace cX12_trace 1 (some .long) : Cond) ∈ zt := zt_of (List.mem_of_getElem? (i := 874) rfl) rfl
set_option maxRecDepth 20000 in
theorem wS_X0 : (.sameMethod "SkipRope$BouncerKind" "SkipRope$BouncerKind" "worth" "(LSkipRope;I)I" : Cond) ∈ zt := zt_of (List.mem_of_getElem? (i := 875) (by decide +kernel)) rfl
set_option maxRecDepth 20000 in
theorem wS_X4 : (.sameMethod "SkipRope$HopperKind" "SkipRope$HopperKind" "worth" "(LSkipRope;I)I" : Cond) ∈ zt := zt_of (List.mem_of_getElem? (i := 876) (by decide +kernel)) rfl
set_option maxRecDepth 20000 in
theorem we_X10_X10_advance : (.selects RX10 yX10_advance yX10_advance : Cond) ∈ zt := zt_of (List.mem_of_getElem? (i := 0) (by decide +kernel)) rfl
set_option maxRecDepth 20000 in
theorem we_X10_X10_advanceDigits : (.selects RX10 yX10_advanceDigits yX10_advanceDigits : Cond) ∈ zt := zt_of (List.mem_of_getElem? (i := 1) (by decide +kernel)) rfl
set_option maxRecDepth 20000 in
theorem we_X10_X10_readEvery : (.selects RX10 yX10_readEvery yX10_readEvery : Cond) ∈ zt := zt_of (List.mem_of_getElem? (i := 2) (by decide +kernel)) rfl
set_option maxRecDepth 20000 in
theorem we_X10_X10_readNumber : (.selects RX10 yX10_readNumber yX10_readNumber : Cond) ∈ zt := zt_of (List.mem_of_getElem? (i := 3) (by decide +kernel)) rfl
set_option maxRecDepth 20000 in
theorem we_X10_X10_readStop : (.selects RX10 yX10_readStop yX10_readStop : Cond) ∈ zt := zt_of (List.mem_of_getElem? (i := 4) (by decide +kernel)) rfl
set_option maxRecDepth 20000 in
theorem we_X10_X10_readJumper : (.selects RX10 yX10_readJumper yX10_readJumper : Cond) ∈ zt := zt_of (List.mem_of_getElem? (i := 5) (by decide +kernel)) rfl
set_option maxRecDepth 20000 in
theorem we_X11_X11_isNobody : (.selects RX11 yX11_isNobody yX11_isNobody : Cond) ∈ zt := zt_of (List.mem_of_getElem? (i := 6) (by decide +kernel)) rfl
set_option maxRecDepth 20000 in
theorem we_X11_X11_tripNow : (.selects RX11 yX11_tripNow yX11_tripNow : Cond) ∈ zt := zt_of (List.mem_of_getElem? (i := 7) (by decide +kernel)) rfl
set_option maxRecDepth 20000 in
theorem we_X11_X11_playTillOut : (.selects RX11 yX11_playTillOut yX11_playTillOut : Cond) ∈ zt := zt_of (List.mem_of_getElem? (i := 8) (by decide +kernel)) rfl
set_option maxRecDepth 20000 in
theorem we_X8_X8_jumpAll : (.selects RX8 yX8_jumpAll yX8_jumpAll : Cond) ∈ zt := zt_of (List.mem_of_getElem? (i := 9) (by decide +kernel)) rfl
set_option maxRecDepth 20000 in
theorem we_X8_X8_airborne : (.selects RX8 yX8_airborne yX8_airborne : Cond) ∈ zt := zt_of (List.mem_of_getElem? (i := 10) (by decide +kernel)) rfl
set_option maxRecDepth 20000 in
theorem we_X8_X8_pass : (.selects RX8 yX8_pass yX8_pass : Cond) ∈ zt := zt_of (List.mem_of_getElem? (i := 11) (by decide +kernel)) rfl
set_option maxRecDepth 20000 in
theorem we_X11_X11_playTillFirst : (.selects RX11 yX11_playTillFirst yX11_playTillFirst : Cond) ∈ zt := zt_of (List.mem_of_getElem? (i := 12) (by decide +kernel)) rfl
set_option maxRecDepth 20000 in
theorem we_X11_X11_firstOnes : (.selects RX11 yX11_firstOnes yX11_firstOnes : Cond) ∈ zt := zt_of (List.mem_of_getElem? (i := 13) (by decide +kernel)) rfl
set_option maxRecDepth 20000 in
theorem we_X11_X11_playOn : (.selects RX11 yX11_playOn yX11_playOn : Cond) ∈ zt := zt_of (List.mem_of_getElem? (i := 14) (by decide +kernel)) rfl
set_option maxRecDepth 20000 in
theorem we_X11_X11_tenthsThatStay : (.selects RX11 yX11_tenthsThatStay yX11_tenthsThatStay : Cond) ∈ zt := zt_of (List.mem_of_getElem? (i := 15) (by decide +kernel)) rfl
set_option maxRecDepth 20000 in
theorem we_X11_X11_staysAlone : (.selects RX11 yX11_staysAlone yX11_staysAlone : Cond) ∈ zt := zt_of (List.mem_of_getElem? (i := 16) (by decide +kernel)) rfl
set_option maxRecDepth 20000 in
theorem we_X9_X9_agrees : (.selects RX9 yX9_agrees yX9_agrees : Cond) ∈ zt := zt_of (List.mem_of_getElem? (i := 17) (by decide +kernel)) rfl
set_option maxRecDepth 20000 in
theorem we_X11_X11_isNoImage : (.selects RX11 yX11_isNoImage yX11_isNoImage : Cond) ∈ zt := zt_of (List.mem_of_getElem? (i := 18) (by decide +kernel)) rfl
set_option maxRecDepth 20000 in
theorem we_X12_X12_readYard : (.selects RX12 yX12_readYard yX12_readYard : Cond) ∈ zt := zt_of (List.mem_of_getElem? (i := 19) (by decide +kernel)) rfl
set_option maxRecDepth 20000 in
theorem we_X12_X12_skips : (.selects RX12 yX12_skips yX12_skips : Cond) ∈ zt := zt_of (List.mem_of_getElem? (i := 20) (by decide +kernel)) rfl
set_option maxRecDepth 20000 in
theorem we_X12_X12_here : (.selects RX12 yX12_here yX12_here : Cond) ∈ zt := zt_of (List.mem_of_getElem? (i := 21) (by decide +kernel)) rfl
set_option maxRecDepth 20000 in
theorem we_X12_X12_readItem : (.selects RX12 yX12_readItem yX12_readItem : Cond) ∈ zt := zt_of (List.mem_of_getElem? (i := 22) (by decide +kernel)) rfl
set_option maxRecDepth 20000 in
theorem we_X12_X12_number : (.selects RX12 yX12_number yX12_number : Cond) ∈ zt := zt_of (List.mem_of_getElem? (i := 23) (by decide +kernel)) rfl
set_option maxRecDepth 20000 in
theorem we_X12_X12_ends : (.selects RX12 yX12_ends yX12_ends : Cond) ∈ zt := zt_of (List.mem_of_getElem? (i := 24) (by decide +kernel)) rfl
set_option maxRecDepth 20000 in
theorem we_X12_X12_isJumper : (.selects RX12 yX12_isJumper yX12_isJumper : Cond) ∈ zt := zt_of (List.mem_of_getElem? (i := 25) (by decide +kernel)) rfl
set_option maxRecDepth 20000 in
theorem we_X12_X12_asItIs : (.selects RX12 yX12_asItIs yX12_asItIs : Cond) ∈ zt := zt_of (List.mem_of_getElem? (i := 26) (by decide +kernel)) rfl
set_option maxRecDepth 20000 in
theorem we_X12_X12_tripOf : (.selects RX12 yX12_tripOf yX12_tripOf : Cond) ∈ zt := zt_of (List.mem_of_getElem? (i := 27) (by decide +kernel)) rfl
set_option maxRecDepth 20000 in
theorem we_X12_X12_tickOn : (.selects RX12 yX12_tickOn yX12_tickOn : Cond) ∈ zt := zt_of (List.mem_of_getElem? (i := 28) (by decide +kernel)) rfl
set_option maxRecDepth 20000 in
theorem we_X12_X12_jumps : (.selects RX12 yX12_jumps yX12_jumps : Cond) ∈ zt := zt_of (List.mem_of_getElem? (i := 29) (by decide +kernel)) rfl
set_option maxRecDepth 20000 in
theorem we_X12_X12_outs : (.selects RX12 yX12_outs yX12_outs : Cond) ∈ zt := zt_of (List.mem_of_getElem? (i := 30) (by decide +kernel)) rfl
set_option maxRecDepth 20000 in
theorem we_X12_X12_firstOf : (.selects RX12 yX12_firstOf yX12_firstOf : Cond) ∈ zt := zt_of (List.mem_of_getElem? (i := 31) (by decide +kernel)) rfl
set_option maxRecDepth 20000 in
theorem we_X12_X12_notes : (.selects RX12 yX12_notes yX12_notes : Cond) ∈ zt := zt_of (List.mem_of_getElem? (i := 32) (by decide +kernel)) rfl
set_option maxRecDepth 20000 in
theorem we_X12_X12_goesOn : (.selects RX12 yX12_goesOn yX12_goesOn : Cond) ∈ zt := zt_of (List.mem_of_getElem? (i := 33) (by decide +kernel)) rfl
set_option maxRecDepth 20000 in
theorem we_X12_X12_allStay : (.selects RX12 yX12_allStay yX12_allStay : Cond) ∈ zt := zt_of (List.mem_of_getElem? (i := 34) (by decide +kernel)) rfl
set_option maxRecDepth 20000 in
theorem we_X12_X12_fits : (.selects RX12 yX12_fits yX12_fits : Cond) ∈ zt := zt_of (List.mem_of_getElem? (i := 35) (by decide +kernel)) rfl
