theorem aw_t {w : Cond} {i : Nat} (h : tables_1[i]? = some w) (g : goodWord w = true) : w ∈ AW := aw_mem (List.mem_append_right _ (List.mem_of_getElem? h)) g
theorem aw_p {w : Cond} {i : Nat} (h : (k2_sels lw_privs)[i]? = some w) (g : goodWord w = true) : w ∈ AW := aw_mem (List.mem_append_left _ (List.mem_of_getElem? h)) g
theorem zf11_12 : Cond.fieldLink RX11 12 "MicroSteps" "bench" "LMicroSteps$Bench;" ∈ AW := aw_t (i := 443) (by decide +kernel) rfl
theorem zf11_18 : Cond.fieldLink RX11 18 "MicroSteps" "spare" "LMicroSteps$Bench;" ∈ AW := aw_t (i := 444) (by decide +kernel) rfl
theorem zf11_24 : Cond.fieldLink RX11 24 "MicroSteps" "tape" "LMicroSteps$Tape;" ∈ AW := aw_t (i := 432) (by decide +kernel) rfl
theorem zf11_33 : Cond.fieldLink RX11 33 "MicroSteps" "reader" "LMicroSteps$Reader;" ∈ AW := aw_t (i := 433) (by decide +kernel) rfl
theorem zf11_40 : Cond.fieldLink RX11 40 "MicroSteps" "state" "LMicroSteps$State;" ∈ AW := aw_t (i := 434) (by decide +kernel) rfl
theorem zf11_44 : Cond.fieldLink RX11 44 "MicroSteps" "ahead" "LMicroSteps$State;" ∈ AW := aw_t (i := 435) (by decide +kernel) rfl
theorem zf11_50 : Cond.fieldLink RX11 50 "MicroSteps" "history" "LMicroSteps$History;" ∈ AW := aw_t (i := 436) (by decide +kernel) rfl
theorem zf11_57 : Cond.fieldLink RX11 57 "MicroSteps" "asked" "LMicroSteps$Move;" ∈ AW := aw_t (i := 437) (by decide +kernel) rfl
theorem zf11_64 : Cond.fieldLink RX11 64 "MicroSteps" "askedRamp" "LMicroSteps$Ramp;" ∈ AW := aw_t (i := 438) (by decide +kernel) rfl
theorem zf11_71 : Cond.fieldLink RX11 71 "MicroSteps" "probe" "LMicroSteps$Rotor;" ∈ AW := aw_t (i := 439) (by decide +kernel) rfl
theorem zf11_78 : Cond.fieldLink RX11 78 "MicroSteps" "probeCoil" "LMicroSteps$Coil;" ∈ AW := aw_t (i := 440) (by decide +kernel) rfl
theorem zf11_82 : Cond.fieldLink RX11 82 "MicroSteps" "goal" "[I" ∈ AW := aw_t (i := 441) (by decide +kernel) rfl
theorem zf11_86 : Cond.fieldLink RX11 86 "MicroSteps" "tried" "[I" ∈ AW := aw_t (i := 442) (by decide +kernel) rfl
theorem zf11_89 : Cond.fieldLink RX11 89 "MicroSteps$Tape" "length" "I" ∈ AW := aw_t (i := 181) (by decide +kernel) rfl
theorem zf11_111 : Cond.fieldLink RX11 111 "MicroSteps$History" "kept" "I" ∈ AW := aw_t (i := 395) (by decide +kernel) rfl
theorem zf11_114 : Cond.fieldLink RX11 114 "MicroSteps$Bench" "axisCount" "I" ∈ AW := aw_t (i := 130) (by decide +kernel) rfl
theorem zf11_117 : Cond.fieldLink RX11 117 "MicroSteps$Reader" "fault" "I" ∈ AW := aw_t (i := 204) (by decide +kernel) rfl
theorem zf11_120 : Cond.fieldLink RX11 120 "MicroSteps$Reader" "place" "I" ∈ AW := aw_t (i := 206) (by decide +kernel) rfl
theorem zf11_128 : Cond.fieldLink RX11 128 "MicroSteps$Bench" "table" "LMicroSteps$Table;" ∈ AW := aw_t (i := 123) (by decide +kernel) rfl
theorem zf11_132 : Cond.fieldLink RX11 132 "MicroSteps$Table" "plain" "[I" ∈ AW := aw_t (i := 49) (by decide +kernel) rfl
theorem zf11_137 : Cond.fieldLink RX11 137 "MicroSteps$Table" "fixed" "[I" ∈ AW := aw_t (i := 52) (by decide +kernel) rfl
theorem zf11_159 : Cond.fieldLink RX11 159 "MicroSteps$Ramp" "ticks" "I" ∈ AW := aw_t (i := 252) (by decide +kernel) rfl
theorem zf11_178 : Cond.fieldLink RX11 178 "MicroSteps$Move" "lead" "I" ∈ AW := aw_t (i := 265) (by decide +kernel) rfl
theorem zf11_181 : Cond.fieldLink RX11 181 "MicroSteps$Move" "way" "I" ∈ AW := aw_t (i := 268) (by decide +kernel) rfl
theorem zf11_184 : Cond.fieldLink RX11 184 "MicroSteps$Move" "speed" "I" ∈ AW := aw_t (i := 270) (by decide +kernel) rfl
theorem zf11_187 : Cond.fieldLink RX11 187 "MicroSteps$Move" "ramp" "LMicroSteps$Ramp;" ∈ AW := aw_t (i := 263) (by decide +kernel) rfl
theorem zf11_227 : Cond.fieldLink RX11 227 "MicroSteps$Move" "from" "[I" ∈ AW := aw_t (i := 259) (by decide +kernel) rfl
theorem zf11_247 : Cond.fieldLink RX11 247 "MicroSteps$Coil" "current" "I" ∈ AW := aw_t (i := 416) (by decide +kernel) rfl
theorem zf11_251 : Cond.fieldLink RX11 251 "MicroSteps$State" "on" "Z" ∈ AW := aw_t (i := 347) (by decide +kernel) rfl
theorem zf11_263 : Cond.fieldLink RX11 263 "MicroSteps$State" "left" "I" ∈ AW := aw_t (i := 351) (by decide +kernel) rfl
theorem zf11_266 : Cond.fieldLink RX11 266 "MicroSteps$State" "halted" "Z" ∈ AW := aw_t (i := 349) (by decide +kernel) rfl
theorem zf11_269 : Cond.fieldLink RX11 269 "MicroSteps$State" "move" "LMicroSteps$Move;" ∈ AW := aw_t (i := 335) (by decide +kernel) rfl
theorem zf11_272 : Cond.fieldLink RX11 272 "MicroSteps$State" "latest" "I" ∈ AW := aw_t (i := 355) (by decide +kernel) rfl
theorem zf11_275 : Cond.fieldLink RX11 275 "MicroSteps$Move" "gain" "I" ∈ AW := aw_t (i := 272) (by decide +kernel) rfl
theorem zf11_278 : Cond.fieldLink RX11 278 "MicroSteps$Move" "jerk" "I" ∈ AW := aw_t (i := 274) (by decide +kernel) rfl
theorem zf11_285 : Cond.fieldLink RX11 285 "MicroSteps$State" "done" "I" ∈ AW := aw_t (i := 353) (by decide +kernel) rfl
theorem zf11_298 : Cond.fieldLink RX11 298 "MicroSteps$State" "waiting" "I" ∈ AW := aw_t (i := 339) (by decide +kernel) rfl
theorem zf11_308 : Cond.fieldLink RX11 308 "MicroSteps$State" "rotors" "[LMicroSteps$Rotor;" ∈ AW := aw_t (i := 333) (by decide +kernel) rfl
theorem zf11_312 : Cond.fieldLink RX11 312 "MicroSteps$Rotor" "limit" "I" ∈ AW := aw_t (i := 315) (by decide +kernel) rfl
theorem zf11_315 : Cond.fieldLink RX11 315 "MicroSteps$Rotor" "load" "I" ∈ AW := aw_t (i := 312) (by decide +kernel) rfl
theorem zf11_321 : Cond.fieldLink RX11 321 "MicroSteps$Rotor" "at" "I" ∈ AW := aw_t (i := 306) (by decide +kernel) rfl
theorem zf11_324 : Cond.fieldLink RX11 324 "MicroSteps$Rotor" "stalledIn" "I" ∈ AW := aw_t (i := 318) (by decide +kernel) rfl
theorem zf11_330 : Cond.fieldLink RX11 330 "MicroSteps$Bench" "axes" "[LMicroSteps$Axis;" ∈ AW := aw_t (i := 115) (by decide +kernel) rfl
theorem zf11_334 : Cond.fieldLink RX11 334 "MicroSteps$Axis" "speed" "I" ∈ AW := aw_t (i := 70) (by decide +kernel) rfl
theorem zf11_337 : Cond.fieldLink RX11 337 "MicroSteps$Axis" "gain" "I" ∈ AW := aw_t (i := 74) (by decide +kernel) rfl
theorem zf11_338 : Cond.fieldLink RX11 338 "MicroSteps$Axis" "jerk" "I" ∈ AW := aw_t (i := 78) (by decide +kernel) rfl
theorem zf11_339 : Cond.fieldLink RX11 339 "MicroSteps$Axis" "hold" "I" ∈ AW := aw_t (i := 82) (by decide +kernel) rfl
theorem zf11_342 : Cond.fieldLink RX11 342 "MicroSteps$Axis" "mass" "I" ∈ AW := aw_t (i := 86) (by decide +kernel) rfl
theorem zf11_345 : Cond.fieldLink RX11 345 "MicroSteps$Axis" "damp" "I" ∈ AW := aw_t (i := 90) (by decide +kernel) rfl
theorem zf11_348 : Cond.fieldLink RX11 348 "MicroSteps$Rotor" "place" "I" ∈ AW := aw_t (i := 308) (by decide +kernel) rfl
theorem zf11_349 : Cond.fieldLink RX11 349 "MicroSteps$Rotor" "swing" "I" ∈ AW := aw_t (i := 310) (by decide +kernel) rfl
theorem zf11_396 : Cond.fieldLink RX11 396 "MicroSteps$Bench" "bandCount" "I" ∈ AW := aw_t (i := 135) (by decide +kernel) rfl
theorem zf11_399 : Cond.fieldLink RX11 399 "MicroSteps$Bench" "correctionCount" "I" ∈ AW := aw_t (i := 138) (by decide +kernel) rfl
theorem zf11_402 : Cond.fieldLink RX11 402 "MicroSteps$Bench" "supply" "I" ∈ AW := aw_t (i := 142) (by decide +kernel) rfl
theorem zf11_405 : Cond.fieldLink RX11 405 "MicroSteps$Bench" "loss" "I" ∈ AW := aw_t (i := 146) (by decide +kernel) rfl
theorem zf11_408 : Cond.fieldLink RX11 408 "MicroSteps$State" "ticks" "I" ∈ AW := aw_t (i := 341) (by decide +kernel) rfl
theorem zf11_409 : Cond.fieldLink RX11 409 "MicroSteps$State" "trippedIn" "I" ∈ AW := aw_t (i := 343) (by decide +kernel) rfl
theorem zf11_412 : Cond.fieldLink RX11 412 "MicroSteps$State" "trippedBy" "I" ∈ AW := aw_t (i := 345) (by decide +kernel) rfl
theorem zf0_19 : Cond.fieldLink RX0 19 "MicroSteps$Axis" "mass" "I" ∈ AW := aw_t (i := 83) (by decide +kernel) rfl
theorem zf0_22 : Cond.fieldLink RX0 22 "MicroSteps$Axis" "name" "I" ∈ AW := aw_t (i := 65) (by decide +kernel) rfl
theorem zf0_25 : Cond.fieldLink RX0 25 "MicroSteps$Axis" "hold" "I" ∈ AW := aw_t (i := 79) (by decide +kernel) rfl
theorem zf0_28 : Cond.fieldLink RX0 28 "MicroSteps$Axis" "damp" "I" ∈ AW := aw_t (i := 87) (by decide +kernel) rfl
theorem zf0_31 : Cond.fieldLink RX0 31 "MicroSteps$Axis" "motorTold" "Z" ∈ AW := aw_t (i := 91) (by decide +kernel) rfl
theorem zf1_11 : Cond.fieldLink RX1 11 "MicroSteps$Bench" "axes" "[LMicroSteps$Axis;" ∈ AW := aw_t (i := 111) (by decide +kernel) rfl
theorem zf1_17 : Cond.fieldLink RX1 17 "MicroSteps$Bench" "bandAxis" "[I" ∈ AW := aw_t (i := 116) (by decide +kernel) rfl
theorem zf1_21 : Cond.fieldLink RX1 21 "MicroSteps$Bench" "bandFrom" "[I" ∈ AW := aw_t (i := 118) (by decide +kernel) rfl
theorem zf1_24 : Cond.fieldLink RX1 24 "MicroSteps$Bench" "bandTo" "[I" ∈ AW := aw_t (i := 120) (by decide +kernel) rfl
theorem zf1_30 : Cond.fieldLink RX1 30 "MicroSteps$Bench" "table" "LMicroSteps$Table;" ∈ AW := aw_t (i := 122) (by decide +kernel) rfl
theorem zf1_34 : Cond.fieldLink RX1 34 "MicroSteps$Bench" "isFixed" "[Z" ∈ AW := aw_t (i := 126) (by decide +kernel) rfl
theorem zf1_38 : Cond.fieldLink RX1 38 "MicroSteps$Bench" "supply" "I" ∈ AW := aw_t (i := 139) (by decide +kernel) rfl
theorem zf1_42 : Cond.fieldLink RX1 42 "MicroSteps$Bench" "loss" "I" ∈ AW := aw_t (i := 143) (by decide +kernel) rfl
theorem zf1_49 : Cond.fieldLink RX1 49 "MicroSteps$Bench" "axisCount" "I" ∈ AW := aw_t (i := 128) (by decide +kernel) rfl
theorem zf1_52 : Cond.fieldLink RX1 52 "MicroSteps$Bench" "bandCount" "I" ∈ AW := aw_t (i := 133) (by decide +kernel) rfl
theorem zf1_55 : Cond.fieldLink RX1 55 "MicroSteps$Bench" "correctionCount" "I" ∈ AW := aw_t (i := 136) (by decide +kernel) rfl
theorem zf1_58 : Cond.fieldLink RX1 58 "MicroSteps$Bench" "coilTold" "Z" ∈ AW := aw_t (i := 147) (by decide +kernel) rfl
theorem zf1_62 : Cond.fieldLink RX1 62 "MicroSteps$Axis" "name" "I" ∈ AW := aw_t (i := 66) (by decide +kernel) rfl
theorem zf2_7 : Cond.fieldLink RX2 7 "MicroSteps$Coil" "current" "I" ∈ AW := aw_t (i := 415) (by decide +kernel) rfl
theorem zf2_13 : Cond.fieldLink RX2 13 "MicroSteps$Coil" "phase" "I" ∈ AW := aw_t (i := 417) (by decide +kernel) rfl
theorem zf2_16 : Cond.fieldLink RX2 16 "MicroSteps$Coil" "fastTicks" "I" ∈ AW := aw_t (i := 418) (by decide +kernel) rfl
theorem zf2_19 : Cond.fieldLink RX2 19 "MicroSteps$Bench" "supply" "I" ∈ AW := aw_t (i := 140) (by decide +kernel) rfl
theorem zf2_24 : Cond.fieldLink RX2 24 "MicroSteps$Coil" "supply" "I" ∈ AW := aw_t (i := 419) (by decide +kernel) rfl
theorem zf2_25 : Cond.fieldLink RX2 25 "MicroSteps$Bench" "loss" "I" ∈ AW := aw_t (i := 144) (by decide +kernel) rfl
theorem zf2_28 : Cond.fieldLink RX2 28 "MicroSteps$Coil" "loss" "I" ∈ AW := aw_t (i := 420) (by decide +kernel) rfl
theorem zf3_11 : Cond.fieldLink RX3 11 "MicroSteps$History" "ring" "[LMicroSteps$State;" ∈ AW := aw_t (i := 392) (by decide +kernel) rfl
theorem zf3_18 : Cond.fieldLink RX3 18 "MicroSteps$History" "next" "I" ∈ AW := aw_t (i := 393) (by decide +kernel) rfl
theorem zf3_26 : Cond.fieldLink RX3 26 "MicroSteps$History" "kept" "I" ∈ AW := aw_t (i := 394) (by decide +kernel) rfl
theorem zf4_9 : Cond.fieldLink RX4 9 "MicroSteps$Move" "from" "[I" ∈ AW := aw_t (i := 258) (by decide +kernel) rfl
theorem zf4_15 : Cond.fieldLink RX4 15 "MicroSteps$Move" "by" "[I" ∈ AW := aw_t (i := 260) (by decide +kernel) rfl
theorem zf4_21 : Cond.fieldLink RX4 21 "MicroSteps$Move" "ramp" "LMicroSteps$Ramp;" ∈ AW := aw_t (i := 261) (by decide +kernel) rfl
theorem zf4_25 : Cond.fieldLink RX4 25 "MicroSteps$Move" "lead" "I" ∈ AW := aw_t (i := 264) (by decide +kernel) rfl
theorem zf4_29 : Cond.fieldLink RX4 29 "MicroSteps$Move" "way" "I" ∈ AW := aw_t (i := 266) (by decide +kernel) rfl
theorem zf4_32 : Cond.fieldLink RX4 32 "MicroSteps$Rotor" "at" "I" ∈ AW := aw_t (i := 303) (by decide +kernel) rfl
theorem zf4_37 : Cond.fieldLink RX4 37 "MicroSteps$Bench" "axisCount" "I" ∈ AW := aw_t (i := 129) (by decide +kernel) rfl
theorem zf4_50 : Cond.fieldLink RX4 50 "MicroSteps$Move" "speed" "I" ∈ AW := aw_t (i := 269) (by decide +kernel) rfl
theorem zf4_57 : Cond.fieldLink RX4 57 "MicroSteps$Bench" "axes" "[LMicroSteps$Axis;" ∈ AW := aw_t (i := 112) (by decide +kernel) rfl
theorem zf4_61 : Cond.fieldLink RX4 61 "MicroSteps$Axis" "gain" "I" ∈ AW := aw_t (i := 72) (by decide +kernel) rfl
theorem zf4_66 : Cond.fieldLink RX4 66 "MicroSteps$Move" "gain" "I" ∈ AW := aw_t (i := 271) (by decide +kernel) rfl
theorem zf4_67 : Cond.fieldLink RX4 67 "MicroSteps$Axis" "jerk" "I" ∈ AW := aw_t (i := 76) (by decide +kernel) rfl
theorem zf4_70 : Cond.fieldLink RX4 70 "MicroSteps$Move" "jerk" "I" ∈ AW := aw_t (i := 273) (by decide +kernel) rfl
theorem zf4_75 : Cond.fieldLink RX4 75 "MicroSteps$Axis" "speed" "I" ∈ AW := aw_t (i := 68) (by decide +kernel) rfl
theorem zf4_98 : Cond.fieldLink RX4 98 "MicroSteps$Move" "rest" "I" ∈ AW := aw_t (i := 275) (by decide +kernel) rfl
theorem zf4_101 : Cond.fieldLink RX4 101 "MicroSteps$Move" "restTicks" "I" ∈ AW := aw_t (i := 276) (by decide +kernel) rfl
theorem zf4_107 : Cond.fieldLink RX4 107 "MicroSteps$Ramp" "ticks" "I" ∈ AW := aw_t (i := 251) (by decide +kernel) rfl
theorem zf4_109 : Cond.fieldLink RX4 109 "MicroSteps$Ramp" "gone" "[I" ∈ AW := aw_t (i := 247) (by decide +kernel) rfl
theorem zf5_9 : Cond.fieldLink RX5 9 "MicroSteps$Ramp" "gone" "[I" ∈ AW := aw_t (i := 246) (by decide +kernel) rfl
theorem zf5_15 : Cond.fieldLink RX5 15 "MicroSteps$Ramp" "ticks" "I" ∈ AW := aw_t (i := 249) (by decide +kernel) rfl
theorem zf6_9 : Cond.fieldLink RX6 9 "MicroSteps$Reader" "place" "I" ∈ AW := aw_t (i := 205) (by decide +kernel) rfl
theorem zf6_15 : Cond.fieldLink RX6 15 "MicroSteps$Reader" "text" "LMicroSteps$Tape;" ∈ AW := aw_t (i := 196) (by decide +kernel) rfl
theorem zf6_19 : Cond.fieldLink RX6 19 "MicroSteps$Reader" "into" "LMicroSteps$Bench;" ∈ AW := aw_t (i := 197) (by decide +kernel) rfl
theorem zf6_23 : Cond.fieldLink RX6 23 "MicroSteps$Reader" "behind" "I" ∈ AW := aw_t (i := 198) (by decide +kernel) rfl
theorem zf6_26 : Cond.fieldLink RX6 26 "MicroSteps$Reader" "fault" "I" ∈ AW := aw_t (i := 203) (by decide +kernel) rfl
theorem zf6_37 : Cond.fieldLink RX6 37 "MicroSteps$Reader" "kind" "I" ∈ AW := aw_t (i := 199) (by decide +kernel) rfl
theorem zf6_74 : Cond.fieldLink RX6 74 "MicroSteps$Bench" "axisCount" "I" ∈ AW := aw_t (i := 131) (by decide +kernel) rfl
theorem zf6_80 : Cond.fieldLink RX6 80 "MicroSteps$Reader" "value" "I" ∈ AW := aw_t (i := 201) (by decide +kernel) rfl
theorem zf6_87 : Cond.fieldLink RX6 87 "MicroSteps$Bench" "axes" "[LMicroSteps$Axis;" ∈ AW := aw_t (i := 113) (by decide +kernel) rfl
theorem zf6_105 : Cond.fieldLink RX6 105 "MicroSteps$Reader" "number" "I" ∈ AW := aw_t (i := 202) (by decide +kernel) rfl
theorem zf6_108 : Cond.fieldLink RX6 108 "MicroSteps$Axis" "speed" "I" ∈ AW := aw_t (i := 69) (by decide +kernel) rfl
theorem zf6_112 : Cond.fieldLink RX6 112 "MicroSteps$Axis" "gain" "I" ∈ AW := aw_t (i := 73) (by decide +kernel) rfl
theorem zf6_116 : Cond.fieldLink RX6 116 "MicroSteps$Axis" "jerk" "I" ∈ AW := aw_t (i := 77) (by decide +kernel) rfl
theorem zf6_125 : Cond.fieldLink RX6 125 "MicroSteps$Axis" "motorTold" "Z" ∈ AW := aw_t (i := 92) (by decide +kernel) rfl
theorem zf6_131 : Cond.fieldLink RX6 131 "MicroSteps$Axis" "hold" "I" ∈ AW := aw_t (i := 81) (by decide +kernel) rfl
theorem zf6_135 : Cond.fieldLink RX6 135 "MicroSteps$Axis" "mass" "I" ∈ AW := aw_t (i := 85) (by decide +kernel) rfl
theorem zf6_139 : Cond.fieldLink RX6 139 "MicroSteps$Axis" "damp" "I" ∈ AW := aw_t (i := 88) (by decide +kernel) rfl
theorem zf6_141 : Cond.fieldLink RX6 141 "MicroSteps$Bench" "bandCount" "I" ∈ AW := aw_t (i := 134) (by decide +kernel) rfl
theorem zf6_144 : Cond.fieldLink RX6 144 "MicroSteps$Bench" "bandAxis" "[I" ∈ AW := aw_t (i := 117) (by decide +kernel) rfl
theorem zf6_148 : Cond.fieldLink RX6 148 "MicroSteps$Bench" "bandFrom" "[I" ∈ AW := aw_t (i := 119) (by decide +kernel) rfl
theorem zf6_151 : Cond.fieldLink RX6 151 "MicroSteps$Bench" "bandTo" "[I" ∈ AW := aw_t (i := 121) (by decide +kernel) rfl
theorem zf6_154 : Cond.fieldLink RX6 154 "MicroSteps$Bench" "isFixed" "[Z" ∈ AW := aw_t (i := 127) (by decide +kernel) rfl
theorem zf6_158 : Cond.fieldLink RX6 158 "MicroSteps$Bench" "table" "LMicroSteps$Table;" ∈ AW := aw_t (i := 125) (by decide +kernel) rfl
theorem zf6_162 : Cond.fieldLink RX6 162 "MicroSteps$Table" "fixed" "[I" ∈ AW := aw_t (i := 53) (by decide +kernel) rfl
theorem zf6_167 : Cond.fieldLink RX6 167 "MicroSteps$Table" "plain" "[I" ∈ AW := aw_t (i := 50) (by decide +kernel) rfl
theorem zf6_170 : Cond.fieldLink RX6 170 "MicroSteps$Bench" "correctionCount" "I" ∈ AW := aw_t (i := 137) (by decide +kernel) rfl
theorem zf6_173 : Cond.fieldLink RX6 173 "MicroSteps$Bench" "coilTold" "Z" ∈ AW := aw_t (i := 148) (by decide +kernel) rfl
theorem zf6_178 : Cond.fieldLink RX6 178 "MicroSteps$Bench" "supply" "I" ∈ AW := aw_t (i := 141) (by decide +kernel) rfl
theorem zf6_182 : Cond.fieldLink RX6 182 "MicroSteps$Bench" "loss" "I" ∈ AW := aw_t (i := 145) (by decide +kernel) rfl
theorem zf6_188 : Cond.fieldLink RX6 188 "MicroSteps$Reader" "start" "I" ∈ AW := aw_t (i := 200) (by decide +kernel) rfl
theorem zf6_205 : Cond.fieldLink RX6 205 "MicroSteps$Tape" "length" "I" ∈ AW := aw_t (i := 183) (by decide +kernel) rfl
theorem zf7_15 : Cond.fieldLink RX7 15 "MicroSteps$Rotor" "limit" "I" ∈ AW := aw_t (i := 313) (by decide +kernel) rfl
theorem zf7_19 : Cond.fieldLink RX7 19 "MicroSteps$Rotor" "stalledIn" "I" ∈ AW := aw_t (i := 316) (by decide +kernel) rfl
theorem zf7_22 : Cond.fieldLink RX7 22 "MicroSteps$Rotor" "at" "I" ∈ AW := aw_t (i := 304) (by decide +kernel) rfl
theorem zf7_25 : Cond.fieldLink RX7 25 "MicroSteps$Rotor" "place" "I" ∈ AW := aw_t (i := 307) (by decide +kernel) rfl
theorem zf7_28 : Cond.fieldLink RX7 28 "MicroSteps$Rotor" "swing" "I" ∈ AW := aw_t (i := 309) (by decide +kernel) rfl
theorem zf7_31 : Cond.fieldLink RX7 31 "MicroSteps$Rotor" "load" "I" ∈ AW := aw_t (i := 311) (by decide +kernel) rfl
theorem zf7_40 : Cond.fieldLink RX7 40 "MicroSteps$Axis" "hold" "I" ∈ AW := aw_t (i := 80) (by decide +kernel) rfl
theorem zf7_45 : Cond.fieldLink RX7 45 "MicroSteps$Table" "plain" "[I" ∈ AW := aw_t (i := 48) (by decide +kernel) rfl
theorem zf7_59 : Cond.fieldLink RX7 59 "MicroSteps$Axis" "mass" "I" ∈ AW := aw_t (i := 84) (by decide +kernel) rfl
theorem zf7_66 : Cond.fieldLink RX7 66 "MicroSteps$Axis" "damp" "I" ∈ AW := aw_t (i := 89) (by decide +kernel) rfl
theorem zf8_11 : Cond.fieldLink RX8 11 "MicroSteps$State" "rotors" "[LMicroSteps$Rotor;" ∈ AW := aw_t (i := 332) (by decide +kernel) rfl
theorem zf8_20 : Cond.fieldLink RX8 20 "MicroSteps$State" "move" "LMicroSteps$Move;" ∈ AW := aw_t (i := 334) (by decide +kernel) rfl
theorem zf8_24 : Cond.fieldLink RX8 24 "MicroSteps$State" "waits" "[I" ∈ AW := aw_t (i := 336) (by decide +kernel) rfl
theorem zf8_28 : Cond.fieldLink RX8 28 "MicroSteps$State" "first" "[I" ∈ AW := aw_t (i := 337) (by decide +kernel) rfl
theorem zf8_31 : Cond.fieldLink RX8 31 "MicroSteps$State" "trippedBy" "I" ∈ AW := aw_t (i := 344) (by decide +kernel) rfl
theorem zf8_39 : Cond.fieldLink RX8 39 "MicroSteps$State" "ticks" "I" ∈ AW := aw_t (i := 340) (by decide +kernel) rfl
theorem zf8_42 : Cond.fieldLink RX8 42 "MicroSteps$State" "trippedIn" "I" ∈ AW := aw_t (i := 342) (by decide +kernel) rfl
theorem zf8_48 : Cond.fieldLink RX8 48 "MicroSteps$State" "on" "Z" ∈ AW := aw_t (i := 346) (by decide +kernel) rfl
theorem zf8_52 : Cond.fieldLink RX8 52 "MicroSteps$State" "halted" "Z" ∈ AW := aw_t (i := 348) (by decide +kernel) rfl
theorem zf8_55 : Cond.fieldLink RX8 55 "MicroSteps$State" "left" "I" ∈ AW := aw_t (i := 350) (by decide +kernel) rfl
theorem zf8_58 : Cond.fieldLink RX8 58 "MicroSteps$State" "waiting" "I" ∈ AW := aw_t (i := 338) (by decide +kernel) rfl
theorem zf8_68 : Cond.fieldLink RX8 68 "MicroSteps$State" "done" "I" ∈ AW := aw_t (i := 352) (by decide +kernel) rfl
theorem zf8_71 : Cond.fieldLink RX8 71 "MicroSteps$State" "latest" "I" ∈ AW := aw_t (i := 354) (by decide +kernel) rfl
theorem zf8_74 : Cond.fieldLink RX8 74 "MicroSteps$Ramp" "ticks" "I" ∈ AW := aw_t (i := 250) (by decide +kernel) rfl
theorem zf8_77 : Cond.fieldLink RX8 77 "MicroSteps$Move" "ramp" "LMicroSteps$Ramp;" ∈ AW := aw_t (i := 262) (by decide +kernel) rfl
theorem zf8_101 : Cond.fieldLink RX8 101 "MicroSteps$Bench" "axisCount" "I" ∈ AW := aw_t (i := 132) (by decide +kernel) rfl
theorem zf8_106 : Cond.fieldLink RX8 106 "MicroSteps$Bench" "axes" "[LMicroSteps$Axis;" ∈ AW := aw_t (i := 114) (by decide +kernel) rfl
theorem zf8_110 : Cond.fieldLink RX8 110 "MicroSteps$Bench" "table" "LMicroSteps$Table;" ∈ AW := aw_t (i := 124) (by decide +kernel) rfl
theorem zf8_118 : Cond.fieldLink RX8 118 "MicroSteps$Rotor" "stalledIn" "I" ∈ AW := aw_t (i := 317) (by decide +kernel) rfl
theorem zf8_140 : Cond.fieldLink RX8 140 "MicroSteps$Rotor" "at" "I" ∈ AW := aw_t (i := 305) (by decide +kernel) rfl
theorem zf8_143 : Cond.fieldLink RX8 143 "MicroSteps$Rotor" "limit" "I" ∈ AW := aw_t (i := 314) (by decide +kernel) rfl
theorem zf8_146 : Cond.fieldLink RX8 146 "MicroSteps$Ramp" "gone" "[I" ∈ AW := aw_t (i := 248) (by decide +kernel) rfl
theorem zf8_149 : Cond.fieldLink RX8 149 "MicroSteps$Move" "way" "I" ∈ AW := aw_t (i := 267) (by decide +kernel) rfl
theorem zf9_9 : Cond.fieldLink RX9 9 "MicroSteps$Table" "plain" "[I" ∈ AW := aw_t (i := 47) (by decide +kernel) rfl
theorem zf9_15 : Cond.fieldLink RX9 15 "MicroSteps$Table" "fixed" "[I" ∈ AW := aw_t (i := 51) (by decide +kernel) rfl
theorem zf10_9 : Cond.fieldLink RX10 9 "MicroSteps$Tape" "bytes" "[B" ∈ AW := aw_t (i := 180) (by decide +kernel) rfl
theorem zf10_15 : Cond.fieldLink RX10 15 "MicroSteps$Tape" "length" "I" ∈ AW := aw_t (i := 182) (by decide +kernel) rfl
theorem zf12_7 : Cond.fieldLink RX12 7 "MicroStepsModel" "now" "[I" ∈ AW := aw_t (i := 1119) (by decide +kernel) rfl
theorem zf12_13 : Cond.fieldLink RX12 13 "MicroStepsModel" "tape" "[I" ∈ AW := aw_t (i := 1120) (by decide +kernel) rfl
theorem zf12_16 : Cond.fieldLink RX12 16 "MicroStepsModel" "faultPlace" "I" ∈ AW := aw_t (i := 1128) (by decide +kernel) rfl
theorem zf12_20 : Cond.fieldLink RX12 20 "MicroStepsModel" "toldPlace" "I" ∈ AW := aw_t (i := 1130) (by decide +kernel) rfl
theorem zf12_23 : Cond.fieldLink RX12 23 "MicroStepsModel" "names" "[J" ∈ AW := aw_t (i := 1132) (by decide +kernel) rfl
theorem zf12_27 : Cond.fieldLink RX12 27 "MicroStepsModel" "axes" "[I" ∈ AW := aw_t (i := 1133) (by decide +kernel) rfl
theorem zf12_30 : Cond.fieldLink RX12 30 "MicroStepsModel" "readAxes" "[I" ∈ AW := aw_t (i := 1134) (by decide +kernel) rfl
theorem zf12_33 : Cond.fieldLink RX12 33 "MicroStepsModel" "bands" "[I" ∈ AW := aw_t (i := 1135) (by decide +kernel) rfl
theorem zf12_36 : Cond.fieldLink RX12 36 "MicroStepsModel" "readBands" "[I" ∈ AW := aw_t (i := 1136) (by decide +kernel) rfl
theorem zf12_39 : Cond.fieldLink RX12 39 "MicroStepsModel" "fixes" "[I" ∈ AW := aw_t (i := 1137) (by decide +kernel) rfl
theorem zf12_42 : Cond.fieldLink RX12 42 "MicroStepsModel" "readFixes" "[I" ∈ AW := aw_t (i := 1138) (by decide +kernel) rfl
theorem zf12_45 : Cond.fieldLink RX12 45 "MicroStepsModel" "isFixed" "[Z" ∈ AW := aw_t (i := 1139) (by decide +kernel) rfl
theorem zf12_49 : Cond.fieldLink RX12 49 "MicroStepsModel" "hasMotor" "[Z" ∈ AW := aw_t (i := 1140) (by decide +kernel) rfl
theorem zf12_52 : Cond.fieldLink RX12 52 "MicroStepsModel" "plain" "[I" ∈ AW := aw_t (i := 1152) (by decide +kernel) rfl
theorem zf12_55 : Cond.fieldLink RX12 55 "MicroStepsModel" "fixesNow" "[I" ∈ AW := aw_t (i := 1153) (by decide +kernel) rfl
theorem zf12_58 : Cond.fieldLink RX12 58 "MicroStepsModel" "ramp" "[I" ∈ AW := aw_t (i := 1154) (by decide +kernel) rfl
theorem zf12_61 : Cond.fieldLink RX12 61 "MicroStepsModel" "goes" "[I" ∈ AW := aw_t (i := 1156) (by decide +kernel) rfl
theorem zf12_64 : Cond.fieldLink RX12 64 "MicroStepsModel" "past" "[I" ∈ AW := aw_t (i := 1164) (by decide +kernel) rfl
theorem zf12_67 : Cond.fieldLink RX12 67 "MicroStepsModel" "aside" "[I" ∈ AW := aw_t (i := 1166) (by decide +kernel) rfl
theorem zf12_70 : Cond.fieldLink RX12 70 "MicroStepsModel" "supply" "I" ∈ AW := aw_t (i := 1147) (by decide +kernel) rfl
theorem zf12_73 : Cond.fieldLink RX12 73 "MicroStepsModel" "loss" "I" ∈ AW := aw_t (i := 1148) (by decide +kernel) rfl
theorem zf12_84 : Cond.fieldLink RX12 84 "MicroStepsModel" "taped" "I" ∈ AW := aw_t (i := 1121) (by decide +kernel) rfl
theorem zf12_95 : Cond.fieldLink RX12 95 "MicroStepsModel" "at" "I" ∈ AW := aw_t (i := 1123) (by decide +kernel) rfl
theorem zf12_98 : Cond.fieldLink RX12 98 "MicroStepsModel" "bytes" "I" ∈ AW := aw_t (i := 1122) (by decide +kernel) rfl
theorem zf12_105 : Cond.fieldLink RX12 105 "MicroStepsModel" "place" "I" ∈ AW := aw_t (i := 1124) (by decide +kernel) rfl
theorem zf12_108 : Cond.fieldLink RX12 108 "MicroStepsModel" "word" "J" ∈ AW := aw_t (i := 1131) (by decide +kernel) rfl
theorem zf12_112 : Cond.fieldLink RX12 112 "MicroStepsModel" "value" "I" ∈ AW := aw_t (i := 1126) (by decide +kernel) rfl
theorem zf12_115 : Cond.fieldLink RX12 115 "MicroStepsModel" "sort" "I" ∈ AW := aw_t (i := 1125) (by decide +kernel) rfl
theorem zf12_125 : Cond.fieldLink RX12 125 "MicroStepsModel" "fault" "I" ∈ AW := aw_t (i := 1127) (by decide +kernel) rfl
theorem zf12_180 : Cond.fieldLink RX12 180 "MicroStepsModel" "readMany" "I" ∈ AW := aw_t (i := 1142) (by decide +kernel) rfl
theorem zf12_200 : Cond.fieldLink RX12 200 "MicroStepsModel" "readBandMany" "I" ∈ AW := aw_t (i := 1144) (by decide +kernel) rfl
theorem zf12_203 : Cond.fieldLink RX12 203 "MicroStepsModel" "readFixMany" "I" ∈ AW := aw_t (i := 1146) (by decide +kernel) rfl
theorem zf12_206 : Cond.fieldLink RX12 206 "MicroStepsModel" "hasCoil" "Z" ∈ AW := aw_t (i := 1151) (by decide +kernel) rfl
theorem zf12_210 : Cond.fieldLink RX12 210 "MicroStepsModel" "readSupply" "I" ∈ AW := aw_t (i := 1149) (by decide +kernel) rfl
theorem zf12_213 : Cond.fieldLink RX12 213 "MicroStepsModel" "readLoss" "I" ∈ AW := aw_t (i := 1150) (by decide +kernel) rfl
theorem zf12_234 : Cond.fieldLink RX12 234 "MicroStepsModel" "toldFault" "I" ∈ AW := aw_t (i := 1129) (by decide +kernel) rfl
theorem zf12_240 : Cond.fieldLink RX12 240 "MicroStepsModel" "axisMany" "I" ∈ AW := aw_t (i := 1141) (by decide +kernel) rfl
theorem zf12_243 : Cond.fieldLink RX12 243 "MicroStepsModel" "bandMany" "I" ∈ AW := aw_t (i := 1143) (by decide +kernel) rfl
theorem zf12_246 : Cond.fieldLink RX12 246 "MicroStepsModel" "fixMany" "I" ∈ AW := aw_t (i := 1145) (by decide +kernel) rfl
theorem zf12_249 : Cond.fieldLink RX12 249 "MicroStepsModel" "acts" "I" ∈ AW := aw_t (i := 1165) (by decide +kernel) rfl
theorem zf12_286 : Cond.fieldLink RX12 286 "MicroStepsModel" "rampMany" "I" ∈ AW := aw_t (i := 1155) (by decide +kernel) rfl
theorem zf12_329 : Cond.fieldLink RX12 329 "MicroStepsModel" "way" "I" ∈ AW := aw_t (i := 1158) (by decide +kernel) rfl
theorem zf12_335 : Cond.fieldLink RX12 335 "MicroStepsModel" "lead" "I" ∈ AW := aw_t (i := 1157) (by decide +kernel) rfl
theorem zf12_344 : Cond.fieldLink RX12 344 "MicroStepsModel" "lineSpeed" "I" ∈ AW := aw_t (i := 1159) (by decide +kernel) rfl
theorem zf12_347 : Cond.fieldLink RX12 347 "MicroStepsModel" "lineGain" "I" ∈ AW := aw_t (i := 1160) (by decide +kernel) rfl
theorem zf12_350 : Cond.fieldLink RX12 350 "MicroStepsModel" "lineJerk" "I" ∈ AW := aw_t (i := 1161) (by decide +kernel) rfl
theorem zf12_357 : Cond.fieldLink RX12 357 "MicroStepsModel" "rest" "I" ∈ AW := aw_t (i := 1162) (by decide +kernel) rfl
theorem zf12_363 : Cond.fieldLink RX12 363 "MicroStepsModel" "even" "I" ∈ AW := aw_t (i := 1163) (by decide +kernel) rfl
theorem zf12_483 : Cond.fieldLink RX12 483 "MicroStepsModel" "off" "I" ∈ AW := aw_t (i := 1167) (by decide +kernel) rfl
theorem zf12_486 : Cond.fieldLink RX12 486 "MicroStepsModel" "over" "I" ∈ AW := aw_t (i := 1168) (by decide +kernel) rfl
theorem zf12_489 : Cond.fieldLink RX12 489 "MicroStepsModel" "offAll" "I" ∈ AW := aw_t (i := 1169) (by decide +kernel) rfl
theorem zk11_93 : Cond.methodLink RX11 93 yX10_put ∈ AW := aw_t (i := 476) (by decide +kernel) rfl
theorem zk11_97 : Cond.methodLink RX11 97 yX6_start ∈ AW := aw_t (i := 488) (by decide +kernel) rfl
theorem zk11_101 : Cond.methodLink RX11 101 yX6_hasMore ∈ AW := aw_t (i := 528) (by decide +kernel) rfl
theorem zk11_105 : Cond.methodLink RX11 105 yX6_readLine ∈ AW := aw_t (i := 532) (by decide +kernel) rfl
theorem zk11_108 : Cond.methodLink RX11 108 yX8_clear ∈ AW := aw_t (i := 659) (by decide +kernel) rfl
theorem zk11_123 : Cond.methodLink RX11 123 yX11_isWithin ∈ AW := aw_t (i := 683) (by decide +kernel) rfl
theorem zk11_140 : Cond.methodLink RX11 140 yX9_wave ∈ AW := aw_t (i := 689) (by decide +kernel) rfl
theorem zk11_144 : Cond.methodLink RX11 144 yX9_rootsOf ∈ AW := aw_t (i := 696) (by decide +kernel) rfl
theorem zk11_147 : Cond.methodLink RX11 147 yX9_bestAt ∈ AW := aw_t (i := 714) (by decide +kernel) rfl
theorem zk11_150 : Cond.methodLink RX11 150 arraycopyName ∈ AW := aw_t (i := 725) (by decide +kernel) rfl
theorem zk11_156 : Cond.methodLink RX11 156 yX11_askRamp ∈ AW := aw_t (i := 730) (by decide +kernel) rfl
theorem zk11_162 : Cond.methodLink RX11 162 yX5_reached ∈ AW := aw_t (i := 741) (by decide +kernel) rfl
theorem zk11_166 : Cond.methodLink RX11 166 yX5_micros ∈ AW := aw_t (i := 749) (by decide +kernel) rfl
theorem zk11_169 : Cond.methodLink RX11 169 yX5_speedIn ∈ AW := aw_t (i := 757) (by decide +kernel) rfl
theorem zk11_173 : Cond.methodLink RX11 173 yX11_askMove ∈ AW := aw_t (i := 762) (by decide +kernel) rfl
theorem zk11_176 : Cond.methodLink RX11 176 yX4_ticks ∈ AW := aw_t (i := 799) (by decide +kernel) rfl
theorem zk11_190 : Cond.methodLink RX11 190 yX4_ticksInBands ∈ AW := aw_t (i := 803) (by decide +kernel) rfl
theorem zk11_194 : Cond.methodLink RX11 194 yX11_isAxis ∈ AW := aw_t (i := 812) (by decide +kernel) rfl
theorem zk11_198 : Cond.methodLink RX11 198 yX4_goneBehind ∈ AW := aw_t (i := 816) (by decide +kernel) rfl
theorem zk11_201 : Cond.methodLink RX11 201 yX4_placeOf ∈ AW := aw_t (i := 821) (by decide +kernel) rfl
theorem zk11_205 : Cond.methodLink RX11 205 yX4_wayOf ∈ AW := aw_t (i := 830) (by decide +kernel) rfl
theorem zk11_208 : Cond.methodLink RX11 208 yX4_leadFor ∈ AW := aw_t (i := 831) (by decide +kernel) rfl
theorem zk11_211 : Cond.methodLink RX11 211 yX4_dueAt ∈ AW := aw_t (i := 835) (by decide +kernel) rfl
theorem zk11_214 : Cond.methodLink RX11 214 yX4_greatestChange ∈ AW := aw_t (i := 844) (by decide +kernel) rfl
theorem zk11_219 : Cond.methodLink RX11 219 yX4_startAlone ∈ AW := aw_t (i := 853) (by decide +kernel) rfl
theorem zk11_223 : Cond.methodLink RX11 223 yX4_takeTop ∈ AW := aw_t (i := 857) (by decide +kernel) rfl
theorem zk11_230 : Cond.methodLink RX11 230 Lib.Math.abs.name ∈ AW := aw_t (i := 862) (by decide +kernel) rfl
theorem zk11_235 : Cond.methodLink RX11 235 Lib.Math.max.name ∈ AW := aw_t (i := 863) (by decide +kernel) rfl
theorem zk11_238 : Cond.methodLink RX11 238 yX11_isMode ∈ AW := aw_t (i := 868) (by decide +kernel) rfl
theorem zk11_241 : Cond.methodLink RX11 241 yX2_start ∈ AW := aw_t (i := 871) (by decide +kernel) rfl
theorem zk11_244 : Cond.methodLink RX11 244 yX2_step ∈ AW := aw_t (i := 875) (by decide +kernel) rfl
theorem zk11_255 : Cond.methodLink RX11 255 yX3_keep ∈ AW := aw_t (i := 889) (by decide +kernel) rfl
theorem zk11_259 : Cond.methodLink RX11 259 yX8_begin ∈ AW := aw_t (i := 913) (by decide +kernel) rfl
theorem zk11_281 : Cond.methodLink RX11 281 yX5_build ∈ AW := aw_t (i := 734) (by decide +kernel) rfl
theorem zk11_288 : Cond.methodLink RX11 288 yX8_haltBy ∈ AW := aw_t (i := 923) (by decide +kernel) rfl
theorem zk11_292 : Cond.methodLink RX11 292 yX8_tick ∈ AW := aw_t (i := 932) (by decide +kernel) rfl
theorem zk11_295 : Cond.methodLink RX11 295 yX8_microsLeft ∈ AW := aw_t (i := 972) (by decide +kernel) rfl
theorem zk11_301 : Cond.methodLink RX11 301 yX11_takeGoal ∈ AW := aw_t (i := 766) (by decide +kernel) rfl
theorem zk11_304 : Cond.methodLink RX11 304 yX8_addWaiting ∈ AW := aw_t (i := 980) (by decide +kernel) rfl
theorem zk11_318 : Cond.methodLink RX11 318 yX7_truePlace ∈ AW := aw_t (i := 996) (by decide +kernel) rfl
theorem zk11_327 : Cond.methodLink RX11 327 yX3_takeBack ∈ AW := aw_t (i := 1007) (by decide +kernel) rfl
theorem zk11_352 : Cond.methodLink RX11 352 yX7_angle ∈ AW := aw_t (i := 1019) (by decide +kernel) rfl
theorem zk11_355 : Cond.methodLink RX11 355 yJ9_floorDiv_7cf53 ∈ AW := aw_t (i := 1020) (by decide +kernel) rfl
theorem zk11_358 : Cond.methodLink RX11 358 yX1_bandsOver ∈ AW := aw_t (i := 1025) (by decide +kernel) rfl
theorem zk11_361 : Cond.methodLink RX11 361 yX8_copyFrom ∈ AW := aw_t (i := 1030) (by decide +kernel) rfl
theorem zk11_364 : Cond.methodLink RX11 364 yX8_isSteady ∈ AW := aw_t (i := 1035) (by decide +kernel) rfl
theorem zk11_368 : Cond.methodLink RX11 368 yX11_isLetGo ∈ AW := aw_t (i := 1055) (by decide +kernel) rfl
theorem zk11_371 : Cond.methodLink RX11 371 yX7_letGo ∈ AW := aw_t (i := 1058) (by decide +kernel) rfl
theorem zk11_375 : Cond.methodLink RX11 375 yX7_turn ∈ AW := aw_t (i := 1059) (by decide +kernel) rfl
theorem zk11_379 : Cond.methodLink RX11 379 yJ6_signum_0f7a4 ∈ AW := aw_t (i := 1060) (by decide +kernel) rfl
theorem zk11_382 : Cond.methodLink RX11 382 yX7_isCalm ∈ AW := aw_t (i := 1067) (by decide +kernel) rfl
theorem zk11_386 : Cond.methodLink RX11 386 yX11_shakeBy ∈ AW := aw_t (i := 1072) (by decide +kernel) rfl
theorem zk11_390 : Cond.methodLink RX11 390 yX11_offWhileFollowing ∈ AW := aw_t (i := 1092) (by decide +kernel) rfl
theorem zk11_393 : Cond.methodLink RX11 393 Lib.Math.min.name ∈ AW := aw_t (i := 1100) (by decide +kernel) rfl
theorem zk11_415 : Cond.methodLink RX11 415 yX4_plan ∈ AW := aw_t (i := 770) (by decide +kernel) rfl
theorem zk1_46 : Cond.methodLink RX1 46 yX9_clear ∈ AW := aw_t (i := 496) (by decide +kernel) rfl
theorem zk2_29 : Cond.methodLink RX2 29 Lib.Math.max.name ∈ AW := aw_t (i := 879) (by decide +kernel) rfl
theorem zk3_22 : Cond.methodLink RX3 22 yX8_copyFrom ∈ AW := aw_t (i := 893) (by decide +kernel) rfl
theorem zk3_29 : Cond.methodLink RX3 29 Lib.Math.min.name ∈ AW := aw_t (i := 912) (by decide +kernel) rfl
theorem zk4_42 : Cond.methodLink RX4 42 yX4_wayOf ∈ AW := aw_t (i := 774) (by decide +kernel) rfl
theorem zk4_46 : Cond.methodLink RX4 46 yX4_findLimits ∈ AW := aw_t (i := 779) (by decide +kernel) rfl
theorem zk4_53 : Cond.methodLink RX4 53 yX4_takeTop ∈ AW := aw_t (i := 786) (by decide +kernel) rfl
theorem zk4_71 : Cond.methodLink RX4 71 yX4_ticks ∈ AW := aw_t (i := 820) (by decide +kernel) rfl
theorem zk4_76 : Cond.methodLink RX4 76 Lib.Math.min.name ∈ AW := aw_t (i := 783) (by decide +kernel) rfl
theorem zk4_82 : Cond.methodLink RX4 82 yX5_build ∈ AW := aw_t (i := 790) (by decide +kernel) rfl
theorem zk4_86 : Cond.methodLink RX4 86 yX5_reached ∈ AW := aw_t (i := 791) (by decide +kernel) rfl
theorem zk4_89 : Cond.methodLink RX4 89 yX5_micros ∈ AW := aw_t (i := 792) (by decide +kernel) rfl
theorem zk4_92 : Cond.methodLink RX4 92 yX1_bandsOver ∈ AW := aw_t (i := 793) (by decide +kernel) rfl
theorem zk4_95 : Cond.methodLink RX4 95 Lib.Math.max.name ∈ AW := aw_t (i := 798) (by decide +kernel) rfl
theorem zk4_104 : Cond.methodLink RX4 104 Lib.Math.abs.name ∈ AW := aw_t (i := 778) (by decide +kernel) rfl
theorem zk4_114 : Cond.methodLink RX4 114 yX4_goneBehind ∈ AW := aw_t (i := 839) (by decide +kernel) rfl
theorem zk4_117 : Cond.methodLink RX4 117 yX5_speedIn ∈ AW := aw_t (i := 807) (by decide +kernel) rfl
theorem zk4_120 : Cond.methodLink RX4 120 arraycopyName ∈ AW := aw_t (i := 905) (by decide +kernel) rfl
theorem zk4_126 : Cond.methodLink RX4 126 yX5_copyFrom ∈ AW := aw_t (i := 906) (by decide +kernel) rfl
theorem zk5_19 : Cond.methodLink RX5 19 yX5_nextGain ∈ AW := aw_t (i := 738) (by decide +kernel) rfl
theorem zk5_23 : Cond.methodLink RX5 23 yX5_speedIn ∈ AW := aw_t (i := 745) (by decide +kernel) rfl
theorem zk5_27 : Cond.methodLink RX5 27 arraycopyName ∈ AW := aw_t (i := 910) (by decide +kernel) rfl
theorem zk6_29 : Cond.methodLink RX6 29 yX1_clear ∈ AW := aw_t (i := 492) (by decide +kernel) rfl
theorem zk6_34 : Cond.methodLink RX6 34 yX6_step ∈ AW := aw_t (i := 503) (by decide +kernel) rfl
theorem zk6_42 : Cond.methodLink RX6 42 yX6_isWord ∈ AW := aw_t (i := 537) (by decide +kernel) rfl
theorem zk6_46 : Cond.methodLink RX6 46 yX6_readAxis ∈ AW := aw_t (i := 592) (by decide +kernel) rfl
theorem zk6_52 : Cond.methodLink RX6 52 yX6_readMotor ∈ AW := aw_t (i := 639) (by decide +kernel) rfl
theorem zk6_57 : Cond.methodLink RX6 57 yX6_readBand ∈ AW := aw_t (i := 647) (by decide +kernel) rfl
theorem zk6_62 : Cond.methodLink RX6 62 yX6_readFix ∈ AW := aw_t (i := 651) (by decide +kernel) rfl
theorem zk6_67 : Cond.methodLink RX6 67 yX6_readCoil ∈ AW := aw_t (i := 655) (by decide +kernel) rfl
theorem zk6_70 : Cond.methodLink RX6 70 yX6_refuse ∈ AW := aw_t (i := 596) (by decide +kernel) rfl
theorem zk6_77 : Cond.methodLink RX6 77 yX6_isName ∈ AW := aw_t (i := 600) (by decide +kernel) rfl
theorem zk6_83 : Cond.methodLink RX6 83 yX1_axisNamed ∈ AW := aw_t (i := 616) (by decide +kernel) rfl
theorem zk6_91 : Cond.methodLink RX6 91 yX0_clear ∈ AW := aw_t (i := 620) (by decide +kernel) rfl
theorem zk6_98 : Cond.methodLink RX6 98 yX6_takeWord ∈ AW := aw_t (i := 624) (by decide +kernel) rfl
theorem zk6_101 : Cond.methodLink RX6 101 yX6_takeNumber ∈ AW := aw_t (i := 628) (by decide +kernel) rfl
theorem zk6_118 : Cond.methodLink RX6 118 yX6_takeStop ∈ AW := aw_t (i := 635) (by decide +kernel) rfl
theorem zk6_121 : Cond.methodLink RX6 121 yX6_takeAxis ∈ AW := aw_t (i := 643) (by decide +kernel) rfl
theorem zk6_191 : Cond.methodLink RX6 191 yX6_codeOf ∈ AW := aw_t (i := 541) (by decide +kernel) rfl
theorem zk6_209 : Cond.methodLink RX6 209 yX10_byteAt ∈ AW := aw_t (i := 507) (by decide +kernel) rfl
theorem zk6_212 : Cond.methodLink RX6 212 yX6_isBlank ∈ AW := aw_t (i := 511) (by decide +kernel) rfl
theorem zk6_215 : Cond.methodLink RX6 215 yX6_isLetter ∈ AW := aw_t (i := 514) (by decide +kernel) rfl
theorem zk6_218 : Cond.methodLink RX6 218 yX6_stepWord ∈ AW := aw_t (i := 517) (by decide +kernel) rfl
theorem zk6_221 : Cond.methodLink RX6 221 yX6_isDigit ∈ AW := aw_t (i := 521) (by decide +kernel) rfl
theorem zk6_224 : Cond.methodLink RX6 224 yX6_stepNumber ∈ AW := aw_t (i := 524) (by decide +kernel) rfl
theorem zk7_9 : Cond.methodLink RX7 9 yX7_letGo ∈ AW := aw_t (i := 667) (by decide +kernel) rfl
theorem zk7_34 : Cond.methodLink RX7 34 yJ9_floorDiv_7cf53 ∈ AW := aw_t (i := 1000) (by decide +kernel) rfl
theorem zk7_51 : Cond.methodLink RX7 51 yX7_angle ∈ AW := aw_t (i := 956) (by decide +kernel) rfl
theorem zk7_55 : Cond.methodLink RX7 55 yX9_wave ∈ AW := aw_t (i := 960) (by decide +kernel) rfl
theorem zk7_62 : Cond.methodLink RX7 62 yX7_push ∈ AW := aw_t (i := 952) (by decide +kernel) rfl
theorem zk7_69 : Cond.methodLink RX7 69 Lib.Math.min.name ∈ AW := aw_t (i := 961) (by decide +kernel) rfl
theorem zk7_72 : Cond.methodLink RX7 72 Lib.Math.max.name ∈ AW := aw_t (i := 962) (by decide +kernel) rfl
theorem zk7_75 : Cond.methodLink RX7 75 Lib.Math.abs.name ∈ AW := aw_t (i := 967) (by decide +kernel) rfl
theorem zk8_36 : Cond.methodLink RX8 36 yX7_clear ∈ AW := aw_t (i := 663) (by decide +kernel) rfl
theorem zk8_45 : Cond.methodLink RX8 45 yX8_stop ∈ AW := aw_t (i := 671) (by decide +kernel) rfl
theorem zk8_61 : Cond.methodLink RX8 61 yX4_plan ∈ AW := aw_t (i := 917) (by decide +kernel) rfl
theorem zk8_65 : Cond.methodLink RX8 65 yX4_ticks ∈ AW := aw_t (i := 918) (by decide +kernel) rfl
theorem zk8_81 : Cond.methodLink RX8 81 yX5_copyFrom ∈ AW := aw_t (i := 927) (by decide +kernel) rfl
theorem zk8_85 : Cond.methodLink RX8 85 arraycopyName ∈ AW := aw_t (i := 911) (by decide +kernel) rfl
theorem zk8_91 : Cond.methodLink RX8 91 yX8_takeWaiting ∈ AW := aw_t (i := 936) (by decide +kernel) rfl
theorem zk8_94 : Cond.methodLink RX8 94 yX8_begin ∈ AW := aw_t (i := 940) (by decide +kernel) rfl
theorem zk8_98 : Cond.methodLink RX8 98 yX8_advance ∈ AW := aw_t (i := 941) (by decide +kernel) rfl
theorem zk8_114 : Cond.methodLink RX8 114 yX7_turn ∈ AW := aw_t (i := 948) (by decide +kernel) rfl
theorem zk8_121 : Cond.methodLink RX8 121 yX7_isOffBy ∈ AW := aw_t (i := 963) (by decide +kernel) rfl
theorem zk8_125 : Cond.methodLink RX8 125 yX8_tripIfOver ∈ AW := aw_t (i := 968) (by decide +kernel) rfl
theorem zk8_129 : Cond.methodLink RX8 129 yX5_speedIn ∈ AW := aw_t (i := 945) (by decide +kernel) rfl
theorem zk8_133 : Cond.methodLink RX8 133 yX4_goneBehind ∈ AW := aw_t (i := 946) (by decide +kernel) rfl
theorem zk8_136 : Cond.methodLink RX8 136 yX4_placeOf ∈ AW := aw_t (i := 947) (by decide +kernel) rfl
theorem zk8_152 : Cond.methodLink RX8 152 yX7_isCalm ∈ AW := aw_t (i := 1039) (by decide +kernel) rfl
theorem zk8_156 : Cond.methodLink RX8 156 yX7_copyFrom ∈ AW := aw_t (i := 897) (by decide +kernel) rfl
theorem zk8_159 : Cond.methodLink RX8 159 yX4_copyFrom ∈ AW := aw_t (i := 901) (by decide +kernel) rfl
theorem zk9_26 : Cond.methodLink RX9 26 arraycopyName ∈ AW := aw_t (i := 500) (by decide +kernel) rfl
theorem zk9_32 : Cond.methodLink RX9 32 yX9_wave ∈ AW := aw_t (i := 703) (by decide +kernel) rfl
theorem zk9_36 : Cond.methodLink RX9 36 yX9_squareRoot ∈ AW := aw_t (i := 704) (by decide +kernel) rfl
theorem zk9_43 : Cond.methodLink RX9 43 yX9_rootAt ∈ AW := aw_t (i := 700) (by decide +kernel) rfl
theorem zk9_46 : Cond.methodLink RX9 46 Lib.Math.max.name ∈ AW := aw_t (i := 707) (by decide +kernel) rfl
theorem zk9_52 : Cond.methodLink RX9 52 Lib.Math.abs.name ∈ AW := aw_t (i := 718) (by decide +kernel) rfl
theorem zk12_87 : Cond.methodLink RX12 87 yX12_four ∈ AW := aw_t (i := 1278) (by decide +kernel) rfl
theorem zk12_91 : Cond.methodLink RX12 91 yX12_isIn ∈ AW := aw_t (i := 1286) (by decide +kernel) rfl
theorem zk12_101 : Cond.methodLink RX12 101 yX12_here ∈ AW := aw_t (i := 1297) (by decide +kernel) rfl
theorem zk12_118 : Cond.methodLink RX12 118 yX12_isLetter ∈ AW := aw_t (i := 1301) (by decide +kernel) rfl
theorem zk12_122 : Cond.methodLink RX12 122 yX12_isDigit ∈ AW := aw_t (i := 1304) (by decide +kernel) rfl
theorem zk12_154 : Cond.methodLink RX12 154 yX12_isWord ∈ AW := aw_t (i := 1316) (by decide +kernel) rfl
theorem zk12_158 : Cond.methodLink RX12 158 yX12_goOn ∈ AW := aw_t (i := 1293) (by decide +kernel) rfl
theorem zk12_161 : Cond.methodLink RX12 161 yX12_wrong ∈ AW := aw_t (i := 1324) (by decide +kernel) rfl
theorem zk12_164 : Cond.methodLink RX12 164 yX12_numberHere ∈ AW := aw_t (i := 1364) (by decide +kernel) rfl
theorem zk12_168 : Cond.methodLink RX12 168 yX12_isGood ∈ AW := aw_t (i := 1307) (by decide +kernel) rfl
theorem zk12_172 : Cond.methodLink RX12 172 yX12_must ∈ AW := aw_t (i := 1356) (by decide +kernel) rfl
theorem zk12_176 : Cond.methodLink RX12 176 yX12_number ∈ AW := aw_t (i := 1360) (by decide +kernel) rfl
theorem zk12_183 : Cond.methodLink RX12 183 yX12_isKept ∈ AW := aw_t (i := 1332) (by decide +kernel) rfl
theorem zk12_186 : Cond.methodLink RX12 186 yX12_mustName ∈ AW := aw_t (i := 1328) (by decide +kernel) rfl
theorem zk12_189 : Cond.methodLink RX12 189 yX12_nameAt ∈ AW := aw_t (i := 1348) (by decide +kernel) rfl
theorem zk12_193 : Cond.methodLink RX12 193 yX12_behind ∈ AW := aw_t (i := 1352) (by decide +kernel) rfl
theorem zk12_197 : Cond.methodLink RX12 197 yX12_axisHere ∈ AW := aw_t (i := 1372) (by decide +kernel) rfl
theorem zk12_216 : Cond.methodLink RX12 216 yX12_axisLine ∈ AW := aw_t (i := 1320) (by decide +kernel) rfl
theorem zk12_219 : Cond.methodLink RX12 219 yX12_motorLine ∈ AW := aw_t (i := 1368) (by decide +kernel) rfl
theorem zk12_222 : Cond.methodLink RX12 222 yX12_bandLine ∈ AW := aw_t (i := 1376) (by decide +kernel) rfl
theorem zk12_225 : Cond.methodLink RX12 225 yX12_fixLine ∈ AW := aw_t (i := 1380) (by decide +kernel) rfl
theorem zk12_228 : Cond.methodLink RX12 228 yX12_coilLine ∈ AW := aw_t (i := 1384) (by decide +kernel) rfl
theorem zk12_231 : Cond.methodLink RX12 231 yX12_line ∈ AW := aw_t (i := 1311) (by decide +kernel) rfl
theorem zk12_237 : Cond.methodLink RX12 237 yX12_takes ∈ AW := aw_t (i := 1388) (by decide +kernel) rfl
theorem zk12_255 : Cond.methodLink RX12 255 yX12_floor ∈ AW := aw_t (i := 1410) (by decide +kernel) rfl
theorem zk12_258 : Cond.methodLink RX12 258 yX12_tableAt ∈ AW := aw_t (i := 1417) (by decide +kernel) rfl
theorem zk12_262 : Cond.methodLink RX12 262 yX12_sine ∈ AW := aw_t (i := 1413) (by decide +kernel) rfl
theorem zk12_265 : Cond.methodLink RX12 265 yX12_currentOf ∈ AW := aw_t (i := 1406) (by decide +kernel) rfl
theorem zk12_270 : Cond.methodLink RX12 270 yX12_rootAt ∈ AW := aw_t (i := 1426) (by decide +kernel) rfl
theorem zk12_273 : Cond.methodLink RX12 273 yX12_size ∈ AW := aw_t (i := 1434) (by decide +kernel) rfl
theorem zk12_276 : Cond.methodLink RX12 276 yX12_mend ∈ AW := aw_t (i := 1441) (by decide +kernel) rfl
theorem zk12_279 : Cond.methodLink RX12 279 yX12_truth ∈ AW := aw_t (i := 1442) (by decide +kernel) rfl
theorem zk12_283 : Cond.methodLink RX12 283 yX12_field ∈ AW := aw_t (i := 1445) (by decide +kernel) rfl
theorem zk12_289 : Cond.methodLink RX12 289 yX12_till ∈ AW := aw_t (i := 1460) (by decide +kernel) rfl
theorem zk12_298 : Cond.methodLink RX12 298 yX12_isRamp ∈ AW := aw_t (i := 1450) (by decide +kernel) rfl
theorem zk12_302 : Cond.methodLink RX12 302 yX12_laysRamp ∈ AW := aw_t (i := 1456) (by decide +kernel) rfl
theorem zk12_306 : Cond.methodLink RX12 306 yX12_reached ∈ AW := aw_t (i := 1463) (by decide +kernel) rfl
theorem zk12_309 : Cond.methodLink RX12 309 yX12_rampSum ∈ AW := aw_t (i := 1467) (by decide +kernel) rfl
theorem zk12_312 : Cond.methodLink RX12 312 yX12_isAxis ∈ AW := aw_t (i := 1479) (by decide +kernel) rfl
theorem zk12_315 : Cond.methodLink RX12 315 yX12_bandsAt ∈ AW := aw_t (i := 1483) (by decide +kernel) rfl
theorem zk12_318 : Cond.methodLink RX12 318 yX12_greater ∈ AW := aw_t (i := 1527) (by decide +kernel) rfl
theorem zk12_321 : Cond.methodLink RX12 321 yX12_one ∈ AW := aw_t (i := 1499) (by decide +kernel) rfl
theorem zk12_332 : Cond.methodLink RX12 332 yX12_lesser ∈ AW := aw_t (i := 1516) (by decide +kernel) rfl
theorem zk12_338 : Cond.methodLink RX12 338 yX12_axisAt ∈ AW := aw_t (i := 1508) (by decide +kernel) rfl
theorem zk12_341 : Cond.methodLink RX12 341 yX12_least ∈ AW := aw_t (i := 1512) (by decide +kernel) rfl
theorem zk12_353 : Cond.methodLink RX12 353 yX12_laysTop ∈ AW := aw_t (i := 1519) (by decide +kernel) rfl
theorem zk12_360 : Cond.methodLink RX12 360 yX12_evenTicks ∈ AW := aw_t (i := 1523) (by decide +kernel) rfl
theorem zk12_366 : Cond.methodLink RX12 366 yX12_areRight ∈ AW := aw_t (i := 1495) (by decide +kernel) rfl
theorem zk12_369 : Cond.methodLink RX12 369 yX12_plans ∈ AW := aw_t (i := 1504) (by decide +kernel) rfl
theorem zk12_372 : Cond.methodLink RX12 372 yX12_part ∈ AW := aw_t (i := 1542) (by decide +kernel) rfl
theorem zk12_375 : Cond.methodLink RX12 375 yX12_canGo ∈ AW := aw_t (i := 1491) (by decide +kernel) rfl
theorem zk12_378 : Cond.methodLink RX12 378 yX12_planTicks ∈ AW := aw_t (i := 1530) (by decide +kernel) rfl
theorem zk12_381 : Cond.methodLink RX12 381 yX12_bandTicks ∈ AW := aw_t (i := 1534) (by decide +kernel) rfl
theorem zk12_384 : Cond.methodLink RX12 384 yX12_speedOf ∈ AW := aw_t (i := 1538) (by decide +kernel) rfl
theorem zk12_387 : Cond.methodLink RX12 387 yX12_goneBy ∈ AW := aw_t (i := 1549) (by decide +kernel) rfl
theorem zk12_390 : Cond.methodLink RX12 390 yX12_due ∈ AW := aw_t (i := 1556) (by decide +kernel) rfl
theorem zk12_397 : Cond.methodLink RX12 397 yX12_pulls ∈ AW := aw_t (i := 1582) (by decide +kernel) rfl
theorem zk12_400 : Cond.methodLink RX12 400 yX12_act ∈ AW := aw_t (i := 1594) (by decide +kernel) rfl
theorem zk12_403 : Cond.methodLink RX12 403 yX12_begins ∈ AW := aw_t (i := 1598) (by decide +kernel) rfl
theorem zk12_406 : Cond.methodLink RX12 406 yX12_allTicks ∈ AW := aw_t (i := 1650) (by decide +kernel) rfl
theorem zk12_411 : Cond.methodLink RX12 411 yX12_setsAxis ∈ AW := aw_t (i := 1615) (by decide +kernel) rfl
theorem zk12_418 : Cond.methodLink RX12 418 yX12_angleBy ∈ AW := aw_t (i := 1658) (by decide +kernel) rfl
theorem zk12_423 : Cond.methodLink RX12 423 yX12_pushed ∈ AW := aw_t (i := 1665) (by decide +kernel) rfl
theorem zk12_426 : Cond.methodLink RX12 426 yX12_speedNow ∈ AW := aw_t (i := 1646) (by decide +kernel) rfl
theorem zk12_429 : Cond.methodLink RX12 429 yX12_angle ∈ AW := aw_t (i := 1654) (by decide +kernel) rfl
theorem zk12_432 : Cond.methodLink RX12 432 yX12_waitingBegins ∈ AW := aw_t (i := 1638) (by decide +kernel) rfl
theorem zk12_435 : Cond.methodLink RX12 435 yX12_moves ∈ AW := aw_t (i := 1642) (by decide +kernel) rfl
theorem zk12_438 : Cond.methodLink RX12 438 yX12_swung ∈ AW := aw_t (i := 1661) (by decide +kernel) rfl
theorem zk12_441 : Cond.methodLink RX12 441 yX12_trips ∈ AW := aw_t (i := 1670) (by decide +kernel) rfl
theorem zk12_446 : Cond.methodLink RX12 446 yX12_tick ∈ AW := aw_t (i := 1634) (by decide +kernel) rfl
theorem zk12_449 : Cond.methodLink RX12 449 yX12_left ∈ AW := aw_t (i := 1674) (by decide +kernel) rfl
theorem zk12_454 : Cond.methodLink RX12 454 yX12_puts ∈ AW := aw_t (i := 1691) (by decide +kernel) rfl
theorem zk12_457 : Cond.methodLink RX12 457 yX12_takesBack ∈ AW := aw_t (i := 1695) (by decide +kernel) rfl
theorem zk12_460 : Cond.methodLink RX12 460 yX12_isSteady ∈ AW := aw_t (i := 1703) (by decide +kernel) rfl
theorem zk12_465 : Cond.methodLink RX12 465 yX12_bears ∈ AW := aw_t (i := 1712) (by decide +kernel) rfl
theorem zk12_468 : Cond.methodLink RX12 468 yX12_shakeOf ∈ AW := aw_t (i := 1724) (by decide +kernel) rfl
theorem zk12_477 : Cond.methodLink RX12 477 yX12_isLet ∈ AW := aw_t (i := 1741) (by decide +kernel) rfl
theorem zk12_480 : Cond.methodLink RX12 480 yX12_sign ∈ AW := aw_t (i := 1746) (by decide +kernel) rfl
theorem zk12_494 : Cond.methodLink RX12 494 yX12_laysFollow ∈ AW := aw_t (i := 1762) (by decide +kernel) rfl
theorem zi11_127 : Cond.constant RX11 127 (-2147483648) ∈ AW := aw_t (i := 684) (by decide +kernel) rfl
theorem zi11_218 : Cond.constant RX11 218 (60000) ∈ AW := aw_t (i := 852) (by decide +kernel) rfl
theorem zi11_250 : Cond.constant RX11 250 (2147483647) ∈ AW := aw_t (i := 884) (by decide +kernel) rfl
theorem zi9_42 : Cond.constant RX9 42 (2147483647) ∈ AW := aw_t (i := 699) (by decide +kernel) rfl
theorem zi12_254 : Cond.constant RX12 254 (-2147483648) ∈ AW := aw_t (i := 1401) (by decide +kernel) rfl
theorem zi4_112 : Cond.constantLong RX4 112 (2) ∈ AW := aw_t (i := 825) (by decide +kernel) rfl
theorem zi12_128 : Cond.constantLong RX12 128 (1635281267) ∈ AW := aw_t (i := 1315) (by decide +kernel) rfl
theorem zi12_130 : Cond.constantLong RX12 130 (470021336946) ∈ AW := aw_t (i := 1336) (by decide +kernel) rfl
theorem zi12_132 : Cond.constantLong RX12 132 (1650552420) ∈ AW := aw_t (i := 1337) (by decide +kernel) rfl
theorem zi12_134 : Cond.constantLong RX12 134 (6711672) ∈ AW := aw_t (i := 1338) (by decide +kernel) rfl
theorem zi12_136 : Cond.constantLong RX12 136 (1668245868) ∈ AW := aw_t (i := 1339) (by decide +kernel) rfl
theorem zi12_138 : Cond.constantLong RX12 138 (495806932324) ∈ AW := aw_t (i := 1340) (by decide +kernel) rfl
theorem zi12_140 : Cond.constantLong RX12 140 (1734437230) ∈ AW := aw_t (i := 1341) (by decide +kernel) rfl
theorem zi12_142 : Cond.constantLong RX12 142 (1785033323) ∈ AW := aw_t (i := 1342) (by decide +kernel) rfl
theorem zi12_144 : Cond.constantLong RX12 144 (1752132708) ∈ AW := aw_t (i := 1343) (by decide +kernel) rfl
theorem zi12_146 : Cond.constantLong RX12 146 (1835103091) ∈ AW := aw_t (i := 1344) (by decide +kernel) rfl
theorem zi12_148 : Cond.constantLong RX12 148 (1684106608) ∈ AW := aw_t (i := 1345) (by decide +kernel) rfl
theorem zi12_150 : Cond.constantLong RX12 150 (126948234783865) ∈ AW := aw_t (i := 1346) (by decide +kernel) rfl
theorem zi12_152 : Cond.constantLong RX12 152 (1819243379) ∈ AW := aw_t (i := 1347) (by decide +kernel) rfl
theorem zi12_252 : Cond.constantLong RX12 252 (64) ∈ AW := aw_t (i := 1400) (by decide +kernel) rfl
theorem zi12_268 : Cond.constantLong RX12 268 (2) ∈ AW := aw_t (i := 1425) (by decide +kernel) rfl
theorem zi12_292 : Cond.constantLong RX12 292 (60) ∈ AW := aw_t (i := 1453) (by decide +kernel) rfl
theorem zi12_294 : Cond.constantLong RX12 294 (30) ∈ AW := aw_t (i := 1454) (by decide +kernel) rfl
theorem zi12_296 : Cond.constantLong RX12 296 (10) ∈ AW := aw_t (i := 1455) (by decide +kernel) rfl
theorem zi12_325 : Cond.constantLong RX12 325 (-30000) ∈ AW := aw_t (i := 1502) (by decide +kernel) rfl
theorem zi12_327 : Cond.constantLong RX12 327 (30000) ∈ AW := aw_t (i := 1503) (by decide +kernel) rfl
theorem zi12_393 : Cond.constantLong RX12 393 (60000) ∈ AW := aw_t (i := 1568) (by decide +kernel) rfl
theorem zi12_395 : Cond.constantLong RX12 395 (8) ∈ AW := aw_t (i := 1581) (by decide +kernel) rfl
theorem zi12_409 : Cond.constantLong RX12 409 (2048) ∈ AW := aw_t (i := 1614) (by decide +kernel) rfl
theorem zi12_414 : Cond.constantLong RX12 414 (-2000) ∈ AW := aw_t (i := 1623) (by decide +kernel) rfl
theorem zi12_416 : Cond.constantLong RX12 416 (2000) ∈ AW := aw_t (i := 1624) (by decide +kernel) rfl
theorem zi12_421 : Cond.constantLong RX12 421 (1000) ∈ AW := aw_t (i := 1669) (by decide +kernel) rfl
theorem zi12_444 : Cond.constantLong RX12 444 (500) ∈ AW := aw_t (i := 1633) (by decide +kernel) rfl
theorem zi12_452 : Cond.constantLong RX12 452 (7) ∈ AW := aw_t (i := 1682) (by decide +kernel) rfl
theorem zi12_463 : Cond.constantLong RX12 463 (200) ∈ AW := aw_t (i := 1711) (by decide +kernel) rfl
theorem zi12_471 : Cond.constantLong RX12 471 (100) ∈ AW := aw_t (i := 1732) (by decide +kernel) rfl
theorem zi12_473 : Cond.constantLong RX12 473 (-1023) ∈ AW := aw_t (i := 1744) (by decide +kernel) rfl
theorem zi12_475 : Cond.constantLong RX12 475 (1023) ∈ AW := aw_t (i := 1745) (by decide +kernel) rfl
theorem zi12_492 : Cond.constantLong RX12 492 (50) ∈ AW := aw_t (i := 1761) (by decide +kernel) rfl
theorem zyJ6_signum_0f7a4 : zMtS yJ6_signum_0f7a4 cJ6_signum_0f7a4 1 (some .int) 1 := ⟨aw_t (i := 1061) (by decide +kernel) rfl, aw_t (i := 20) (by decide +kernel) rfl, aw_t (i := 1062) (by decide +kernel) rfl, by decide +kernel⟩
theorem zyJ9_floorDiv_7cf53 : zMtS yJ9_floorDiv_7cf53 cJ9_floorDiv_7cf53 3 (some .int) 2 := ⟨aw_t (i := 1001) (by decide +kernel) rfl, aw_t (i := 19) (by decide +kernel) rfl, aw_t (i := 1002) (by decide +kernel) rfl, by decide +kernel⟩
theorem zyX0_clear : zMth yX0_clear cX0_clear 2 none 1 := ⟨aw_t (i := 621) (by decide +kernel) rfl, aw_t (i := 622) (by decide +kernel) rfl, aw_t (i := 4) (by decide +kernel) rfl, aw_t (i := 623) (by decide +kernel) rfl, by decide +kernel⟩
theorem zyX10_byteAt : zMth yX10_byteAt cX10_byteAt 2 (some .int) 1 := ⟨aw_t (i := 508) (by decide +kernel) rfl, aw_t (i := 509) (by decide +kernel) rfl, aw_t (i := 5) (by decide +kernel) rfl, aw_t (i := 510) (by decide +kernel) rfl, by decide +kernel⟩
theorem zyX10_put : zMth yX10_put cX10_put 3 none 1 := ⟨aw_t (i := 477) (by decide +kernel) rfl, aw_t (i := 478) (by decide +kernel) rfl, aw_t (i := 5) (by decide +kernel) rfl, aw_t (i := 479) (by decide +kernel) rfl, by decide +kernel⟩
theorem zyX11_askMove : zMth yX11_askMove cX11_askMove 4 (some .boolean) 3 := ⟨aw_t (i := 764) (by decide +kernel) rfl, aw_p (i := 1) (by decide +kernel) rfl, aw_t (i := 1) (by decide +kernel) rfl, aw_t (i := 765) (by decide +kernel) rfl, by decide +kernel⟩
theorem zyX11_askRamp : zMth yX11_askRamp cX11_askRamp 4 (some .boolean) 3 := ⟨aw_t (i := 732) (by decide +kernel) rfl, aw_p (i := 0) (by decide +kernel) rfl, aw_t (i := 1) (by decide +kernel) rfl, aw_t (i := 733) (by decide +kernel) rfl, by decide +kernel⟩
theorem zyX11_isAxis : zMth yX11_isAxis cX11_isAxis 2 (some .boolean) 1 := ⟨aw_t (i := 814) (by decide +kernel) rfl, aw_p (i := 3) (by decide +kernel) rfl, aw_t (i := 1) (by decide +kernel) rfl, aw_t (i := 815) (by decide +kernel) rfl, by decide +kernel⟩
theorem zyX11_isLetGo : zMtS yX11_isLetGo cX11_isLetGo 1 (some .boolean) 1 := ⟨aw_t (i := 1056) (by decide +kernel) rfl, aw_t (i := 1) (by decide +kernel) rfl, aw_t (i := 1057) (by decide +kernel) rfl, by decide +kernel⟩
theorem zyX11_isMode : zMtS yX11_isMode cX11_isMode 1 (some .boolean) 1 := ⟨aw_t (i := 869) (by decide +kernel) rfl, aw_t (i := 1) (by decide +kernel) rfl, aw_t (i := 870) (by decide +kernel) rfl, by decide +kernel⟩
theorem zyX11_isWithin : zMtS yX11_isWithin cX11_isWithin 3 (some .boolean) 3 := ⟨aw_t (i := 633) (by decide +kernel) rfl, aw_t (i := 1) (by decide +kernel) rfl, aw_t (i := 634) (by decide +kernel) rfl, by decide +kernel⟩
theorem zyX11_offWhileFollowing : zMth yX11_offWhileFollowing cX11_offWhileFollowing 12 (some .int) 3 := ⟨aw_t (i := 1094) (by decide +kernel) rfl, aw_p (i := 5) (by decide +kernel) rfl, aw_t (i := 1) (by decide +kernel) rfl, aw_t (i := 1095) (by decide +kernel) rfl, by decide +kernel⟩
theorem zyX11_shakeBy : zMth yX11_shakeBy cX11_shakeBy 6 (some .int) 3 := ⟨aw_t (i := 1074) (by decide +kernel) rfl, aw_p (i := 4) (by decide +kernel) rfl, aw_t (i := 1) (by decide +kernel) rfl, aw_t (i := 1075) (by decide +kernel) rfl, by decide +kernel⟩
theorem zyX11_takeGoal : zMth yX11_takeGoal cX11_takeGoal 5 (some .boolean) 3 := ⟨aw_t (i := 768) (by decide +kernel) rfl, aw_p (i := 2) (by decide +kernel) rfl, aw_t (i := 1) (by decide +kernel) rfl, aw_t (i := 769) (by decide +kernel) rfl, by decide +kernel⟩
theorem zyX12_act : zMth yX12_act cX12_act 2 none 0 := ⟨aw_t (i := 1596) (by decide +kernel) rfl, aw_p (i := 48) (by decide +kernel) rfl, aw_t (i := 13) (by decide +kernel) rfl, aw_t (i := 1597) (by decide +kernel) rfl, by decide +kernel⟩
theorem zyX12_allTicks : zMth yX12_allTicks cX12_allTicks 1 (some .int) 0 := ⟨aw_t (i := 1652) (by decide +kernel) rfl, aw_p (i := 55) (by decide +kernel) rfl, aw_t (i := 13) (by decide +kernel) rfl, aw_t (i := 1653) (by decide +kernel) rfl, by decide +kernel⟩
theorem zyX12_angle : zMth yX12_angle cX12_angle 2 (some .int) 1 := ⟨aw_t (i := 1656) (by decide +kernel) rfl, aw_p (i := 56) (by decide +kernel) rfl, aw_t (i := 13) (by decide +kernel) rfl, aw_t (i := 1657) (by decide +kernel) rfl, by decide +kernel⟩
theorem zyX12_angleBy : zMtS yX12_angleBy cX12_angleBy 2 (some .int) 2 := ⟨aw_t (i := 1659) (by decide +kernel) rfl, aw_t (i := 13) (by decide +kernel) rfl, aw_t (i := 1660) (by decide +kernel) rfl, by decide +kernel⟩
theorem zyX12_areRight : zMth yX12_areRight cX12_areRight 5 (some .boolean) 3 := ⟨aw_t (i := 1497) (by decide +kernel) rfl, aw_p (i := 37) (by decide +kernel) rfl, aw_t (i := 13) (by decide +kernel) rfl, aw_t (i := 1498) (by decide +kernel) rfl, by decide +kernel⟩
theorem zyX12_axisAt : zMth yX12_axisAt cX12_axisAt 3 (some .int) 2 := ⟨aw_t (i := 1510) (by decide +kernel) rfl, aw_p (i := 39) (by decide +kernel) rfl, aw_t (i := 13) (by decide +kernel) rfl, aw_t (i := 1511) (by decide +kernel) rfl, by decide +kernel⟩
theorem zyX12_axisHere : zMth yX12_axisHere cX12_axisHere 2 (some .int) 0 := ⟨aw_t (i := 1374) (by decide +kernel) rfl, aw_p (i := 22) (by decide +kernel) rfl, aw_t (i := 13) (by decide +kernel) rfl, aw_t (i := 1375) (by decide +kernel) rfl, by decide +kernel⟩
theorem zyX12_axisLine : zMth yX12_axisLine cX12_axisLine 2 none 0 := ⟨aw_t (i := 1322) (by decide +kernel) rfl, aw_p (i := 12) (by decide +kernel) rfl, aw_t (i := 13) (by decide +kernel) rfl, aw_t (i := 1323) (by decide +kernel) rfl, by decide +kernel⟩
theorem zyX12_bandLine : zMth yX12_bandLine cX12_bandLine 4 none 0 := ⟨aw_t (i := 1378) (by decide +kernel) rfl, aw_p (i := 23) (by decide +kernel) rfl, aw_t (i := 13) (by decide +kernel) rfl, aw_t (i := 1379) (by decide +kernel) rfl, by decide +kernel⟩
theorem zyX12_bandTicks : zMth yX12_bandTicks cX12_bandTicks 3 (some .int) 0 := ⟨aw_t (i := 1536) (by decide +kernel) rfl, aw_p (i := 44) (by decide +kernel) rfl, aw_t (i := 13) (by decide +kernel) rfl, aw_t (i := 1537) (by decide +kernel) rfl, by decide +kernel⟩
theorem zyX12_bandsAt : zMth yX12_bandsAt cX12_bandsAt 5 (some .int) 2 := ⟨aw_t (i := 1485) (by decide +kernel) rfl, aw_p (i := 35) (by decide +kernel) rfl, aw_t (i := 13) (by decide +kernel) rfl, aw_t (i := 1486) (by decide +kernel) rfl, by decide +kernel⟩
theorem zyX12_bears : zMth yX12_bears cX12_bears 5 (some .boolean) 3 := ⟨aw_t (i := 1714) (by decide +kernel) rfl, aw_p (i := 64) (by decide +kernel) rfl, aw_t (i := 13) (by decide +kernel) rfl, aw_t (i := 1715) (by decide +kernel) rfl, by decide +kernel⟩
theorem zyX12_begins : zMth yX12_begins cX12_begins 2 none 0 := ⟨aw_t (i := 1600) (by decide +kernel) rfl, aw_p (i := 49) (by decide +kernel) rfl, aw_t (i := 13) (by decide +kernel) rfl, aw_t (i := 1601) (by decide +kernel) rfl, by decide +kernel⟩
theorem zyX12_behind : zMth yX12_behind cX12_behind 5 (some .int) 3 := ⟨aw_t (i := 1354) (by decide +kernel) rfl, aw_p (i := 17) (by decide +kernel) rfl, aw_t (i := 13) (by decide +kernel) rfl, aw_t (i := 1355) (by decide +kernel) rfl, by decide +kernel⟩
theorem zyX12_canGo : zMth yX12_canGo cX12_canGo 4 (some .boolean) 3 := ⟨aw_t (i := 1493) (by decide +kernel) rfl, aw_p (i := 36) (by decide +kernel) rfl, aw_t (i := 13) (by decide +kernel) rfl, aw_t (i := 1494) (by decide +kernel) rfl, by decide +kernel⟩
theorem zyX12_coilLine : zMth yX12_coilLine cX12_coilLine 1 none 0 := ⟨aw_t (i := 1386) (by decide +kernel) rfl, aw_p (i := 25) (by decide +kernel) rfl, aw_t (i := 13) (by decide +kernel) rfl, aw_t (i := 1387) (by decide +kernel) rfl, by decide +kernel⟩
theorem zyX12_currentOf : zMth yX12_currentOf cX12_currentOf 3 (some .int) 2 := ⟨aw_t (i := 1408) (by decide +kernel) rfl, aw_p (i := 27) (by decide +kernel) rfl, aw_t (i := 13) (by decide +kernel) rfl, aw_t (i := 1409) (by decide +kernel) rfl, by decide +kernel⟩
theorem zyX12_due : zMth yX12_due cX12_due 4 (some .int) 1 := ⟨aw_t (i := 1558) (by decide +kernel) rfl, aw_p (i := 46) (by decide +kernel) rfl, aw_t (i := 13) (by decide +kernel) rfl, aw_t (i := 1559) (by decide +kernel) rfl, by decide +kernel⟩
theorem zyX12_evenTicks : zMth yX12_evenTicks cX12_evenTicks 2 (some .int) 1 := ⟨aw_t (i := 1525) (by decide +kernel) rfl, aw_p (i := 42) (by decide +kernel) rfl, aw_t (i := 13) (by decide +kernel) rfl, aw_t (i := 1526) (by decide +kernel) rfl, by decide +kernel⟩
theorem zyX12_field : zMth yX12_field cX12_field 5 (some .int) 1 := ⟨aw_t (i := 1422) (by decide +kernel) rfl, aw_t (i := 1423) (by decide +kernel) rfl, aw_t (i := 13) (by decide +kernel) rfl, aw_t (i := 1424) (by decide +kernel) rfl, by decide +kernel⟩
theorem zyX12_fixLine : zMth yX12_fixLine cX12_fixLine 3 none 0 := ⟨aw_t (i := 1382) (by decide +kernel) rfl, aw_p (i := 24) (by decide +kernel) rfl, aw_t (i := 13) (by decide +kernel) rfl, aw_t (i := 1383) (by decide +kernel) rfl, by decide +kernel⟩
theorem zyX12_floor : zMtS yX12_floor cX12_floor 2 (some .int) 2 := ⟨aw_t (i := 1411) (by decide +kernel) rfl, aw_t (i := 13) (by decide +kernel) rfl, aw_t (i := 1412) (by decide +kernel) rfl, by decide +kernel⟩
theorem zyX12_four : zMth yX12_four cX12_four 3 none 1 := ⟨aw_t (i := 1280) (by decide +kernel) rfl, aw_p (i := 6) (by decide +kernel) rfl, aw_t (i := 13) (by decide +kernel) rfl, aw_t (i := 1281) (by decide +kernel) rfl, by decide +kernel⟩
theorem zyX12_goOn : zMth yX12_goOn cX12_goOn 2 none 0 := ⟨aw_t (i := 1295) (by decide +kernel) rfl, aw_p (i := 7) (by decide +kernel) rfl, aw_t (i := 13) (by decide +kernel) rfl, aw_t (i := 1296) (by decide +kernel) rfl, by decide +kernel⟩
theorem zyX12_goneBy : zMtS yX12_goneBy cX12_goneBy 4 (some .int) 3 := ⟨aw_t (i := 1550) (by decide +kernel) rfl, aw_t (i := 13) (by decide +kernel) rfl, aw_t (i := 1551) (by decide +kernel) rfl, by decide +kernel⟩
theorem zyX12_greater : zMtS yX12_greater cX12_greater 2 (some .int) 2 := ⟨aw_t (i := 1528) (by decide +kernel) rfl, aw_t (i := 13) (by decide +kernel) rfl, aw_t (i := 1529) (by decide +kernel) rfl, by decide +kernel⟩
theorem zyX12_here : zMth yX12_here cX12_here 2 (some .int) 1 := ⟨aw_t (i := 1299) (by decide +kernel) rfl, aw_p (i := 8) (by decide +kernel) rfl, aw_t (i := 13) (by decide +kernel) rfl, aw_t (i := 1300) (by decide +kernel) rfl, by decide +kernel⟩
theorem zyX12_isAxis : zMth yX12_isAxis cX12_isAxis 2 (some .boolean) 1 := ⟨aw_t (i := 1481) (by decide +kernel) rfl, aw_p (i := 34) (by decide +kernel) rfl, aw_t (i := 13) (by decide +kernel) rfl, aw_t (i := 1482) (by decide +kernel) rfl, by decide +kernel⟩
theorem zyX12_isDigit : zMtS yX12_isDigit cX12_isDigit 1 (some .boolean) 1 := ⟨aw_t (i := 1305) (by decide +kernel) rfl, aw_t (i := 13) (by decide +kernel) rfl, aw_t (i := 1306) (by decide +kernel) rfl, by decide +kernel⟩
theorem zyX12_isGood : zMth yX12_isGood cX12_isGood 1 (some .boolean) 0 := ⟨aw_t (i := 1309) (by decide +kernel) rfl, aw_p (i := 9) (by decide +kernel) rfl, aw_t (i := 13) (by decide +kernel) rfl, aw_t (i := 1310) (by decide +kernel) rfl, by decide +kernel⟩
theorem zyX12_isIn : zMtS yX12_isIn cX12_isIn 6 (some .boolean) 3 := ⟨aw_t (i := 1287) (by decide +kernel) rfl, aw_t (i := 13) (by decide +kernel) rfl, aw_t (i := 1288) (by decide +kernel) rfl, by decide +kernel⟩
theorem zyX12_isKept : zMth yX12_isKept cX12_isKept 1 (some .boolean) 0 := ⟨aw_t (i := 1334) (by decide +kernel) rfl, aw_p (i := 15) (by decide +kernel) rfl, aw_t (i := 13) (by decide +kernel) rfl, aw_t (i := 1335) (by decide +kernel) rfl, by decide +kernel⟩
theorem zyX12_isLet : zMtS yX12_isLet cX12_isLet 1 (some .boolean) 1 := ⟨aw_t (i := 1742) (by decide +kernel) rfl, aw_t (i := 13) (by decide +kernel) rfl, aw_t (i := 1743) (by decide +kernel) rfl, by decide +kernel⟩
theorem zyX12_isLetter : zMtS yX12_isLetter cX12_isLetter 1 (some .boolean) 1 := ⟨aw_t (i := 1302) (by decide +kernel) rfl, aw_t (i := 13) (by decide +kernel) rfl, aw_t (i := 1303) (by decide +kernel) rfl, by decide +kernel⟩
theorem zyX12_isRamp : zMtS yX12_isRamp cX12_isRamp 3 (some .boolean) 3 := ⟨aw_t (i := 1451) (by decide +kernel) rfl, aw_t (i := 13) (by decide +kernel) rfl, aw_t (i := 1452) (by decide +kernel) rfl, by decide +kernel⟩
theorem zyX12_isSteady : zMth yX12_isSteady cX12_isSteady 3 (some .boolean) 0 := ⟨aw_t (i := 1705) (by decide +kernel) rfl, aw_p (i := 63) (by decide +kernel) rfl, aw_t (i := 13) (by decide +kernel) rfl, aw_t (i := 1706) (by decide +kernel) rfl, by decide +kernel⟩
theorem zyX12_isWord : zMth yX12_isWord cX12_isWord 3 (some .boolean) 1 := ⟨aw_t (i := 1318) (by decide +kernel) rfl, aw_p (i := 11) (by decide +kernel) rfl, aw_t (i := 13) (by decide +kernel) rfl, aw_t (i := 1319) (by decide +kernel) rfl, by decide +kernel⟩
theorem zyX12_laysFollow : zMth yX12_laysFollow cX12_laysFollow 8 none 2 := ⟨aw_t (i := 1764) (by decide +kernel) rfl, aw_p (i := 66) (by decide +kernel) rfl, aw_t (i := 13) (by decide +kernel) rfl, aw_t (i := 1765) (by decide +kernel) rfl, by decide +kernel⟩
theorem zyX12_laysRamp : zMth yX12_laysRamp cX12_laysRamp 9 none 3 := ⟨aw_t (i := 1458) (by decide +kernel) rfl, aw_p (i := 31) (by decide +kernel) rfl, aw_t (i := 13) (by decide +kernel) rfl, aw_t (i := 1459) (by decide +kernel) rfl, by decide +kernel⟩
theorem zyX12_laysTop : zMth yX12_laysTop cX12_laysTop 7 none 5 := ⟨aw_t (i := 1521) (by decide +kernel) rfl, aw_p (i := 41) (by decide +kernel) rfl, aw_t (i := 13) (by decide +kernel) rfl, aw_t (i := 1522) (by decide +kernel) rfl, by decide +kernel⟩
theorem zyX12_least : zMth yX12_least cX12_least 5 (some .int) 1 := ⟨aw_t (i := 1514) (by decide +kernel) rfl, aw_p (i := 40) (by decide +kernel) rfl, aw_t (i := 13) (by decide +kernel) rfl, aw_t (i := 1515) (by decide +kernel) rfl, by decide +kernel⟩
theorem zyX12_left : zMth yX12_left cX12_left 3 (some .int) 0 := ⟨aw_t (i := 1676) (by decide +kernel) rfl, aw_p (i := 60) (by decide +kernel) rfl, aw_t (i := 13) (by decide +kernel) rfl, aw_t (i := 1677) (by decide +kernel) rfl, by decide +kernel⟩
theorem zyX12_lesser : zMtS yX12_lesser cX12_lesser 2 (some .int) 2 := ⟨aw_t (i := 1517) (by decide +kernel) rfl, aw_t (i := 13) (by decide +kernel) rfl, aw_t (i := 1518) (by decide +kernel) rfl, by decide +kernel⟩
theorem zyX12_line : zMth yX12_line cX12_line 1 none 0 := ⟨aw_t (i := 1313) (by decide +kernel) rfl, aw_p (i := 10) (by decide +kernel) rfl, aw_t (i := 13) (by decide +kernel) rfl, aw_t (i := 1314) (by decide +kernel) rfl, by decide +kernel⟩
theorem zyX12_mend : zMth yX12_mend cX12_mend 8 (some .int) 1 := ⟨aw_t (i := 1431) (by decide +kernel) rfl, aw_t (i := 1432) (by decide +kernel) rfl, aw_t (i := 13) (by decide +kernel) rfl, aw_t (i := 1433) (by decide +kernel) rfl, by decide +kernel⟩
theorem zyX12_motorLine : zMth yX12_motorLine cX12_motorLine 2 none 0 := ⟨aw_t (i := 1370) (by decide +kernel) rfl, aw_p (i := 21) (by decide +kernel) rfl, aw_t (i := 13) (by decide +kernel) rfl, aw_t (i := 1371) (by decide +kernel) rfl, by decide +kernel⟩
theorem zyX12_moves : zMth yX12_moves cX12_moves 3 none 0 := ⟨aw_t (i := 1644) (by decide +kernel) rfl, aw_p (i := 53) (by decide +kernel) rfl, aw_t (i := 13) (by decide +kernel) rfl, aw_t (i := 1645) (by decide +kernel) rfl, by decide +kernel⟩
theorem zyX12_must : zMth yX12_must cX12_must 3 none 1 := ⟨aw_t (i := 1358) (by decide +kernel) rfl, aw_p (i := 18) (by decide +kernel) rfl, aw_t (i := 13) (by decide +kernel) rfl, aw_t (i := 1359) (by decide +kernel) rfl, by decide +kernel⟩
theorem zyX12_mustName : zMth yX12_mustName cX12_mustName 1 none 0 := ⟨aw_t (i := 1330) (by decide +kernel) rfl, aw_p (i := 14) (by decide +kernel) rfl, aw_t (i := 13) (by decide +kernel) rfl, aw_t (i := 1331) (by decide +kernel) rfl, by decide +kernel⟩
theorem zyX12_nameAt : zMth yX12_nameAt cX12_nameAt 2 (some .int) 0 := ⟨aw_t (i := 1350) (by decide +kernel) rfl, aw_p (i := 16) (by decide +kernel) rfl, aw_t (i := 13) (by decide +kernel) rfl, aw_t (i := 1351) (by decide +kernel) rfl, by decide +kernel⟩
theorem zyX12_number : zMth yX12_number cX12_number 4 (some .int) 2 := ⟨aw_t (i := 1362) (by decide +kernel) rfl, aw_p (i := 19) (by decide +kernel) rfl, aw_t (i := 13) (by decide +kernel) rfl, aw_t (i := 1363) (by decide +kernel) rfl, by decide +kernel⟩
theorem zyX12_numberHere : zMth yX12_numberHere cX12_numberHere 4 (some .int) 3 := ⟨aw_t (i := 1366) (by decide +kernel) rfl, aw_p (i := 20) (by decide +kernel) rfl, aw_t (i := 13) (by decide +kernel) rfl, aw_t (i := 1367) (by decide +kernel) rfl, by decide +kernel⟩
theorem zyX12_one : zMtS yX12_one cX12_one 4 (some .int) 4 := ⟨aw_t (i := 1500) (by decide +kernel) rfl, aw_t (i := 13) (by decide +kernel) rfl, aw_t (i := 1501) (by decide +kernel) rfl, by decide +kernel⟩
theorem zyX12_part : zMtS yX12_part cX12_part 3 (some .int) 3 := ⟨aw_t (i := 1543) (by decide +kernel) rfl, aw_t (i := 13) (by decide +kernel) rfl, aw_t (i := 1544) (by decide +kernel) rfl, by decide +kernel⟩
theorem zyX12_planTicks : zMth yX12_planTicks cX12_planTicks 1 (some .int) 0 := ⟨aw_t (i := 1532) (by decide +kernel) rfl, aw_p (i := 43) (by decide +kernel) rfl, aw_t (i := 13) (by decide +kernel) rfl, aw_t (i := 1533) (by decide +kernel) rfl, by decide +kernel⟩
theorem zyX12_plans : zMth yX12_plans cX12_plans 5 (some .boolean) 3 := ⟨aw_t (i := 1506) (by decide +kernel) rfl, aw_p (i := 38) (by decide +kernel) rfl, aw_t (i := 13) (by decide +kernel) rfl, aw_t (i := 1507) (by decide +kernel) rfl, by decide +kernel⟩
theorem zyX12_pulls : zMth yX12_pulls cX12_pulls 6 (some .int) 4 := ⟨aw_t (i := 1584) (by decide +kernel) rfl, aw_p (i := 47) (by decide +kernel) rfl, aw_t (i := 13) (by decide +kernel) rfl, aw_t (i := 1585) (by decide +kernel) rfl, by decide +kernel⟩
theorem zyX12_pushed : zMth yX12_pushed cX12_pushed 4 (some .int) 3 := ⟨aw_t (i := 1667) (by decide +kernel) rfl, aw_p (i := 58) (by decide +kernel) rfl, aw_t (i := 13) (by decide +kernel) rfl, aw_t (i := 1668) (by decide +kernel) rfl, by decide +kernel⟩
theorem zyX12_puts : zMth yX12_puts cX12_puts 2 none 0 := ⟨aw_t (i := 1693) (by decide +kernel) rfl, aw_p (i := 61) (by decide +kernel) rfl, aw_t (i := 13) (by decide +kernel) rfl, aw_t (i := 1694) (by decide +kernel) rfl, by decide +kernel⟩
theorem zyX12_rampSum : zMth yX12_rampSum cX12_rampSum 3 (some .int) 0 := ⟨aw_t (i := 1469) (by decide +kernel) rfl, aw_p (i := 33) (by decide +kernel) rfl, aw_t (i := 13) (by decide +kernel) rfl, aw_t (i := 1470) (by decide +kernel) rfl, by decide +kernel⟩
theorem zyX12_reached : zMth yX12_reached cX12_reached 1 (some .int) 0 := ⟨aw_t (i := 1465) (by decide +kernel) rfl, aw_p (i := 32) (by decide +kernel) rfl, aw_t (i := 13) (by decide +kernel) rfl, aw_t (i := 1466) (by decide +kernel) rfl, by decide +kernel⟩
theorem zyX12_rootAt : zMth yX12_rootAt cX12_rootAt 7 (some .int) 1 := ⟨aw_t (i := 1428) (by decide +kernel) rfl, aw_p (i := 30) (by decide +kernel) rfl, aw_t (i := 13) (by decide +kernel) rfl, aw_t (i := 1429) (by decide +kernel) rfl, by decide +kernel⟩
theorem zyX12_setsAxis : zMth yX12_setsAxis cX12_setsAxis 4 none 3 := ⟨aw_t (i := 1617) (by decide +kernel) rfl, aw_p (i := 50) (by decide +kernel) rfl, aw_t (i := 13) (by decide +kernel) rfl, aw_t (i := 1618) (by decide +kernel) rfl, by decide +kernel⟩
theorem zyX12_shakeOf : zMth yX12_shakeOf cX12_shakeOf 9 (some .int) 3 := ⟨aw_t (i := 1726) (by decide +kernel) rfl, aw_p (i := 65) (by decide +kernel) rfl, aw_t (i := 13) (by decide +kernel) rfl, aw_t (i := 1727) (by decide +kernel) rfl, by decide +kernel⟩
theorem zyX12_sign : zMtS yX12_sign cX12_sign 1 (some .int) 1 := ⟨aw_t (i := 1747) (by decide +kernel) rfl, aw_t (i := 13) (by decide +kernel) rfl, aw_t (i := 1748) (by decide +kernel) rfl, by decide +kernel⟩
theorem zyX12_sine : zMth yX12_sine cX12_sine 6 (some .int) 2 := ⟨aw_t (i := 1415) (by decide +kernel) rfl, aw_p (i := 28) (by decide +kernel) rfl, aw_t (i := 13) (by decide +kernel) rfl, aw_t (i := 1416) (by decide +kernel) rfl, by decide +kernel⟩
theorem zyX12_size : zMtS yX12_size cX12_size 1 (some .int) 1 := ⟨aw_t (i := 1435) (by decide +kernel) rfl, aw_t (i := 13) (by decide +kernel) rfl, aw_t (i := 1436) (by decide +kernel) rfl, by decide +kernel⟩
theorem zyX12_speedNow : zMth yX12_speedNow cX12_speedNow 3 (some .int) 0 := ⟨aw_t (i := 1648) (by decide +kernel) rfl, aw_p (i := 54) (by decide +kernel) rfl, aw_t (i := 13) (by decide +kernel) rfl, aw_t (i := 1649) (by decide +kernel) rfl, by decide +kernel⟩
theorem zyX12_speedOf : zMth yX12_speedOf cX12_speedOf 3 (some .int) 1 := ⟨aw_t (i := 1540) (by decide +kernel) rfl, aw_p (i := 45) (by decide +kernel) rfl, aw_t (i := 13) (by decide +kernel) rfl, aw_t (i := 1541) (by decide +kernel) rfl, by decide +kernel⟩
theorem zyX12_swung : zMth yX12_swung cX12_swung 6 (some .int) 4 := ⟨aw_t (i := 1663) (by decide +kernel) rfl, aw_p (i := 57) (by decide +kernel) rfl, aw_t (i := 13) (by decide +kernel) rfl, aw_t (i := 1664) (by decide +kernel) rfl, by decide +kernel⟩
theorem zyX12_tableAt : zMth yX12_tableAt cX12_tableAt 3 (some .int) 2 := ⟨aw_t (i := 1419) (by decide +kernel) rfl, aw_p (i := 29) (by decide +kernel) rfl, aw_t (i := 13) (by decide +kernel) rfl, aw_t (i := 1420) (by decide +kernel) rfl, by decide +kernel⟩
theorem zyX12_takes : zMth yX12_takes cX12_takes 2 none 0 := ⟨aw_t (i := 1390) (by decide +kernel) rfl, aw_p (i := 26) (by decide +kernel) rfl, aw_t (i := 13) (by decide +kernel) rfl, aw_t (i := 1391) (by decide +kernel) rfl, by decide +kernel⟩
theorem zyX12_takesBack : zMth yX12_takesBack cX12_takesBack 2 none 0 := ⟨aw_t (i := 1697) (by decide +kernel) rfl, aw_p (i := 62) (by decide +kernel) rfl, aw_t (i := 13) (by decide +kernel) rfl, aw_t (i := 1698) (by decide +kernel) rfl, by decide +kernel⟩
theorem zyX12_tick : zMth yX12_tick cX12_tick 3 none 0 := ⟨aw_t (i := 1636) (by decide +kernel) rfl, aw_p (i := 51) (by decide +kernel) rfl, aw_t (i := 13) (by decide +kernel) rfl, aw_t (i := 1637) (by decide +kernel) rfl, by decide +kernel⟩
theorem zyX12_till : zMtS yX12_till cX12_till 4 (some .int) 2 := ⟨aw_t (i := 1461) (by decide +kernel) rfl, aw_t (i := 13) (by decide +kernel) rfl, aw_t (i := 1462) (by decide +kernel) rfl, by decide +kernel⟩
theorem zyX12_trips : zMth yX12_trips cX12_trips 2 none 0 := ⟨aw_t (i := 1672) (by decide +kernel) rfl, aw_p (i := 59) (by decide +kernel) rfl, aw_t (i := 13) (by decide +kernel) rfl, aw_t (i := 1673) (by decide +kernel) rfl, by decide +kernel⟩
theorem zyX12_truth : zMtS yX12_truth cX12_truth 1 (some .int) 1 := ⟨aw_t (i := 1443) (by decide +kernel) rfl, aw_t (i := 13) (by decide +kernel) rfl, aw_t (i := 1444) (by decide +kernel) rfl, by decide +kernel⟩
theorem zyX12_waitingBegins : zMth yX12_waitingBegins cX12_waitingBegins 3 none 0 := ⟨aw_t (i := 1640) (by decide +kernel) rfl, aw_p (i := 52) (by decide +kernel) rfl, aw_t (i := 13) (by decide +kernel) rfl, aw_t (i := 1641) (by decide +kernel) rfl, by decide +kernel⟩
theorem zyX12_wrong : zMth yX12_wrong cX12_wrong 2 none 1 := ⟨aw_t (i := 1326) (by decide +kernel) rfl, aw_p (i := 13) (by decide +kernel) rfl, aw_t (i := 13) (by decide +kernel) rfl, aw_t (i := 1327) (by decide +kernel) rfl, by decide +kernel⟩
theorem zyX1_axisNamed : zMth yX1_axisNamed cX1_axisNamed 3 (some .int) 1 := ⟨aw_t (i := 617) (by decide +kernel) rfl, aw_t (i := 618) (by decide +kernel) rfl, aw_t (i := 2) (by decide +kernel) rfl, aw_t (i := 619) (by decide +kernel) rfl, by decide +kernel⟩
theorem zyX1_bandsOver : zMth yX1_bandsOver cX1_bandsOver 5 (some .int) 2 := ⟨aw_t (i := 794) (by decide +kernel) rfl, aw_t (i := 795) (by decide +kernel) rfl, aw_t (i := 2) (by decide +kernel) rfl, aw_t (i := 796) (by decide +kernel) rfl, by decide +kernel⟩
theorem zyX1_clear : zMth yX1_clear cX1_clear 2 none 0 := ⟨aw_t (i := 493) (by decide +kernel) rfl, aw_t (i := 494) (by decide +kernel) rfl, aw_t (i := 2) (by decide +kernel) rfl, aw_t (i := 495) (by decide +kernel) rfl, by decide +kernel⟩
theorem zyX2_start : zMth yX2_start cX2_start 3 none 2 := ⟨aw_t (i := 872) (by decide +kernel) rfl, aw_t (i := 873) (by decide +kernel) rfl, aw_t (i := 12) (by decide +kernel) rfl, aw_t (i := 874) (by decide +kernel) rfl, by decide +kernel⟩
theorem zyX2_step : zMth yX2_step cX2_step 4 none 1 := ⟨aw_t (i := 876) (by decide +kernel) rfl, aw_t (i := 877) (by decide +kernel) rfl, aw_t (i := 12) (by decide +kernel) rfl, aw_t (i := 878) (by decide +kernel) rfl, by decide +kernel⟩
theorem zyX3_keep : zMth yX3_keep cX3_keep 2 none 1 := ⟨aw_t (i := 890) (by decide +kernel) rfl, aw_t (i := 891) (by decide +kernel) rfl, aw_t (i := 11) (by decide +kernel) rfl, aw_t (i := 892) (by decide +kernel) rfl, by decide +kernel⟩
theorem zyX3_takeBack : zMth yX3_takeBack cX3_takeBack 2 none 1 := ⟨aw_t (i := 1008) (by decide +kernel) rfl, aw_t (i := 1009) (by decide +kernel) rfl, aw_t (i := 11) (by decide +kernel) rfl, aw_t (i := 1010) (by decide +kernel) rfl, by decide +kernel⟩
theorem zyX4_copyFrom : zMth yX4_copyFrom cX4_copyFrom 2 none 1 := ⟨aw_t (i := 902) (by decide +kernel) rfl, aw_t (i := 903) (by decide +kernel) rfl, aw_t (i := 8) (by decide +kernel) rfl, aw_t (i := 904) (by decide +kernel) rfl, by decide +kernel⟩
theorem zyX4_dueAt : zMth yX4_dueAt cX4_dueAt 6 (some .int) 1 := ⟨aw_t (i := 836) (by decide +kernel) rfl, aw_t (i := 837) (by decide +kernel) rfl, aw_t (i := 8) (by decide +kernel) rfl, aw_t (i := 838) (by decide +kernel) rfl, by decide +kernel⟩
theorem zyX4_findLimits : zMth yX4_findLimits cX4_findLimits 4 none 1 := ⟨aw_t (i := 780) (by decide +kernel) rfl, aw_t (i := 781) (by decide +kernel) rfl, aw_t (i := 8) (by decide +kernel) rfl, aw_t (i := 782) (by decide +kernel) rfl, by decide +kernel⟩
theorem zyX4_goneBehind : zMth yX4_goneBehind cX4_goneBehind 4 (some .int) 1 := ⟨aw_t (i := 817) (by decide +kernel) rfl, aw_t (i := 818) (by decide +kernel) rfl, aw_t (i := 8) (by decide +kernel) rfl, aw_t (i := 819) (by decide +kernel) rfl, by decide +kernel⟩
theorem zyX4_greatestChange : zMth yX4_greatestChange cX4_greatestChange 10 (some .int) 1 := ⟨aw_t (i := 845) (by decide +kernel) rfl, aw_t (i := 846) (by decide +kernel) rfl, aw_t (i := 8) (by decide +kernel) rfl, aw_t (i := 847) (by decide +kernel) rfl, by decide +kernel⟩
theorem zyX4_leadFor : zMth yX4_leadFor cX4_leadFor 5 (some .int) 2 := ⟨aw_t (i := 832) (by decide +kernel) rfl, aw_t (i := 833) (by decide +kernel) rfl, aw_t (i := 8) (by decide +kernel) rfl, aw_t (i := 834) (by decide +kernel) rfl, by decide +kernel⟩
theorem zyX4_placeOf : zMth yX4_placeOf cX4_placeOf 4 (some .int) 2 := ⟨aw_t (i := 822) (by decide +kernel) rfl, aw_t (i := 823) (by decide +kernel) rfl, aw_t (i := 8) (by decide +kernel) rfl, aw_t (i := 824) (by decide +kernel) rfl, by decide +kernel⟩
theorem zyX4_plan : zMth yX4_plan cX4_plan 5 (some .boolean) 3 := ⟨aw_t (i := 771) (by decide +kernel) rfl, aw_t (i := 772) (by decide +kernel) rfl, aw_t (i := 8) (by decide +kernel) rfl, aw_t (i := 773) (by decide +kernel) rfl, by decide +kernel⟩
theorem zyX4_startAlone : zMth yX4_startAlone cX4_startAlone 4 (some .int) 3 := ⟨aw_t (i := 854) (by decide +kernel) rfl, aw_t (i := 855) (by decide +kernel) rfl, aw_t (i := 8) (by decide +kernel) rfl, aw_t (i := 856) (by decide +kernel) rfl, by decide +kernel⟩
theorem zyX4_takeTop : zMth yX4_takeTop cX4_takeTop 5 (some .boolean) 2 := ⟨aw_t (i := 787) (by decide +kernel) rfl, aw_t (i := 788) (by decide +kernel) rfl, aw_t (i := 8) (by decide +kernel) rfl, aw_t (i := 789) (by decide +kernel) rfl, by decide +kernel⟩
theorem zyX4_ticks : zMth yX4_ticks cX4_ticks 1 (some .int) 0 := ⟨aw_t (i := 800) (by decide +kernel) rfl, aw_t (i := 801) (by decide +kernel) rfl, aw_t (i := 8) (by decide +kernel) rfl, aw_t (i := 802) (by decide +kernel) rfl, by decide +kernel⟩
theorem zyX4_ticksInBands : zMth yX4_ticksInBands cX4_ticksInBands 5 (some .int) 1 := ⟨aw_t (i := 804) (by decide +kernel) rfl, aw_t (i := 805) (by decide +kernel) rfl, aw_t (i := 8) (by decide +kernel) rfl, aw_t (i := 806) (by decide +kernel) rfl, by decide +kernel⟩
theorem zyX4_wayOf : zMth yX4_wayOf cX4_wayOf 2 (some .int) 1 := ⟨aw_t (i := 775) (by decide +kernel) rfl, aw_t (i := 776) (by decide +kernel) rfl, aw_t (i := 8) (by decide +kernel) rfl, aw_t (i := 777) (by decide +kernel) rfl, by decide +kernel⟩
theorem zyX5_build : zMth yX5_build cX5_build 6 none 3 := ⟨aw_t (i := 735) (by decide +kernel) rfl, aw_t (i := 736) (by decide +kernel) rfl, aw_t (i := 9) (by decide +kernel) rfl, aw_t (i := 737) (by decide +kernel) rfl, by decide +kernel⟩
theorem zyX5_copyFrom : zMth yX5_copyFrom cX5_copyFrom 2 none 1 := ⟨aw_t (i := 907) (by decide +kernel) rfl, aw_t (i := 908) (by decide +kernel) rfl, aw_t (i := 9) (by decide +kernel) rfl, aw_t (i := 909) (by decide +kernel) rfl, by decide +kernel⟩
theorem zyX5_micros : zMth yX5_micros cX5_micros 1 (some .int) 0 := ⟨aw_t (i := 750) (by decide +kernel) rfl, aw_t (i := 751) (by decide +kernel) rfl, aw_t (i := 9) (by decide +kernel) rfl, aw_t (i := 752) (by decide +kernel) rfl, by decide +kernel⟩
theorem zyX5_nextGain : zMtS yX5_nextGain cX5_nextGain 8 (some .int) 4 := ⟨aw_t (i := 739) (by decide +kernel) rfl, aw_t (i := 9) (by decide +kernel) rfl, aw_t (i := 740) (by decide +kernel) rfl, by decide +kernel⟩
theorem zyX5_reached : zMth yX5_reached cX5_reached 1 (some .int) 0 := ⟨aw_t (i := 742) (by decide +kernel) rfl, aw_t (i := 743) (by decide +kernel) rfl, aw_t (i := 9) (by decide +kernel) rfl, aw_t (i := 744) (by decide +kernel) rfl, by decide +kernel⟩
theorem zyX5_speedIn : zMth yX5_speedIn cX5_speedIn 2 (some .int) 1 := ⟨aw_t (i := 746) (by decide +kernel) rfl, aw_t (i := 747) (by decide +kernel) rfl, aw_t (i := 9) (by decide +kernel) rfl, aw_t (i := 748) (by decide +kernel) rfl, by decide +kernel⟩
theorem zyX6_codeOf : zMtS yX6_codeOf cX6_codeOf 3 (some .int) 1 := ⟨aw_t (i := 542) (by decide +kernel) rfl, aw_t (i := 6) (by decide +kernel) rfl, aw_t (i := 543) (by decide +kernel) rfl, by decide +kernel⟩
theorem zyX6_hasMore : zMth yX6_hasMore cX6_hasMore 1 (some .boolean) 0 := ⟨aw_t (i := 529) (by decide +kernel) rfl, aw_t (i := 530) (by decide +kernel) rfl, aw_t (i := 6) (by decide +kernel) rfl, aw_t (i := 531) (by decide +kernel) rfl, by decide +kernel⟩
theorem zyX6_isBlank : zMtS yX6_isBlank cX6_isBlank 1 (some .boolean) 1 := ⟨aw_t (i := 512) (by decide +kernel) rfl, aw_t (i := 6) (by decide +kernel) rfl, aw_t (i := 513) (by decide +kernel) rfl, by decide +kernel⟩
theorem zyX6_isDigit : zMtS yX6_isDigit cX6_isDigit 1 (some .boolean) 1 := ⟨aw_t (i := 522) (by decide +kernel) rfl, aw_t (i := 6) (by decide +kernel) rfl, aw_t (i := 523) (by decide +kernel) rfl, by decide +kernel⟩
theorem zyX6_isLetter : zMtS yX6_isLetter cX6_isLetter 1 (some .boolean) 1 := ⟨aw_t (i := 515) (by decide +kernel) rfl, aw_t (i := 6) (by decide +kernel) rfl, aw_t (i := 516) (by decide +kernel) rfl, by decide +kernel⟩
theorem zyX6_isName : zMth yX6_isName cX6_isName 1 (some .boolean) 0 := ⟨aw_t (i := 601) (by decide +kernel) rfl, aw_t (i := 602) (by decide +kernel) rfl, aw_t (i := 6) (by decide +kernel) rfl, aw_t (i := 603) (by decide +kernel) rfl, by decide +kernel⟩
theorem zyX6_isWord : zMth yX6_isWord cX6_isWord 2 (some .boolean) 1 := ⟨aw_t (i := 538) (by decide +kernel) rfl, aw_t (i := 539) (by decide +kernel) rfl, aw_t (i := 6) (by decide +kernel) rfl, aw_t (i := 540) (by decide +kernel) rfl, by decide +kernel⟩
theorem zyX6_readAxis : zMth yX6_readAxis cX6_readAxis 2 (some .boolean) 0 := ⟨aw_t (i := 593) (by decide +kernel) rfl, aw_t (i := 594) (by decide +kernel) rfl, aw_t (i := 6) (by decide +kernel) rfl, aw_t (i := 595) (by decide +kernel) rfl, by decide +kernel⟩
theorem zyX6_readBand : zMth yX6_readBand cX6_readBand 3 (some .boolean) 0 := ⟨aw_t (i := 648) (by decide +kernel) rfl, aw_t (i := 649) (by decide +kernel) rfl, aw_t (i := 6) (by decide +kernel) rfl, aw_t (i := 650) (by decide +kernel) rfl, by decide +kernel⟩
theorem zyX6_readCoil : zMth yX6_readCoil cX6_readCoil 1 (some .boolean) 0 := ⟨aw_t (i := 656) (by decide +kernel) rfl, aw_t (i := 657) (by decide +kernel) rfl, aw_t (i := 6) (by decide +kernel) rfl, aw_t (i := 658) (by decide +kernel) rfl, by decide +kernel⟩
theorem zyX6_readFix : zMth yX6_readFix cX6_readFix 3 (some .boolean) 0 := ⟨aw_t (i := 652) (by decide +kernel) rfl, aw_t (i := 653) (by decide +kernel) rfl, aw_t (i := 6) (by decide +kernel) rfl, aw_t (i := 654) (by decide +kernel) rfl, by decide +kernel⟩
theorem zyX6_readLine : zMth yX6_readLine cX6_readLine 1 (some .boolean) 0 := ⟨aw_t (i := 533) (by decide +kernel) rfl, aw_t (i := 534) (by decide +kernel) rfl, aw_t (i := 6) (by decide +kernel) rfl, aw_t (i := 535) (by decide +kernel) rfl, by decide +kernel⟩
theorem zyX6_readMotor : zMth yX6_readMotor cX6_readMotor 3 (some .boolean) 0 := ⟨aw_t (i := 640) (by decide +kernel) rfl, aw_t (i := 641) (by decide +kernel) rfl, aw_t (i := 6) (by decide +kernel) rfl, aw_t (i := 642) (by decide +kernel) rfl, by decide +kernel⟩
theorem zyX6_refuse : zMth yX6_refuse cX6_refuse 2 (some .boolean) 1 := ⟨aw_t (i := 597) (by decide +kernel) rfl, aw_t (i := 598) (by decide +kernel) rfl, aw_t (i := 6) (by decide +kernel) rfl, aw_t (i := 599) (by decide +kernel) rfl, by decide +kernel⟩
theorem zyX6_start : zMth yX6_start cX6_start 2 none 1 := ⟨aw_t (i := 489) (by decide +kernel) rfl, aw_t (i := 490) (by decide +kernel) rfl, aw_t (i := 6) (by decide +kernel) rfl, aw_t (i := 491) (by decide +kernel) rfl, by decide +kernel⟩
theorem zyX6_step : zMth yX6_step cX6_step 3 none 0 := ⟨aw_t (i := 504) (by decide +kernel) rfl, aw_t (i := 505) (by decide +kernel) rfl, aw_t (i := 6) (by decide +kernel) rfl, aw_t (i := 506) (by decide +kernel) rfl, by decide +kernel⟩
theorem zyX6_stepNumber : zMth yX6_stepNumber cX6_stepNumber 3 none 0 := ⟨aw_t (i := 525) (by decide +kernel) rfl, aw_t (i := 526) (by decide +kernel) rfl, aw_t (i := 6) (by decide +kernel) rfl, aw_t (i := 527) (by decide +kernel) rfl, by decide +kernel⟩
theorem zyX6_stepWord : zMth yX6_stepWord cX6_stepWord 2 none 0 := ⟨aw_t (i := 518) (by decide +kernel) rfl, aw_t (i := 519) (by decide +kernel) rfl, aw_t (i := 6) (by decide +kernel) rfl, aw_t (i := 520) (by decide +kernel) rfl, by decide +kernel⟩
theorem zyX6_takeAxis : zMth yX6_takeAxis cX6_takeAxis 3 (some .int) 1 := ⟨aw_t (i := 644) (by decide +kernel) rfl, aw_t (i := 645) (by decide +kernel) rfl, aw_t (i := 6) (by decide +kernel) rfl, aw_t (i := 646) (by decide +kernel) rfl, by decide +kernel⟩
theorem zyX6_takeNumber : zMth yX6_takeNumber cX6_takeNumber 3 (some .boolean) 2 := ⟨aw_t (i := 629) (by decide +kernel) rfl, aw_t (i := 630) (by decide +kernel) rfl, aw_t (i := 6) (by decide +kernel) rfl, aw_t (i := 631) (by decide +kernel) rfl, by decide +kernel⟩
theorem zyX6_takeStop : zMth yX6_takeStop cX6_takeStop 1 (some .boolean) 0 := ⟨aw_t (i := 636) (by decide +kernel) rfl, aw_t (i := 637) (by decide +kernel) rfl, aw_t (i := 6) (by decide +kernel) rfl, aw_t (i := 638) (by decide +kernel) rfl, by decide +kernel⟩
theorem zyX6_takeWord : zMth yX6_takeWord cX6_takeWord 2 (some .boolean) 1 := ⟨aw_t (i := 625) (by decide +kernel) rfl, aw_t (i := 626) (by decide +kernel) rfl, aw_t (i := 6) (by decide +kernel) rfl, aw_t (i := 627) (by decide +kernel) rfl, by decide +kernel⟩
theorem zyX7_angle : zMth yX7_angle cX7_angle 1 (some .int) 0 := ⟨aw_t (i := 957) (by decide +kernel) rfl, aw_t (i := 958) (by decide +kernel) rfl, aw_t (i := 10) (by decide +kernel) rfl, aw_t (i := 959) (by decide +kernel) rfl, by decide +kernel⟩
theorem zyX7_clear : zMth yX7_clear cX7_clear 1 none 0 := ⟨aw_t (i := 664) (by decide +kernel) rfl, aw_t (i := 665) (by decide +kernel) rfl, aw_t (i := 10) (by decide +kernel) rfl, aw_t (i := 666) (by decide +kernel) rfl, by decide +kernel⟩
theorem zyX7_copyFrom : zMth yX7_copyFrom cX7_copyFrom 2 none 1 := ⟨aw_t (i := 898) (by decide +kernel) rfl, aw_t (i := 899) (by decide +kernel) rfl, aw_t (i := 10) (by decide +kernel) rfl, aw_t (i := 900) (by decide +kernel) rfl, by decide +kernel⟩
theorem zyX7_isCalm : zMth yX7_isCalm cX7_isCalm 3 (some .boolean) 2 := ⟨aw_t (i := 1040) (by decide +kernel) rfl, aw_t (i := 1041) (by decide +kernel) rfl, aw_t (i := 10) (by decide +kernel) rfl, aw_t (i := 1042) (by decide +kernel) rfl, by decide +kernel⟩
theorem zyX7_isOffBy : zMth yX7_isOffBy cX7_isOffBy 2 (some .boolean) 1 := ⟨aw_t (i := 964) (by decide +kernel) rfl, aw_t (i := 965) (by decide +kernel) rfl, aw_t (i := 10) (by decide +kernel) rfl, aw_t (i := 966) (by decide +kernel) rfl, by decide +kernel⟩
theorem zyX7_letGo : zMth yX7_letGo cX7_letGo 3 none 2 := ⟨aw_t (i := 668) (by decide +kernel) rfl, aw_t (i := 669) (by decide +kernel) rfl, aw_t (i := 10) (by decide +kernel) rfl, aw_t (i := 670) (by decide +kernel) rfl, by decide +kernel⟩
theorem zyX7_push : zMth yX7_push cX7_push 4 (some .int) 2 := ⟨aw_t (i := 953) (by decide +kernel) rfl, aw_t (i := 954) (by decide +kernel) rfl, aw_t (i := 10) (by decide +kernel) rfl, aw_t (i := 955) (by decide +kernel) rfl, by decide +kernel⟩
theorem zyX7_truePlace : zMth yX7_truePlace cX7_truePlace 1 (some .int) 0 := ⟨aw_t (i := 997) (by decide +kernel) rfl, aw_t (i := 998) (by decide +kernel) rfl, aw_t (i := 10) (by decide +kernel) rfl, aw_t (i := 999) (by decide +kernel) rfl, by decide +kernel⟩
theorem zyX7_turn : zMth yX7_turn cX7_turn 4 none 2 := ⟨aw_t (i := 949) (by decide +kernel) rfl, aw_t (i := 950) (by decide +kernel) rfl, aw_t (i := 10) (by decide +kernel) rfl, aw_t (i := 951) (by decide +kernel) rfl, by decide +kernel⟩
theorem zyX8_addWaiting : zMth yX8_addWaiting cX8_addWaiting 2 none 1 := ⟨aw_t (i := 981) (by decide +kernel) rfl, aw_t (i := 982) (by decide +kernel) rfl, aw_t (i := 7) (by decide +kernel) rfl, aw_t (i := 983) (by decide +kernel) rfl, by decide +kernel⟩
theorem zyX8_advance : zMth yX8_advance cX8_advance 2 none 0 := ⟨aw_t (i := 942) (by decide +kernel) rfl, aw_t (i := 943) (by decide +kernel) rfl, aw_t (i := 7) (by decide +kernel) rfl, aw_t (i := 944) (by decide +kernel) rfl, by decide +kernel⟩
theorem zyX8_begin : zMth yX8_begin cX8_begin 3 none 2 := ⟨aw_t (i := 914) (by decide +kernel) rfl, aw_t (i := 915) (by decide +kernel) rfl, aw_t (i := 7) (by decide +kernel) rfl, aw_t (i := 916) (by decide +kernel) rfl, by decide +kernel⟩
theorem zyX8_clear : zMth yX8_clear cX8_clear 2 none 0 := ⟨aw_t (i := 660) (by decide +kernel) rfl, aw_t (i := 661) (by decide +kernel) rfl, aw_t (i := 7) (by decide +kernel) rfl, aw_t (i := 662) (by decide +kernel) rfl, by decide +kernel⟩
theorem zyX8_copyFrom : zMth yX8_copyFrom cX8_copyFrom 3 none 1 := ⟨aw_t (i := 894) (by decide +kernel) rfl, aw_t (i := 895) (by decide +kernel) rfl, aw_t (i := 7) (by decide +kernel) rfl, aw_t (i := 896) (by decide +kernel) rfl, by decide +kernel⟩
theorem zyX8_haltBy : zMth yX8_haltBy cX8_haltBy 2 none 1 := ⟨aw_t (i := 924) (by decide +kernel) rfl, aw_t (i := 925) (by decide +kernel) rfl, aw_t (i := 7) (by decide +kernel) rfl, aw_t (i := 926) (by decide +kernel) rfl, by decide +kernel⟩
theorem zyX8_isSteady : zMth yX8_isSteady cX8_isSteady 3 (some .boolean) 1 := ⟨aw_t (i := 1036) (by decide +kernel) rfl, aw_t (i := 1037) (by decide +kernel) rfl, aw_t (i := 7) (by decide +kernel) rfl, aw_t (i := 1038) (by decide +kernel) rfl, by decide +kernel⟩
theorem zyX8_microsLeft : zMth yX8_microsLeft cX8_microsLeft 1 (some .int) 0 := ⟨aw_t (i := 973) (by decide +kernel) rfl, aw_t (i := 974) (by decide +kernel) rfl, aw_t (i := 7) (by decide +kernel) rfl, aw_t (i := 975) (by decide +kernel) rfl, by decide +kernel⟩
theorem zyX8_stop : zMth yX8_stop cX8_stop 1 none 0 := ⟨aw_t (i := 672) (by decide +kernel) rfl, aw_t (i := 673) (by decide +kernel) rfl, aw_t (i := 7) (by decide +kernel) rfl, aw_t (i := 674) (by decide +kernel) rfl, by decide +kernel⟩
theorem zyX8_takeWaiting : zMth yX8_takeWaiting cX8_takeWaiting 1 none 0 := ⟨aw_t (i := 937) (by decide +kernel) rfl, aw_t (i := 938) (by decide +kernel) rfl, aw_t (i := 7) (by decide +kernel) rfl, aw_t (i := 939) (by decide +kernel) rfl, by decide +kernel⟩
theorem zyX8_tick : zMth yX8_tick cX8_tick 3 none 1 := ⟨aw_t (i := 933) (by decide +kernel) rfl, aw_t (i := 934) (by decide +kernel) rfl, aw_t (i := 7) (by decide +kernel) rfl, aw_t (i := 935) (by decide +kernel) rfl, by decide +kernel⟩
theorem zyX8_tripIfOver : zMth yX8_tripIfOver cX8_tripIfOver 3 none 1 := ⟨aw_t (i := 969) (by decide +kernel) rfl, aw_t (i := 970) (by decide +kernel) rfl, aw_t (i := 7) (by decide +kernel) rfl, aw_t (i := 971) (by decide +kernel) rfl, by decide +kernel⟩
theorem zyX9_bestAt : zMth yX9_bestAt cX9_bestAt 10 (some .int) 2 := ⟨aw_t (i := 715) (by decide +kernel) rfl, aw_t (i := 716) (by decide +kernel) rfl, aw_t (i := 3) (by decide +kernel) rfl, aw_t (i := 717) (by decide +kernel) rfl, by decide +kernel⟩
theorem zyX9_clear : zMth yX9_clear cX9_clear 1 none 0 := ⟨aw_t (i := 497) (by decide +kernel) rfl, aw_t (i := 498) (by decide +kernel) rfl, aw_t (i := 3) (by decide +kernel) rfl, aw_t (i := 499) (by decide +kernel) rfl, by decide +kernel⟩
theorem zyX9_rootAt : zMtS yX9_rootAt cX9_rootAt 4 (some .int) 2 := ⟨aw_t (i := 701) (by decide +kernel) rfl, aw_t (i := 3) (by decide +kernel) rfl, aw_t (i := 702) (by decide +kernel) rfl, by decide +kernel⟩
theorem zyX9_rootsOf : zMtS yX9_rootsOf cX9_rootsOf 7 (some .int) 2 := ⟨aw_t (i := 697) (by decide +kernel) rfl, aw_t (i := 3) (by decide +kernel) rfl, aw_t (i := 698) (by decide +kernel) rfl, by decide +kernel⟩
theorem zyX9_squareRoot : zMtS yX9_squareRoot cX9_squareRoot 4 (some .int) 1 := ⟨aw_t (i := 705) (by decide +kernel) rfl, aw_t (i := 3) (by decide +kernel) rfl, aw_t (i := 706) (by decide +kernel) rfl, by decide +kernel⟩
theorem zyX9_wave : zMtS yX9_wave cX9_wave 3 (some .int) 2 := ⟨aw_t (i := 690) (by decide +kernel) rfl, aw_t (i := 3) (by decide +kernel) rfl, aw_t (i := 691) (by decide +kernel) rfl, by decide +kernel⟩
