theorem fl_X0_9 : xFld RX0 9 0 0 false .int := ⟨RX0, TX0, 4, tyX0, xc0, by decide, gdT 403 (by decide +kernel) rfl, rfl, rfl, fun _ => Or.inr trivial⟩
theorem fl_X0_15 : xFld RX0 15 0 1 false .int := ⟨RX0, TX0, 4, tyX0, xc0, by decide, gdT 405 (by decide +kernel) rfl, rfl, rfl, fun _ => Or.inr trivial⟩
theorem fl_X0_18 : xFld RX0 18 0 2 false .int := ⟨RX0, TX0, 4, tyX0, xc0, by decide, gdT 407 (by decide +kernel) rfl, rfl, rfl, fun _ => Or.inr trivial⟩
theorem fl_X0_21 : xFld RX0 21 0 3 true (.array .int) := ⟨RX0, TX0, 4, tyX0, xc0, by decide, gdT 409 (by decide +kernel) rfl, rfl, rfl, fun _ => Or.inr trivial⟩
theorem fl_X0_31 : xFld RX0 31 6 1 true (.array .int) := ⟨RX6, TX6, 14, tyX6, xc6, by decide, gdT 137 (by decide +kernel) rfl, rfl, rfl, fun _ => Or.inr trivial⟩
theorem fl_X0_36 : xFld RX0 36 6 5 true (.array .int) := ⟨RX6, TX6, 14, tyX6, xc6, by decide, gdT 147 (by decide +kernel) rfl, rfl, rfl, fun _ => Or.inr trivial⟩
theorem fl_X0_39 : xFld RX0 39 7 1 true (.object "HerdBooks$Herds") := ⟨RX7, TX7, 11, tyX7, xc7, by decide, gdT 250 (by decide +kernel) rfl, rfl, rfl, fun _ => Or.inr trivial⟩
theorem fl_X0_45 : xFld RX0 45 1 4 true (.array .int) := ⟨RX1, TX1, 11, tyX1, xc1, by decide, gdT 91 (by decide +kernel) rfl, rfl, rfl, fun _ => Or.inr trivial⟩
theorem fl_X0_50 : xFld RX0 50 7 2 true (.object "HerdBooks$Shelf") := ⟨RX7, TX7, 11, tyX7, xc7, by decide, gdT 253 (by decide +kernel) rfl, rfl, rfl, fun _ => Or.inr trivial⟩
theorem fl_X1_9 : xFld RX1 9 1 0 false .int := ⟨RX1, TX1, 11, tyX1, xc1, by decide, gdT 81 (by decide +kernel) rfl, rfl, rfl, fun _ => Or.inr trivial⟩
theorem fl_X1_15 : xFld RX1 15 1 1 true (.array .int) := ⟨RX1, TX1, 11, tyX1, xc1, by decide, gdT 83 (by decide +kernel) rfl, rfl, rfl, fun _ => Or.inr trivial⟩
theorem fl_X1_19 : xFld RX1 19 1 2 true (.array .int) := ⟨RX1, TX1, 11, tyX1, xc1, by decide, gdT 85 (by decide +kernel) rfl, rfl, rfl, fun _ => Or.inr trivial⟩
theorem fl_X1_22 : xFld RX1 22 1 3 true (.array .int) := ⟨RX1, TX1, 11, tyX1, xc1, by decide, gdT 87 (by decide +kernel) rfl, rfl, rfl, fun _ => Or.inr trivial⟩
theorem fl_X1_25 : xFld RX1 25 1 4 true (.array .int) := ⟨RX1, TX1, 11, tyX1, xc1, by decide, gdT 90 (by decide +kernel) rfl, rfl, rfl, fun _ => Or.inr trivial⟩
theorem fl_X1_28 : xFld RX1 28 1 5 false .int := ⟨RX1, TX1, 11, tyX1, xc1, by decide, gdT 93 (by decide +kernel) rfl, rfl, rfl, fun _ => Or.inr trivial⟩
theorem fl_X1_31 : xFld RX1 31 1 6 true (.array .int) := ⟨RX1, TX1, 11, tyX1, xc1, by decide, gdT 96 (by decide +kernel) rfl, rfl, rfl, fun _ => Or.inr trivial⟩
theorem fl_X1_34 : xFld RX1 34 1 7 true (.array .int) := ⟨RX1, TX1, 11, tyX1, xc1, by decide, gdT 97 (by decide +kernel) rfl, rfl, rfl, fun _ => Or.inr trivial⟩
theorem fl_X1_37 : xFld RX1 37 1 8 true (.array .int) := ⟨RX1, TX1, 11, tyX1, xc1, by decide, gdT 99 (by decide +kernel) rfl, rfl, rfl, fun _ => Or.inr trivial⟩
theorem fl_X1_40 : xFld RX1 40 1 9 true (.array .int) := ⟨RX1, TX1, 11, tyX1, xc1, by decide, gdT 100 (by decide +kernel) rfl, rfl, rfl, fun _ => Or.inr trivial⟩
theorem fl_X1_43 : xFld RX1 43 1 10 true (.array .int) := ⟨RX1, TX1, 11, tyX1, xc1, by decide, gdT 102 (by decide +kernel) rfl, rfl, rfl, fun _ => Or.inr trivial⟩
theorem fl_X10_12 : xFld RX10 12 10 0 true (.object "HerdBooks$Told") := ⟨RX10, TX10, 9, tyX10, xc10, by decide, gdT 419 (by decide +kernel) rfl, rfl, rfl, fun _ => Or.inr trivial⟩
theorem fl_X10_16 : xFld RX10 16 10 1 true (.array (.object "HerdBooks$Told")) := ⟨RX10, TX10, 9, tyX10, xc10, by decide, gdT 420 (by decide +kernel) rfl, rfl, rfl, fun _ => Or.inr trivial⟩
theorem fl_X10_25 : xFld RX10 25 10 2 true (.object "HerdBooks$Where") := ⟨RX10, TX10, 9, tyX10, xc10, by decide, gdT 421 (by decide +kernel) rfl, rfl, rfl, fun _ => Or.inr trivial⟩
theorem fl_X10_29 : xFld RX10 29 10 3 true (.object "HerdBooks$Where") := ⟨RX10, TX10, 9, tyX10, xc10, by decide, gdT 422 (by decide +kernel) rfl, rfl, rfl, fun _ => Or.inr trivial⟩
theorem fl_X10_35 : xFld RX10 35 10 4 true (.object "HerdBooks$Walks") := ⟨RX10, TX10, 9, tyX10, xc10, by decide, gdT 423 (by decide +kernel) rfl, rfl, rfl, fun _ => Or.inr trivial⟩
theorem fl_X10_42 : xFld RX10 42 10 5 true (.object "HerdBooks$Parser") := ⟨RX10, TX10, 9, tyX10, xc10, by decide, gdT 424 (by decide +kernel) rfl, rfl, rfl, fun _ => Or.inr trivial⟩
theorem fl_X10_49 : xFld RX10 49 10 6 true (.object "HerdBooks$Box") := ⟨RX10, TX10, 9, tyX10, xc10, by decide, gdT 425 (by decide +kernel) rfl, rfl, rfl, fun _ => Or.inr trivial⟩
theorem fl_X10_53 : xFld RX10 53 10 7 true (.array .int) := ⟨RX10, TX10, 9, tyX10, xc10, by decide, gdT 426 (by decide +kernel) rfl, rfl, rfl, fun _ => Or.inr trivial⟩
theorem fl_X10_57 : xFld RX10 57 10 8 true (.array .int) := ⟨RX10, TX10, 9, tyX10, xc10, by decide, gdT 427 (by decide +kernel) rfl, rfl, rfl, fun _ => Or.inr trivial⟩
theorem fl_X10_60 : xFld RX10 60 7 0 true (.object "HerdBooks$Land") := ⟨RX7, TX7, 11, tyX7, xc7, by decide, gdT 246 (by decide +kernel) rfl, rfl, rfl, fun _ => Or.inr trivial⟩
theorem fl_X10_88 : xFld RX10 88 7 1 true (.object "HerdBooks$Herds") := ⟨RX7, TX7, 11, tyX7, xc7, by decide, gdT 249 (by decide +kernel) rfl, rfl, rfl, fun _ => Or.inr trivial⟩
theorem fl_X10_92 : xFld RX10 92 7 9 false .int := ⟨RX7, TX7, 11, tyX7, xc7, by decide, gdT 268 (by decide +kernel) rfl, rfl, rfl, fun _ => Or.inr trivial⟩
theorem fl_X10_109 : xFld RX10 109 2 8 true (.array .int) := ⟨RX2, TX2, 9, tyX2, xc2, by decide, gdT 54 (by decide +kernel) rfl, rfl, rfl, fun _ => Or.inr trivial⟩
theorem fl_X10_115 : xFld RX10 115 7 10 false .int := ⟨RX7, TX7, 11, tyX7, xc7, by decide, gdT 271 (by decide +kernel) rfl, rfl, rfl, fun _ => Or.inr trivial⟩
theorem fl_X10_121 : xFld RX10 121 1 3 true (.array .int) := ⟨RX1, TX1, 11, tyX1, xc1, by decide, gdT 89 (by decide +kernel) rfl, rfl, rfl, fun _ => Or.inr trivial⟩
theorem fl_X10_154 : xFld RX10 154 7 2 true (.object "HerdBooks$Shelf") := ⟨RX7, TX7, 11, tyX7, xc7, by decide, gdT 254 (by decide +kernel) rfl, rfl, rfl, fun _ => Or.inr trivial⟩
theorem fl_X10_181 : xFld RX10 181 7 3 true (.object "HerdBooks$Rules") := ⟨RX7, TX7, 11, tyX7, xc7, by decide, gdT 256 (by decide +kernel) rfl, rfl, rfl, fun _ => Or.inr trivial⟩
theorem fl_X10_202 : xFld RX10 202 6 6 false .int := ⟨RX6, TX6, 14, tyX6, xc6, by decide, gdT 149 (by decide +kernel) rfl, rfl, rfl, fun _ => Or.inr trivial⟩
theorem fl_X10_205 : xFld RX10 205 6 7 true (.array .int) := ⟨RX6, TX6, 14, tyX6, xc6, by decide, gdT 151 (by decide +kernel) rfl, rfl, rfl, fun _ => Or.inr trivial⟩
theorem fl_X10_208 : xFld RX10 208 6 8 true (.array .int) := ⟨RX6, TX6, 14, tyX6, xc6, by decide, gdT 153 (by decide +kernel) rfl, rfl, rfl, fun _ => Or.inr trivial⟩
theorem fl_X10_211 : xFld RX10 211 6 9 true (.array .int) := ⟨RX6, TX6, 14, tyX6, xc6, by decide, gdT 155 (by decide +kernel) rfl, rfl, rfl, fun _ => Or.inr trivial⟩
theorem fl_X10_214 : xFld RX10 214 6 10 true (.array .int) := ⟨RX6, TX6, 14, tyX6, xc6, by decide, gdT 157 (by decide +kernel) rfl, rfl, rfl, fun _ => Or.inr trivial⟩
theorem fl_X10_217 : xFld RX10 217 6 11 true (.array .int) := ⟨RX6, TX6, 14, tyX6, xc6, by decide, gdT 159 (by decide +kernel) rfl, rfl, rfl, fun _ => Or.inr trivial⟩
theorem fl_X10_220 : xFld RX10 220 6 12 true (.array .int) := ⟨RX6, TX6, 14, tyX6, xc6, by decide, gdT 161 (by decide +kernel) rfl, rfl, rfl, fun _ => Or.inr trivial⟩
theorem fl_X10_223 : xFld RX10 223 6 13 true (.array .int) := ⟨RX6, TX6, 14, tyX6, xc6, by decide, gdT 163 (by decide +kernel) rfl, rfl, rfl, fun _ => Or.inr trivial⟩
theorem fl_X10_245 : xFld RX10 245 7 6 false .int := ⟨RX7, TX7, 11, tyX7, xc7, by decide, gdT 262 (by decide +kernel) rfl, rfl, rfl, fun _ => Or.inr trivial⟩
theorem fl_X10_251 : xFld RX10 251 7 5 true (.array .int) := ⟨RX7, TX7, 11, tyX7, xc7, by decide, gdT 260 (by decide +kernel) rfl, rfl, rfl, fun _ => Or.inr trivial⟩
theorem fl_X10_258 : xFld RX10 258 3 1 false .int := ⟨RX3, TX3, 9, tyX3, xc3, by decide, gdT 369 (by decide +kernel) rfl, rfl, rfl, fun _ => Or.inr trivial⟩
theorem fl_X10_261 : xFld RX10 261 7 7 false .int := ⟨RX7, TX7, 11, tyX7, xc7, by decide, gdT 264 (by decide +kernel) rfl, rfl, rfl, fun _ => Or.inr trivial⟩
theorem fl_X10_262 : xFld RX10 262 3 2 false .int := ⟨RX3, TX3, 9, tyX3, xc3, by decide, gdT 371 (by decide +kernel) rfl, rfl, rfl, fun _ => Or.inr trivial⟩
theorem fl_X10_265 : xFld RX10 265 7 8 false .int := ⟨RX7, TX7, 11, tyX7, xc7, by decide, gdT 266 (by decide +kernel) rfl, rfl, rfl, fun _ => Or.inr trivial⟩
theorem fl_X10_268 : xFld RX10 268 3 0 true (.object "HerdBooks$Rules") := ⟨RX3, TX3, 9, tyX3, xc3, by decide, gdT 367 (by decide +kernel) rfl, rfl, rfl, fun _ => Or.inr trivial⟩
theorem fl_X10_275 : xFld RX10 275 5 0 false .int := ⟨RX5, TX5, 8, tyX5, xc5, by decide, gdT 201 (by decide +kernel) rfl, rfl, rfl, fun _ => Or.inr trivial⟩
theorem fl_X10_281 : xFld RX10 281 8 2 false .int := ⟨RX8, TX8, 7, tyX8, xc8, by decide, gdT 338 (by decide +kernel) rfl, rfl, rfl, fun _ => Or.inr trivial⟩
theorem fl_X10_284 : xFld RX10 284 8 1 false .int := ⟨RX8, TX8, 7, tyX8, xc8, by decide, gdT 336 (by decide +kernel) rfl, rfl, rfl, fun _ => Or.inr trivial⟩
theorem fl_X10_287 : xFld RX10 287 8 0 false .int := ⟨RX8, TX8, 7, tyX8, xc8, by decide, gdT 334 (by decide +kernel) rfl, rfl, rfl, fun _ => Or.inr trivial⟩
theorem fl_X10_294 : xFld RX10 294 1 4 true (.array .int) := ⟨RX1, TX1, 11, tyX1, xc1, by decide, gdT 92 (by decide +kernel) rfl, rfl, rfl, fun _ => Or.inr trivial⟩
theorem fl_X10_303 : xFld RX10 303 0 0 false .int := ⟨RX0, TX0, 4, tyX0, xc0, by decide, gdT 404 (by decide +kernel) rfl, rfl, rfl, fun _ => Or.inr trivial⟩
theorem fl_X10_306 : xFld RX10 306 0 1 false .int := ⟨RX0, TX0, 4, tyX0, xc0, by decide, gdT 406 (by decide +kernel) rfl, rfl, rfl, fun _ => Or.inr trivial⟩
theorem fl_X10_309 : xFld RX10 309 0 2 false .int := ⟨RX0, TX0, 4, tyX0, xc0, by decide, gdT 408 (by decide +kernel) rfl, rfl, rfl, fun _ => Or.inr trivial⟩
theorem fl_X10_310 : xFld RX10 310 7 4 true (.object "HerdBooks$Readers") := ⟨RX7, TX7, 11, tyX7, xc7, by decide, gdT 258 (by decide +kernel) rfl, rfl, rfl, fun _ => Or.inr trivial⟩
theorem fl_X10_325 : xFld RX10 325 4 2 true (.array .int) := ⟨RX4, TX4, 3, tyX4, xc4, by decide, gdT 237 (by decide +kernel) rfl, rfl, rfl, fun _ => Or.inr trivial⟩
theorem fl_X10_328 : xFld RX10 328 4 1 true (.array .int) := ⟨RX4, TX4, 3, tyX4, xc4, by decide, gdT 235 (by decide +kernel) rfl, rfl, rfl, fun _ => Or.inr trivial⟩
theorem fl_X10_347 : xFld RX10 347 2 0 false .int := ⟨RX2, TX2, 9, tyX2, xc2, by decide, gdT 42 (by decide +kernel) rfl, rfl, rfl, fun _ => Or.inr trivial⟩
theorem fl_X10_354 : xFld RX10 354 1 0 false .int := ⟨RX1, TX1, 11, tyX1, xc1, by decide, gdT 82 (by decide +kernel) rfl, rfl, rfl, fun _ => Or.inr trivial⟩
theorem fl_X10_356 : xFld RX10 356 6 0 false .int := ⟨RX6, TX6, 14, tyX6, xc6, by decide, gdT 135 (by decide +kernel) rfl, rfl, rfl, fun _ => Or.inr trivial⟩
theorem fl_X10_358 : xFld RX10 358 1 5 false .int := ⟨RX1, TX1, 11, tyX1, xc1, by decide, gdT 95 (by decide +kernel) rfl, rfl, rfl, fun _ => Or.inr trivial⟩
theorem fl_X10_361 : xFld RX10 361 4 0 false .int := ⟨RX4, TX4, 3, tyX4, xc4, by decide, gdT 233 (by decide +kernel) rfl, rfl, rfl, fun _ => Or.inr trivial⟩
theorem fl_X10_367 : xFld RX10 367 1 10 true (.array .int) := ⟨RX1, TX1, 11, tyX1, xc1, by decide, gdT 103 (by decide +kernel) rfl, rfl, rfl, fun _ => Or.inr trivial⟩
theorem fl_X10_387 : xFld RX10 387 6 2 true (.array .int) := ⟨RX6, TX6, 14, tyX6, xc6, by decide, gdT 141 (by decide +kernel) rfl, rfl, rfl, fun _ => Or.inr trivial⟩
theorem fl_X10_390 : xFld RX10 390 1 1 true (.array .int) := ⟨RX1, TX1, 11, tyX1, xc1, by decide, gdT 84 (by decide +kernel) rfl, rfl, rfl, fun _ => Or.inr trivial⟩
theorem fl_X10_391 : xFld RX10 391 6 1 true (.array .int) := ⟨RX6, TX6, 14, tyX6, xc6, by decide, gdT 139 (by decide +kernel) rfl, rfl, rfl, fun _ => Or.inr trivial⟩
theorem fl_X10_394 : xFld RX10 394 6 3 true (.array .int) := ⟨RX6, TX6, 14, tyX6, xc6, by decide, gdT 144 (by decide +kernel) rfl, rfl, rfl, fun _ => Or.inr trivial⟩
theorem fl_X11_7 : xFld RX11 7 11 1 true (.array .byte) := ⟨RX11, TX11, 84, tyX11, xc11, by decide, gdT 1131 (by decide +kernel) rfl, rfl, rfl, fun _ => Or.inr trivial⟩
theorem fl_X11_13 : xFld RX11 13 11 2 true (.array .int) := ⟨RX11, TX11, 84, tyX11, xc11, by decide, gdT 1132 (by decide +kernel) rfl, rfl, rfl, fun _ => Or.inr trivial⟩
theorem fl_X11_17 : xFld RX11 17 11 3 true (.array .int) := ⟨RX11, TX11, 84, tyX11, xc11, by decide, gdT 1133 (by decide +kernel) rfl, rfl, rfl, fun _ => Or.inr trivial⟩
theorem fl_X11_20 : xFld RX11 20 11 4 true (.array .int) := ⟨RX11, TX11, 84, tyX11, xc11, by decide, gdT 1134 (by decide +kernel) rfl, rfl, rfl, fun _ => Or.inr trivial⟩
theorem fl_X11_23 : xFld RX11 23 11 5 true (.array .int) := ⟨RX11, TX11, 84, tyX11, xc11, by decide, gdT 1135 (by decide +kernel) rfl, rfl, rfl, fun _ => Or.inr trivial⟩
theorem fl_X11_26 : xFld RX11 26 11 6 true (.array .int) := ⟨RX11, TX11, 84, tyX11, xc11, by decide, gdT 1136 (by decide +kernel) rfl, rfl, rfl, fun _ => Or.inr trivial⟩
theorem fl_X11_29 : xFld RX11 29 11 7 true (.array .int) := ⟨RX11, TX11, 84, tyX11, xc11, by decide, gdT 1137 (by decide +kernel) rfl, rfl, rfl, fun _ => Or.inr trivial⟩
theorem fl_X11_32 : xFld RX11 32 11 8 true (.array .boolean) := ⟨RX11, TX11, 84, tyX11, xc11, by decide, gdT 1138 (by decide +kernel) rfl, rfl, rfl, fun _ => Or.inr trivial⟩
theorem fl_X11_36 : xFld RX11 36 11 9 true (.array .int) := ⟨RX11, TX11, 84, tyX11, xc11, by decide, gdT 1139 (by decide +kernel) rfl, rfl, rfl, fun _ => Or.inr trivial⟩
theorem fl_X11_39 : xFld RX11 39 11 10 true (.array .int) := ⟨RX11, TX11, 84, tyX11, xc11, by decide, gdT 1140 (by decide +kernel) rfl, rfl, rfl, fun _ => Or.inr trivial⟩
theorem fl_X11_42 : xFld RX11 42 11 11 true (.array .int) := ⟨RX11, TX11, 84, tyX11, xc11, by decide, gdT 1141 (by decide +kernel) rfl, rfl, rfl, fun _ => Or.inr trivial⟩
theorem fl_X11_45 : xFld RX11 45 11 12 true (.array .int) := ⟨RX11, TX11, 84, tyX11, xc11, by decide, gdT 1142 (by decide +kernel) rfl, rfl, rfl, fun _ => Or.inr trivial⟩
theorem fl_X11_48 : xFld RX11 48 11 13 true (.array .int) := ⟨RX11, TX11, 84, tyX11, xc11, by decide, gdT 1143 (by decide +kernel) rfl, rfl, rfl, fun _ => Or.inr trivial⟩
theorem fl_X11_51 : xFld RX11 51 11 14 true (.array .int) := ⟨RX11, TX11, 84, tyX11, xc11, by decide, gdT 1144 (by decide +kernel) rfl, rfl, rfl, fun _ => Or.inr trivial⟩
theorem fl_X11_54 : xFld RX11 54 11 15 true (.array .int) := ⟨RX11, TX11, 84, tyX11, xc11, by decide, gdT 1145 (by decide +kernel) rfl, rfl, rfl, fun _ => Or.inr trivial⟩
theorem fl_X11_57 : xFld RX11 57 11 16 true (.array .int) := ⟨RX11, TX11, 84, tyX11, xc11, by decide, gdT 1146 (by decide +kernel) rfl, rfl, rfl, fun _ => Or.inr trivial⟩
theorem fl_X11_60 : xFld RX11 60 11 17 true (.array .int) := ⟨RX11, TX11, 84, tyX11, xc11, by decide, gdT 1147 (by decide +kernel) rfl, rfl, rfl, fun _ => Or.inr trivial⟩
theorem fl_X11_63 : xFld RX11 63 11 18 true (.array .int) := ⟨RX11, TX11, 84, tyX11, xc11, by decide, gdT 1148 (by decide +kernel) rfl, rfl, rfl, fun _ => Or.inr trivial⟩
theorem fl_X11_66 : xFld RX11 66 11 19 true (.array .boolean) := ⟨RX11, TX11, 84, tyX11, xc11, by decide, gdT 1149 (by decide +kernel) rfl, rfl, rfl, fun _ => Or.inr trivial⟩
theorem fl_X11_69 : xFld RX11 69 11 20 true (.array .int) := ⟨RX11, TX11, 84, tyX11, xc11, by decide, gdT 1150 (by decide +kernel) rfl, rfl, rfl, fun _ => Or.inr trivial⟩
theorem fl_X11_72 : xFld RX11 72 11 21 true (.array .int) := ⟨RX11, TX11, 84, tyX11, xc11, by decide, gdT 1151 (by decide +kernel) rfl, rfl, rfl, fun _ => Or.inr trivial⟩
theorem fl_X11_75 : xFld RX11 75 11 22 true (.array .int) := ⟨RX11, TX11, 84, tyX11, xc11, by decide, gdT 1152 (by decide +kernel) rfl, rfl, rfl, fun _ => Or.inr trivial⟩
theorem fl_X11_78 : xFld RX11 78 11 23 true (.array .int) := ⟨RX11, TX11, 84, tyX11, xc11, by decide, gdT 1153 (by decide +kernel) rfl, rfl, rfl, fun _ => Or.inr trivial⟩
theorem fl_X11_81 : xFld RX11 81 11 24 true (.array .boolean) := ⟨RX11, TX11, 84, tyX11, xc11, by decide, gdT 1154 (by decide +kernel) rfl, rfl, rfl, fun _ => Or.inr trivial⟩
theorem fl_X11_84 : xFld RX11 84 11 25 true (.array .int) := ⟨RX11, TX11, 84, tyX11, xc11, by decide, gdT 1155 (by decide +kernel) rfl, rfl, rfl, fun _ => Or.inr trivial⟩
theorem fl_X11_87 : xFld RX11 87 11 26 true (.array .int) := ⟨RX11, TX11, 84, tyX11, xc11, by decide, gdT 1156 (by decide +kernel) rfl, rfl, rfl, fun _ => Or.inr trivial⟩
theorem fl_X11_90 : xFld RX11 90 11 27 true (.array .int) := ⟨RX11, TX11, 84, tyX11, xc11, by decide, gdT 1157 (by decide +kernel) rfl, rfl, rfl, fun _ => Or.inr trivial⟩
theorem fl_X11_93 : xFld RX11 93 11 28 true (.array .int) := ⟨RX11, TX11, 84, tyX11, xc11, by decide, gdT 1158 (by decide +kernel) rfl, rfl, rfl, fun _ => Or.inr trivial⟩
theorem fl_X11_96 : xFld RX11 96 11 29 true (.array .int) := ⟨RX11, TX11, 84, tyX11, xc11, by decide, gdT 1159 (by decide +kernel) rfl, rfl, rfl, fun _ => Or.inr trivial⟩
theorem fl_X11_99 : xFld RX11 99 11 30 true (.array .int) := ⟨RX11, TX11, 84, tyX11, xc11, by decide, gdT 1160 (by decide +kernel) rfl, rfl, rfl, fun _ => Or.inr trivial⟩
theorem fl_X11_102 : xFld RX11 102 11 31 true (.array .int) := ⟨RX11, TX11, 84, tyX11, xc11, by decide, gdT 1161 (by decide +kernel) rfl, rfl, rfl, fun _ => Or.inr trivial⟩
theorem fl_X11_105 : xFld RX11 105 11 32 true (.array .int) := ⟨RX11, TX11, 84, tyX11, xc11, by decide, gdT 1162 (by decide +kernel) rfl, rfl, rfl, fun _ => Or.inr trivial⟩
theorem fl_X11_108 : xFld RX11 108 11 33 true (.array .int) := ⟨RX11, TX11, 84, tyX11, xc11, by decide, gdT 1163 (by decide +kernel) rfl, rfl, rfl, fun _ => Or.inr trivial⟩
theorem fl_X11_111 : xFld RX11 111 11 34 true (.array .int) := ⟨RX11, TX11, 84, tyX11, xc11, by decide, gdT 1164 (by decide +kernel) rfl, rfl, rfl, fun _ => Or.inr trivial⟩
theorem fl_X11_114 : xFld RX11 114 11 35 true (.array .int) := ⟨RX11, TX11, 84, tyX11, xc11, by decide, gdT 1165 (by decide +kernel) rfl, rfl, rfl, fun _ => Or.inr trivial⟩
theorem fl_X11_117 : xFld RX11 117 11 36 true (.array .int) := ⟨RX11, TX11, 84, tyX11, xc11, by decide, gdT 1166 (by decide +kernel) rfl, rfl, rfl, fun _ => Or.inr trivial⟩
theorem fl_X11_120 : xFld RX11 120 11 37 true (.array .int) := ⟨RX11, TX11, 84, tyX11, xc11, by decide, gdT 1167 (by decide +kernel) rfl, rfl, rfl, fun _ => Or.inr trivial⟩
theorem fl_X11_123 : xFld RX11 123 11 38 true (.array .int) := ⟨RX11, TX11, 84, tyX11, xc11, by decide, gdT 1168 (by decide +kernel) rfl, rfl, rfl, fun _ => Or.inr trivial⟩
theorem fl_X11_126 : xFld RX11 126 11 39 true (.array .int) := ⟨RX11, TX11, 84, tyX11, xc11, by decide, gdT 1169 (by decide +kernel) rfl, rfl, rfl, fun _ => Or.inr trivial⟩
theorem fl_X11_129 : xFld RX11 129 11 40 true (.array .int) := ⟨RX11, TX11, 84, tyX11, xc11, by decide, gdT 1170 (by decide +kernel) rfl, rfl, rfl, fun _ => Or.inr trivial⟩
theorem fl_X11_132 : xFld RX11 132 11 41 true (.array .int) := ⟨RX11, TX11, 84, tyX11, xc11, by decide, gdT 1171 (by decide +kernel) rfl, rfl, rfl, fun _ => Or.inr trivial⟩
theorem fl_X11_135 : xFld RX11 135 11 42 true (.array .int) := ⟨RX11, TX11, 84, tyX11, xc11, by decide, gdT 1172 (by decide +kernel) rfl, rfl, rfl, fun _ => Or.inr trivial⟩
theorem fl_X11_138 : xFld RX11 138 11 43 true (.array .int) := ⟨RX11, TX11, 84, tyX11, xc11, by decide, gdT 1173 (by decide +kernel) rfl, rfl, rfl, fun _ => Or.inr trivial⟩
theorem fl_X11_141 : xFld RX11 141 11 44 true (.array .int) := ⟨RX11, TX11, 84, tyX11, xc11, by decide, gdT 1174 (by decide +kernel) rfl, rfl, rfl, fun _ => Or.inr trivial⟩
theorem fl_X11_144 : xFld RX11 144 11 45 true (.array .int) := ⟨RX11, TX11, 84, tyX11, xc11, by decide, gdT 1175 (by decide +kernel) rfl, rfl, rfl, fun _ => Or.inr trivial⟩
theorem fl_X11_147 : xFld RX11 147 11 46 true (.array .int) := ⟨RX11, TX11, 84, tyX11, xc11, by decide, gdT 1176 (by decide +kernel) rfl, rfl, rfl, fun _ => Or.inr trivial⟩
theorem fl_X11_150 : xFld RX11 150 11 47 true (.array .boolean) := ⟨RX11, TX11, 84, tyX11, xc11, by decide, gdT 1177 (by decide +kernel) rfl, rfl, rfl, fun _ => Or.inr trivial⟩
theorem fl_X11_153 : xFld RX11 153 11 48 true (.array .int) := ⟨RX11, TX11, 84, tyX11, xc11, by decide, gdT 1178 (by decide +kernel) rfl, rfl, rfl, fun _ => Or.inr trivial⟩
theorem fl_X11_156 : xFld RX11 156 11 49 true (.array .int) := ⟨RX11, TX11, 84, tyX11, xc11, by decide, gdT 1179 (by decide +kernel) rfl, rfl, rfl, fun _ => Or.inr trivial⟩
theorem fl_X11_159 : xFld RX11 159 11 50 true (.array .int) := ⟨RX11, TX11, 84, tyX11, xc11, by decide, gdT 1180 (by decide +kernel) rfl, rfl, rfl, fun _ => Or.inr trivial⟩
theorem fl_X11_162 : xFld RX11 162 11 51 true (.array .int) := ⟨RX11, TX11, 84, tyX11, xc11, by decide, gdT 1181 (by decide +kernel) rfl, rfl, rfl, fun _ => Or.inr trivial⟩
theorem fl_X11_165 : xFld RX11 165 11 52 true (.array .int) := ⟨RX11, TX11, 84, tyX11, xc11, by decide, gdT 1182 (by decide +kernel) rfl, rfl, rfl, fun _ => Or.inr trivial⟩
theorem fl_X11_168 : xFld RX11 168 11 53 true (.array .int) := ⟨RX11, TX11, 84, tyX11, xc11, by decide, gdT 1183 (by decide +kernel) rfl, rfl, rfl, fun _ => Or.inr trivial⟩
theorem fl_X11_171 : xFld RX11 171 11 54 true (.array .int) := ⟨RX11, TX11, 84, tyX11, xc11, by decide, gdT 1184 (by decide +kernel) rfl, rfl, rfl, fun _ => Or.inr trivial⟩
theorem fl_X11_174 : xFld RX11 174 11 55 true (.array .long) := ⟨RX11, TX11, 84, tyX11, xc11, by decide, gdT 1185 (by decide +kernel) rfl, rfl, rfl, fun _ => Or.inr trivial⟩
theorem fl_X11_178 : xFld RX11 178 11 57 true (.array .int) := ⟨RX11, TX11, 84, tyX11, xc11, by decide, gdT 1187 (by decide +kernel) rfl, rfl, rfl, fun _ => Or.inr trivial⟩
theorem fl_X11_181 : xFld RX11 181 11 58 true (.array .int) := ⟨RX11, TX11, 84, tyX11, xc11, by decide, gdT 1188 (by decide +kernel) rfl, rfl, rfl, fun _ => Or.inr trivial⟩
theorem fl_X11_184 : xFld RX11 184 11 69 true (.array .int) := ⟨RX11, TX11, 84, tyX11, xc11, by decide, gdT 1199 (by decide +kernel) rfl, rfl, rfl, fun _ => Or.inr trivial⟩
theorem fl_X11_187 : xFld RX11 187 11 70 true (.array .int) := ⟨RX11, TX11, 84, tyX11, xc11, by decide, gdT 1200 (by decide +kernel) rfl, rfl, rfl, fun _ => Or.inr trivial⟩
theorem fl_X11_190 : xFld RX11 190 11 71 true (.array .int) := ⟨RX11, TX11, 84, tyX11, xc11, by decide, gdT 1201 (by decide +kernel) rfl, rfl, rfl, fun _ => Or.inr trivial⟩
theorem fl_X11_193 : xFld RX11 193 11 72 true (.array .int) := ⟨RX11, TX11, 84, tyX11, xc11, by decide, gdT 1202 (by decide +kernel) rfl, rfl, rfl, fun _ => Or.inr trivial⟩
theorem fl_X11_196 : xFld RX11 196 11 73 true (.array .int) := ⟨RX11, TX11, 84, tyX11, xc11, by decide, gdT 1203 (by decide +kernel) rfl, rfl, rfl, fun _ => Or.inr trivial⟩
theorem fl_X11_199 : xFld RX11 199 11 74 true (.array .int) := ⟨RX11, TX11, 84, tyX11, xc11, by decide, gdT 1204 (by decide +kernel) rfl, rfl, rfl, fun _ => Or.inr trivial⟩
theorem fl_X11_202 : xFld RX11 202 11 75 true (.array .boolean) := ⟨RX11, TX11, 84, tyX11, xc11, by decide, gdT 1205 (by decide +kernel) rfl, rfl, rfl, fun _ => Or.inr trivial⟩
theorem fl_X11_205 : xFld RX11 205 11 76 true (.array .int) := ⟨RX11, TX11, 84, tyX11, xc11, by decide, gdT 1206 (by decide +kernel) rfl, rfl, rfl, fun _ => Or.inr trivial⟩
theorem fl_X11_208 : xFld RX11 208 11 77 true (.array .int) := ⟨RX11, TX11, 84, tyX11, xc11, by decide, gdT 1207 (by decide +kernel) rfl, rfl, rfl, fun _ => Or.inr trivial⟩
theorem fl_X11_211 : xFld RX11 211 11 78 true (.array .int) := ⟨RX11, TX11, 84, tyX11, xc11, by decide, gdT 1208 (by decide +kernel) rfl, rfl, rfl, fun _ => Or.inr trivial⟩
theorem fl_X11_214 : xFld RX11 214 11 82 true (.array .int) := ⟨RX11, TX11, 84, tyX11, xc11, by decide, gdT 1212 (by decide +kernel) rfl, rfl, rfl, fun _ => Or.inr trivial⟩
theorem fl_X11_217 : xFld RX11 217 11 83 true (.array .boolean) := ⟨RX11, TX11, 84, tyX11, xc11, by decide, gdT 1213 (by decide +kernel) rfl, rfl, rfl, fun _ => Or.inr trivial⟩
theorem fl_X11_220 : xFld RX11 220 11 0 false .int := ⟨RX11, TX11, 84, tyX11, xc11, by decide, gdT 1130 (by decide +kernel) rfl, rfl, rfl, fun _ => Or.inr trivial⟩
theorem fl_X11_257 : xFld RX11 257 11 56 false .int := ⟨RX11, TX11, 84, tyX11, xc11, by decide, gdT 1186 (by decide +kernel) rfl, rfl, rfl, fun _ => Or.inr trivial⟩
theorem fl_X11_338 : xFld RX11 338 11 59 false .int := ⟨RX11, TX11, 84, tyX11, xc11, by decide, gdT 1189 (by decide +kernel) rfl, rfl, rfl, fun _ => Or.inr trivial⟩
theorem fl_X11_341 : xFld RX11 341 11 60 false .int := ⟨RX11, TX11, 84, tyX11, xc11, by decide, gdT 1190 (by decide +kernel) rfl, rfl, rfl, fun _ => Or.inr trivial⟩
theorem fl_X11_347 : xFld RX11 347 11 61 false .int := ⟨RX11, TX11, 84, tyX11, xc11, by decide, gdT 1191 (by decide +kernel) rfl, rfl, rfl, fun _ => Or.inr trivial⟩
theorem fl_X11_350 : xFld RX11 350 11 63 false .int := ⟨RX11, TX11, 84, tyX11, xc11, by decide, gdT 1193 (by decide +kernel) rfl, rfl, rfl, fun _ => Or.inr trivial⟩
theorem fl_X11_353 : xFld RX11 353 11 64 false .long := ⟨RX11, TX11, 84, tyX11, xc11, by decide, gdT 1194 (by decide +kernel) rfl, rfl, rfl, fun _ => Or.inr trivial⟩
theorem fl_X11_357 : xFld RX11 357 11 62 false .int := ⟨RX11, TX11, 84, tyX11, xc11, by decide, gdT 1192 (by decide +kernel) rfl, rfl, rfl, fun _ => Or.inr trivial⟩
theorem fl_X11_360 : xFld RX11 360 11 65 false .int := ⟨RX11, TX11, 84, tyX11, xc11, by decide, gdT 1195 (by decide +kernel) rfl, rfl, rfl, fun _ => Or.inr trivial⟩
theorem fl_X11_363 : xFld RX11 363 11 66 false .int := ⟨RX11, TX11, 84, tyX11, xc11, by decide, gdT 1196 (by decide +kernel) rfl, rfl, rfl, fun _ => Or.inr trivial⟩
theorem fl_X11_366 : xFld RX11 366 11 67 false .int := ⟨RX11, TX11, 84, tyX11, xc11, by decide, gdT 1197 (by decide +kernel) rfl, rfl, rfl, fun _ => Or.inr trivial⟩
theorem fl_X11_408 : xFld RX11 408 11 68 false .int := ⟨RX11, TX11, 84, tyX11, xc11, by decide, gdT 1198 (by decide +kernel) rfl, rfl, rfl, fun _ => Or.inr trivial⟩
theorem fl_X11_439 : xFld RX11 439 11 79 false .int := ⟨RX11, TX11, 84, tyX11, xc11, by decide, gdT 1209 (by decide +kernel) rfl, rfl, rfl, fun _ => Or.inr trivial⟩
theorem fl_X11_442 : xFld RX11 442 11 80 false .int := ⟨RX11, TX11, 84, tyX11, xc11, by decide, gdT 1210 (by decide +kernel) rfl, rfl, rfl, fun _ => Or.inr trivial⟩
theorem fl_X11_445 : xFld RX11 445 11 81 false .int := ⟨RX11, TX11, 84, tyX11, xc11, by decide, gdT 1211 (by decide +kernel) rfl, rfl, rfl, fun _ => Or.inr trivial⟩
theorem fl_X2_9 : xFld RX2 9 2 0 false .int := ⟨RX2, TX2, 9, tyX2, xc2, by decide, gdT 40 (by decide +kernel) rfl, rfl, rfl, fun _ => Or.inr trivial⟩
theorem fl_X2_15 : xFld RX2 15 2 1 false .int := ⟨RX2, TX2, 9, tyX2, xc2, by decide, gdT 43 (by decide +kernel) rfl, rfl, rfl, fun _ => Or.inr trivial⟩
theorem fl_X2_18 : xFld RX2 18 2 2 true (.array .int) := ⟨RX2, TX2, 9, tyX2, xc2, by decide, gdT 45 (by decide +kernel) rfl, rfl, rfl, fun _ => Or.inr trivial⟩
theorem fl_X2_22 : xFld RX2 22 2 3 false .int := ⟨RX2, TX2, 9, tyX2, xc2, by decide, gdT 48 (by decide +kernel) rfl, rfl, rfl, fun _ => Or.inr trivial⟩
theorem fl_X2_25 : xFld RX2 25 2 4 true (.array .int) := ⟨RX2, TX2, 9, tyX2, xc2, by decide, gdT 49 (by decide +kernel) rfl, rfl, rfl, fun _ => Or.inr trivial⟩
theorem fl_X2_28 : xFld RX2 28 2 5 true (.array .int) := ⟨RX2, TX2, 9, tyX2, xc2, by decide, gdT 50 (by decide +kernel) rfl, rfl, rfl, fun _ => Or.inr trivial⟩
theorem fl_X2_31 : xFld RX2 31 2 6 true (.array .int) := ⟨RX2, TX2, 9, tyX2, xc2, by decide, gdT 51 (by decide +kernel) rfl, rfl, rfl, fun _ => Or.inr trivial⟩
theorem fl_X2_34 : xFld RX2 34 2 7 true (.array .int) := ⟨RX2, TX2, 9, tyX2, xc2, by decide, gdT 52 (by decide +kernel) rfl, rfl, rfl, fun _ => Or.inr trivial⟩
theorem fl_X2_37 : xFld RX2 37 2 8 true (.array .int) := ⟨RX2, TX2, 9, tyX2, xc2, by decide, gdT 53 (by decide +kernel) rfl, rfl, rfl, fun _ => Or.inr trivial⟩
theorem fl_X3_12 : xFld RX3 12 3 0 true (.object "HerdBooks$Rules") := ⟨RX3, TX3, 9, tyX3, xc3, by decide, gdT 366 (by decide +kernel) rfl, rfl, rfl, fun _ => Or.inr trivial⟩
theorem fl_X3_18 : xFld RX3 18 3 1 false .int := ⟨RX3, TX3, 9, tyX3, xc3, by decide, gdT 368 (by decide +kernel) rfl, rfl, rfl, fun _ => Or.inr trivial⟩
theorem fl_X3_22 : xFld RX3 22 3 2 false .int := ⟨RX3, TX3, 9, tyX3, xc3, by decide, gdT 370 (by decide +kernel) rfl, rfl, rfl, fun _ => Or.inr trivial⟩
theorem fl_X3_25 : xFld RX3 25 3 3 true (.array .int) := ⟨RX3, TX3, 9, tyX3, xc3, by decide, gdT 372 (by decide +kernel) rfl, rfl, rfl, fun _ => Or.inr trivial⟩
theorem fl_X3_29 : xFld RX3 29 3 4 false .int := ⟨RX3, TX3, 9, tyX3, xc3, by decide, gdT 373 (by decide +kernel) rfl, rfl, rfl, fun _ => Or.inr trivial⟩
theorem fl_X3_32 : xFld RX3 32 3 5 false .int := ⟨RX3, TX3, 9, tyX3, xc3, by decide, gdT 374 (by decide +kernel) rfl, rfl, rfl, fun _ => Or.inr trivial⟩
theorem fl_X3_35 : xFld RX3 35 3 6 false .int := ⟨RX3, TX3, 9, tyX3, xc3, by decide, gdT 375 (by decide +kernel) rfl, rfl, rfl, fun _ => Or.inr trivial⟩
theorem fl_X3_38 : xFld RX3 38 3 7 false .int := ⟨RX3, TX3, 9, tyX3, xc3, by decide, gdT 376 (by decide +kernel) rfl, rfl, rfl, fun _ => Or.inr trivial⟩
theorem fl_X3_41 : xFld RX3 41 3 8 false .int := ⟨RX3, TX3, 9, tyX3, xc3, by decide, gdT 377 (by decide +kernel) rfl, rfl, rfl, fun _ => Or.inr trivial⟩
theorem fl_X3_63 : xFld RX3 63 5 0 false .int := ⟨RX5, TX5, 8, tyX5, xc5, by decide, gdT 200 (by decide +kernel) rfl, rfl, rfl, fun _ => Or.inr trivial⟩
theorem fl_X4_9 : xFld RX4 9 4 0 false .int := ⟨RX4, TX4, 3, tyX4, xc4, by decide, gdT 232 (by decide +kernel) rfl, rfl, rfl, fun _ => Or.inr trivial⟩
theorem fl_X4_15 : xFld RX4 15 4 1 true (.array .int) := ⟨RX4, TX4, 3, tyX4, xc4, by decide, gdT 234 (by decide +kernel) rfl, rfl, rfl, fun _ => Or.inr trivial⟩
theorem fl_X4_19 : xFld RX4 19 4 2 true (.array .int) := ⟨RX4, TX4, 3, tyX4, xc4, by decide, gdT 236 (by decide +kernel) rfl, rfl, rfl, fun _ => Or.inr trivial⟩
theorem fl_X4_26 : xFld RX4 26 6 0 false .int := ⟨RX6, TX6, 14, tyX6, xc6, by decide, gdT 134 (by decide +kernel) rfl, rfl, rfl, fun _ => Or.inr trivial⟩
theorem fl_X4_34 : xFld RX4 34 6 3 true (.array .int) := ⟨RX6, TX6, 14, tyX6, xc6, by decide, gdT 143 (by decide +kernel) rfl, rfl, rfl, fun _ => Or.inr trivial⟩
theorem fl_X4_37 : xFld RX4 37 6 1 true (.array .int) := ⟨RX6, TX6, 14, tyX6, xc6, by decide, gdT 138 (by decide +kernel) rfl, rfl, rfl, fun _ => Or.inr trivial⟩
theorem fl_X5_9 : xFld RX5 9 5 0 false .int := ⟨RX5, TX5, 8, tyX5, xc5, by decide, gdT 199 (by decide +kernel) rfl, rfl, rfl, fun _ => Or.inr trivial⟩
theorem fl_X5_15 : xFld RX5 15 5 1 true (.array .int) := ⟨RX5, TX5, 8, tyX5, xc5, by decide, gdT 202 (by decide +kernel) rfl, rfl, rfl, fun _ => Or.inr trivial⟩
theorem fl_X5_19 : xFld RX5 19 5 2 true (.array .int) := ⟨RX5, TX5, 8, tyX5, xc5, by decide, gdT 203 (by decide +kernel) rfl, rfl, rfl, fun _ => Or.inr trivial⟩
theorem fl_X5_22 : xFld RX5 22 5 3 true (.array .int) := ⟨RX5, TX5, 8, tyX5, xc5, by decide, gdT 204 (by decide +kernel) rfl, rfl, rfl, fun _ => Or.inr trivial⟩
theorem fl_X5_25 : xFld RX5 25 5 4 true (.array .int) := ⟨RX5, TX5, 8, tyX5, xc5, by decide, gdT 205 (by decide +kernel) rfl, rfl, rfl, fun _ => Or.inr trivial⟩
theorem fl_X5_28 : xFld RX5 28 5 5 true (.array .int) := ⟨RX5, TX5, 8, tyX5, xc5, by decide, gdT 206 (by decide +kernel) rfl, rfl, rfl, fun _ => Or.inr trivial⟩
theorem fl_X5_31 : xFld RX5 31 5 6 true (.array .int) := ⟨RX5, TX5, 8, tyX5, xc5, by decide, gdT 207 (by decide +kernel) rfl, rfl, rfl, fun _ => Or.inr trivial⟩
theorem fl_X5_34 : xFld RX5 34 5 7 true (.array .int) := ⟨RX5, TX5, 8, tyX5, xc5, by decide, gdT 208 (by decide +kernel) rfl, rfl, rfl, fun _ => Or.inr trivial⟩
theorem fl_X6_9 : xFld RX6 9 6 0 false .int := ⟨RX6, TX6, 14, tyX6, xc6, by decide, gdT 133 (by decide +kernel) rfl, rfl, rfl, fun _ => Or.inr trivial⟩
theorem fl_X6_15 : xFld RX6 15 6 1 true (.array .int) := ⟨RX6, TX6, 14, tyX6, xc6, by decide, gdT 136 (by decide +kernel) rfl, rfl, rfl, fun _ => Or.inr trivial⟩
theorem fl_X6_19 : xFld RX6 19 6 2 true (.array .int) := ⟨RX6, TX6, 14, tyX6, xc6, by decide, gdT 140 (by decide +kernel) rfl, rfl, rfl, fun _ => Or.inr trivial⟩
theorem fl_X6_22 : xFld RX6 22 6 3 true (.array .int) := ⟨RX6, TX6, 14, tyX6, xc6, by decide, gdT 142 (by decide +kernel) rfl, rfl, rfl, fun _ => Or.inr trivial⟩
theorem fl_X6_25 : xFld RX6 25 6 4 true (.array .int) := ⟨RX6, TX6, 14, tyX6, xc6, by decide, gdT 145 (by decide +kernel) rfl, rfl, rfl, fun _ => Or.inr trivial⟩
theorem fl_X6_28 : xFld RX6 28 6 5 true (.array .int) := ⟨RX6, TX6, 14, tyX6, xc6, by decide, gdT 146 (by decide +kernel) rfl, rfl, rfl, fun _ => Or.inr trivial⟩
theorem fl_X6_31 : xFld RX6 31 6 6 false .int := ⟨RX6, TX6, 14, tyX6, xc6, by decide, gdT 148 (by decide +kernel) rfl, rfl, rfl, fun _ => Or.inr trivial⟩
theorem fl_X6_34 : xFld RX6 34 6 7 true (.array .int) := ⟨RX6, TX6, 14, tyX6, xc6, by decide, gdT 150 (by decide +kernel) rfl, rfl, rfl, fun _ => Or.inr trivial⟩
theorem fl_X6_37 : xFld RX6 37 6 8 true (.array .int) := ⟨RX6, TX6, 14, tyX6, xc6, by decide, gdT 152 (by decide +kernel) rfl, rfl, rfl, fun _ => Or.inr trivial⟩
theorem fl_X6_40 : xFld RX6 40 6 9 true (.array .int) := ⟨RX6, TX6, 14, tyX6, xc6, by decide, gdT 154 (by decide +kernel) rfl, rfl, rfl, fun _ => Or.inr trivial⟩
theorem fl_X6_43 : xFld RX6 43 6 10 true (.array .int) := ⟨RX6, TX6, 14, tyX6, xc6, by decide, gdT 156 (by decide +kernel) rfl, rfl, rfl, fun _ => Or.inr trivial⟩
theorem fl_X6_46 : xFld RX6 46 6 11 true (.array .int) := ⟨RX6, TX6, 14, tyX6, xc6, by decide, gdT 158 (by decide +kernel) rfl, rfl, rfl, fun _ => Or.inr trivial⟩
theorem fl_X6_49 : xFld RX6 49 6 12 true (.array .int) := ⟨RX6, TX6, 14, tyX6, xc6, by decide, gdT 160 (by decide +kernel) rfl, rfl, rfl, fun _ => Or.inr trivial⟩
theorem fl_X6_52 : xFld RX6 52 6 13 true (.array .int) := ⟨RX6, TX6, 14, tyX6, xc6, by decide, gdT 162 (by decide +kernel) rfl, rfl, rfl, fun _ => Or.inr trivial⟩
theorem fl_X7_12 : xFld RX7 12 7 0 true (.object "HerdBooks$Land") := ⟨RX7, TX7, 11, tyX7, xc7, by decide, gdT 245 (by decide +kernel) rfl, rfl, rfl, fun _ => Or.inr trivial⟩
theorem fl_X7_21 : xFld RX7 21 7 1 true (.object "HerdBooks$Herds") := ⟨RX7, TX7, 11, tyX7, xc7, by decide, gdT 248 (by decide +kernel) rfl, rfl, rfl, fun _ => Or.inr trivial⟩
theorem fl_X7_28 : xFld RX7 28 7 2 true (.object "HerdBooks$Shelf") := ⟨RX7, TX7, 11, tyX7, xc7, by decide, gdT 252 (by decide +kernel) rfl, rfl, rfl, fun _ => Or.inr trivial⟩
theorem fl_X7_35 : xFld RX7 35 7 3 true (.object "HerdBooks$Rules") := ⟨RX7, TX7, 11, tyX7, xc7, by decide, gdT 255 (by decide +kernel) rfl, rfl, rfl, fun _ => Or.inr trivial⟩
theorem fl_X7_42 : xFld RX7 42 7 4 true (.object "HerdBooks$Readers") := ⟨RX7, TX7, 11, tyX7, xc7, by decide, gdT 257 (by decide +kernel) rfl, rfl, rfl, fun _ => Or.inr trivial⟩
theorem fl_X7_46 : xFld RX7 46 7 5 true (.array .int) := ⟨RX7, TX7, 11, tyX7, xc7, by decide, gdT 259 (by decide +kernel) rfl, rfl, rfl, fun _ => Or.inr trivial⟩
theorem fl_X7_50 : xFld RX7 50 7 6 false .int := ⟨RX7, TX7, 11, tyX7, xc7, by decide, gdT 261 (by decide +kernel) rfl, rfl, rfl, fun _ => Or.inr trivial⟩
theorem fl_X7_54 : xFld RX7 54 7 7 false .int := ⟨RX7, TX7, 11, tyX7, xc7, by decide, gdT 263 (by decide +kernel) rfl, rfl, rfl, fun _ => Or.inr trivial⟩
theorem fl_X7_57 : xFld RX7 57 7 8 false .int := ⟨RX7, TX7, 11, tyX7, xc7, by decide, gdT 265 (by decide +kernel) rfl, rfl, rfl, fun _ => Or.inr trivial⟩
theorem fl_X7_60 : xFld RX7 60 7 9 false .int := ⟨RX7, TX7, 11, tyX7, xc7, by decide, gdT 267 (by decide +kernel) rfl, rfl, rfl, fun _ => Or.inr trivial⟩
theorem fl_X7_63 : xFld RX7 63 7 10 false .int := ⟨RX7, TX7, 11, tyX7, xc7, by decide, gdT 270 (by decide +kernel) rfl, rfl, rfl, fun _ => Or.inr trivial⟩
theorem fl_X8_9 : xFld RX8 9 8 0 false .int := ⟨RX8, TX8, 7, tyX8, xc8, by decide, gdT 333 (by decide +kernel) rfl, rfl, rfl, fun _ => Or.inr trivial⟩
theorem fl_X8_15 : xFld RX8 15 8 1 false .int := ⟨RX8, TX8, 7, tyX8, xc8, by decide, gdT 335 (by decide +kernel) rfl, rfl, rfl, fun _ => Or.inr trivial⟩
theorem fl_X8_18 : xFld RX8 18 8 2 false .int := ⟨RX8, TX8, 7, tyX8, xc8, by decide, gdT 337 (by decide +kernel) rfl, rfl, rfl, fun _ => Or.inr trivial⟩
theorem fl_X8_21 : xFld RX8 21 8 3 true (.array .int) := ⟨RX8, TX8, 7, tyX8, xc8, by decide, gdT 339 (by decide +kernel) rfl, rfl, rfl, fun _ => Or.inr trivial⟩
theorem fl_X8_25 : xFld RX8 25 8 4 true (.array .int) := ⟨RX8, TX8, 7, tyX8, xc8, by decide, gdT 340 (by decide +kernel) rfl, rfl, rfl, fun _ => Or.inr trivial⟩
theorem fl_X8_28 : xFld RX8 28 8 5 true (.array .int) := ⟨RX8, TX8, 7, tyX8, xc8, by decide, gdT 341 (by decide +kernel) rfl, rfl, rfl, fun _ => Or.inr trivial⟩
theorem fl_X8_31 : xFld RX8 31 8 6 false .boolean := ⟨RX8, TX8, 7, tyX8, xc8, by decide, gdT 342 (by decide +kernel) rfl, rfl, rfl, fun _ => Or.inr trivial⟩
theorem fl_X8_61 : xFld RX8 61 2 2 true (.array .int) := ⟨RX2, TX2, 9, tyX2, xc2, by decide, gdT 46 (by decide +kernel) rfl, rfl, rfl, fun _ => Or.inr trivial⟩
theorem fl_X8_72 : xFld RX8 72 2 1 false .int := ⟨RX2, TX2, 9, tyX2, xc2, by decide, gdT 44 (by decide +kernel) rfl, rfl, rfl, fun _ => Or.inr trivial⟩
theorem fl_X9_9 : xFld RX9 9 9 0 true (.array .int) := ⟨RX9, TX9, 7, tyX9, xc9, by decide, gdT 305 (by decide +kernel) rfl, rfl, rfl, fun _ => Or.inr trivial⟩
theorem fl_X9_15 : xFld RX9 15 9 1 true (.array .int) := ⟨RX9, TX9, 7, tyX9, xc9, by decide, gdT 306 (by decide +kernel) rfl, rfl, rfl, fun _ => Or.inr trivial⟩
theorem fl_X9_18 : xFld RX9 18 9 2 true (.array .int) := ⟨RX9, TX9, 7, tyX9, xc9, by decide, gdT 307 (by decide +kernel) rfl, rfl, rfl, fun _ => Or.inr trivial⟩
theorem fl_X9_21 : xFld RX9 21 9 3 true (.array .int) := ⟨RX9, TX9, 7, tyX9, xc9, by decide, gdT 308 (by decide +kernel) rfl, rfl, rfl, fun _ => Or.inr trivial⟩
theorem fl_X9_24 : xFld RX9 24 9 4 true (.array .int) := ⟨RX9, TX9, 7, tyX9, xc9, by decide, gdT 309 (by decide +kernel) rfl, rfl, rfl, fun _ => Or.inr trivial⟩
theorem fl_X9_27 : xFld RX9 27 9 5 true (.array .int) := ⟨RX9, TX9, 7, tyX9, xc9, by decide, gdT 310 (by decide +kernel) rfl, rfl, rfl, fun _ => Or.inr trivial⟩
theorem fl_X9_30 : xFld RX9 30 9 6 false .int := ⟨RX9, TX9, 7, tyX9, xc9, by decide, gdT 311 (by decide +kernel) rfl, rfl, rfl, fun _ => Or.inr trivial⟩
theorem fl_X9_51 : xFld RX9 51 7 1 true (.object "HerdBooks$Herds") := ⟨RX7, TX7, 11, tyX7, xc7, by decide, gdT 251 (by decide +kernel) rfl, rfl, rfl, fun _ => Or.inr trivial⟩
theorem fl_X9_57 : xFld RX9 57 7 9 false .int := ⟨RX7, TX7, 11, tyX7, xc7, by decide, gdT 269 (by decide +kernel) rfl, rfl, rfl, fun _ => Or.inr trivial⟩
theorem fl_X9_60 : xFld RX9 60 1 3 true (.array .int) := ⟨RX1, TX1, 11, tyX1, xc1, by decide, gdT 88 (by decide +kernel) rfl, rfl, rfl, fun _ => Or.inr trivial⟩
theorem fl_X9_65 : xFld RX9 65 1 5 false .int := ⟨RX1, TX1, 11, tyX1, xc1, by decide, gdT 94 (by decide +kernel) rfl, rfl, rfl, fun _ => Or.inr trivial⟩
theorem fl_X9_81 : xFld RX9 81 1 2 true (.array .int) := ⟨RX1, TX1, 11, tyX1, xc1, by decide, gdT 86 (by decide +kernel) rfl, rfl, rfl, fun _ => Or.inr trivial⟩
theorem fl_X9_85 : xFld RX9 85 7 0 true (.object "HerdBooks$Land") := ⟨RX7, TX7, 11, tyX7, xc7, by decide, gdT 247 (by decide +kernel) rfl, rfl, rfl, fun _ => Or.inr trivial⟩
theorem fl_X9_103 : xFld RX9 103 2 0 false .int := ⟨RX2, TX2, 9, tyX2, xc2, by decide, gdT 41 (by decide +kernel) rfl, rfl, rfl, fun _ => Or.inr trivial⟩
theorem fl_X9_114 : xFld RX9 114 2 2 true (.array .int) := ⟨RX2, TX2, 9, tyX2, xc2, by decide, gdT 47 (by decide +kernel) rfl, rfl, rfl, fun _ => Or.inr trivial⟩
theorem fl_X9_117 : xFld RX9 117 1 7 true (.array .int) := ⟨RX1, TX1, 11, tyX1, xc1, by decide, gdT 98 (by decide +kernel) rfl, rfl, rfl, fun _ => Or.inr trivial⟩
theorem fl_X9_120 : xFld RX9 120 1 9 true (.array .int) := ⟨RX1, TX1, 11, tyX1, xc1, by decide, gdT 101 (by decide +kernel) rfl, rfl, rfl, fun _ => Or.inr trivial⟩
theorem ml_J0_335 : Cond.methodLink RJ0 335 yJ0_coder_7d493 ∈ lw_gd := gdT 809 (by decide +kernel) rfl
theorem ml_J0_492 : Cond.methodLink RJ0 492 yJ0_isLatin1_aae02 ∈ lw_gd := gdT 819 (by decide +kernel) rfl
theorem ml_J0_495 : Cond.methodLink RJ0 495 yJ1_charAt_3b067 ∈ lw_gd := gdT 823 (by decide +kernel) rfl
theorem ml_J0_498 : Cond.methodLink RJ0 498 yJ2_charAt_3b067 ∈ lw_gd := gdT 834 (by decide +kernel) rfl
theorem ml_J0_1059 : Cond.methodLink RJ0 1059 yJ3_checkIndex_8e157 ∈ lw_gd := gdT 831 (by decide +kernel) rfl
theorem ml_J1_9 : Cond.methodLink RJ1 9 yJ0_checkIndex_df160 ∈ lw_gd := gdT 826 (by decide +kernel) rfl
theorem ml_J2_48 : Cond.methodLink RJ2 48 yJ2_length_9d52b ∈ lw_gd := gdT 840 (by decide +kernel) rfl
theorem ml_J2_67 : Cond.methodLink RJ2 67 yJ2_checkIndex_2214a ∈ lw_gd := gdT 837 (by decide +kernel) rfl
theorem ml_J2_71 : Cond.methodLink RJ2 71 yJ2_getChar_3b067 ∈ lw_gd := gdT 844 (by decide +kernel) rfl
theorem ml_J2_414 : Cond.methodLink RJ2 414 yJ0_checkIndex_df160 ∈ lw_gd := gdT 843 (by decide +kernel) rfl
theorem ml_X0_3 : Cond.methodLink RX0 3 Lib.objectInit ∈ lw_gd := gdT 402 (by decide +kernel) rfl
theorem ml_X0_25 : Cond.methodLink RX0 25 yJ7_fill_53178 ∈ lw_gd := gdT 1002 (by decide +kernel) rfl
theorem ml_X0_54 : Cond.methodLink RX0 54 yX0_isBetter ∈ lw_gd := gdT 1015 (by decide +kernel) rfl
theorem ml_X1_3 : Cond.methodLink RX1 3 Lib.objectInit ∈ lw_gd := gdT 80 (by decide +kernel) rfl
theorem ml_X1_46 : Cond.methodLink RX1 46 yX7_copyRow ∈ lw_gd := gdT 1107 (by decide +kernel) rfl
theorem ml_X10_3 : Cond.methodLink RX10 3 Lib.objectInit ∈ lw_gd := gdT 25 (by decide +kernel) rfl
theorem ml_X10_22 : Cond.methodLink RX10 22 yX9_init ∈ lw_gd := gdT 298 (by decide +kernel) rfl
theorem ml_X10_64 : Cond.methodLink RX10 64 yX2_addCell ∈ lw_gd := gdT 451 (by decide +kernel) rfl
theorem ml_X10_70 : Cond.methodLink RX10 70 yX10_forgetWays ∈ lw_gd := gdT 455 (by decide +kernel) rfl
theorem ml_X10_73 : Cond.methodLink RX10 73 yX2_hasCell ∈ lw_gd := gdT 475 (by decide +kernel) rfl
theorem ml_X10_77 : Cond.methodLink RX10 77 yX10_isIn ∈ lw_gd := gdT 479 (by decide +kernel) rfl
theorem ml_X10_81 : Cond.methodLink RX10 81 yX2_setWay ∈ lw_gd := gdT 482 (by decide +kernel) rfl
theorem ml_X10_85 : Cond.methodLink RX10 85 yX10_forgetParts ∈ lw_gd := gdT 459 (by decide +kernel) rfl
theorem ml_X10_96 : Cond.methodLink RX10 96 yX1_addCamp ∈ lw_gd := gdT 490 (by decide +kernel) rfl
theorem ml_X10_102 : Cond.methodLink RX10 102 yX10_isWeek ∈ lw_gd := gdT 498 (by decide +kernel) rfl
theorem ml_X10_105 : Cond.methodLink RX10 105 yX2_addGrass ∈ lw_gd := gdT 501 (by decide +kernel) rfl
theorem ml_X10_112 : Cond.methodLink RX10 112 yX10_isPast ∈ lw_gd := gdT 517 (by decide +kernel) rfl
theorem ml_X10_118 : Cond.methodLink RX10 118 yX1_hasCamp ∈ lw_gd := gdT 525 (by decide +kernel) rfl
theorem ml_X10_124 : Cond.methodLink RX10 124 yX1_addNews ∈ lw_gd := gdT 529 (by decide +kernel) rfl
theorem ml_X10_128 : Cond.methodLink RX10 128 yX10_isThere ∈ lw_gd := gdT 537 (by decide +kernel) rfl
theorem ml_X10_132 : Cond.methodLink RX10 132 yX10_limit ∈ lw_gd := gdT 541 (by decide +kernel) rfl
theorem ml_X10_136 : Cond.methodLink RX10 136 yX10_whereBy ∈ lw_gd := gdT 545 (by decide +kernel) rfl
theorem ml_X10_140 : Cond.methodLink RX10 140 yX9_reach ∈ lw_gd := gdT 554 (by decide +kernel) rfl
theorem ml_X10_144 : Cond.methodLink RX10 144 yX9_partsAt ∈ lw_gd := gdT 602 (by decide +kernel) rfl
theorem ml_X10_147 : Cond.methodLink RX10 147 yX9_likeliestOf ∈ lw_gd := gdT 610 (by decide +kernel) rfl
theorem ml_X10_151 : Cond.methodLink RX10 151 yX9_quarrelOf ∈ lw_gd := gdT 619 (by decide +kernel) rfl
theorem ml_X10_158 : Cond.methodLink RX10 158 yX6_addBook ∈ lw_gd := gdT 627 (by decide +kernel) rfl
theorem ml_X10_164 : Cond.methodLink RX10 164 yX6_hasRoom ∈ lw_gd := gdT 635 (by decide +kernel) rfl
theorem ml_X10_168 : Cond.methodLink RX10 168 yX6_hasBook ∈ lw_gd := gdT 639 (by decide +kernel) rfl
theorem ml_X10_171 : Cond.methodLink RX10 171 yX6_holder ∈ lw_gd := gdT 643 (by decide +kernel) rfl
theorem ml_X10_174 : Cond.methodLink RX10 174 yX10_gatherCamp ∈ lw_gd := gdT 651 (by decide +kernel) rfl
theorem ml_X10_177 : Cond.methodLink RX10 177 yX10_gatherBook ∈ lw_gd := gdT 681 (by decide +kernel) rfl
theorem ml_X10_185 : Cond.methodLink RX10 185 yX5_firstThatHolds ∈ lw_gd := gdT 689 (by decide +kernel) rfl
theorem ml_X10_191 : Cond.methodLink RX10 191 yX5_numberBy ∈ lw_gd := gdT 701 (by decide +kernel) rfl
theorem ml_X10_195 : Cond.methodLink RX10 195 yX6_addAct ∈ lw_gd := gdT 706 (by decide +kernel) rfl
theorem ml_X10_199 : Cond.methodLink RX10 199 yX6_pagesLeft ∈ lw_gd := gdT 685 (by decide +kernel) rfl
theorem ml_X10_226 : Cond.methodLink RX10 226 yX6_holderInRow ∈ lw_gd := gdT 734 (by decide +kernel) rfl
theorem ml_X10_229 : Cond.methodLink RX10 229 yX6_dueWeek ∈ lw_gd := gdT 742 (by decide +kernel) rfl
theorem ml_X10_233 : Cond.methodLink RX10 233 yX6_heldBy ∈ lw_gd := gdT 660 (by decide +kernel) rfl
theorem ml_X10_236 : Cond.methodLink RX10 236 yX6_lateWith ∈ lw_gd := gdT 665 (by decide +kernel) rfl
theorem ml_X10_239 : Cond.methodLink RX10 239 yX6_tornBy ∈ lw_gd := gdT 673 (by decide +kernel) rfl
theorem ml_X10_242 : Cond.methodLink RX10 242 yX6_owedBy ∈ lw_gd := gdT 747 (by decide +kernel) rfl
theorem ml_X10_248 : Cond.methodLink RX10 248 yX7_addBytes ∈ lw_gd := gdT 755 (by decide +kernel) rfl
theorem ml_X10_254 : Cond.methodLink RX10 254 yX3_parse ∈ lw_gd := gdT 767 (by decide +kernel) rfl
theorem ml_X10_271 : Cond.methodLink RX10 271 yX5_copyFrom ∈ lw_gd := gdT 913 (by decide +kernel) rfl
theorem ml_X10_278 : Cond.methodLink RX10 278 yX10_walkRound ∈ lw_gd := gdT 931 (by decide +kernel) rfl
theorem ml_X10_290 : Cond.methodLink RX10 290 yX8_stopAt ∈ lw_gd := gdT 978 (by decide +kernel) rfl
theorem ml_X10_297 : Cond.methodLink RX10 297 yX10_offerBooks ∈ lw_gd := gdT 994 (by decide +kernel) rfl
theorem ml_X10_300 : Cond.methodLink RX10 300 yX0_choose ∈ lw_gd := gdT 1011 (by decide +kernel) rfl
theorem ml_X10_314 : Cond.methodLink RX10 314 yX4_addReader ∈ lw_gd := gdT 1023 (by decide +kernel) rfl
theorem ml_X10_319 : Cond.methodLink RX10 319 yX4_hasReader ∈ lw_gd := gdT 1031 (by decide +kernel) rfl
theorem ml_X10_322 : Cond.methodLink RX10 322 yX4_hasRead ∈ lw_gd := gdT 1035 (by decide +kernel) rfl
theorem ml_X10_331 : Cond.methodLink RX10 331 yX4_levelOf ∈ lw_gd := gdT 1043 (by decide +kernel) rfl
theorem ml_X10_335 : Cond.methodLink RX10 335 yX10_nextFor ∈ lw_gd := gdT 1052 (by decide +kernel) rfl
theorem ml_X10_338 : Cond.methodLink RX10 338 yX4_readersOf ∈ lw_gd := gdT 1063 (by decide +kernel) rfl
theorem ml_X10_341 : Cond.methodLink RX10 341 yX10_isFew ∈ lw_gd := gdT 1067 (by decide +kernel) rfl
theorem ml_X10_344 : Cond.methodLink RX10 344 yX10_hiddenBesides ∈ lw_gd := gdT 1070 (by decide +kernel) rfl
theorem ml_X10_350 : Cond.methodLink RX10 350 yX10_sumParts ∈ lw_gd := gdT 935 (by decide +kernel) rfl
theorem ml_X10_363 : Cond.methodLink RX10 363 yX6_heldByAll ∈ lw_gd := gdT 1082 (by decide +kernel) rfl
theorem ml_X10_370 : Cond.methodLink RX10 370 yX10_countUpTo ∈ lw_gd := gdT 1087 (by decide +kernel) rfl
theorem ml_X10_374 : Cond.methodLink RX10 374 yX7_copyFrom ∈ lw_gd := gdT 1094 (by decide +kernel) rfl
theorem ml_X10_377 : Cond.methodLink RX10 377 yX9_forget ∈ lw_gd := gdT 463 (by decide +kernel) rfl
theorem ml_X10_380 : Cond.methodLink RX10 380 yX8_forget ∈ lw_gd := gdT 467 (by decide +kernel) rfl
theorem ml_X10_381 : Cond.methodLink RX10 381 yX9_aim ∈ lw_gd := gdT 549 (by decide +kernel) rfl
theorem ml_X10_384 : Cond.methodLink RX10 384 yX2_hasWell ∈ lw_gd := gdT 655 (by decide +kernel) rfl
theorem ml_X10_397 : Cond.methodLink RX10 397 yJ7_fill_53178 ∈ lw_gd := gdT 939 (by decide +kernel) rfl
theorem ml_X10_402 : Cond.methodLink RX10 402 Lib.Math.max.name ∈ lw_gd := gdT 940 (by decide +kernel) rfl
theorem ml_X10_407 : Cond.methodLink RX10 407 yX8_choose ∈ lw_gd := gdT 941 (by decide +kernel) rfl
theorem ml_X10_410 : Cond.methodLink RX10 410 yX0_clear ∈ lw_gd := gdT 998 (by decide +kernel) rfl
theorem ml_X10_413 : Cond.methodLink RX10 413 yX6_everHad ∈ lw_gd := gdT 1003 (by decide +kernel) rfl
theorem ml_X10_416 : Cond.methodLink RX10 416 yX0_offer ∈ lw_gd := gdT 1007 (by decide +kernel) rfl
theorem ml_X10_420 : Cond.methodLink RX10 420 Lib.Math.abs.name ∈ lw_gd := gdT 1056 (by decide +kernel) rfl
theorem ml_X11_1 : Cond.methodLink RX11 1 Lib.objectInit ∈ lw_gd := gdT 1129 (by decide +kernel) rfl
theorem ml_X11_224 : Cond.methodLink RX11 224 yX11_move ∈ lw_gd := gdT 1749 (by decide +kernel) rfl
theorem ml_X11_228 : Cond.methodLink RX11 228 yX11_moveFlags ∈ lw_gd := gdT 1752 (by decide +kernel) rfl
theorem ml_X11_232 : Cond.methodLink RX11 232 yX11_in ∈ lw_gd := gdT 1397 (by decide +kernel) rfl
theorem ml_X11_236 : Cond.methodLink RX11 236 yX11_isCell ∈ lw_gd := gdT 1393 (by decide +kernel) rfl
theorem ml_X11_240 : Cond.methodLink RX11 240 yX11_isWeek ∈ lw_gd := gdT 1408 (by decide +kernel) rfl
theorem ml_X11_243 : Cond.methodLink RX11 243 yX11_isCamp ∈ lw_gd := gdT 1427 (by decide +kernel) rfl
theorem ml_X11_248 : Cond.methodLink RX11 248 yX11_grassOf ∈ lw_gd := gdT 1474 (by decide +kernel) rfl
theorem ml_X11_252 : Cond.methodLink RX11 252 yX11_share ∈ lw_gd := gdT 1462 (by decide +kernel) rfl
theorem ml_X11_262 : Cond.methodLink RX11 262 yX11_hear ∈ lw_gd := gdT 1456 (by decide +kernel) rfl
theorem ml_X11_265 : Cond.methodLink RX11 265 yX11_hearAll ∈ lw_gd := gdT 1452 (by decide +kernel) rfl
theorem ml_X11_269 : Cond.methodLink RX11 269 yX11_wander ∈ lw_gd := gdT 1470 (by decide +kernel) rfl
theorem ml_X11_273 : Cond.methodLink RX11 273 yX11_begin ∈ lw_gd := gdT 1447 (by decide +kernel) rfl
theorem ml_X11_276 : Cond.methodLink RX11 276 yX11_goOn ∈ lw_gd := gdT 1466 (by decide +kernel) rfl
theorem ml_X11_279 : Cond.methodLink RX11 279 yX11_isThere ∈ lw_gd := gdT 1435 (by decide +kernel) rfl
theorem ml_X11_283 : Cond.methodLink RX11 283 yX11_viewWeek ∈ lw_gd := gdT 1439 (by decide +kernel) rfl
theorem ml_X11_287 : Cond.methodLink RX11 287 yX11_findParts ∈ lw_gd := gdT 1443 (by decide +kernel) rfl
theorem ml_X11_290 : Cond.methodLink RX11 290 yX11_greatest ∈ lw_gd := gdT 1482 (by decide +kernel) rfl
theorem ml_X11_293 : Cond.methodLink RX11 293 yX11_lastAct ∈ lw_gd := gdT 1506 (by decide +kernel) rfl
theorem ml_X11_297 : Cond.methodLink RX11 297 yX11_whoHas ∈ lw_gd := gdT 1502 (by decide +kernel) rfl
theorem ml_X11_300 : Cond.methodLink RX11 300 yX11_dueOf ∈ lw_gd := gdT 1522 (by decide +kernel) rfl
theorem ml_X11_303 : Cond.methodLink RX11 303 yX11_isLate ∈ lw_gd := gdT 1518 (by decide +kernel) rfl
theorem ml_X11_306 : Cond.methodLink RX11 306 yX11_held ∈ lw_gd := gdT 1514 (by decide +kernel) rfl
theorem ml_X11_309 : Cond.methodLink RX11 309 yX11_torn ∈ lw_gd := gdT 1526 (by decide +kernel) rfl
theorem ml_X11_313 : Cond.methodLink RX11 313 yX11_lineOf ∈ lw_gd := gdT 1530 (by decide +kernel) rfl
theorem ml_X11_317 : Cond.methodLink RX11 317 yX11_isBook ∈ lw_gd := gdT 1498 (by decide +kernel) rfl
theorem ml_X11_320 : Cond.methodLink RX11 320 yX11_look ∈ lw_gd := gdT 1510 (by decide +kernel) rfl
theorem ml_X11_324 : Cond.methodLink RX11 324 yX11_numberOf ∈ lw_gd := gdT 1534 (by decide +kernel) rfl
theorem ml_X11_328 : Cond.methodLink RX11 328 yX11_tellAct ∈ lw_gd := gdT 1538 (by decide +kernel) rfl
theorem ml_X11_332 : Cond.methodLink RX11 332 yX11_gives ∈ lw_gd := gdT 1566 (by decide +kernel) rfl
theorem ml_X11_335 : Cond.methodLink RX11 335 yX11_four ∈ lw_gd := gdT 1582 (by decide +kernel) rfl
theorem ml_X11_344 : Cond.methodLink RX11 344 yX11_see ∈ lw_gd := gdT 1598 (by decide +kernel) rfl
theorem ml_X11_369 : Cond.methodLink RX11 369 yX11_wrong ∈ lw_gd := gdT 1634 (by decide +kernel) rfl
theorem ml_X11_373 : Cond.methodLink RX11 373 yX11_token ∈ lw_gd := gdT 1594 (by decide +kernel) rfl
theorem ml_X11_378 : Cond.methodLink RX11 378 yX11_isWord ∈ lw_gd := gdT 1611 (by decide +kernel) rfl
theorem ml_X11_400 : Cond.methodLink RX11 400 yX11_later ∈ lw_gd := gdT 1606 (by decide +kernel) rfl
theorem ml_X11_405 : Cond.methodLink RX11 405 yX11_whatIs ∈ lw_gd := gdT 1620 (by decide +kernel) rfl
theorem ml_X11_413 : Cond.methodLink RX11 413 yX11_oneTest ∈ lw_gd := gdT 1615 (by decide +kernel) rfl
theorem ml_X11_418 : Cond.methodLink RX11 418 yX11_need ∈ lw_gd := gdT 1639 (by decide +kernel) rfl
theorem ml_X11_427 : Cond.methodLink RX11 427 yX11_oneLine ∈ lw_gd := gdT 1602 (by decide +kernel) rfl
theorem ml_X11_430 : Cond.methodLink RX11 430 yX11_cheaper ∈ lw_gd := gdT 1670 (by decide +kernel) rfl
theorem ml_X11_433 : Cond.methodLink RX11 433 yX11_findFar ∈ lw_gd := gdT 1662 (by decide +kernel) rfl
theorem ml_X11_436 : Cond.methodLink RX11 436 yX11_findLeast ∈ lw_gd := gdT 1666 (by decide +kernel) rfl
theorem ml_X11_448 : Cond.methodLink RX11 448 yX11_daysOf ∈ lw_gd := gdT 1673 (by decide +kernel) rfl
theorem ml_X11_451 : Cond.methodLink RX11 451 yX11_findRound ∈ lw_gd := gdT 1658 (by decide +kernel) rfl
theorem ml_X11_454 : Cond.methodLink RX11 454 yX11_everHad ∈ lw_gd := gdT 1693 (by decide +kernel) rfl
theorem ml_X11_457 : Cond.methodLink RX11 457 yX11_findLightest ∈ lw_gd := gdT 1689 (by decide +kernel) rfl
theorem ml_X11_460 : Cond.methodLink RX11 460 yX11_isReader ∈ lw_gd := gdT 1705 (by decide +kernel) rfl
theorem ml_X11_463 : Cond.methodLink RX11 463 yX11_hasRead ∈ lw_gd := gdT 1709 (by decide +kernel) rfl
theorem ml_X11_466 : Cond.methodLink RX11 466 yX11_levelOf ∈ lw_gd := gdT 1717 (by decide +kernel) rfl
theorem ml_X11_469 : Cond.methodLink RX11 469 yX11_nextFor ∈ lw_gd := gdT 1721 (by decide +kernel) rfl
theorem ml_X11_472 : Cond.methodLink RX11 472 yX11_readersOf ∈ lw_gd := gdT 1729 (by decide +kernel) rfl
theorem ml_X11_475 : Cond.methodLink RX11 475 yX11_copy ∈ lw_gd := gdT 1745 (by decide +kernel) rfl
theorem ml_X2_3 : Cond.methodLink RX2 3 Lib.objectInit ∈ lw_gd := gdT 39 (by decide +kernel) rfl
theorem ml_X2_40 : Cond.methodLink RX2 40 yX2_hasCell ∈ lw_gd := gdT 659 (by decide +kernel) rfl
theorem ml_X2_44 : Cond.methodLink RX2 44 yJ7_fill_53178 ∈ lw_gd := gdT 577 (by decide +kernel) rfl
theorem ml_X2_50 : Cond.methodLink RX2 50 yX7_copyRow ∈ lw_gd := gdT 1102 (by decide +kernel) rfl
theorem ml_X3_3 : Cond.methodLink RX3 3 Lib.objectInit ∈ lw_gd := gdT 363 (by decide +kernel) rfl
theorem ml_X3_44 : Cond.methodLink RX3 44 yX7_copyRow ∈ lw_gd := gdT 771 (by decide +kernel) rfl
theorem ml_X3_50 : Cond.methodLink RX3 50 yX3_takeToken ∈ lw_gd := gdT 780 (by decide +kernel) rfl
theorem ml_X3_53 : Cond.methodLink RX3 53 yX3_parseLine ∈ lw_gd := gdT 792 (by decide +kernel) rfl
theorem ml_X3_57 : Cond.methodLink RX3 57 Lib.Math.min.name ∈ lw_gd := gdT 912 (by decide +kernel) rfl
theorem ml_X3_66 : Cond.methodLink RX3 66 yX3_note ∈ lw_gd := gdT 796 (by decide +kernel) rfl
theorem ml_X3_71 : Cond.methodLink RX3 71 yX3_isWord ∈ lw_gd := gdT 801 (by decide +kernel) rfl
theorem ml_X3_75 : Cond.methodLink RX3 75 yX3_parseTests ∈ lw_gd := gdT 853 (by decide +kernel) rfl
theorem ml_X3_79 : Cond.methodLink RX3 79 yX3_takeSign ∈ lw_gd := gdT 892 (by decide +kernel) rfl
theorem ml_X3_83 : Cond.methodLink RX3 83 yX5_keepTests ∈ lw_gd := gdT 896 (by decide +kernel) rfl
theorem ml_X3_87 : Cond.methodLink RX3 87 yX3_parseDeed ∈ lw_gd := gdT 901 (by decide +kernel) rfl
theorem ml_X3_91 : Cond.methodLink RX3 91 yX3_parseTest ∈ lw_gd := gdT 857 (by decide +kernel) rfl
theorem ml_X3_99 : Cond.methodLink RX3 99 yX3_subjectOfWord ∈ lw_gd := gdT 862 (by decide +kernel) rfl
theorem ml_X3_103 : Cond.methodLink RX3 103 yX3_breakHere ∈ lw_gd := gdT 879 (by decide +kernel) rfl
theorem ml_X3_107 : Cond.methodLink RX3 107 yX3_isSign ∈ lw_gd := gdT 883 (by decide +kernel) rfl
theorem ml_X3_110 : Cond.methodLink RX3 110 yX5_keepTest ∈ lw_gd := gdT 887 (by decide +kernel) rfl
theorem ml_X3_116 : Cond.methodLink RX3 116 yX5_keepLine ∈ lw_gd := gdT 906 (by decide +kernel) rfl
theorem ml_X3_124 : Cond.methodLink RX3 124 yJ0_length_8abf5 ∈ lw_gd := gdT 805 (by decide +kernel) rfl
theorem ml_X3_128 : Cond.methodLink RX3 128 yJ0_charAt_5068e ∈ lw_gd := gdT 815 (by decide +kernel) rfl
theorem ml_X3_132 : Cond.methodLink RX3 132 yX3_wordOf ∈ lw_gd := gdT 866 (by decide +kernel) rfl
theorem ml_X3_156 : Cond.methodLink RX3 156 yX3_passRow ∈ lw_gd := gdT 784 (by decide +kernel) rfl
theorem ml_X3_160 : Cond.methodLink RX3 160 yX3_readDigits ∈ lw_gd := gdT 788 (by decide +kernel) rfl
theorem ml_X4_3 : Cond.methodLink RX4 3 Lib.objectInit ∈ lw_gd := gdT 231 (by decide +kernel) rfl
theorem ml_X4_22 : Cond.methodLink RX4 22 yX4_booksFrom ∈ lw_gd := gdT 1047 (by decide +kernel) rfl
theorem ml_X4_30 : Cond.methodLink RX4 30 yX4_hasRead ∈ lw_gd := gdT 1051 (by decide +kernel) rfl
theorem ml_X4_40 : Cond.methodLink RX4 40 yX7_copyRow ∈ lw_gd := gdT 1118 (by decide +kernel) rfl
theorem ml_X5_3 : Cond.methodLink RX5 3 Lib.objectInit ∈ lw_gd := gdT 198 (by decide +kernel) rfl
theorem ml_X5_37 : Cond.methodLink RX5 37 yX5_holds ∈ lw_gd := gdT 693 (by decide +kernel) rfl
theorem ml_X5_41 : Cond.methodLink RX5 41 yX5_firstThatHolds ∈ lw_gd := gdT 705 (by decide +kernel) rfl
theorem ml_X5_45 : Cond.methodLink RX5 45 yX5_meetsTest ∈ lw_gd := gdT 697 (by decide +kernel) rfl
theorem ml_X5_49 : Cond.methodLink RX5 49 Lib.Math.min.name ∈ lw_gd := gdT 900 (by decide +kernel) rfl
theorem ml_X5_55 : Cond.methodLink RX5 55 yX7_copyRow ∈ lw_gd := gdT 917 (by decide +kernel) rfl
theorem ml_X6_3 : Cond.methodLink RX6 3 Lib.objectInit ∈ lw_gd := gdT 132 (by decide +kernel) rfl
theorem ml_X6_55 : Cond.methodLink RX6 55 yX6_lastAct ∈ lw_gd := gdT 647 (by decide +kernel) rfl
theorem ml_X6_59 : Cond.methodLink RX6 59 yX6_holder ∈ lw_gd := gdT 664 (by decide +kernel) rfl
theorem ml_X6_63 : Cond.methodLink RX6 63 yX6_heldBy ∈ lw_gd := gdT 1086 (by decide +kernel) rfl
theorem ml_X6_66 : Cond.methodLink RX6 66 yX6_dueWeek ∈ lw_gd := gdT 669 (by decide +kernel) rfl
theorem ml_X6_70 : Cond.methodLink RX6 70 yX6_isTorn ∈ lw_gd := gdT 677 (by decide +kernel) rfl
theorem ml_X6_74 : Cond.methodLink RX6 74 yX7_copyRow ∈ lw_gd := gdT 1112 (by decide +kernel) rfl
theorem ml_X7_3 : Cond.methodLink RX7 3 Lib.objectInit ∈ lw_gd := gdT 33 (by decide +kernel) rfl
theorem ml_X7_66 : Cond.methodLink RX7 66 yX2_copyFrom ∈ lw_gd := gdT 1098 (by decide +kernel) rfl
theorem ml_X7_70 : Cond.methodLink RX7 70 yX1_copyFrom ∈ lw_gd := gdT 1103 (by decide +kernel) rfl
theorem ml_X7_73 : Cond.methodLink RX7 73 yX6_copyFrom ∈ lw_gd := gdT 1108 (by decide +kernel) rfl
theorem ml_X7_76 : Cond.methodLink RX7 76 yX5_copyFrom ∈ lw_gd := gdT 1113 (by decide +kernel) rfl
theorem ml_X7_79 : Cond.methodLink RX7 79 yX4_copyFrom ∈ lw_gd := gdT 1114 (by decide +kernel) rfl
theorem ml_X7_82 : Cond.methodLink RX7 82 yX7_copyRow ∈ lw_gd := gdT 1119 (by decide +kernel) rfl
theorem ml_X7_86 : Cond.methodLink RX7 86 Lib.Math.min.name ∈ lw_gd := gdT 774 (by decide +kernel) rfl
theorem ml_X7_92 : Cond.methodLink RX7 92 arraycopyName ∈ lw_gd := gdT 777 (by decide +kernel) rfl
theorem ml_X8_3 : Cond.methodLink RX8 3 Lib.objectInit ∈ lw_gd := gdT 332 (by decide +kernel) rfl
theorem ml_X8_35 : Cond.methodLink RX8 35 yX8_findDays ∈ lw_gd := gdT 945 (by decide +kernel) rfl
theorem ml_X8_39 : Cond.methodLink RX8 39 yX8_findHome ∈ lw_gd := gdT 951 (by decide +kernel) rfl
theorem ml_X8_42 : Cond.methodLink RX8 42 yX8_addUp ∈ lw_gd := gdT 969 (by decide +kernel) rfl
theorem ml_X8_46 : Cond.methodLink RX8 46 yX8_leastStop ∈ lw_gd := gdT 982 (by decide +kernel) rfl
theorem ml_X8_50 : Cond.methodLink RX8 50 yX8_without ∈ lw_gd := gdT 966 (by decide +kernel) rfl
theorem ml_X8_53 : Cond.methodLink RX8 53 yX8_hasStop ∈ lw_gd := gdT 959 (by decide +kernel) rfl
theorem ml_X8_57 : Cond.methodLink RX8 57 yX8_lengthBy ∈ lw_gd := gdT 962 (by decide +kernel) rfl
theorem ml_X8_67 : Cond.methodLink RX8 67 Lib.Math.min.name ∈ lw_gd := gdT 950 (by decide +kernel) rfl
theorem ml_X8_75 : Cond.methodLink RX8 75 yX8_fewestHome ∈ lw_gd := gdT 955 (by decide +kernel) rfl
theorem ml_X8_78 : Cond.methodLink RX8 78 yX2_hasWell ∈ lw_gd := gdT 973 (by decide +kernel) rfl
theorem ml_X9_3 : Cond.methodLink RX9 3 Lib.objectInit ∈ lw_gd := gdT 301 (by decide +kernel) rfl
theorem ml_X9_34 : Cond.methodLink RX9 34 yJ7_fill_53178 ∈ lw_gd := gdT 302 (by decide +kernel) rfl
theorem ml_X9_40 : Cond.methodLink RX9 40 yX9_forget ∈ lw_gd := gdT 553 (by decide +kernel) rfl
theorem ml_X9_43 : Cond.methodLink RX9 43 yX9_rowOf ∈ lw_gd := gdT 561 (by decide +kernel) rfl
theorem ml_X9_47 : Cond.methodLink RX9 47 yX9_reach ∈ lw_gd := gdT 614 (by decide +kernel) rfl
theorem ml_X9_68 : Cond.methodLink RX9 68 yX1_isNewsOf ∈ lw_gd := gdT 590 (by decide +kernel) rfl
theorem ml_X9_72 : Cond.methodLink RX9 72 Lib.Math.max.name ∈ lw_gd := gdT 558 (by decide +kernel) rfl
theorem ml_X9_77 : Cond.methodLink RX9 77 yX9_clearRow ∈ lw_gd := gdT 564 (by decide +kernel) rfl
theorem ml_X9_89 : Cond.methodLink RX9 89 yX9_move ∈ lw_gd := gdT 569 (by decide +kernel) rfl
theorem ml_X9_93 : Cond.methodLink RX9 93 yX9_hear ∈ lw_gd := gdT 586 (by decide +kernel) rfl
theorem ml_X9_97 : Cond.methodLink RX9 97 yX2_grassOfWeek ∈ lw_gd := gdT 573 (by decide +kernel) rfl
theorem ml_X9_106 : Cond.methodLink RX9 106 yX9_weighGrass ∈ lw_gd := gdT 578 (by decide +kernel) rfl
theorem ml_X9_110 : Cond.methodLink RX9 110 yX9_share ∈ lw_gd := gdT 582 (by decide +kernel) rfl
theorem ml_X9_123 : Cond.methodLink RX9 123 yX9_gather ∈ lw_gd := gdT 594 (by decide +kernel) rfl
theorem ml_X9_127 : Cond.methodLink RX9 127 yX9_leave ∈ lw_gd := gdT 598 (by decide +kernel) rfl
theorem w_oi : Cond.instanceMethod Lib.objectInit ∈ lw_gd := gdT 26 (by decide +kernel) rfl
theorem w_oc : Cond.code Lib.objectInit ⟨#[0xb1]⟩ 1 none ∈ lw_gd := gdT 27 (by decide +kernel) rfl
theorem w_maxs : Cond.static Lib.Math.max.name ∈ lw_gd := gdT 559 (by decide +kernel) rfl
theorem w_maxc : Cond.code Lib.Math.max.name Lib.Math.max.code 2 (some .int) ∈ lw_gd := gdT 560 (by decide +kernel) rfl
theorem w_mins : Cond.static Lib.Math.min.name ∈ lw_gd := gdT 775 (by decide +kernel) rfl
theorem w_minc : Cond.code Lib.Math.min.name Lib.Math.min.code 2 (some .int) ∈ lw_gd := gdT 776 (by decide +kernel) rfl
theorem w_abss : Cond.static Lib.Math.abs.name ∈ lw_gd := gdT 1057 (by decide +kernel) rfl
theorem w_absc : Cond.code Lib.Math.abs.name Lib.Math.abs.code 1 (some .int) ∈ lw_gd := gdT 1058 (by decide +kernel) rfl
theorem w_mi : Cond.initialized "java/lang/Math" ∈ lw_gd := gdT 14 (by decide +kernel) rfl
theorem w_acs : Cond.static arraycopyName ∈ lw_gd := gdT 778 (by decide +kernel) rfl
theorem w_acn : Cond.native arraycopyName ∈ lw_gd := gdT 779 (by decide +kernel) rfl
theorem w_aci : Cond.initialized "java/lang/System" ∈ lw_gd := gdT 15 (by decide +kernel) rfl
theorem ko_X9_84 : Cond.constant RX9 84 1000000 ∈ lw_gd := gdT 568 (by decide +kernel) rfl
theorem ko_X8_66 : Cond.constant RX8 66 100000 ∈ lw_gd := gdT 949 (by decide +kernel) rfl
theorem ko_X11_256 : Cond.constant RX11 256 1000000 ∈ lw_gd := gdT 1451 (by decide +kernel) rfl
theorem kl_X11_260 : Cond.constantLong RX11 260 (1000000) ∈ lw_gd := gdT 1460 (by decide +kernel) rfl
theorem kl_X11_246 : Cond.constantLong RX11 246 (-1) ∈ lw_gd := gdT 1461 (by decide +kernel) rfl
theorem kl_X11_411 : Cond.constantLong RX11 411 (26982) ∈ lw_gd := gdT 1610 (by decide +kernel) rfl
theorem kl_X11_403 : Cond.constantLong RX11 403 (7237492) ∈ lw_gd := gdT 1619 (by decide +kernel) rfl
theorem kl_X11_376 : Cond.constantLong RX11 376 (1751477348) ∈ lw_gd := gdT 1624 (by decide +kernel) rfl
theorem kl_X11_382 : Cond.constantLong RX11 382 (1818326117) ∈ lw_gd := gdT 1625 (by decide +kernel) rfl
theorem kl_X11_384 : Cond.constantLong RX11 384 (1802071652) ∈ lw_gd := gdT 1626 (by decide +kernel) rfl
theorem kl_X11_386 : Cond.constantLong RX11 386 (465558725996) ∈ lw_gd := gdT 1627 (by decide +kernel) rfl
theorem kl_X11_388 : Cond.constantLong RX11 388 (1818584692) ∈ lw_gd := gdT 1628 (by decide +kernel) rfl
theorem kl_X11_390 : Cond.constantLong RX11 390 (1953460846) ∈ lw_gd := gdT 1629 (by decide +kernel) rfl
theorem kl_X11_392 : Cond.constantLong RX11 392 (2003133803) ∈ lw_gd := gdT 1630 (by decide +kernel) rfl
theorem kl_X11_394 : Cond.constantLong RX11 394 (128021942465893) ∈ lw_gd := gdT 1631 (by decide +kernel) rfl
theorem kl_X11_396 : Cond.constantLong RX11 396 (6582905) ∈ lw_gd := gdT 1632 (by decide +kernel) rfl
theorem kl_X11_398 : Cond.constantLong RX11 398 (2003135596) ∈ lw_gd := gdT 1633 (by decide +kernel) rfl
theorem kl_X11_416 : Cond.constantLong RX11 416 (6385252) ∈ lw_gd := gdT 1638 (by decide +kernel) rfl
theorem kl_X11_421 : Cond.constantLong RX11 421 (6447474) ∈ lw_gd := gdT 1643 (by decide +kernel) rfl
theorem kl_X11_423 : Cond.constantLong RX11 423 (512802253683) ∈ lw_gd := gdT 1644 (by decide +kernel) rfl
theorem kl_X11_425 : Cond.constantLong RX11 425 (1668248436) ∈ lw_gd := gdT 1645 (by decide +kernel) rfl
theorem cl_X10_9 : Cond.classLink RX10 9 RX7 ∈ lw_gd := gdT 28 (by decide +kernel) rfl
theorem cl_X7_9 : Cond.classLink RX7 9 RX2 ∈ lw_gd := gdT 34 (by decide +kernel) rfl
theorem cl_X7_18 : Cond.classLink RX7 18 RX1 ∈ lw_gd := gdT 75 (by decide +kernel) rfl
theorem cl_X7_25 : Cond.classLink RX7 25 RX6 ∈ lw_gd := gdT 127 (by decide +kernel) rfl
theorem cl_X7_32 : Cond.classLink RX7 32 RX5 ∈ lw_gd := gdT 193 (by decide +kernel) rfl
theorem cl_X7_39 : Cond.classLink RX7 39 RX4 ∈ lw_gd := gdT 226 (by decide +kernel) rfl
theorem cl_X10_20 : Cond.classLink RX10 20 RX9 ∈ lw_gd := gdT 296 (by decide +kernel) rfl
theorem cl_X10_32 : Cond.classLink RX10 32 RX8 ∈ lw_gd := gdT 327 (by decide +kernel) rfl
theorem cl_X10_39 : Cond.classLink RX10 39 RX3 ∈ lw_gd := gdT 358 (by decide +kernel) rfl
theorem cl_X3_9 : Cond.classLink RX3 9 RX5 ∈ lw_gd := gdT 364 (by decide +kernel) rfl
theorem cl_X10_46 : Cond.classLink RX10 46 RX0 ∈ lw_gd := gdT 397 (by decide +kernel) rfl
theorem wi_0 : Cond.instantiable RX0 4 ∈ lw_gd := gdT 398 (by decide +kernel) rfl
theorem wn_0 : Cond.initialized RX0 ∈ lw_gd := gdT 12 (by decide +kernel) rfl
theorem wi_1 : Cond.instantiable RX1 11 ∈ lw_gd := gdT 76 (by decide +kernel) rfl
theorem wn_1 : Cond.initialized RX1 ∈ lw_gd := gdT 4 (by decide +kernel) rfl
theorem wi_2 : Cond.instantiable RX2 9 ∈ lw_gd := gdT 35 (by decide +kernel) rfl
theorem wn_2 : Cond.initialized RX2 ∈ lw_gd := gdT 3 (by decide +kernel) rfl
theorem wi_3 : Cond.instantiable RX3 9 ∈ lw_gd := gdT 359 (by decide +kernel) rfl
theorem wn_3 : Cond.initialized RX3 ∈ lw_gd := gdT 11 (by decide +kernel) rfl
theorem wi_4 : Cond.instantiable RX4 3 ∈ lw_gd := gdT 227 (by decide +kernel) rfl
theorem wn_4 : Cond.initialized RX4 ∈ lw_gd := gdT 7 (by decide +kernel) rfl
theorem wi_5 : Cond.instantiable RX5 8 ∈ lw_gd := gdT 194 (by decide +kernel) rfl
theorem wn_5 : Cond.initialized RX5 ∈ lw_gd := gdT 6 (by decide +kernel) rfl
theorem wi_6 : Cond.instantiable RX6 14 ∈ lw_gd := gdT 128 (by decide +kernel) rfl
theorem wn_6 : Cond.initialized RX6 ∈ lw_gd := gdT 5 (by decide +kernel) rfl
theorem wi_7 : Cond.instantiable RX7 11 ∈ lw_gd := gdT 29 (by decide +kernel) rfl
theorem wn_7 : Cond.initialized RX7 ∈ lw_gd := gdT 2 (by decide +kernel) rfl
theorem wi_8 : Cond.instantiable RX8 7 ∈ lw_gd := gdT 328 (by decide +kernel) rfl
theorem wn_8 : Cond.initialized RX8 ∈ lw_gd := gdT 10 (by decide +kernel) rfl
theorem wi_9 : Cond.instantiable RX9 7 ∈ lw_gd := gdT 297 (by decide +kernel) rfl
theorem wn_9 : Cond.initialized RX9 ∈ lw_gd := gdT 8 (by decide +kernel) rfl
theorem wi_10 : Cond.instantiable RX10 9 ∈ lw_gd := gdT 21 (by decide +kernel) rfl
theorem wn_10 : Cond.initialized RX10 ∈ lw_gd := gdT 1 (by decide +kernel) rfl
theorem wi_11 : Cond.instantiable RX11 84 ∈ lw_gd := gdT 1125 (by decide +kernel) rfl
theorem wn_11 : Cond.initialized RX11 ∈ lw_gd := gdT 13 (by decide +kernel) rfl
