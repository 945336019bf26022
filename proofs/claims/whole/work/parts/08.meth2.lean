abbrev mX9_sortsOf : Md := (yX9_sortsOf, cX9_sortsOf, 5, some .int, { frames := 1, cells := 0, slots := 0, locals := 20 }, fun _ => True)
theorem tX9_sortsOf : ivOK mX9_sortsOf RX9 1 := ⟨⟨wsg_in 1163 (by decide +kernel) (by decide +kernel), wsg_in 81 (by decide +kernel) (by decide +kernel), by decide +kernel, by decide +kernel⟩, wsg_in 1162 (by decide +kernel) (by decide +kernel), wsg_in 60 (by decide +kernel) (by decide +kernel), by decide +kernel⟩
abbrev mX9_ones : Md := (yX9_ones, cX9_ones, 3, some .int, { frames := 0, cells := 0, slots := 0, locals := 0 }, fun _ => True)
theorem tX9_ones : isOK mX9_ones 1 := ⟨⟨wsg_in 1173 (by decide +kernel) (by decide +kernel), wsg_in 81 (by decide +kernel) (by decide +kernel), by decide +kernel, by decide +kernel⟩, wsg_in 1172 (by decide +kernel) (by decide +kernel), by decide +kernel⟩
abbrev mX9_askOf : Md := (yX9_askOf, cX9_askOf, 9, some .int, { frames := 2, cells := 0, slots := 0, locals := 44 }, fun _ => True)
theorem tX9_askOf : ivOK mX9_askOf RX9 1 := ⟨⟨wsg_in 1170 (by decide +kernel) (by decide +kernel), wsg_in 81 (by decide +kernel) (by decide +kernel), by decide +kernel, by decide +kernel⟩, wsg_in 1169 (by decide +kernel) (by decide +kernel), wsg_in 61 (by decide +kernel) (by decide +kernel), by decide +kernel⟩
abbrev mX9_draw : Md := (yX9_draw, cX9_draw, 2, some .int, { frames := 0, cells := 0, slots := 0, locals := 0 }, fun _ => True)
theorem tX9_draw : ivOK mX9_draw RX9 1 := ⟨⟨wsg_in 1232 (by decide +kernel) (by decide +kernel), wsg_in 81 (by decide +kernel) (by decide +kernel), by decide +kernel, by decide +kernel⟩, wsg_in 1231 (by decide +kernel) (by decide +kernel), wsg_in 64 (by decide +kernel) (by decide +kernel), by decide +kernel⟩
abbrev mX9_drawTest : Md := (yX9_drawTest, cX9_drawTest, 6, none, { frames := 1, cells := 0, slots := 0, locals := 22 }, fun _ => True)
theorem tX9_drawTest : ivOK mX9_drawTest RX9 0 := ⟨⟨wsg_in 1228 (by decide +kernel) (by decide +kernel), wsg_in 81 (by decide +kernel) (by decide +kernel), by decide +kernel, by decide +kernel⟩, wsg_in 1227 (by decide +kernel) (by decide +kernel), wsg_in 63 (by decide +kernel) (by decide +kernel), by decide +kernel⟩
abbrev mX9_drawn : Md := (yX9_drawn, cX9_drawn, 8, some .int, { frames := 2, cells := 0, slots := 0, locals := 47 }, fun _ => True)
theorem tX9_drawn : ivOK mX9_drawn RX9 3 := ⟨⟨wsg_in 1223 (by decide +kernel) (by decide +kernel), wsg_in 81 (by decide +kernel) (by decide +kernel), by decide +kernel, by decide +kernel⟩, wsg_in 1221 (by decide +kernel) (by decide +kernel), wsg_in 1222 (by decide +kernel) (by decide +kernel), by decide +kernel⟩
abbrev mX9_image : Md := (yX9_image, cX9_image, 1, some .int, { frames := 1, cells := 0, slots := 0, locals := 22 }, fun _ => True)
theorem tX9_image : ivOK mX9_image RX9 0 := ⟨⟨wsg_in 1240 (by decide +kernel) (by decide +kernel), wsg_in 81 (by decide +kernel) (by decide +kernel), by decide +kernel, by decide +kernel⟩, wsg_in 1238 (by decide +kernel) (by decide +kernel), wsg_in 1239 (by decide +kernel) (by decide +kernel), by decide +kernel⟩
abbrev mX9_restore : Md := (yX9_restore, cX9_restore, 1, some .int, { frames := 1, cells := 0, slots := 0, locals := 22 }, fun _ => True)
theorem tX9_restore : ivOK mX9_restore RX9 0 := ⟨⟨wsg_in 1244 (by decide +kernel) (by decide +kernel), wsg_in 81 (by decide +kernel) (by decide +kernel), by decide +kernel, by decide +kernel⟩, wsg_in 1242 (by decide +kernel) (by decide +kernel), wsg_in 1243 (by decide +kernel) (by decide +kernel), by decide +kernel⟩
abbrev mX9_stepsBy : Md := (yX9_stepsBy, cX9_stepsBy, 4, some .int, { frames := 2, cells := 0, slots := 0, locals := 44 }, fun _ => True)
theorem tX9_stepsBy : ivOK mX9_stepsBy RX9 1 := ⟨⟨wsg_in 1260 (by decide +kernel) (by decide +kernel), wsg_in 81 (by decide +kernel) (by decide +kernel), by decide +kernel, by decide +kernel⟩, wsg_in 1259 (by decide +kernel) (by decide +kernel), wsg_in 67 (by decide +kernel) (by decide +kernel), by decide +kernel⟩
abbrev mX9_countProgram : Md := (yX9_countProgram, cX9_countProgram, 2, some .int, { frames := 7, cells := 0, slots := 0, locals := 157 }, fun _ => True)
theorem tX9_countProgram : ivOK mX9_countProgram RX9 1 := ⟨⟨wsg_in 1256 (by decide +kernel) (by decide +kernel), wsg_in 81 (by decide +kernel) (by decide +kernel), by decide +kernel, by decide +kernel⟩, wsg_in 1255 (by decide +kernel) (by decide +kernel), wsg_in 66 (by decide +kernel) (by decide +kernel), by decide +kernel⟩
abbrev mX9_rackedAll : Md := (yX9_rackedAll, cX9_rackedAll, 3, some .int, { frames := 1, cells := 0, slots := 0, locals := 22 }, fun _ => True)
theorem tX9_rackedAll : ivOK mX9_rackedAll RX9 0 := ⟨⟨wsg_in 1264 (by decide +kernel) (by decide +kernel), wsg_in 81 (by decide +kernel) (by decide +kernel), by decide +kernel, by decide +kernel⟩, wsg_in 1263 (by decide +kernel) (by decide +kernel), wsg_in 68 (by decide +kernel) (by decide +kernel), by decide +kernel⟩
abbrev mX9_countOf : Md := (yX9_countOf, cX9_countOf, 2, some .int, { frames := 8, cells := 0, slots := 0, locals := 178 }, fun _ => True)
theorem tX9_countOf : ivOK mX9_countOf RX9 1 := ⟨⟨wsg_in 1252 (by decide +kernel) (by decide +kernel), wsg_in 81 (by decide +kernel) (by decide +kernel), by decide +kernel, by decide +kernel⟩, wsg_in 1251 (by decide +kernel) (by decide +kernel), wsg_in 65 (by decide +kernel) (by decide +kernel), by decide +kernel⟩
abbrev mX9_count : Md := (yX9_count, cX9_count, 2, some .int, { frames := 9, cells := 0, slots := 0, locals := 199 }, fun _ => True)
theorem tX9_count : ivOK mX9_count RX9 1 := ⟨⟨wsg_in 1248 (by decide +kernel) (by decide +kernel), wsg_in 81 (by decide +kernel) (by decide +kernel), by decide +kernel, by decide +kernel⟩, wsg_in 1246 (by decide +kernel) (by decide +kernel), wsg_in 1247 (by decide +kernel) (by decide +kernel), by decide +kernel⟩
abbrev mX9_say : Md := (yX9_say, cX9_say, 3, none, { frames := 0, cells := 0, slots := 0, locals := 0 }, fun _ => True)
theorem tX9_say : ivOK mX9_say RX9 1 := ⟨⟨wsg_in 1273 (by decide +kernel) (by decide +kernel), wsg_in 81 (by decide +kernel) (by decide +kernel), by decide +kernel, by decide +kernel⟩, wsg_in 1272 (by decide +kernel) (by decide +kernel), wsg_in 69 (by decide +kernel) (by decide +kernel), by decide +kernel⟩
abbrev mX9_sayPlaces : Md := (yX9_sayPlaces, cX9_sayPlaces, 2, none, { frames := 7, cells := 0, slots := 0, locals := 157 }, fun _ => True)
theorem tX9_sayPlaces : ivOK mX9_sayPlaces RX9 0 := ⟨⟨wsg_in 1278 (by decide +kernel) (by decide +kernel), wsg_in 81 (by decide +kernel) (by decide +kernel), by decide +kernel, by decide +kernel⟩, wsg_in 1277 (by decide +kernel) (by decide +kernel), wsg_in 70 (by decide +kernel) (by decide +kernel), by decide +kernel⟩
abbrev mX9_digest : Md := (yX9_digest, cX9_digest, 3, some .long, { frames := 9, cells := 0, slots := 0, locals := 199 }, fun _ => True)
theorem tX9_digest : ivOK mX9_digest RX9 0 := ⟨⟨wsg_in 1268 (by decide +kernel) (by decide +kernel), wsg_in 81 (by decide +kernel) (by decide +kernel), by decide +kernel, by decide +kernel⟩, wsg_in 1266 (by decide +kernel) (by decide +kernel), wsg_in 1267 (by decide +kernel) (by decide +kernel), by decide +kernel⟩
abbrev mJ11_isValidCodePoint_9a6ad : Md := (yJ11_isValidCodePoint_9a6ad, cJ11_isValidCodePoint_9a6ad, 2, some .boolean, { frames := 0, cells := 0, slots := 0, locals := 0 }, fun _ => True)
theorem tJ11_isValidCodePoint_9a6ad : isOK mJ11_isValidCodePoint_9a6ad 1 := ⟨⟨wsg_in 410 (by decide +kernel) (by decide +kernel), wsg_in 87 (by decide +kernel) (by decide +kernel), by decide +kernel, by decide +kernel⟩, wsg_in 409 (by decide +kernel) (by decide +kernel), by decide +kernel⟩
abbrev mJ11_highSurrogate_5068e : Md := (yJ11_highSurrogate_5068e, cJ11_highSurrogate_5068e, 1, some .char, { frames := 0, cells := 0, slots := 0, locals := 0 }, fun _ => True)
theorem tJ11_highSurrogate_5068e : isOK mJ11_highSurrogate_5068e 1 := ⟨⟨wsg_in 413 (by decide +kernel) (by decide +kernel), wsg_in 87 (by decide +kernel) (by decide +kernel), by decide +kernel, by decide +kernel⟩, wsg_in 412 (by decide +kernel) (by decide +kernel), by decide +kernel⟩
abbrev mJ11_lowSurrogate_5068e : Md := (yJ11_lowSurrogate_5068e, cJ11_lowSurrogate_5068e, 1, some .char, { frames := 0, cells := 0, slots := 0, locals := 0 }, fun _ => True)
theorem tJ11_lowSurrogate_5068e : isOK mJ11_lowSurrogate_5068e 1 := ⟨⟨wsg_in 417 (by decide +kernel) (by decide +kernel), wsg_in 87 (by decide +kernel) (by decide +kernel), by decide +kernel, by decide +kernel⟩, wsg_in 416 (by decide +kernel) (by decide +kernel), by decide +kernel⟩
abbrev mJ6_bitCount_0f7a4 : Md := (yJ6_bitCount_0f7a4, cJ6_bitCount_0f7a4, 1, some .int, { frames := 0, cells := 0, slots := 0, locals := 0 }, fun _ => True)
theorem tJ6_bitCount_0f7a4 : isOK mJ6_bitCount_0f7a4 1 := ⟨⟨wsg_in 620 (by decide +kernel) (by decide +kernel), wsg_in 90 (by decide +kernel) (by decide +kernel), by decide +kernel, by decide +kernel⟩, wsg_in 619 (by decide +kernel) (by decide +kernel), by decide +kernel⟩
abbrev mJ9_floorMod_7cf53 : Md := (yJ9_floorMod_7cf53, cJ9_floorMod_7cf53, 3, some .int, { frames := 0, cells := 0, slots := 0, locals := 0 }, fun _ => True)
theorem tJ9_floorMod_7cf53 : isOK mJ9_floorMod_7cf53 2 := ⟨⟨wsg_in 775 (by decide +kernel) (by decide +kernel), wsg_in 84 (by decide +kernel) (by decide +kernel), by decide +kernel, by decide +kernel⟩, wsg_in 774 (by decide +kernel) (by decide +kernel), by decide +kernel⟩
abbrev mJ9_max_7cf53 : Md := (yJ9_max_7cf53, cJ9_max_7cf53, 2, some .int, { frames := 0, cells := 0, slots := 0, locals := 0 }, fun _ => True)
theorem tJ9_max_7cf53 : isOK mJ9_max_7cf53 2 := ⟨⟨wsg_in 363 (by decide +kernel) (by decide +kernel), wsg_in 84 (by decide +kernel) (by decide +kernel), by decide +kernel, by decide +kernel⟩, wsg_in 362 (by decide +kernel) (by decide +kernel), by decide +kernel⟩
abbrev mJ9_min_7cf53 : Md := (yJ9_min_7cf53, cJ9_min_7cf53, 2, some .int, { frames := 0, cells := 0, slots := 0, locals := 0 }, fun _ => True)
theorem tJ9_min_7cf53 : isOK mJ9_min_7cf53 2 := ⟨⟨wsg_in 366 (by decide +kernel) (by decide +kernel), wsg_in 84 (by decide +kernel) (by decide +kernel), by decide +kernel, by decide +kernel⟩, wsg_in 365 (by decide +kernel) (by decide +kernel), by decide +kernel⟩
abbrev mJ0_length_8abf5 : Md := (yJ0_length_8abf5, cJ0_length_8abf5, 1, some .int, { frames := 1, cells := 0, slots := 0, locals := 20 }, fun _ => True)
theorem tJ0_length_8abf5 : ivOK mJ0_length_8abf5 RJ0 0 := ⟨⟨wsg_in 350 (by decide +kernel) (by decide +kernel), wsg_in 82 (by decide +kernel) (by decide +kernel), by decide +kernel, by decide +kernel⟩, wsg_in 348 (by decide +kernel) (by decide +kernel), wsg_in 349 (by decide +kernel) (by decide +kernel), by decide +kernel⟩
abbrev mJ0_charAt_5068e : Md := (yJ0_charAt_5068e, cJ0_charAt_5068e, 2, some .char, { frames := 4, cells := 0, slots := 0, locals := 85 }, fun _ => True)
theorem tJ0_charAt_5068e : ivOK mJ0_charAt_5068e RJ0 1 := ⟨⟨wsg_in 439 (by decide +kernel) (by decide +kernel), wsg_in 82 (by decide +kernel) (by decide +kernel), by decide +kernel, by decide +kernel⟩, wsg_in 437 (by decide +kernel) (by decide +kernel), wsg_in 438 (by decide +kernel) (by decide +kernel), by decide +kernel⟩
abbrev mJ0_indexOf_0f7a4 : Md := (yJ0_indexOf_0f7a4, cJ0_indexOf_0f7a4, 2, some .int, { frames := 6, cells := 0, slots := 0, locals := 138 }, fun _ => True)
theorem tJ0_indexOf_0f7a4 : ivOK mJ0_indexOf_0f7a4 RJ0 1 := ⟨⟨wsg_in 336 (by decide +kernel) (by decide +kernel), wsg_in 82 (by decide +kernel) (by decide +kernel), by decide +kernel, by decide +kernel⟩, wsg_in 334 (by decide +kernel) (by decide +kernel), wsg_in 335 (by decide +kernel) (by decide +kernel), by decide +kernel⟩
abbrev mJ0_indexOf_7cf53 : Md := (yJ0_indexOf_7cf53, cJ0_indexOf_7cf53, 3, some .int, { frames := 5, cells := 0, slots := 0, locals := 116 }, fun _ => True)
theorem tJ0_indexOf_7cf53 : ivOK mJ0_indexOf_7cf53 RJ0 2 := ⟨⟨wsg_in 340 (by decide +kernel) (by decide +kernel), wsg_in 82 (by decide +kernel) (by decide +kernel), by decide +kernel, by decide +kernel⟩, wsg_in 338 (by decide +kernel) (by decide +kernel), wsg_in 339 (by decide +kernel) (by decide +kernel), by decide +kernel⟩
abbrev mJ0_coder_7d493 : Md := (yJ0_coder_7d493, cJ0_coder_7d493, 1, some .byte, { frames := 0, cells := 0, slots := 0, locals := 0 }, fun _ => True)
theorem tJ0_coder_7d493 : ivOK mJ0_coder_7d493 RJ0 0 := ⟨⟨wsg_in 354 (by decide +kernel) (by decide +kernel), wsg_in 82 (by decide +kernel) (by decide +kernel), by decide +kernel, by decide +kernel⟩, wsg_in 352 (by decide +kernel) (by decide +kernel), wsg_in 353 (by decide +kernel) (by decide +kernel), by decide +kernel⟩
abbrev mJ0_isLatin1_aae02 : Md := (yJ0_isLatin1_aae02, cJ0_isLatin1_aae02, 1, some .boolean, { frames := 0, cells := 0, slots := 0, locals := 0 }, fun _ => True)
theorem tJ0_isLatin1_aae02 : ivOK mJ0_isLatin1_aae02 RJ0 0 := ⟨⟨wsg_in 344 (by decide +kernel) (by decide +kernel), wsg_in 82 (by decide +kernel) (by decide +kernel), by decide +kernel, by decide +kernel⟩, wsg_in 342 (by decide +kernel) (by decide +kernel), wsg_in 343 (by decide +kernel) (by decide +kernel), by decide +kernel⟩
abbrev mJ0_checkIndex_df160 : Md := (yJ0_checkIndex_df160, cJ0_checkIndex_df160, 2, none, { frames := 1, cells := 0, slots := 0, locals := 22 }, fun _ => True)
theorem tJ0_checkIndex_df160 : isOK mJ0_checkIndex_df160 2 := ⟨⟨wsg_in 445 (by decide +kernel) (by decide +kernel), wsg_in 82 (by decide +kernel) (by decide +kernel), by decide +kernel, by decide +kernel⟩, wsg_in 444 (by decide +kernel) (by decide +kernel), by decide +kernel⟩
abbrev mJ0_checkBoundsBeginEnd_23922 : Md := (yJ0_checkBoundsBeginEnd_23922, cJ0_checkBoundsBeginEnd_23922, 3, none, { frames := 1, cells := 0, slots := 0, locals := 23 }, fun _ => True)
theorem tJ0_checkBoundsBeginEnd_23922 : isOK mJ0_checkBoundsBeginEnd_23922 3 := ⟨⟨wsg_in 387 (by decide +kernel) (by decide +kernel), wsg_in 82 (by decide +kernel) (by decide +kernel), by decide +kernel, by decide +kernel⟩, wsg_in 386 (by decide +kernel) (by decide +kernel), by decide +kernel⟩
abbrev mJ1_charAt_3b067 : Md := (yJ1_charAt_3b067, cJ1_charAt_3b067, 2, some .char, { frames := 2, cells := 0, slots := 0, locals := 43 }, fun _ => True)
theorem tJ1_charAt_3b067 : isOK mJ1_charAt_3b067 2 := ⟨⟨wsg_in 442 (by decide +kernel) (by decide +kernel), wsg_in 83 (by decide +kernel) (by decide +kernel), by decide +kernel, by decide +kernel⟩, wsg_in 441 (by decide +kernel) (by decide +kernel), by decide +kernel⟩
abbrev mJ1_canEncode_9a6ad : Md := (yJ1_canEncode_9a6ad, cJ1_canEncode_9a6ad, 1, some .boolean, { frames := 0, cells := 0, slots := 0, locals := 0 }, fun _ => True)
theorem tJ1_canEncode_9a6ad : isOK mJ1_canEncode_9a6ad 1 := ⟨⟨wsg_in 360 (by decide +kernel) (by decide +kernel), wsg_in 83 (by decide +kernel) (by decide +kernel), by decide +kernel, by decide +kernel⟩, wsg_in 359 (by decide +kernel) (by decide +kernel), by decide +kernel⟩
abbrev mJ1_indexOf_4cfef : Md := (yJ1_indexOf_4cfef, cJ1_indexOf_4cfef, 4, some .int, { frames := 1, cells := 0, slots := 0, locals := 25 }, fun _ => True)
theorem tJ1_indexOf_4cfef : isOK mJ1_indexOf_4cfef 4 := ⟨⟨wsg_in 357 (by decide +kernel) (by decide +kernel), wsg_in 83 (by decide +kernel) (by decide +kernel), by decide +kernel, by decide +kernel⟩, wsg_in 356 (by decide +kernel) (by decide +kernel), by decide +kernel⟩
abbrev mJ1_indexOfChar_4cfef : Md := (yJ1_indexOfChar_4cfef, cJ1_indexOfChar_4cfef, 6, some .int, { frames := 0, cells := 0, slots := 0, locals := 0 }, fun _ => True)
theorem tJ1_indexOfChar_4cfef : isOK mJ1_indexOfChar_4cfef 4 := ⟨⟨wsg_in 369 (by decide +kernel) (by decide +kernel), wsg_in 83 (by decide +kernel) (by decide +kernel), by decide +kernel, by decide +kernel⟩, wsg_in 368 (by decide +kernel) (by decide +kernel), by decide +kernel⟩
abbrev mJ2_getChar_3b067 : Md := (yJ2_getChar_3b067, cJ2_getChar_3b067, 2, some .char, { frames := 1, cells := 0, slots := 0, locals := 20 }, fun _ => True)
theorem tJ2_getChar_3b067 : isOK mJ2_getChar_3b067 2 := ⟨⟨wsg_in 398 (by decide +kernel) (by decide +kernel), wsg_in 85 (by decide +kernel) (by decide +kernel), by decide +kernel, by decide +kernel⟩, wsg_in 397 (by decide +kernel) (by decide +kernel), by decide +kernel⟩
abbrev mJ2_length_9d52b : Md := (yJ2_length_9d52b, cJ2_length_9d52b, 1, some .int, { frames := 0, cells := 0, slots := 0, locals := 0 }, fun _ => True)
theorem tJ2_length_9d52b : isOK mJ2_length_9d52b 1 := ⟨⟨wsg_in 384 (by decide +kernel) (by decide +kernel), wsg_in 85 (by decide +kernel) (by decide +kernel), by decide +kernel, by decide +kernel⟩, wsg_in 383 (by decide +kernel) (by decide +kernel), by decide +kernel⟩
abbrev mJ2_indexOf_4cfef : Md := (yJ2_indexOf_4cfef, cJ2_indexOf_4cfef, 4, some .int, { frames := 4, cells := 0, slots := 0, locals := 93 }, fun _ => True)
theorem tJ2_indexOf_4cfef : isOK mJ2_indexOf_4cfef 4 := ⟨⟨wsg_in 372 (by decide +kernel) (by decide +kernel), wsg_in 85 (by decide +kernel) (by decide +kernel), by decide +kernel, by decide +kernel⟩, wsg_in 371 (by decide +kernel) (by decide +kernel), by decide +kernel⟩
abbrev mJ2_indexOfChar_4cfef : Md := (yJ2_indexOfChar_4cfef, cJ2_indexOfChar_4cfef, 4, some .int, { frames := 3, cells := 0, slots := 0, locals := 67 }, fun _ => True)
theorem tJ2_indexOfChar_4cfef : isOK mJ2_indexOfChar_4cfef 4 := ⟨⟨wsg_in 378 (by decide +kernel) (by decide +kernel), wsg_in 85 (by decide +kernel) (by decide +kernel), by decide +kernel, by decide +kernel⟩, wsg_in 377 (by decide +kernel) (by decide +kernel), by decide +kernel⟩
abbrev mJ2_indexOfCharUnsafe_4cfef : Md := (yJ2_indexOfCharUnsafe_4cfef, cJ2_indexOfCharUnsafe_4cfef, 5, some .int, { frames := 2, cells := 0, slots := 0, locals := 41 }, fun _ => True)
theorem tJ2_indexOfCharUnsafe_4cfef : isOK mJ2_indexOfCharUnsafe_4cfef 4 := ⟨⟨wsg_in 395 (by decide +kernel) (by decide +kernel), wsg_in 85 (by decide +kernel) (by decide +kernel), by decide +kernel, by decide +kernel⟩, wsg_in 394 (by decide +kernel) (by decide +kernel), by decide +kernel⟩
abbrev mJ2_indexOfSupplementary_4cfef : Md := (yJ2_indexOfSupplementary_4cfef, cJ2_indexOfSupplementary_4cfef, 7, some .int, { frames := 3, cells := 0, slots := 0, locals := 67 }, fun _ => True)
theorem tJ2_indexOfSupplementary_4cfef : isOK mJ2_indexOfSupplementary_4cfef 4 := ⟨⟨wsg_in 407 (by decide +kernel) (by decide +kernel), wsg_in 85 (by decide +kernel) (by decide +kernel), by decide +kernel, by decide +kernel⟩, wsg_in 406 (by decide +kernel) (by decide +kernel), by decide +kernel⟩
abbrev mJ2_charAt_3b067 : Md := (yJ2_charAt_3b067, cJ2_charAt_3b067, 2, some .char, { frames := 3, cells := 0, slots := 0, locals := 64 }, fun _ => True)
theorem tJ2_charAt_3b067 : isOK mJ2_charAt_3b067 2 := ⟨⟨wsg_in 451 (by decide +kernel) (by decide +kernel), wsg_in 85 (by decide +kernel) (by decide +kernel), by decide +kernel, by decide +kernel⟩, wsg_in 450 (by decide +kernel) (by decide +kernel), by decide +kernel⟩
abbrev mJ2_checkIndex_2214a : Md := (yJ2_checkIndex_2214a, cJ2_checkIndex_2214a, 2, none, { frames := 2, cells := 0, slots := 0, locals := 43 }, fun _ => True)
theorem tJ2_checkIndex_2214a : isOK mJ2_checkIndex_2214a 2 := ⟨⟨wsg_in 454 (by decide +kernel) (by decide +kernel), wsg_in 85 (by decide +kernel) (by decide +kernel), by decide +kernel, by decide +kernel⟩, wsg_in 453 (by decide +kernel) (by decide +kernel), by decide +kernel⟩
abbrev mJ2_checkBoundsBeginEnd_d044e : Md := (yJ2_checkBoundsBeginEnd_d044e, cJ2_checkBoundsBeginEnd_d044e, 3, none, { frames := 2, cells := 0, slots := 0, locals := 45 }, fun _ => True)
theorem tJ2_checkBoundsBeginEnd_d044e : isOK mJ2_checkBoundsBeginEnd_d044e 3 := ⟨⟨wsg_in 381 (by decide +kernel) (by decide +kernel), wsg_in 85 (by decide +kernel) (by decide +kernel), by decide +kernel, by decide +kernel⟩, wsg_in 380 (by decide +kernel) (by decide +kernel), by decide +kernel⟩
abbrev mJ7_fill_53178 : Md := (yJ7_fill_53178, cJ7_fill_53178, 4, none, { frames := 0, cells := 0, slots := 0, locals := 0 }, fun _ => True)
theorem tJ7_fill_53178 : isOK mJ7_fill_53178 2 := ⟨⟨wsg_in 501 (by decide +kernel) (by decide +kernel), wsg_in 89 (by decide +kernel) (by decide +kernel), by decide +kernel, by decide +kernel⟩, wsg_in 500 (by decide +kernel) (by decide +kernel), by decide +kernel⟩
abbrev mJ3_checkIndex_8e157 : Md := (yJ3_checkIndex_8e157, cJ3_checkIndex_8e157, 3, some .int, { frames := 0, cells := 0, slots := 0, locals := 0 }, fun _ => True)
theorem tJ3_checkIndex_8e157 : isOK mJ3_checkIndex_8e157 3 := ⟨⟨wsg_in 448 (by decide +kernel) (by decide +kernel), wsg_in 86 (by decide +kernel) (by decide +kernel), by decide +kernel, by decide +kernel⟩, wsg_in 447 (by decide +kernel) (by decide +kernel), by decide +kernel⟩
abbrev mJ3_checkFromToIndex_8c36e : Md := (yJ3_checkFromToIndex_8c36e, cJ3_checkFromToIndex_8c36e, 4, some .int, { frames := 0, cells := 0, slots := 0, locals := 0 }, fun _ => True)
theorem tJ3_checkFromToIndex_8c36e : isOK mJ3_checkFromToIndex_8c36e 4 := ⟨⟨wsg_in 392 (by decide +kernel) (by decide +kernel), wsg_in 86 (by decide +kernel) (by decide +kernel), by decide +kernel, by decide +kernel⟩, wsg_in 391 (by decide +kernel) (by decide +kernel), by decide +kernel⟩
theorem kL_9 : lkM RL 9 mX8_init := Or.inl (wsg_in 93 (by decide +kernel) (by decide +kernel))
theorem kX8_32 : lkM RX8 32 mX4_init := Or.inl (wsg_in 182 (by decide +kernel) (by decide +kernel))
theorem kL_13 : lkM RL 13 mX8_letter := Or.inl (wsg_in 304 (by decide +kernel) (by decide +kernel))
theorem kX8_82 : lkM RX8 82 mX1_append := Or.inl (wsg_in 308 (by decide +kernel) (by decide +kernel))
theorem kL_18 : lkM RL 18 mX8_blank := Or.inl (wsg_in 312 (by decide +kernel) (by decide +kernel))
theorem kL_23 : lkM RL 23 mX8_fault := Or.inl (wsg_in 316 (by decide +kernel) (by decide +kernel))
theorem kX8_86 : lkM RX8 86 mX3_faultOf := Or.inl (wsg_in 320 (by decide +kernel) (by decide +kernel))
theorem kX3_32 : lkM RX3 32 mX3_accepts := Or.inl (wsg_in 324 (by decide +kernel) (by decide +kernel))
theorem kX3_49 : lkM RX3 49 mX3_beginsStep := Or.inl (wsg_in 328 (by decide +kernel) (by decide +kernel))
theorem kX3_82 : lkM RX3 82 mJ0_indexOf_0f7a4 := Or.inl (wsg_in 333 (by decide +kernel) (by decide +kernel))
theorem kJ0_633 : lkM RJ0 633 mJ0_indexOf_7cf53 := Or.inl (wsg_in 337 (by decide +kernel) (by decide +kernel))
theorem kJ0_492 : lkM RJ0 492 mJ0_isLatin1_aae02 := Or.inl (wsg_in 341 (by decide +kernel) (by decide +kernel))
theorem kJ0_505 : lkM RJ0 505 mJ0_length_8abf5 := Or.inl (wsg_in 347 (by decide +kernel) (by decide +kernel))
theorem kJ0_335 : lkM RJ0 335 mJ0_coder_7d493 := Or.inl (wsg_in 351 (by decide +kernel) (by decide +kernel))
theorem kJ0_637 : lkM RJ0 637 mJ1_indexOf_4cfef := Or.inl (wsg_in 355 (by decide +kernel) (by decide +kernel))
theorem kJ1_88 : lkM RJ1 88 mJ1_canEncode_9a6ad := Or.inl (wsg_in 358 (by decide +kernel) (by decide +kernel))
theorem kJ1_92 : lkM RJ1 92 mJ9_max_7cf53 := Or.inl (wsg_in 361 (by decide +kernel) (by decide +kernel))
theorem kJ1_38 : lkM RJ1 38 mJ9_min_7cf53 := Or.inl (wsg_in 364 (by decide +kernel) (by decide +kernel))
theorem kJ1_95 : lkM RJ1 95 mJ1_indexOfChar_4cfef := Or.inl (wsg_in 367 (by decide +kernel) (by decide +kernel))
theorem kJ0_640 : lkM RJ0 640 mJ2_indexOf_4cfef := Or.inl (wsg_in 370 (by decide +kernel) (by decide +kernel))
theorem kJ2_224 : lkM RJ2 224 mJ9_max_7cf53 := Or.inl (wsg_in 373 (by decide +kernel) (by decide +kernel))
theorem kJ2_183 : lkM RJ2 183 mJ9_min_7cf53 := Or.inl (wsg_in 374 (by decide +kernel) (by decide +kernel))
theorem kJ2_228 : lkM RJ2 228 mJ2_indexOfChar_4cfef := Or.inl (wsg_in 376 (by decide +kernel) (by decide +kernel))
theorem kJ2_96 : lkM RJ2 96 mJ2_checkBoundsBeginEnd_d044e := Or.inl (wsg_in 379 (by decide +kernel) (by decide +kernel))
theorem kJ2_48 : lkM RJ2 48 mJ2_length_9d52b := Or.inl (wsg_in 382 (by decide +kernel) (by decide +kernel))
theorem kJ2_241 : lkM RJ2 241 mJ0_checkBoundsBeginEnd_23922 := Or.inl (wsg_in 385 (by decide +kernel) (by decide +kernel))
theorem kJ0_1062 : lkM RJ0 1062 mJ3_checkFromToIndex_8c36e := Or.inl (wsg_in 390 (by decide +kernel) (by decide +kernel))
theorem kJ2_244 : lkM RJ2 244 mJ2_indexOfCharUnsafe_4cfef := Or.inl (wsg_in 393 (by decide +kernel) (by decide +kernel))
theorem kJ2_71 : lkM RJ2 71 mJ2_getChar_3b067 := Or.inl (wsg_in 396 (by decide +kernel) (by decide +kernel))
theorem kJ2_232 : lkM RJ2 232 mJ2_indexOfSupplementary_4cfef := Or.inl (wsg_in 405 (by decide +kernel) (by decide +kernel))
theorem kJ2_164 : lkM RJ2 164 mJ11_isValidCodePoint_9a6ad := Or.inl (wsg_in 408 (by decide +kernel) (by decide +kernel))
theorem kJ2_157 : lkM RJ2 157 mJ11_highSurrogate_5068e := Or.inl (wsg_in 411 (by decide +kernel) (by decide +kernel))
theorem kJ2_161 : lkM RJ2 161 mJ11_lowSurrogate_5068e := Or.inl (wsg_in 415 (by decide +kernel) (by decide +kernel))
theorem kX3_86 : lkM RX3 86 mX7_behindLastLoop := Or.inl (wsg_in 419 (by decide +kernel) (by decide +kernel))
theorem kX3_39 : lkM RX3 39 mX3_formOf := Or.inl (wsg_in 423 (by decide +kernel) (by decide +kernel))
theorem kX3_43 : lkM RX3 43 mJ0_length_8abf5 := Or.inl (wsg_in 431 (by decide +kernel) (by decide +kernel))
theorem kX3_52 : lkM RX3 52 mX3_goesOn := Or.inl (wsg_in 432 (by decide +kernel) (by decide +kernel))
theorem kX3_55 : lkM RX3 55 mJ0_charAt_5068e := Or.inl (wsg_in 436 (by decide +kernel) (by decide +kernel))
theorem kJ0_495 : lkM RJ0 495 mJ1_charAt_3b067 := Or.inl (wsg_in 440 (by decide +kernel) (by decide +kernel))
theorem kJ1_9 : lkM RJ1 9 mJ0_checkIndex_df160 := Or.inl (wsg_in 443 (by decide +kernel) (by decide +kernel))
theorem kJ0_1059 : lkM RJ0 1059 mJ3_checkIndex_8e157 := Or.inl (wsg_in 446 (by decide +kernel) (by decide +kernel))
theorem kJ0_498 : lkM RJ0 498 mJ2_charAt_3b067 := Or.inl (wsg_in 449 (by decide +kernel) (by decide +kernel))
theorem kJ2_67 : lkM RJ2 67 mJ2_checkIndex_2214a := Or.inl (wsg_in 452 (by decide +kernel) (by decide +kernel))
theorem kJ2_414 : lkM RJ2 414 mJ0_checkIndex_df160 := Or.inl (wsg_in 455 (by decide +kernel) (by decide +kernel))
theorem kX3_59 : lkM RX3 59 mX3_fits := Or.inl (wsg_in 456 (by decide +kernel) (by decide +kernel))
theorem kX3_63 : lkM RX3 63 mX3_keep := Or.inl (wsg_in 463 (by decide +kernel) (by decide +kernel))
theorem kX3_76 : lkM RX3 76 mX7_insert := Or.inl (wsg_in 467 (by decide +kernel) (by decide +kernel))
theorem kX7_34 : lkM RX7 34 mX7_copyStep := Or.inl (wsg_in 471 (by decide +kernel) (by decide +kernel))
theorem kL_27 : lkM RL 27 mX8_program := Or.inl (wsg_in 476 (by decide +kernel) (by decide +kernel))
theorem kX8_90 : lkM RX8 90 mX3_atAnEnd := Or.inl (wsg_in 480 (by decide +kernel) (by decide +kernel))
theorem kX8_97 : lkM RX8 97 mX7_copy := Or.inl (wsg_in 484 (by decide +kernel) (by decide +kernel))
theorem kX8_102 : lkM RX8 102 mX8_runAgain := Or.inl (wsg_in 491 (by decide +kernel) (by decide +kernel))
theorem kX8_289 : lkM RX8 289 mX2_clear := Or.inl (wsg_in 495 (by decide +kernel) (by decide +kernel))
theorem kX2_18 : lkM RX2 18 mJ7_fill_53178 := Or.inl (wsg_in 499 (by decide +kernel) (by decide +kernel))
theorem kX8_292 : lkM RX8 292 mX4_begin := Or.inl (wsg_in 502 (by decide +kernel) (by decide +kernel))
theorem kX4_36 : lkM RX4 36 mJ7_fill_53178 := Or.inl (wsg_in 506 (by decide +kernel) (by decide +kernel))
theorem kX4_42 : lkM RX4 42 mX6_fill := Or.inl (wsg_in 507 (by decide +kernel) (by decide +kernel))
theorem kX6_19 : lkM RX6 19 mJ7_fill_53178 := Or.inl (wsg_in 511 (by decide +kernel) (by decide +kernel))
theorem kX8_295 : lkM RX8 295 mX4_goRound := Or.inl (wsg_in 512 (by decide +kernel) (by decide +kernel))
theorem kX4_44 : lkM RX4 44 mX6_copy := Or.inl (wsg_in 516 (by decide +kernel) (by decide +kernel))
theorem kX4_80 : lkM RX4 80 mX4_doStep := Or.inl (wsg_in 521 (by decide +kernel) (by decide +kernel))
theorem kX4_66 : lkM RX4 66 mX6_limit := Or.inl (wsg_in 525 (by decide +kernel) (by decide +kernel))
theorem kX6_31 : lkM RX6 31 mX6_boundOf := Or.inl (wsg_in 529 (by decide +kernel) (by decide +kernel))
theorem kX6_35 : lkM RX6 35 mX6_setBound := Or.inl (wsg_in 533 (by decide +kernel) (by decide +kernel))
theorem kX4_70 : lkM RX4 70 mX6_assign := Or.inl (wsg_in 537 (by decide +kernel) (by decide +kernel))
theorem kX6_46 : lkM RX6 46 mX6_turn := Or.inl (wsg_in 541 (by decide +kernel) (by decide +kernel))
theorem kX6_49 : lkM RX6 49 mX6_shift := Or.inl (wsg_in 545 (by decide +kernel) (by decide +kernel))
theorem kX6_56 : lkM RX6 56 mJ9_min_7cf53 := Or.inl (wsg_in 549 (by decide +kernel) (by decide +kernel))
theorem kX6_53 : lkM RX6 53 mX6_lose := Or.inl (wsg_in 550 (by decide +kernel) (by decide +kernel))
theorem kX6_43 : lkM RX6 43 mX6_limit := Or.inl (wsg_in 554 (by decide +kernel) (by decide +kernel))
theorem kX4_73 : lkM RX4 73 mX6_lose := Or.inl (wsg_in 555 (by decide +kernel) (by decide +kernel))
theorem kX4_77 : lkM RX4 77 mX6_close := Or.inl (wsg_in 556 (by decide +kernel) (by decide +kernel))
theorem kX6_39 : lkM RX6 39 mX6_chainBy := Or.inl (wsg_in 560 (by decide +kernel) (by decide +kernel))
theorem kX4_84 : lkM RX4 84 mX6_join := Or.inl (wsg_in 564 (by decide +kernel) (by decide +kernel))
theorem kX6_61 : lkM RX6 61 mX6_copy := Or.inl (wsg_in 568 (by decide +kernel) (by decide +kernel))
theorem kX6_65 : lkM RX6 65 mJ9_max_7cf53 := Or.inl (wsg_in 569 (by decide +kernel) (by decide +kernel))
theorem kX4_87 : lkM RX4 87 mX6_isWithin := Or.inl (wsg_in 570 (by decide +kernel) (by decide +kernel))
theorem kX4_91 : lkM RX4 91 mX6_widen := Or.inl (wsg_in 574 (by decide +kernel) (by decide +kernel))
