theorem gw_122 : (.methodLink "PlayStatesLaw" 21 ⟨"PlayStates", "person", "()I"⟩ : Cond) ∈ GW := gT 127 (by decide +kernel) (by decide +kernel)
theorem gw_123 : (.instanceMethod ⟨"PlayStates", "person", "()I"⟩ : Cond) ∈ GW := gT 128 (by decide +kernel) (by decide +kernel)
theorem gw_124 : (.selects "PlayStates" ⟨"PlayStates", "person", "()I"⟩ ⟨"PlayStates", "person", "()I"⟩ : Cond) ∈ GW := gT 129 (by decide +kernel) (by decide +kernel)
theorem gw_125 : (.code ⟨"PlayStates", "person", "()I"⟩ prog_1_method_2_code 1 (some .int) : Cond) ∈ GW := gT 130 (by decide +kernel) (by decide +kernel)
theorem gw_430 : (.methodLink "PlayStatesLaw" 25 ⟨"PlayStatesModel", "person", "()I"⟩ : Cond) ∈ GW := gT 494 (by decide +kernel) (by decide +kernel)
theorem gw_431 : (.instanceMethod ⟨"PlayStatesModel", "person", "()I"⟩ : Cond) ∈ GW := gT 495 (by decide +kernel) (by decide +kernel)
theorem gw_432 : (.selects "PlayStatesModel" ⟨"PlayStatesModel", "person", "()I"⟩ ⟨"PlayStatesModel", "person", "()I"⟩ : Cond) ∈ GW := gT 496 (by decide +kernel) (by decide +kernel)
theorem gw_433 : (.code ⟨"PlayStatesModel", "person", "()I"⟩ prog_8_method_5_code 1 (some .int) : Cond) ∈ GW := gT 497 (by decide +kernel) (by decide +kernel)
theorem gw_159 : (.methodLink "PlayStatesLaw" 26 ⟨"PlayStates", "enter", "(III)I"⟩ : Cond) ∈ GW := gT 182 (by decide +kernel) (by decide +kernel)
theorem gw_160 : (.instanceMethod ⟨"PlayStates", "enter", "(III)I"⟩ : Cond) ∈ GW := gT 183 (by decide +kernel) (by decide +kernel)
theorem gw_161 : (.selects "PlayStates" ⟨"PlayStates", "enter", "(III)I"⟩ ⟨"PlayStates", "enter", "(III)I"⟩ : Cond) ∈ GW := gT 184 (by decide +kernel) (by decide +kernel)
theorem gw_162 : (.code ⟨"PlayStates", "enter", "(III)I"⟩ prog_1_method_3_code 5 (some .int) : Cond) ∈ GW := gT 185 (by decide +kernel) (by decide +kernel)
theorem gw_437 : (.methodLink "PlayStatesLaw" 30 ⟨"PlayStatesModel", "enter", "(III)I"⟩ : Cond) ∈ GW := gT 502 (by decide +kernel) (by decide +kernel)
theorem gw_438 : (.instanceMethod ⟨"PlayStatesModel", "enter", "(III)I"⟩ : Cond) ∈ GW := gT 503 (by decide +kernel) (by decide +kernel)
theorem gw_439 : (.selects "PlayStatesModel" ⟨"PlayStatesModel", "enter", "(III)I"⟩ ⟨"PlayStatesModel", "enter", "(III)I"⟩ : Cond) ∈ GW := gT 504 (by decide +kernel) (by decide +kernel)
theorem gw_440 : (.code ⟨"PlayStatesModel", "enter", "(III)I"⟩ prog_8_method_9_code 4 (some .int) : Cond) ∈ GW := gT 505 (by decide +kernel) (by decide +kernel)
theorem gw_195 : (.methodLink "PlayStatesLaw" 31 ⟨"PlayStates", "mark", "(IIIZ)I"⟩ : Cond) ∈ GW := gT 221 (by decide +kernel) (by decide +kernel)
theorem gw_196 : (.instanceMethod ⟨"PlayStates", "mark", "(IIIZ)I"⟩ : Cond) ∈ GW := gT 222 (by decide +kernel) (by decide +kernel)
theorem gw_197 : (.selects "PlayStates" ⟨"PlayStates", "mark", "(IIIZ)I"⟩ ⟨"PlayStates", "mark", "(IIIZ)I"⟩ : Cond) ∈ GW := gT 223 (by decide +kernel) (by decide +kernel)
theorem gw_198 : (.code ⟨"PlayStates", "mark", "(IIIZ)I"⟩ prog_1_method_4_code 6 (some .int) : Cond) ∈ GW := gT 224 (by decide +kernel) (by decide +kernel)
theorem gw_453 : (.methodLink "PlayStatesLaw" 35 ⟨"PlayStatesModel", "mark", "(IIIZ)I"⟩ : Cond) ∈ GW := gT 522 (by decide +kernel) (by decide +kernel)
theorem gw_454 : (.instanceMethod ⟨"PlayStatesModel", "mark", "(IIIZ)I"⟩ : Cond) ∈ GW := gT 523 (by decide +kernel) (by decide +kernel)
theorem gw_455 : (.selects "PlayStatesModel" ⟨"PlayStatesModel", "mark", "(IIIZ)I"⟩ ⟨"PlayStatesModel", "mark", "(IIIZ)I"⟩ : Cond) ∈ GW := gT 524 (by decide +kernel) (by decide +kernel)
theorem gw_456 : (.code ⟨"PlayStatesModel", "mark", "(IIIZ)I"⟩ prog_8_method_10_code 6 (some .int) : Cond) ∈ GW := gT 525 (by decide +kernel) (by decide +kernel)
theorem gw_202 : (.methodLink "PlayStatesLaw" 36 ⟨"PlayStates", "undo", "(I)I"⟩ : Cond) ∈ GW := gT 228 (by decide +kernel) (by decide +kernel)
theorem gw_203 : (.instanceMethod ⟨"PlayStates", "undo", "(I)I"⟩ : Cond) ∈ GW := gT 229 (by decide +kernel) (by decide +kernel)
theorem gw_204 : (.selects "PlayStates" ⟨"PlayStates", "undo", "(I)I"⟩ ⟨"PlayStates", "undo", "(I)I"⟩ : Cond) ∈ GW := gT 230 (by decide +kernel) (by decide +kernel)
theorem gw_205 : (.code ⟨"PlayStates", "undo", "(I)I"⟩ prog_1_method_5_code 4 (some .int) : Cond) ∈ GW := gT 231 (by decide +kernel) (by decide +kernel)
theorem gw_457 : (.methodLink "PlayStatesLaw" 40 ⟨"PlayStatesModel", "undo", "(I)I"⟩ : Cond) ∈ GW := gT 526 (by decide +kernel) (by decide +kernel)
theorem gw_458 : (.instanceMethod ⟨"PlayStatesModel", "undo", "(I)I"⟩ : Cond) ∈ GW := gT 527 (by decide +kernel) (by decide +kernel)
theorem gw_459 : (.selects "PlayStatesModel" ⟨"PlayStatesModel", "undo", "(I)I"⟩ ⟨"PlayStatesModel", "undo", "(I)I"⟩ : Cond) ∈ GW := gT 528 (by decide +kernel) (by decide +kernel)
theorem gw_460 : (.code ⟨"PlayStatesModel", "undo", "(I)I"⟩ prog_8_method_11_code 4 (some .int) : Cond) ∈ GW := gT 529 (by decide +kernel) (by decide +kernel)
theorem gw_210 : (.methodLink "PlayStatesLaw" 41 ⟨"PlayStates", "redo", "(II)I"⟩ : Cond) ∈ GW := gT 236 (by decide +kernel) (by decide +kernel)
theorem gw_211 : (.instanceMethod ⟨"PlayStates", "redo", "(II)I"⟩ : Cond) ∈ GW := gT 237 (by decide +kernel) (by decide +kernel)
theorem gw_212 : (.selects "PlayStates" ⟨"PlayStates", "redo", "(II)I"⟩ ⟨"PlayStates", "redo", "(II)I"⟩ : Cond) ∈ GW := gT 238 (by decide +kernel) (by decide +kernel)
theorem gw_213 : (.code ⟨"PlayStates", "redo", "(II)I"⟩ prog_1_method_6_code 5 (some .int) : Cond) ∈ GW := gT 239 (by decide +kernel) (by decide +kernel)
theorem gw_461 : (.methodLink "PlayStatesLaw" 45 ⟨"PlayStatesModel", "redo", "(II)I"⟩ : Cond) ∈ GW := gT 530 (by decide +kernel) (by decide +kernel)
theorem gw_462 : (.instanceMethod ⟨"PlayStatesModel", "redo", "(II)I"⟩ : Cond) ∈ GW := gT 531 (by decide +kernel) (by decide +kernel)
theorem gw_463 : (.selects "PlayStatesModel" ⟨"PlayStatesModel", "redo", "(II)I"⟩ ⟨"PlayStatesModel", "redo", "(II)I"⟩ : Cond) ∈ GW := gT 532 (by decide +kernel) (by decide +kernel)
theorem gw_464 : (.code ⟨"PlayStatesModel", "redo", "(II)I"⟩ prog_8_method_13_code 4 (some .int) : Cond) ∈ GW := gT 533 (by decide +kernel) (by decide +kernel)
theorem gw_218 : (.methodLink "PlayStatesLaw" 46 ⟨"PlayStates", "branches", "(I)I"⟩ : Cond) ∈ GW := gT 244 (by decide +kernel) (by decide +kernel)
theorem gw_219 : (.instanceMethod ⟨"PlayStates", "branches", "(I)I"⟩ : Cond) ∈ GW := gT 245 (by decide +kernel) (by decide +kernel)
theorem gw_220 : (.selects "PlayStates" ⟨"PlayStates", "branches", "(I)I"⟩ ⟨"PlayStates", "branches", "(I)I"⟩ : Cond) ∈ GW := gT 246 (by decide +kernel) (by decide +kernel)
theorem gw_221 : (.code ⟨"PlayStates", "branches", "(I)I"⟩ prog_1_method_7_code 3 (some .int) : Cond) ∈ GW := gT 247 (by decide +kernel) (by decide +kernel)
theorem gw_468 : (.methodLink "PlayStatesLaw" 49 ⟨"PlayStatesModel", "branches", "(I)I"⟩ : Cond) ∈ GW := gT 538 (by decide +kernel) (by decide +kernel)
theorem gw_469 : (.instanceMethod ⟨"PlayStatesModel", "branches", "(I)I"⟩ : Cond) ∈ GW := gT 539 (by decide +kernel) (by decide +kernel)
theorem gw_470 : (.selects "PlayStatesModel" ⟨"PlayStatesModel", "branches", "(I)I"⟩ ⟨"PlayStatesModel", "branches", "(I)I"⟩ : Cond) ∈ GW := gT 540 (by decide +kernel) (by decide +kernel)
theorem gw_471 : (.code ⟨"PlayStatesModel", "branches", "(I)I"⟩ prog_8_method_14_code 2 (some .int) : Cond) ∈ GW := gT 541 (by decide +kernel) (by decide +kernel)
theorem gw_226 : (.methodLink "PlayStatesLaw" 50 ⟨"PlayStates", "at", "(II)I"⟩ : Cond) ∈ GW := gT 252 (by decide +kernel) (by decide +kernel)
theorem gw_227 : (.instanceMethod ⟨"PlayStates", "at", "(II)I"⟩ : Cond) ∈ GW := gT 253 (by decide +kernel) (by decide +kernel)
theorem gw_228 : (.selects "PlayStates" ⟨"PlayStates", "at", "(II)I"⟩ ⟨"PlayStates", "at", "(II)I"⟩ : Cond) ∈ GW := gT 254 (by decide +kernel) (by decide +kernel)
theorem gw_229 : (.code ⟨"PlayStates", "at", "(II)I"⟩ prog_1_method_8_code 4 (some .int) : Cond) ∈ GW := gT 255 (by decide +kernel) (by decide +kernel)
theorem gw_472 : (.methodLink "PlayStatesLaw" 53 ⟨"PlayStatesModel", "at", "(II)I"⟩ : Cond) ∈ GW := gT 542 (by decide +kernel) (by decide +kernel)
theorem gw_473 : (.instanceMethod ⟨"PlayStatesModel", "at", "(II)I"⟩ : Cond) ∈ GW := gT 543 (by decide +kernel) (by decide +kernel)
theorem gw_474 : (.selects "PlayStatesModel" ⟨"PlayStatesModel", "at", "(II)I"⟩ ⟨"PlayStatesModel", "at", "(II)I"⟩ : Cond) ∈ GW := gT 544 (by decide +kernel) (by decide +kernel)
theorem gw_475 : (.code ⟨"PlayStatesModel", "at", "(II)I"⟩ prog_8_method_15_code 3 (some .int) : Cond) ∈ GW := gT 545 (by decide +kernel) (by decide +kernel)
theorem gw_230 : (.methodLink "PlayStatesLaw" 54 ⟨"PlayStates", "marks", "(II)I"⟩ : Cond) ∈ GW := gT 256 (by decide +kernel) (by decide +kernel)
theorem gw_231 : (.instanceMethod ⟨"PlayStates", "marks", "(II)I"⟩ : Cond) ∈ GW := gT 257 (by decide +kernel) (by decide +kernel)
theorem gw_232 : (.selects "PlayStates" ⟨"PlayStates", "marks", "(II)I"⟩ ⟨"PlayStates", "marks", "(II)I"⟩ : Cond) ∈ GW := gT 258 (by decide +kernel) (by decide +kernel)
theorem gw_233 : (.code ⟨"PlayStates", "marks", "(II)I"⟩ prog_1_method_9_code 4 (some .int) : Cond) ∈ GW := gT 259 (by decide +kernel) (by decide +kernel)
theorem gw_476 : (.methodLink "PlayStatesLaw" 57 ⟨"PlayStatesModel", "marks", "(II)I"⟩ : Cond) ∈ GW := gT 546 (by decide +kernel) (by decide +kernel)
theorem gw_477 : (.instanceMethod ⟨"PlayStatesModel", "marks", "(II)I"⟩ : Cond) ∈ GW := gT 547 (by decide +kernel) (by decide +kernel)
theorem gw_478 : (.selects "PlayStatesModel" ⟨"PlayStatesModel", "marks", "(II)I"⟩ ⟨"PlayStatesModel", "marks", "(II)I"⟩ : Cond) ∈ GW := gT 548 (by decide +kernel) (by decide +kernel)
theorem gw_479 : (.code ⟨"PlayStatesModel", "marks", "(II)I"⟩ prog_8_method_16_code 3 (some .int) : Cond) ∈ GW := gT 549 (by decide +kernel) (by decide +kernel)
theorem gw_234 : (.methodLink "PlayStatesLaw" 58 ⟨"PlayStates", "truth", "(II)Z"⟩ : Cond) ∈ GW := gT 260 (by decide +kernel) (by decide +kernel)
theorem gw_235 : (.instanceMethod ⟨"PlayStates", "truth", "(II)Z"⟩ : Cond) ∈ GW := gT 261 (by decide +kernel) (by decide +kernel)
theorem gw_236 : (.selects "PlayStates" ⟨"PlayStates", "truth", "(II)Z"⟩ ⟨"PlayStates", "truth", "(II)Z"⟩ : Cond) ∈ GW := gT 262 (by decide +kernel) (by decide +kernel)
theorem gw_237 : (.code ⟨"PlayStates", "truth", "(II)Z"⟩ prog_1_method_10_code 3 (some .boolean) : Cond) ∈ GW := gT 263 (by decide +kernel) (by decide +kernel)
theorem gw_480 : (.methodLink "PlayStatesLaw" 62 ⟨"PlayStatesModel", "truth", "(II)Z"⟩ : Cond) ∈ GW := gT 550 (by decide +kernel) (by decide +kernel)
theorem gw_481 : (.instanceMethod ⟨"PlayStatesModel", "truth", "(II)Z"⟩ : Cond) ∈ GW := gT 551 (by decide +kernel) (by decide +kernel)
theorem gw_482 : (.selects "PlayStatesModel" ⟨"PlayStatesModel", "truth", "(II)Z"⟩ ⟨"PlayStatesModel", "truth", "(II)Z"⟩ : Cond) ∈ GW := gT 552 (by decide +kernel) (by decide +kernel)
theorem gw_483 : (.code ⟨"PlayStatesModel", "truth", "(II)Z"⟩ prog_8_method_17_code 3 (some .boolean) : Cond) ∈ GW := gT 553 (by decide +kernel) (by decide +kernel)
theorem gw_238 : (.methodLink "PlayStatesLaw" 63 ⟨"PlayStates", "wrong", "(I)I"⟩ : Cond) ∈ GW := gT 264 (by decide +kernel) (by decide +kernel)
theorem gw_239 : (.instanceMethod ⟨"PlayStates", "wrong", "(I)I"⟩ : Cond) ∈ GW := gT 265 (by decide +kernel) (by decide +kernel)
theorem gw_240 : (.selects "PlayStates" ⟨"PlayStates", "wrong", "(I)I"⟩ ⟨"PlayStates", "wrong", "(I)I"⟩ : Cond) ∈ GW := gT 266 (by decide +kernel) (by decide +kernel)
theorem gw_241 : (.code ⟨"PlayStates", "wrong", "(I)I"⟩ prog_1_method_11_code 5 (some .int) : Cond) ∈ GW := gT 267 (by decide +kernel) (by decide +kernel)
theorem gw_484 : (.methodLink "PlayStatesLaw" 66 ⟨"PlayStatesModel", "wrong", "(I)I"⟩ : Cond) ∈ GW := gT 554 (by decide +kernel) (by decide +kernel)
theorem gw_485 : (.instanceMethod ⟨"PlayStatesModel", "wrong", "(I)I"⟩ : Cond) ∈ GW := gT 555 (by decide +kernel) (by decide +kernel)
theorem gw_486 : (.selects "PlayStatesModel" ⟨"PlayStatesModel", "wrong", "(I)I"⟩ ⟨"PlayStatesModel", "wrong", "(I)I"⟩ : Cond) ∈ GW := gT 556 (by decide +kernel) (by decide +kernel)
theorem gw_487 : (.code ⟨"PlayStatesModel", "wrong", "(I)I"⟩ prog_8_method_18_code 5 (some .int) : Cond) ∈ GW := gT 557 (by decide +kernel) (by decide +kernel)
theorem gw_245 : (.methodLink "PlayStatesLaw" 67 ⟨"PlayStates", "help", "(I)I"⟩ : Cond) ∈ GW := gT 271 (by decide +kernel) (by decide +kernel)
theorem gw_246 : (.instanceMethod ⟨"PlayStates", "help", "(I)I"⟩ : Cond) ∈ GW := gT 272 (by decide +kernel) (by decide +kernel)
theorem gw_247 : (.selects "PlayStates" ⟨"PlayStates", "help", "(I)I"⟩ ⟨"PlayStates", "help", "(I)I"⟩ : Cond) ∈ GW := gT 273 (by decide +kernel) (by decide +kernel)
theorem gw_248 : (.code ⟨"PlayStates", "help", "(I)I"⟩ prog_1_method_12_code 4 (some .int) : Cond) ∈ GW := gT 274 (by decide +kernel) (by decide +kernel)
theorem gw_488 : (.methodLink "PlayStatesLaw" 70 ⟨"PlayStatesModel", "help", "(I)I"⟩ : Cond) ∈ GW := gT 558 (by decide +kernel) (by decide +kernel)
theorem gw_489 : (.instanceMethod ⟨"PlayStatesModel", "help", "(I)I"⟩ : Cond) ∈ GW := gT 559 (by decide +kernel) (by decide +kernel)
theorem gw_490 : (.selects "PlayStatesModel" ⟨"PlayStatesModel", "help", "(I)I"⟩ ⟨"PlayStatesModel", "help", "(I)I"⟩ : Cond) ∈ GW := gT 560 (by decide +kernel) (by decide +kernel)
theorem gw_491 : (.code ⟨"PlayStatesModel", "help", "(I)I"⟩ prog_8_method_19_code 3 (some .int) : Cond) ∈ GW := gT 561 (by decide +kernel) (by decide +kernel)
theorem gw_252 : (.methodLink "PlayStatesLaw" 71 ⟨"PlayStates", "helps", "(I)I"⟩ : Cond) ∈ GW := gT 279 (by decide +kernel) (by decide +kernel)
theorem gw_253 : (.instanceMethod ⟨"PlayStates", "helps", "(I)I"⟩ : Cond) ∈ GW := gT 280 (by decide +kernel) (by decide +kernel)
theorem gw_254 : (.selects "PlayStates" ⟨"PlayStates", "helps", "(I)I"⟩ ⟨"PlayStates", "helps", "(I)I"⟩ : Cond) ∈ GW := gT 281 (by decide +kernel) (by decide +kernel)
theorem gw_255 : (.code ⟨"PlayStates", "helps", "(I)I"⟩ prog_1_method_13_code 3 (some .int) : Cond) ∈ GW := gT 282 (by decide +kernel) (by decide +kernel)
theorem gw_492 : (.methodLink "PlayStatesLaw" 74 ⟨"PlayStatesModel", "helps", "(I)I"⟩ : Cond) ∈ GW := gT 562 (by decide +kernel) (by decide +kernel)
theorem gw_493 : (.instanceMethod ⟨"PlayStatesModel", "helps", "(I)I"⟩ : Cond) ∈ GW := gT 563 (by decide +kernel) (by decide +kernel)
theorem gw_494 : (.selects "PlayStatesModel" ⟨"PlayStatesModel", "helps", "(I)I"⟩ ⟨"PlayStatesModel", "helps", "(I)I"⟩ : Cond) ∈ GW := gT 564 (by decide +kernel) (by decide +kernel)
theorem gw_495 : (.code ⟨"PlayStatesModel", "helps", "(I)I"⟩ prog_8_method_20_code 2 (some .int) : Cond) ∈ GW := gT 565 (by decide +kernel) (by decide +kernel)
theorem gw_256 : (.methodLink "PlayStatesLaw" 77 ⟨"PlayStates", "timer", "(IJZ)Z"⟩ : Cond) ∈ GW := gT 283 (by decide +kernel) (by decide +kernel)
theorem gw_257 : (.instanceMethod ⟨"PlayStates", "timer", "(IJZ)Z"⟩ : Cond) ∈ GW := gT 284 (by decide +kernel) (by decide +kernel)
theorem gw_258 : (.selects "PlayStates" ⟨"PlayStates", "timer", "(IJZ)Z"⟩ ⟨"PlayStates", "timer", "(IJZ)Z"⟩ : Cond) ∈ GW := gT 285 (by decide +kernel) (by decide +kernel)
theorem gw_259 : (.code ⟨"PlayStates", "timer", "(IJZ)Z"⟩ prog_1_method_14_code 6 (some .boolean) : Cond) ∈ GW := gT 286 (by decide +kernel) (by decide +kernel)
theorem gw_496 : (.methodLink "PlayStatesLaw" 81 ⟨"PlayStatesModel", "timer", "(IJZ)Z"⟩ : Cond) ∈ GW := gT 566 (by decide +kernel) (by decide +kernel)
theorem gw_497 : (.instanceMethod ⟨"PlayStatesModel", "timer", "(IJZ)Z"⟩ : Cond) ∈ GW := gT 567 (by decide +kernel) (by decide +kernel)
theorem gw_498 : (.selects "PlayStatesModel" ⟨"PlayStatesModel", "timer", "(IJZ)Z"⟩ ⟨"PlayStatesModel", "timer", "(IJZ)Z"⟩ : Cond) ∈ GW := gT 568 (by decide +kernel) (by decide +kernel)
theorem gw_499 : (.code ⟨"PlayStatesModel", "timer", "(IJZ)Z"⟩ prog_8_method_23_code 5 (some .boolean) : Cond) ∈ GW := gT 569 (by decide +kernel) (by decide +kernel)
theorem gw_272 : (.methodLink "PlayStatesLaw" 82 ⟨"PlayStates", "time", "(IJ)J"⟩ : Cond) ∈ GW := gT 299 (by decide +kernel) (by decide +kernel)
theorem gw_273 : (.instanceMethod ⟨"PlayStates", "time", "(IJ)J"⟩ : Cond) ∈ GW := gT 300 (by decide +kernel) (by decide +kernel)
theorem gw_274 : (.selects "PlayStates" ⟨"PlayStates", "time", "(IJ)J"⟩ ⟨"PlayStates", "time", "(IJ)J"⟩ : Cond) ∈ GW := gT 301 (by decide +kernel) (by decide +kernel)
theorem gw_275 : (.code ⟨"PlayStates", "time", "(IJ)J"⟩ prog_1_method_15_code 5 (some .long) : Cond) ∈ GW := gT 302 (by decide +kernel) (by decide +kernel)
theorem gw_506 : (.methodLink "PlayStatesLaw" 86 ⟨"PlayStatesModel", "time", "(IJ)J"⟩ : Cond) ∈ GW := gT 578 (by decide +kernel) (by decide +kernel)
theorem gw_507 : (.instanceMethod ⟨"PlayStatesModel", "time", "(IJ)J"⟩ : Cond) ∈ GW := gT 579 (by decide +kernel) (by decide +kernel)
theorem gw_508 : (.selects "PlayStatesModel" ⟨"PlayStatesModel", "time", "(IJ)J"⟩ ⟨"PlayStatesModel", "time", "(IJ)J"⟩ : Cond) ∈ GW := gT 580 (by decide +kernel) (by decide +kernel)
theorem gw_509 : (.code ⟨"PlayStatesModel", "time", "(IJ)J"⟩ prog_8_method_24_code 4 (some .long) : Cond) ∈ GW := gT 581 (by decide +kernel) (by decide +kernel)
theorem gw_278 : (.methodLink "PlayStatesLaw" 87 ⟨"PlayStates", "join", "(II)I"⟩ : Cond) ∈ GW := gT 305 (by decide +kernel) (by decide +kernel)
theorem gw_279 : (.instanceMethod ⟨"PlayStates", "join", "(II)I"⟩ : Cond) ∈ GW := gT 306 (by decide +kernel) (by decide +kernel)
theorem gw_280 : (.selects "PlayStates" ⟨"PlayStates", "join", "(II)I"⟩ ⟨"PlayStates", "join", "(II)I"⟩ : Cond) ∈ GW := gT 307 (by decide +kernel) (by decide +kernel)
theorem gw_281 : (.code ⟨"PlayStates", "join", "(II)I"⟩ prog_1_method_16_code 6 (some .int) : Cond) ∈ GW := gT 308 (by decide +kernel) (by decide +kernel)
theorem gw_510 : (.methodLink "PlayStatesLaw" 90 ⟨"PlayStatesModel", "join", "(II)I"⟩ : Cond) ∈ GW := gT 582 (by decide +kernel) (by decide +kernel)
theorem gw_511 : (.instanceMethod ⟨"PlayStatesModel", "join", "(II)I"⟩ : Cond) ∈ GW := gT 583 (by decide +kernel) (by decide +kernel)
theorem gw_512 : (.selects "PlayStatesModel" ⟨"PlayStatesModel", "join", "(II)I"⟩ ⟨"PlayStatesModel", "join", "(II)I"⟩ : Cond) ∈ GW := gT 584 (by decide +kernel) (by decide +kernel)
theorem gw_513 : (.code ⟨"PlayStatesModel", "join", "(II)I"⟩ prog_8_method_27_code 7 (some .int) : Cond) ∈ GW := gT 585 (by decide +kernel) (by decide +kernel)
theorem gw_298 : (.methodLink "PlayStatesLaw" 91 ⟨"PlayStates", "save", "(II)I"⟩ : Cond) ∈ GW := gT 328 (by decide +kernel) (by decide +kernel)
theorem gw_299 : (.instanceMethod ⟨"PlayStates", "save", "(II)I"⟩ : Cond) ∈ GW := gT 329 (by decide +kernel) (by decide +kernel)
theorem gw_300 : (.selects "PlayStates" ⟨"PlayStates", "save", "(II)I"⟩ ⟨"PlayStates", "save", "(II)I"⟩ : Cond) ∈ GW := gT 330 (by decide +kernel) (by decide +kernel)
theorem gw_301 : (.code ⟨"PlayStates", "save", "(II)I"⟩ prog_1_method_17_code 7 (some .int) : Cond) ∈ GW := gT 331 (by decide +kernel) (by decide +kernel)
theorem gw_520 : (.methodLink "PlayStatesLaw" 94 ⟨"PlayStatesModel", "save", "(II)I"⟩ : Cond) ∈ GW := gT 594 (by decide +kernel) (by decide +kernel)
theorem gw_521 : (.instanceMethod ⟨"PlayStatesModel", "save", "(II)I"⟩ : Cond) ∈ GW := gT 595 (by decide +kernel) (by decide +kernel)
theorem gw_522 : (.selects "PlayStatesModel" ⟨"PlayStatesModel", "save", "(II)I"⟩ ⟨"PlayStatesModel", "save", "(II)I"⟩ : Cond) ∈ GW := gT 596 (by decide +kernel) (by decide +kernel)
theorem gw_523 : (.code ⟨"PlayStatesModel", "save", "(II)I"⟩ prog_8_method_29_code 7 (some .int) : Cond) ∈ GW := gT 597 (by decide +kernel) (by decide +kernel)
theorem gw_320 : (.methodLink "PlayStatesLaw" 95 ⟨"PlayStates", "unit", "(I)Z"⟩ : Cond) ∈ GW := gT 351 (by decide +kernel) (by decide +kernel)
theorem gw_321 : (.instanceMethod ⟨"PlayStates", "unit", "(I)Z"⟩ : Cond) ∈ GW := gT 352 (by decide +kernel) (by decide +kernel)
theorem gw_322 : (.selects "PlayStates" ⟨"PlayStates", "unit", "(I)Z"⟩ ⟨"PlayStates", "unit", "(I)Z"⟩ : Cond) ∈ GW := gT 353 (by decide +kernel) (by decide +kernel)
theorem gw_323 : (.code ⟨"PlayStates", "unit", "(I)Z"⟩ prog_1_method_18_code 2 (some .boolean) : Cond) ∈ GW := gT 354 (by decide +kernel) (by decide +kernel)
theorem gw_527 : (.methodLink "PlayStatesLaw" 99 ⟨"PlayStatesModel", "unit", "(I)Z"⟩ : Cond) ∈ GW := gT 602 (by decide +kernel) (by decide +kernel)
theorem gw_528 : (.instanceMethod ⟨"PlayStatesModel", "unit", "(I)Z"⟩ : Cond) ∈ GW := gT 603 (by decide +kernel) (by decide +kernel)
theorem gw_529 : (.selects "PlayStatesModel" ⟨"PlayStatesModel", "unit", "(I)Z"⟩ ⟨"PlayStatesModel", "unit", "(I)Z"⟩ : Cond) ∈ GW := gT 604 (by decide +kernel) (by decide +kernel)
theorem gw_530 : (.code ⟨"PlayStatesModel", "unit", "(I)Z"⟩ prog_8_method_30_code 2 (some .boolean) : Cond) ∈ GW := gT 605 (by decide +kernel) (by decide +kernel)
theorem gw_324 : (.methodLink "PlayStatesLaw" 100 ⟨"PlayStates", "load", "()I"⟩ : Cond) ∈ GW := gT 355 (by decide +kernel) (by decide +kernel)
theorem gw_325 : (.instanceMethod ⟨"PlayStates", "load", "()I"⟩ : Cond) ∈ GW := gT 356 (by decide +kernel) (by decide +kernel)
theorem gw_326 : (.selects "PlayStates" ⟨"PlayStates", "load", "()I"⟩ ⟨"PlayStates", "load", "()I"⟩ : Cond) ∈ GW := gT 357 (by decide +kernel) (by decide +kernel)
theorem gw_327 : (.code ⟨"PlayStates", "load", "()I"⟩ prog_1_method_19_code 4 (some .int) : Cond) ∈ GW := gT 358 (by decide +kernel) (by decide +kernel)
theorem gw_531 : (.methodLink "PlayStatesLaw" 103 ⟨"PlayStatesModel", "load", "()I"⟩ : Cond) ∈ GW := gT 606 (by decide +kernel) (by decide +kernel)
theorem gw_532 : (.instanceMethod ⟨"PlayStatesModel", "load", "()I"⟩ : Cond) ∈ GW := gT 607 (by decide +kernel) (by decide +kernel)
theorem gw_533 : (.selects "PlayStatesModel" ⟨"PlayStatesModel", "load", "()I"⟩ ⟨"PlayStatesModel", "load", "()I"⟩ : Cond) ∈ GW := gT 608 (by decide +kernel) (by decide +kernel)
theorem gw_534 : (.code ⟨"PlayStatesModel", "load", "()I"⟩ prog_8_method_34_code 6 (some .int) : Cond) ∈ GW := gT 609 (by decide +kernel) (by decide +kernel)
theorem gw_365 : (.methodLink "PlayStatesLaw" 104 ⟨"PlayStates", "rows", "()I"⟩ : Cond) ∈ GW := gT 403 (by decide +kernel) (by decide +kernel)
theorem gw_366 : (.instanceMethod ⟨"PlayStates", "rows", "()I"⟩ : Cond) ∈ GW := gT 404 (by decide +kernel) (by decide +kernel)
theorem gw_367 : (.selects "PlayStates" ⟨"PlayStates", "rows", "()I"⟩ ⟨"PlayStates", "rows", "()I"⟩ : Cond) ∈ GW := gT 405 (by decide +kernel) (by decide +kernel)
theorem gw_368 : (.code ⟨"PlayStates", "rows", "()I"⟩ prog_1_method_20_code 1 (some .int) : Cond) ∈ GW := gT 406 (by decide +kernel) (by decide +kernel)
theorem gw_544 : (.methodLink "PlayStatesLaw" 107 ⟨"PlayStatesModel", "rows", "()I"⟩ : Cond) ∈ GW := gT 622 (by decide +kernel) (by decide +kernel)
theorem gw_545 : (.instanceMethod ⟨"PlayStatesModel", "rows", "()I"⟩ : Cond) ∈ GW := gT 623 (by decide +kernel) (by decide +kernel)
theorem gw_546 : (.selects "PlayStatesModel" ⟨"PlayStatesModel", "rows", "()I"⟩ ⟨"PlayStatesModel", "rows", "()I"⟩ : Cond) ∈ GW := gT 624 (by decide +kernel) (by decide +kernel)
theorem gw_547 : (.code ⟨"PlayStatesModel", "rows", "()I"⟩ prog_8_method_35_code 1 (some .int) : Cond) ∈ GW := gT 625 (by decide +kernel) (by decide +kernel)
set_option maxHeartbeats 4000000 in
set_option maxRecDepth 100000 in
theorem L_person {p : Program} {l : Launch} {e : Env} {s : State} {m : MethodId} {below : List Frame} {meth : Method} {c : Code} {G : gG} {b L : Nat} {xs : Nat → Int32} {Q : State → Prop} {H : Heap} {locs : List Loc} {cells slots : Nat} {ls : Array Slot} {ax bx i : Nat} {w : va_W} (C0 : lw_At p s m meth c b L xs) (hK : va_K G.1 vwCl (tyL G) s) (hN : nW s) (hL : L ≤ 2561) (hi : i + 5 ≤ L) (hl : lv_has ls 4 (lvL b ax bx (nI i))) (hG : Good G ax bx w) (hW : Wd s G w H locs) (hr1 : cells + 5 ≤ 600000) (hr2 : slots + 172 ≤ 7302250)
    (kk : ∀ (w1 : va_W) (H1 : Heap) (locs1 : List Loc), Good G ax bx w1 → Wd s G w1 H1 locs1 → W p l e room_1 s m #[Value.ref b] below meth c H1 locs1 (cells + 5) (slots + 172) Q (F0 m 772 ls [])) : W p l e room_1 s m #[Value.ref b] below meth c H locs cells slots Q (F0 m 132 ls []) := by
  have hx := C0.1
  have hb := C0.2.1
  obtain ⟨rv, rmC, B, hv, f1, f2, f3, f4, hc, hB⟩ := S_person (l := l) hG 
  obtain ⟨r, rfl⟩ := hv
  refine lv_aload_n hx hb d_law_132 rfl (lv_at hl 1 rfl) ?_
  refine L_call (n := 0) (av := []) (rest := []) C0 hK hN hc hB ?_ ?_ rfl (gV gw_122 gw_123 gw_124 gw_31 gw_125) (by decide +kernel) rfl f1 f2 (by decide) (Good_C hG) hW (by decide) hl.1 ⟨by omega, by omega⟩ d_law_133 (fun w1 H1 locs1 hX1 hW1 => ?_)
  · rfl
  · rfl
  obtain ⟨hm, rmM, w2, g1, g2, g3, g4, hG2, hc2⟩ := hX1
  refine lv_aload_n hx hb d_law_136 rfl (lv_at hl 2 rfl) ?_
  refine L_call (n := 0) (av := []) (rest := [.int r]) (X := fun w => w = w2) C0 hK hN hc2 (fun A H h => ⟨w2, h, rfl⟩) g3 g4 rfl (gV gw_430 gw_431 gw_432 gw_36 gw_433) (by decide +kernel) rfl g1 g2 (by decide) hm hW1 (Nat.le_of_ble_eq_true rfl) hl.1 ⟨by omega, by omega⟩ d_law_137 (fun w3 H3 locs3 hX3 hW3 => ?_)
  subst hX3
  refine lv_icmp_eq (tgt := 772) hx hb d_law_140 (by decide) (fun _ => ?_) (fun h => absurd rfl h)
  exact W.widen (k := cells + 5) (n := slots + 172) (by omega) (by omega) (kk _ _ _ hG2 hW3)

set_option maxHeartbeats 4000000 in
set_option maxRecDepth 100000 in
theorem L_enter {p : Program} {l : Launch} {e : Env} {s : State} {m : MethodId} {below : List Frame} {meth : Method} {c : Code} {G : gG} {b L : Nat} {xs : Nat → Int32} {Q : State → Prop} {H : Heap} {locs : List Loc} {cells slots : Nat} {ls : Array Slot} {ax bx i : Nat} {w : va_W} (C0 : lw_At p s m meth c b L xs) (hK : va_K G.1 vwCl (tyL G) s) (hN : nW s) (hL : L ≤ 2561) (hi : i + 5 ≤ L) (hl : lv_has ls 4 (lvL b ax bx (nI i))) (hG : Good G ax bx w) (hW : Wd s G w H locs) (hr1 : cells + 5 ≤ 600000) (hr2 : slots + 172 ≤ 7302250)
    (kk : ∀ (w1 : va_W) (H1 : Heap) (locs1 : List Loc), Good G ax bx w1 → Wd s G w1 H1 locs1 → W p l e room_1 s m #[Value.ref b] below meth c H1 locs1 (cells + 5) (slots + 172) Q (F0 m 772 ls [])) : W p l e room_1 s m #[Value.ref b] below meth c H locs cells slots Q (F0 m 145 ls []) := by
  have hx := C0.1
  have hb := C0.2.1
  obtain ⟨rv, rmC, B, hv, f1, f2, f3, f4, hc, hB⟩ := S_enter (l := l) hG (xs (i + 1)) (xs (i + 2)) (xs (i + 3))
  obtain ⟨r, rfl⟩ := hv
  refine lv_aload_n hx hb d_law_145 rfl (lv_at hl 1 rfl) ?_
  refine L_ld C0 hL hl hW.2.2 hi 1 (by decide) (by decide) ld_146 ?_
  refine L_ld C0 hL hl hW.2.2 hi 2 (by decide) (by decide) ld_151 ?_
  refine L_ld C0 hL hl hW.2.2 hi 3 (by decide) (by decide) ld_156 ?_
  refine L_call (n := 3) (av := [.int (xs (i + 1)), .int (xs (i + 2)), .int (xs (i + 3))]) (rest := []) C0 hK hN hc hB ?_ ?_ rfl (gV gw_159 gw_160 gw_161 gw_31 gw_162) (by decide +kernel) rfl f1 f2 (by decide) (Good_C hG) hW (by decide) hl.1 ⟨by omega, by omega⟩ d_law_161 (fun w1 H1 locs1 hX1 hW1 => ?_)
  · rfl
  · rfl
  obtain ⟨hm, rmM, w2, g1, g2, g3, g4, hG2, hc2⟩ := hX1
  refine lv_aload_n hx hb d_law_164 rfl (lv_at hl 2 rfl) ?_
  refine L_ld C0 hL hl hW1.2.2 hi 1 (by decide) (by decide) ld_165 ?_
  refine L_ld C0 hL hl hW1.2.2 hi 2 (by decide) (by decide) ld_170 ?_
  refine L_ld C0 hL hl hW1.2.2 hi 3 (by decide) (by decide) ld_175 ?_
  refine L_call (n := 3) (av := [.int (xs (i + 1)), .int (xs (i + 2)), .int (xs (i + 3))]) (rest := [.int r]) (X := fun w => w = w2) C0 hK hN hc2 (fun A H h => ⟨w2, h, rfl⟩) g3 g4 rfl (gV gw_437 gw_438 gw_439 gw_36 gw_440) (by decide +kernel) rfl g1 g2 (by decide) hm hW1 (Nat.le_of_ble_eq_true rfl) hl.1 ⟨by omega, by omega⟩ d_law_180 (fun w3 H3 locs3 hX3 hW3 => ?_)
  subst hX3
  refine lv_icmp_eq (tgt := 772) hx hb d_law_183 (by decide) (fun _ => ?_) (fun h => absurd rfl h)
  exact W.widen (k := cells + 5) (n := slots + 172) (by omega) (by omega) (kk _ _ _ hG2 hW3)

set_option maxHeartbeats 4000000 in
set_option maxRecDepth 100000 in
theorem L_mark {p : Program} {l : Launch} {e : Env} {s : State} {m : MethodId} {below : List Frame} {meth : Method} {c : Code} {G : gG} {b L : Nat} {xs : Nat → Int32} {Q : State → Prop} {H : Heap} {locs : List Loc} {cells slots : Nat} {ls : Array Slot} {ax bx i : Nat} {w : va_W} (C0 : lw_At p s m meth c b L xs) (hK : va_K G.1 vwCl (tyL G) s) (hN : nW s) (hL : L ≤ 2561) (hi : i + 5 ≤ L) (hl : lv_has ls 4 (lvL b ax bx (nI i))) (hG : Good G ax bx w) (hW : Wd s G w H locs) (hr1 : cells + 5 ≤ 600000) (hr2 : slots + 172 ≤ 7302250)
    (kk : ∀ (w1 : va_W) (H1 : Heap) (locs1 : List Loc), Good G ax bx w1 → Wd s G w1 H1 locs1 → W p l e room_1 s m #[Value.ref b] below meth c H1 locs1 (cells + 5) (slots + 172) Q (F0 m 772 ls [])) : W p l e room_1 s m #[Value.ref b] below meth c H locs cells slots Q (F0 m 188 ls []) := by
  have hx := C0.1
  have hb := C0.2.1
  obtain ⟨rv, rmC, B, hv, f1, f2, f3, f4, hc, hB⟩ := S_mark (l := l) hG (xs (i + 1)) (xs (i + 2)) (xs (i + 3)) (boV (xs (i + 4))) (boV_01 _)
  obtain ⟨r, rfl⟩ := hv
  refine lv_aload_n hx hb d_law_188 rfl (lv_at hl 1 rfl) ?_
  refine L_ld C0 hL hl hW.2.2 hi 1 (by decide) (by decide) ld_189 ?_
  refine L_ld C0 hL hl hW.2.2 hi 2 (by decide) (by decide) ld_194 ?_
  refine L_ld C0 hL hl hW.2.2 hi 3 (by decide) (by decide) ld_199 ?_
  refine L_bo C0 hL hl hW.2.2 hi bo_204 ?_
  refine L_call (n := 4) (av := [.int (xs (i + 1)), .int (xs (i + 2)), .int (xs (i + 3)), .int (boV (xs (i + 4)))]) (rest := []) C0 hK hN hc hB ?_ ?_ rfl (gV gw_195 gw_196 gw_197 gw_31 gw_198) (by decide +kernel) rfl f1 f2 (by decide) (Good_C hG) hW (by decide) hl.1 ⟨by omega, by omega⟩ d_law_217 (fun w1 H1 locs1 hX1 hW1 => ?_)
  · rfl
  · rfl
  obtain ⟨hm, rmM, w2, g1, g2, g3, g4, hG2, hc2⟩ := hX1
  refine lv_aload_n hx hb d_law_220 rfl (lv_at hl 2 rfl) ?_
  refine L_ld C0 hL hl hW1.2.2 hi 1 (by decide) (by decide) ld_221 ?_
  refine L_ld C0 hL hl hW1.2.2 hi 2 (by decide) (by decide) ld_226 ?_
  refine L_ld C0 hL hl hW1.2.2 hi 3 (by decide) (by decide) ld_231 ?_
  refine L_bo C0 hL hl hW1.2.2 hi bo_236 ?_
  refine L_call (n := 4) (av := [.int (xs (i + 1)), .int (xs (i + 2)), .int (xs (i + 3)), .int (boV (xs (i + 4)))]) (rest := [.int r]) (X := fun w => w = w2) C0 hK hN hc2 (fun A H h => ⟨w2, h, rfl⟩) g3 g4 rfl (gV gw_453 gw_454 gw_455 gw_36 gw_456) (by decide +kernel) rfl g1 g2 (by decide) hm hW1 (Nat.le_of_ble_eq_true rfl) hl.1 ⟨by omega, by omega⟩ d_law_249 (fun w3 H3 locs3 hX3 hW3 => ?_)
  subst hX3
  refine lv_icmp_eq (tgt := 772) hx hb d_law_252 (by decide) (fun _ => ?_) (fun h => absurd rfl h)
  exact W.widen (k := cells + 5) (n := slots + 172) (by omega) (by omega) (kk _ _ _ hG2 hW3)

set_option maxHeartbeats 4000000 in
set_option maxRecDepth 100000 in
theorem L_undo {p : Program} {l : Launch} {e : Env} {s : State} {m : MethodId} {below : List Frame} {meth : Method} {c : Code} {G : gG} {b L : Nat} {xs : Nat → Int32} {Q : State → Prop} {H : Heap} {locs : List Loc} {cells slots : Nat} {ls : Array Slot} {ax bx i : Nat} {w : va_W} (C0 : lw_At p s m meth c b L xs) (hK : va_K G.1 vwCl (tyL G) s) (hN : nW s) (hL : L ≤ 2561) (hi : i + 5 ≤ L) (hl : lv_has ls 4 (lvL b ax bx (nI i))) (hG : Good G ax bx w) (hW : Wd s G w H locs) (hr1 : cells + 5 ≤ 600000) (hr2 : slots + 172 ≤ 7302250)
    (kk : ∀ (w1 : va_W) (H1 : Heap) (locs1 : List Loc), Good G ax bx w1 → Wd s G w1 H1 locs1 → W p l e room_1 s m #[Value.ref b] below meth c H1 locs1 (cells + 5) (slots + 172) Q (F0 m 772 ls [])) : W p l e room_1 s m #[Value.ref b] below meth c H locs cells slots Q (F0 m 257 ls []) := by
  have hx := C0.1
  have hb := C0.2.1
  obtain ⟨rv, rmC, B, hv, f1, f2, f3, f4, hc, hB⟩ := S_undo (l := l) hG (xs (i + 1))
  obtain ⟨r, rfl⟩ := hv
  refine lv_aload_n hx hb d_law_257 rfl (lv_at hl 1 rfl) ?_
  refine L_ld C0 hL hl hW.2.2 hi 1 (by decide) (by decide) ld_258 ?_
  refine L_call (n := 1) (av := [.int (xs (i + 1))]) (rest := []) C0 hK hN hc hB ?_ ?_ rfl (gV gw_202 gw_203 gw_204 gw_31 gw_205) (by decide +kernel) rfl f1 f2 (by decide) (Good_C hG) hW (by decide) hl.1 ⟨by omega, by omega⟩ d_law_263 (fun w1 H1 locs1 hX1 hW1 => ?_)
  · rfl
  · rfl
  obtain ⟨hm, rmM, w2, g1, g2, g3, g4, hG2, hc2⟩ := hX1
  refine lv_aload_n hx hb d_law_266 rfl (lv_at hl 2 rfl) ?_
  refine L_ld C0 hL hl hW1.2.2 hi 1 (by decide) (by decide) ld_267 ?_
  refine L_call (n := 1) (av := [.int (xs (i + 1))]) (rest := [.int r]) (X := fun w => w = w2) C0 hK hN hc2 (fun A H h => ⟨w2, h, rfl⟩) g3 g4 rfl (gV gw_457 gw_458 gw_459 gw_36 gw_460) (by decide +kernel) rfl g1 g2 (by decide) hm hW1 (Nat.le_of_ble_eq_true rfl) hl.1 ⟨by omega, by omega⟩ d_law_272 (fun w3 H3 locs3 hX3 hW3 => ?_)
  subst hX3
  refine lv_icmp_eq (tgt := 772) hx hb d_law_275 (by decide) (fun _ => ?_) (fun h => absurd rfl h)
  exact W.widen (k := cells + 5) (n := slots + 172) (by omega) (by omega) (kk _ _ _ hG2 hW3)

set_option maxHeartbeats 4000000 in
set_option maxRecDepth 100000 in
theorem L_redo {p : Program} {l : Launch} {e : Env} {s : State} {m : MethodId} {below : List Frame} {meth : Method} {c : Code} {G : gG} {b L : Nat} {xs : Nat → Int32} {Q : State → Prop} {H : Heap} {locs : List Loc} {cells slots : Nat} {ls : Array Slot} {ax bx i : Nat} {w : va_W} (C0 : lw_At p s m meth c b L xs) (hK : va_K G.1 vwCl (tyL G) s) (hN : nW s) (hL : L ≤ 2561) (hi : i + 5 ≤ L) (hl : lv_has ls 4 (lvL b ax bx (nI i))) (hG : Good G ax bx w) (hW : Wd s G w H locs) (hr1 : cells + 5 ≤ 600000) (hr2 : slots + 172 ≤ 7302250)
    (kk : ∀ (w1 : va_W) (H1 : Heap) (locs1 : List Loc), Good G ax bx w1 → Wd s G w1 H1 locs1 → W p l e room_1 s m #[Value.ref b] below meth c H1 locs1 (cells + 5) (slots + 172) Q (F0 m 772 ls [])) : W p l e room_1 s m #[Value.ref b] below meth c H locs cells slots Q (F0 m 280 ls []) := by
  have hx := C0.1
  have hb := C0.2.1
  obtain ⟨rv, rmC, B, hv, f1, f2, f3, f4, hc, hB⟩ := S_redo (l := l) hG (xs (i + 1)) (xs (i + 2))
  obtain ⟨r, rfl⟩ := hv
  refine lv_aload_n hx hb d_law_280 rfl (lv_at hl 1 rfl) ?_
  refine L_ld C0 hL hl hW.2.2 hi 1 (by decide) (by decide) ld_281 ?_
  refine L_ld C0 hL hl hW.2.2 hi 2 (by decide) (by decide) ld_286 ?_
  refine L_call (n := 2) (av := [.int (xs (i + 1)), .int (xs (i + 2))]) (rest := []) C0 hK hN hc hB ?_ ?_ rfl (gV gw_210 gw_211 gw_212 gw_31 gw_213) (by decide +kernel) rfl f1 f2 (by decide) (Good_C hG) hW (by decide) hl.1 ⟨by omega, by omega⟩ d_law_291 (fun w1 H1 locs1 hX1 hW1 => ?_)
  · rfl
  · rfl
  obtain ⟨hm, rmM, w2, g1, g2, g3, g4, hG2, hc2⟩ := hX1
  refine lv_aload_n hx hb d_law_294 rfl (lv_at hl 2 rfl) ?_
  refine L_ld C0 hL hl hW1.2.2 hi 1 (by decide) (by decide) ld_295 ?_
  refine L_ld C0 hL hl hW1.2.2 hi 2 (by decide) (by decide) ld_300 ?_
  refine L_call (n := 2) (av := [.int (xs (i + 1)), .int (xs (i + 2))]) (rest := [.int r]) (X := fun w => w = w2) C0 hK hN hc2 (fun A H h => ⟨w2, h, rfl⟩) g3 g4 rfl (gV gw_461 gw_462 gw_463 gw_36 gw_464) (by decide +kernel) rfl g1 g2 (by decide) hm hW1 (Nat.le_of_ble_eq_true rfl) hl.1 ⟨by omega, by omega⟩ d_law_305 (fun w3 H3 locs3 hX3 hW3 => ?_)
  subst hX3
  refine lv_icmp_eq (tgt := 772) hx hb d_law_308 (by decide) (fun _ => ?_) (fun h => absurd rfl h)
  exact W.widen (k := cells + 5) (n := slots + 172) (by omega) (by omega) (kk _ _ _ hG2 hW3)

set_option maxHeartbeats 4000000 in
set_option maxRecDepth 100000 in
theorem L_branches {p : Program} {l : Launch} {e : Env} {s : State} {m : MethodId} {below : List Frame} {meth : Method} {c : Code} {G : gG} {b L : Nat} {xs : Nat → Int32} {Q : State → Prop} {H : Heap} {locs : List Loc} {cells slots : Nat} {ls : Array Slot} {ax bx i : Nat} {w : va_W} (C0 : lw_At p s m meth c b L xs) (hK : va_K G.1 vwCl (tyL G) s) (hN : nW s) (hL : L ≤ 2561) (hi : i + 5 ≤ L) (hl : lv_has ls 4 (lvL b ax bx (nI i))) (hG : Good G ax bx w) (hW : Wd s G w H locs) (hr1 : cells + 5 ≤ 600000) (hr2 : slots + 172 ≤ 7302250)
    (kk : ∀ (w1 : va_W) (H1 : Heap) (locs1 : List Loc), Good G ax bx w1 → Wd s G w1 H1 locs1 → W p l e room_1 s m #[Value.ref b] below meth c H1 locs1 (cells + 5) (slots + 172) Q (F0 m 772 ls [])) : W p l e room_1 s m #[Value.ref b] below meth c H locs cells slots Q (F0 m 313 ls []) := by
  have hx := C0.1
  have hb := C0.2.1
  obtain ⟨rv, rmC, B, hv, f1, f2, f3, f4, hc, hB⟩ := S_branches (l := l) hG (xs (i + 1))
  obtain ⟨r, rfl⟩ := hv
  refine lv_aload_n hx hb d_law_313 rfl (lv_at hl 1 rfl) ?_
  refine L_ld C0 hL hl hW.2.2 hi 1 (by decide) (by decide) ld_314 ?_
  refine L_call (n := 1) (av := [.int (xs (i + 1))]) (rest := []) C0 hK hN hc hB ?_ ?_ rfl (gV gw_218 gw_219 gw_220 gw_31 gw_221) (by decide +kernel) rfl f1 f2 (by decide) (Good_C hG) hW (by decide) hl.1 ⟨by omega, by omega⟩ d_law_319 (fun w1 H1 locs1 hX1 hW1 => ?_)
  · rfl
  · rfl
  obtain ⟨hm, rmM, w2, g1, g2, g3, g4, hG2, hc2⟩ := hX1
  refine lv_aload_n hx hb d_law_322 rfl (lv_at hl 2 rfl) ?_
  refine L_ld C0 hL hl hW1.2.2 hi 1 (by decide) (by decide) ld_323 ?_
  refine L_call (n := 1) (av := [.int (xs (i + 1))]) (rest := [.int r]) (X := fun w => w = w2) C0 hK hN hc2 (fun A H h => ⟨w2, h, rfl⟩) g3 g4 rfl (gV gw_468 gw_469 gw_470 gw_36 gw_471) (by decide +kernel) rfl g1 g2 (by decide) hm hW1 (Nat.le_of_ble_eq_true rfl) hl.1 ⟨by omega, by omega⟩ d_law_328 (fun w3 H3 locs3 hX3 hW3 => ?_)
  subst hX3
  refine lv_icmp_eq (tgt := 772) hx hb d_law_331 (by decide) (fun _ => ?_) (fun h => absurd rfl h)
  exact W.widen (k := cells + 5) (n := slots + 172) (by omega) (by omega) (kk _ _ _ hG2 hW3)

set_option maxHeartbeats 4000000 in
set_option maxRecDepth 100000 in
theorem L_at {p : Program} {l : Launch} {e : Env} {s : State} {m : MethodId} {below : List Frame} {meth : Method} {c : Code} {G : gG} {b L : Nat} {xs : Nat → Int32} {Q : State → Prop} {H : Heap} {locs : List Loc} {cells slots : Nat} {ls : Array Slot} {ax bx i : Nat} {w : va_W} (C0 : lw_At p s m meth c b L xs) (hK : va_K G.1 vwCl (tyL G) s) (hN : nW s) (hL : L ≤ 2561) (hi : i + 5 ≤ L) (hl : lv_has ls 4 (lvL b ax bx (nI i))) (hG : Good G ax bx w) (hW : Wd s G w H locs) (hr1 : cells + 5 ≤ 600000) (hr2 : slots + 172 ≤ 7302250)
    (kk : ∀ (w1 : va_W) (H1 : Heap) (locs1 : List Loc), Good G ax bx w1 → Wd s G w1 H1 locs1 → W p l e room_1 s m #[Value.ref b] below meth c H1 locs1 (cells + 5) (slots + 172) Q (F0 m 772 ls [])) : W p l e room_1 s m #[Value.ref b] below meth c H locs cells slots Q (F0 m 336 ls []) := by
  have hx := C0.1
  have hb := C0.2.1
  obtain ⟨rv, rmC, B, hv, f1, f2, f3, f4, hc, hB⟩ := S_at (l := l) hG (xs (i + 1)) (xs (i + 2))
  obtain ⟨r, rfl⟩ := hv
  refine lv_aload_n hx hb d_law_336 rfl (lv_at hl 1 rfl) ?_
  refine L_ld C0 hL hl hW.2.2 hi 1 (by decide) (by decide) ld_337 ?_
  refine L_ld C0 hL hl hW.2.2 hi 2 (by decide) (by decide) ld_342 ?_
  refine L_call (n := 2) (av := [.int (xs (i + 1)), .int (xs (i + 2))]) (rest := []) C0 hK hN hc hB ?_ ?_ rfl (gV gw_226 gw_227 gw_228 gw_31 gw_229) (by decide +kernel) rfl f1 f2 (by decide) (Good_C hG) hW (by decide) hl.1 ⟨by omega, by omega⟩ d_law_347 (fun w1 H1 locs1 hX1 hW1 => ?_)
  · rfl
  · rfl
  obtain ⟨hm, rmM, w2, g1, g2, g3, g4, hG2, hc2⟩ := hX1
  refine lv_aload_n hx hb d_law_350 rfl (lv_at hl 2 rfl) ?_
  refine L_ld C0 hL hl hW1.2.2 hi 1 (by decide) (by decide) ld_351 ?_
  refine L_ld C0 hL hl hW1.2.2 hi 2 (by decide) (by decide) ld_356 ?_
  refine L_call (n := 2) (av := [.int (xs (i + 1)), .int (xs (i + 2))]) (rest := [.int r]) (X := fun w => w = w2) C0 hK hN hc2 (fun A H h => ⟨w2, h, rfl⟩) g3 g4 rfl (gV gw_472 gw_473 gw_474 gw_36 gw_475) (by decide +kernel) rfl g1 g2 (by decide) hm hW1 (Nat.le_of_ble_eq_true rfl) hl.1 ⟨by omega, by omega⟩ d_law_361 (fun w3 H3 locs3 hX3 hW3 => ?_)
  subst hX3
  refine lv_icmp_eq (tgt := 772) hx hb d_law_364 (by decide) (fun _ => ?_) (fun h => absurd rfl h)
  exact W.widen (k := cells + 5) (n := slots + 172) (by omega) (by omega) (kk _ _ _ hG2 hW3)

set_option maxHeartbeats 4000000 in
set_option maxRecDepth 100000 in
theorem L_marks {p : Program} {l : Launch} {e : Env} {s : State} {m : MethodId} {below : List Frame} {meth : Method} {c : Code} {G : gG} {b L : Nat} {xs : Nat → Int32} {Q : State → Prop} {H : Heap} {locs : List Loc} {cells slots : Nat} {ls : Array Slot} {ax bx i : Nat} {w : va_W} (C0 : lw_At p s m meth c b L xs) (hK : va_K G.1 vwCl (tyL G) s) (hN : nW s) (hL : L ≤ 2561) (hi : i + 5 ≤ L) (hl : lv_has ls 4 (lvL b ax bx (nI i))) (hG : Good G ax bx w) (hW : Wd s G w H locs) (hr1 : cells + 5 ≤ 600000) (hr2 : slots + 172 ≤ 7302250)
    (kk : ∀ (w1 : va_W) (H1 : Heap) (locs1 : List Loc), Good G ax bx w1 → Wd s G w1 H1 locs1 → W p l e room_1 s m #[Value.ref b] below meth c H1 locs1 (cells + 5) (slots + 172) Q (F0 m 772 ls [])) : W p l e room_1 s m #[Value.ref b] below meth c H locs cells slots Q (F0 m 369 ls []) := by
  have hx := C0.1
  have hb := C0.2.1
  obtain ⟨rv, rmC, B, hv, f1, f2, f3, f4, hc, hB⟩ := S_marks (l := l) hG (xs (i + 1)) (xs (i + 2))
  obtain ⟨r, rfl⟩ := hv
  refine lv_aload_n hx hb d_law_369 rfl (lv_at hl 1 rfl) ?_
  refine L_ld C0 hL hl hW.2.2 hi 1 (by decide) (by decide) ld_370 ?_
  refine L_ld C0 hL hl hW.2.2 hi 2 (by decide) (by decide) ld_375 ?_
  refine L_call (n := 2) (av := [.int (xs (i + 1)), .int (xs (i + 2))]) (rest := []) C0 hK hN hc hB ?_ ?_ rfl (gV gw_230 gw_231 gw_232 gw_31 gw_233) (by decide +kernel) rfl f1 f2 (by decide) (Good_C hG) hW (by decide) hl.1 ⟨by omega, by omega⟩ d_law_380 (fun w1 H1 locs1 hX1 hW1 => ?_)
  · rfl
  · rfl
  obtain ⟨hm, rmM, w2, g1, g2, g3, g4, hG2, hc2⟩ := hX1
  refine lv_aload_n hx hb d_law_383 rfl (lv_at hl 2 rfl) ?_
  refine L_ld C0 hL hl hW1.2.2 hi 1 (by decide) (by decide) ld_384 ?_
  refine L_ld C0 hL hl hW1.2.2 hi 2 (by decide) (by decide) ld_389 ?_
  refine L_call (n := 2) (av := [.int (xs (i + 1)), .int (xs (i + 2))]) (rest := [.int r]) (X := fun w => w = w2) C0 hK hN hc2 (fun A H h => ⟨w2, h, rfl⟩) g3 g4 rfl (gV gw_476 gw_477 gw_478 gw_36 gw_479) (by decide +kernel) rfl g1 g2 (by decide) hm hW1 (Nat.le_of_ble_eq_true rfl) hl.1 ⟨by omega, by omega⟩ d_law_394 (fun w3 H3 locs3 hX3 hW3 => ?_)
  subst hX3
  refine lv_icmp_eq (tgt := 772) hx hb d_law_397 (by decide) (fun _ => ?_) (fun h => absurd rfl h)
  exact W.widen (k := cells + 5) (n := slots + 172) (by omega) (by omega) (kk _ _ _ hG2 hW3)

set_option maxHeartbeats 4000000 in
set_option maxRecDepth 100000 in
theorem L_truth {p : Program} {l : Launch} {e : Env} {s : State} {m : MethodId} {below : List Frame} {meth : Method} {c : Code} {G : gG} {b L : Nat} {xs : Nat → Int32} {Q : State → Prop} {H : Heap} {locs : List Loc} {cells slots : Nat} {ls : Array Slot} {ax bx i : Nat} {w : va_W} (C0 : lw_At p s m meth c b L xs) (hK : va_K G.1 vwCl (tyL G) s) (hN : nW s) (hL : L ≤ 2561) (hi : i + 5 ≤ L) (hl : lv_has ls 4 (lvL b ax bx (nI i))) (hG : Good G ax bx w) (hW : Wd s G w H locs) (hr1 : cells + 5 ≤ 600000) (hr2 : slots + 172 ≤ 7302250)
    (kk : ∀ (w1 : va_W) (H1 : Heap) (locs1 : List Loc), Good G ax bx w1 → Wd s G w1 H1 locs1 → W p l e room_1 s m #[Value.ref b] below meth c H1 locs1 (cells + 5) (slots + 172) Q (F0 m 772 ls [])) : W p l e room_1 s m #[Value.ref b] below meth c H locs cells slots Q (F0 m 402 ls []) := by
  have hx := C0.1
  have hb := C0.2.1
  obtain ⟨rv, rmC, B, hv, f1, f2, f3, f4, hc, hB⟩ := S_truth (l := l) hG (xs (i + 1)) (xs (i + 2))
  obtain ⟨r, rfl⟩ := hv
  refine lv_aload_n hx hb d_law_402 rfl (lv_at hl 1 rfl) ?_
  refine L_ld C0 hL hl hW.2.2 hi 1 (by decide) (by decide) ld_403 ?_
  refine L_ld C0 hL hl hW.2.2 hi 2 (by decide) (by decide) ld_408 ?_
  refine L_call (n := 2) (av := [.int (xs (i + 1)), .int (xs (i + 2))]) (rest := []) C0 hK hN hc hB ?_ ?_ rfl (gV gw_234 gw_235 gw_236 gw_31 gw_237) (by decide +kernel) rfl f1 f2 (by decide) (Good_C hG) hW (by decide) hl.1 ⟨by omega, by omega⟩ d_law_413 (fun w1 H1 locs1 hX1 hW1 => ?_)
  · rfl
  · rfl
  obtain ⟨hm, rmM, w2, g1, g2, g3, g4, hG2, hc2⟩ := hX1
  refine lv_aload_n hx hb d_law_416 rfl (lv_at hl 2 rfl) ?_
  refine L_ld C0 hL hl hW1.2.2 hi 1 (by decide) (by decide) ld_417 ?_
  refine L_ld C0 hL hl hW1.2.2 hi 2 (by decide) (by decide) ld_422 ?_
  refine L_call (n := 2) (av := [.int (xs (i + 1)), .int (xs (i + 2))]) (rest := [.int r]) (X := fun w => w = w2) C0 hK hN hc2 (fun A H h => ⟨w2, h, rfl⟩) g3 g4 rfl (gV gw_480 gw_481 gw_482 gw_36 gw_483) (by decide +kernel) rfl g1 g2 (by decide) hm hW1 (Nat.le_of_ble_eq_true rfl) hl.1 ⟨by omega, by omega⟩ d_law_427 (fun w3 H3 locs3 hX3 hW3 => ?_)
  subst hX3
  refine lv_icmp_eq (tgt := 772) hx hb d_law_430 (by decide) (fun _ => ?_) (fun h => absurd rfl h)
  exact W.widen (k := cells + 5) (n := slots + 172) (by omega) (by omega) (kk _ _ _ hG2 hW3)

set_option maxHeartbeats 4000000 in
set_option maxRecDepth 100000 in
theorem L_wrong {p : Program} {l : Launch} {e : Env} {s : State} {m : MethodId} {below : List Frame} {meth : Method} {c : Code} {G : gG} {b L : Nat} {xs : Nat → Int32} {Q : State → Prop} {H : Heap} {locs : List Loc} {cells slots : Nat} {ls : Array Slot} {ax bx i : Nat} {w : va_W} (C0 : lw_At p s m meth c b L xs) (hK : va_K G.1 vwCl (tyL G) s) (hN : nW s) (hL : L ≤ 2561) (hi : i + 5 ≤ L) (hl : lv_has ls 4 (lvL b ax bx (nI i))) (hG : Good G ax bx w) (hW : Wd s G w H locs) (hr1 : cells + 5 ≤ 600000) (hr2 : slots + 172 ≤ 7302250)
    (kk : ∀ (w1 : va_W) (H1 : Heap) (locs1 : List Loc), Good G ax bx w1 → Wd s G w1 H1 locs1 → W p l e room_1 s m #[Value.ref b] below meth c H1 locs1 (cells + 5) (slots + 172) Q (F0 m 772 ls [])) : W p l e room_1 s m #[Value.ref b] below meth c H locs cells slots Q (F0 m 435 ls []) := by
  have hx := C0.1
  have hb := C0.2.1
  obtain ⟨rv, rmC, B, hv, f1, f2, f3, f4, hc, hB⟩ := S_wrong (l := l) hG (xs (i + 1))
  obtain ⟨r, rfl⟩ := hv
  refine lv_aload_n hx hb d_law_435 rfl (lv_at hl 1 rfl) ?_
  refine L_ld C0 hL hl hW.2.2 hi 1 (by decide) (by decide) ld_436 ?_
  refine L_call (n := 1) (av := [.int (xs (i + 1))]) (rest := []) C0 hK hN hc hB ?_ ?_ rfl (gV gw_238 gw_239 gw_240 gw_31 gw_241) (by decide +kernel) rfl f1 f2 (by decide) (Good_C hG) hW (by decide) hl.1 ⟨by omega, by omega⟩ d_law_441 (fun w1 H1 locs1 hX1 hW1 => ?_)
  · rfl
  · rfl
  obtain ⟨hm, rmM, w2, g1, g2, g3, g4, hG2, hc2⟩ := hX1
  refine lv_aload_n hx hb d_law_444 rfl (lv_at hl 2 rfl) ?_
  refine L_ld C0 hL hl hW1.2.2 hi 1 (by decide) (by decide) ld_445 ?_
  refine L_call (n := 1) (av := [.int (xs (i + 1))]) (rest := [.int r]) (X := fun w => w = w2) C0 hK hN hc2 (fun A H h => ⟨w2, h, rfl⟩) g3 g4 rfl (gV gw_484 gw_485 gw_486 gw_36 gw_487) (by decide +kernel) rfl g1 g2 (by decide) hm hW1 (Nat.le_of_ble_eq_true rfl) hl.1 ⟨by omega, by omega⟩ d_law_450 (fun w3 H3 locs3 hX3 hW3 => ?_)
  subst hX3
  refine lv_icmp_eq (tgt := 772) hx hb d_law_453 (by decide) (fun _ => ?_) (fun h => absurd rfl h)
  exact W.widen (k := cells + 5) (n := slots + 172) (by omega) (by omega) (kk _ _ _ hG2 hW3)

set_option maxHeartbeats 4000000 in
set_option maxRecDepth 100000 in
theorem L_help {p : Program} {l : Launch} {e : Env} {s : State} {m : MethodId} {below : List Frame} {meth : Method} {c : Code} {G : gG} {b L : Nat} {xs : Nat → Int32} {Q : State → Prop} {H : Heap} {locs : List Loc} {cells slots : Nat} {ls : Array Slot} {ax bx i : Nat} {w : va_W} (C0 : lw_At p s m meth c b L xs) (hK : va_K G.1 vwCl (tyL G) s) (hN : nW s) (hL : L ≤ 2561) (hi : i + 5 ≤ L) (hl : lv_has ls 4 (lvL b ax bx (nI i))) (hG : Good G ax bx w) (hW : Wd s G w H locs) (hr1 : cells + 5 ≤ 600000) (hr2 : slots + 172 ≤ 7302250)
    (kk : ∀ (w1 : va_W) (H1 : Heap) (locs1 : List Loc), Good G ax bx w1 → Wd s G w1 H1 locs1 → W p l e room_1 s m #[Value.ref b] below meth c H1 locs1 (cells + 5) (slots + 172) Q (F0 m 772 ls [])) : W p l e room_1 s m #[Value.ref b] below meth c H locs cells slots Q (F0 m 458 ls []) := by
  have hx := C0.1
  have hb := C0.2.1
  obtain ⟨rv, rmC, B, hv, f1, f2, f3, f4, hc, hB⟩ := S_help (l := l) hG (xs (i + 1))
  obtain ⟨r, rfl⟩ := hv
  refine lv_aload_n hx hb d_law_458 rfl (lv_at hl 1 rfl) ?_
  refine L_ld C0 hL hl hW.2.2 hi 1 (by decide) (by decide) ld_459 ?_
  refine L_call (n := 1) (av := [.int (xs (i + 1))]) (rest := []) C0 hK hN hc hB ?_ ?_ rfl (gV gw_245 gw_246 gw_247 gw_31 gw_248) (by decide +kernel) rfl f1 f2 (by decide) (Good_C hG) hW (by decide) hl.1 ⟨by omega, by omega⟩ d_law_464 (fun w1 H1 locs1 hX1 hW1 => ?_)
  · rfl
  · rfl
  obtain ⟨hm, rmM, w2, g1, g2, g3, g4, hG2, hc2⟩ := hX1
  refine lv_aload_n hx hb d_law_467 rfl (lv_at hl 2 rfl) ?_
  refine L_ld C0 hL hl hW1.2.2 hi 1 (by decide) (by decide) ld_468 ?_
  refine L_call (n := 1) (av := [.int (xs (i + 1))]) (rest := [.int r]) (X := fun w => w = w2) C0 hK hN hc2 (fun A H h => ⟨w2, h, rfl⟩) g3 g4 rfl (gV gw_488 gw_489 gw_490 gw_36 gw_491) (by decide +kernel) rfl g1 g2 (by decide) hm hW1 (Nat.le_of_ble_eq_true rfl) hl.1 ⟨by omega, by omega⟩ d_law_473 (fun w3 H3 locs3 hX3 hW3 => ?_)
  subst hX3
  refine lv_icmp_eq (tgt := 772) hx hb d_law_476 (by decide) (fun _ => ?_) (fun h => absurd rfl h)
  exact W.widen (k := cells + 5) (n := slots + 172) (by omega) (by omega) (kk _ _ _ hG2 hW3)

set_option maxHeartbeats 4000000 in
set_option maxRecDepth 100000 in
theorem L_helps {p : Program} {l : Launch} {e : Env} {s : State} {m : MethodId} {below : List Frame} {meth : Method} {c : Code} {G : gG} {b L : Nat} {xs : Nat → Int32} {Q : State → Prop} {H : Heap} {locs : List Loc} {cells slots : Nat} {ls : Array Slot} {ax bx i : Nat} {w : va_W} (C0 : lw_At p s m meth c b L xs) (hK : va_K G.1 vwCl (tyL G) s) (hN : nW s) (hL : L ≤ 2561) (hi : i + 5 ≤ L) (hl : lv_has ls 4 (lvL b ax bx (nI i))) (hG : Good G ax bx w) (hW : Wd s G w H locs) (hr1 : cells + 5 ≤ 600000) (hr2 : slots + 172 ≤ 7302250)
    (kk : ∀ (w1 : va_W) (H1 : Heap) (locs1 : List Loc), Good G ax bx w1 → Wd s G w1 H1 locs1 → W p l e room_1 s m #[Value.ref b] below meth c H1 locs1 (cells + 5) (slots + 172) Q (F0 m 772 ls [])) : W p l e room_1 s m #[Value.ref b] below meth c H locs cells slots Q (F0 m 481 ls []) := by
  have hx := C0.1
  have hb := C0.2.1
  obtain ⟨rv, rmC, B, hv, f1, f2, f3, f4, hc, hB⟩ := S_helps (l := l) hG (xs (i + 1))
  obtain ⟨r, rfl⟩ := hv
  refine lv_aload_n hx hb d_law_481 rfl (lv_at hl 1 rfl) ?_
  refine L_ld C0 hL hl hW.2.2 hi 1 (by decide) (by decide) ld_482 ?_
  refine L_call (n := 1) (av := [.int (xs (i + 1))]) (rest := []) C0 hK hN hc hB ?_ ?_ rfl (gV gw_252 gw_253 gw_254 gw_31 gw_255) (by decide +kernel) rfl f1 f2 (by decide) (Good_C hG) hW (by decide) hl.1 ⟨by omega, by omega⟩ d_law_487 (fun w1 H1 locs1 hX1 hW1 => ?_)
  · rfl
  · rfl
  obtain ⟨hm, rmM, w2, g1, g2, g3, g4, hG2, hc2⟩ := hX1
  refine lv_aload_n hx hb d_law_490 rfl (lv_at hl 2 rfl) ?_
  refine L_ld C0 hL hl hW1.2.2 hi 1 (by decide) (by decide) ld_491 ?_
  refine L_call (n := 1) (av := [.int (xs (i + 1))]) (rest := [.int r]) (X := fun w => w = w2) C0 hK hN hc2 (fun A H h => ⟨w2, h, rfl⟩) g3 g4 rfl (gV gw_492 gw_493 gw_494 gw_36 gw_495) (by decide +kernel) rfl g1 g2 (by decide) hm hW1 (Nat.le_of_ble_eq_true rfl) hl.1 ⟨by omega, by omega⟩ d_law_496 (fun w3 H3 locs3 hX3 hW3 => ?_)
  subst hX3
  refine lv_icmp_eq (tgt := 772) hx hb d_law_499 (by decide) (fun _ => ?_) (fun h => absurd rfl h)
  exact W.widen (k := cells + 5) (n := slots + 172) (by omega) (by omega) (kk _ _ _ hG2 hW3)

set_option maxHeartbeats 4000000 in
set_option maxRecDepth 100000 in
theorem L_timer {p : Program} {l : Launch} {e : Env} {s : State} {m : MethodId} {below : List Frame} {meth : Method} {c : Code} {G : gG} {b L : Nat} {xs : Nat → Int32} {Q : State → Prop} {H : Heap} {locs : List Loc} {cells slots : Nat} {ls : Array Slot} {ax bx i : Nat} {w : va_W} (C0 : lw_At p s m meth c b L xs) (hK : va_K G.1 vwCl (tyL G) s) (hN : nW s) (hL : L ≤ 2561) (hi : i + 5 ≤ L) (hl : lv_has ls 4 (lvL b ax bx (nI i))) (hG : Good G ax bx w) (hW : Wd s G w H locs) (hr1 : cells + 5 ≤ 600000) (hr2 : slots + 172 ≤ 7302250)
    (kk : ∀ (w1 : va_W) (H1 : Heap) (locs1 : List Loc), Good G ax bx w1 → Wd s G w1 H1 locs1 → W p l e room_1 s m #[Value.ref b] below meth c H1 locs1 (cells + 5) (slots + 172) Q (F0 m 772 ls [])) : W p l e room_1 s m #[Value.ref b] below meth c H locs cells slots Q (F0 m 504 ls []) := by
  have hx := C0.1
  have hb := C0.2.1
  obtain ⟨rv, rmC, B, hv, f1, f2, f3, f4, hc, hB⟩ := S_timer (l := l) hG (xs (i + 1)) (lgV (xs (i + 2)) (xs (i + 3))) (boV (xs (i + 4))) (boV_01 _)
  obtain ⟨r, rfl⟩ := hv
  refine lv_aload_n hx hb d_law_504 rfl (lv_at hl 1 rfl) ?_
  refine L_ld C0 hL hl hW.2.2 hi 1 (by decide) (by decide) ld_505 ?_
  refine L_lg C0 hL hl hW.2.2 hi lg_510 ?_
  refine L_bo C0 hL hl hW.2.2 hi bo_530 ?_
  refine L_call (n := 3) (av := [.int (xs (i + 1)), .long (lgV (xs (i + 2)) (xs (i + 3))), .int (boV (xs (i + 4)))]) (rest := []) C0 hK hN hc hB ?_ ?_ rfl (gV gw_256 gw_257 gw_258 gw_31 gw_259) (by decide +kernel) rfl f1 f2 (by decide) (Good_C hG) hW (by decide) hl.1 ⟨by omega, by omega⟩ d_law_543 (fun w1 H1 locs1 hX1 hW1 => ?_)
  · rfl
  · rfl
  obtain ⟨hm, rmM, w2, g1, g2, g3, g4, hG2, hc2⟩ := hX1
  refine lv_aload_n hx hb d_law_546 rfl (lv_at hl 2 rfl) ?_
  refine L_ld C0 hL hl hW1.2.2 hi 1 (by decide) (by decide) ld_547 ?_
  refine L_lg C0 hL hl hW1.2.2 hi lg_552 ?_
  refine L_bo C0 hL hl hW1.2.2 hi bo_572 ?_
  refine L_call (n := 3) (av := [.int (xs (i + 1)), .long (lgV (xs (i + 2)) (xs (i + 3))), .int (boV (xs (i + 4)))]) (rest := [.int r]) (X := fun w => w = w2) C0 hK hN hc2 (fun A H h => ⟨w2, h, rfl⟩) g3 g4 rfl (gV gw_496 gw_497 gw_498 gw_36 gw_499) (by decide +kernel) rfl g1 g2 (by decide) hm hW1 (Nat.le_of_ble_eq_true rfl) hl.1 ⟨by omega, by omega⟩ d_law_585 (fun w3 H3 locs3 hX3 hW3 => ?_)
  subst hX3
  refine lv_icmp_eq (tgt := 772) hx hb d_law_588 (by decide) (fun _ => ?_) (fun h => absurd rfl h)
  exact W.widen (k := cells + 5) (n := slots + 172) (by omega) (by omega) (kk _ _ _ hG2 hW3)

set_option maxHeartbeats 4000000 in
set_option maxRecDepth 100000 in
theorem L_time {p : Program} {l : Launch} {e : Env} {s : State} {m : MethodId} {below : List Frame} {meth : Method} {c : Code} {G : gG} {b L : Nat} {xs : Nat → Int32} {Q : State → Prop} {H : Heap} {locs : List Loc} {cells slots : Nat} {ls : Array Slot} {ax bx i : Nat} {w : va_W} (C0 : lw_At p s m meth c b L xs) (hK : va_K G.1 vwCl (tyL G) s) (hN : nW s) (hL : L ≤ 2561) (hi : i + 5 ≤ L) (hl : lv_has ls 4 (lvL b ax bx (nI i))) (hG : Good G ax bx w) (hW : Wd s G w H locs) (hr1 : cells + 5 ≤ 600000) (hr2 : slots + 172 ≤ 7302250)
    (kk : ∀ (w1 : va_W) (H1 : Heap) (locs1 : List Loc), Good G ax bx w1 → Wd s G w1 H1 locs1 → W p l e room_1 s m #[Value.ref b] below meth c H1 locs1 (cells + 5) (slots + 172) Q (F0 m 772 ls [])) : W p l e room_1 s m #[Value.ref b] below meth c H locs cells slots Q (F0 m 593 ls []) := by
  have hx := C0.1
  have hb := C0.2.1
  obtain ⟨rv, rmC, B, hv, f1, f2, f3, f4, hc, hB⟩ := S_time (l := l) hG (xs (i + 1)) (lgV (xs (i + 2)) (xs (i + 3)))
  obtain ⟨r, rfl⟩ := hv
  refine lv_aload_n hx hb d_law_593 rfl (lv_at hl 1 rfl) ?_
  refine L_ld C0 hL hl hW.2.2 hi 1 (by decide) (by decide) ld_594 ?_
  refine L_lg C0 hL hl hW.2.2 hi lg_599 ?_
  refine L_call (n := 2) (av := [.int (xs (i + 1)), .long (lgV (xs (i + 2)) (xs (i + 3)))]) (rest := []) C0 hK hN hc hB ?_ ?_ rfl (gV gw_272 gw_273 gw_274 gw_31 gw_275) (by decide +kernel) rfl f1 f2 (by decide) (Good_C hG) hW (by decide) hl.1 ⟨by omega, by omega⟩ d_law_619 (fun w1 H1 locs1 hX1 hW1 => ?_)
  · rfl
  · rfl
  obtain ⟨hm, rmM, w2, g1, g2, g3, g4, hG2, hc2⟩ := hX1
  refine lv_aload_n hx hb d_law_622 rfl (lv_at hl 2 rfl) ?_
  refine L_ld C0 hL hl hW1.2.2 hi 1 (by decide) (by decide) ld_623 ?_
  refine L_lg C0 hL hl hW1.2.2 hi lg_628 ?_
  refine L_call (n := 2) (av := [.int (xs (i + 1)), .long (lgV (xs (i + 2)) (xs (i + 3)))]) (rest := [.long r]) (X := fun w => w = w2) C0 hK hN hc2 (fun A H h => ⟨w2, h, rfl⟩) g3 g4 rfl (gV gw_506 gw_507 gw_508 gw_36 gw_509) (by decide +kernel) rfl g1 g2 (by decide) hm hW1 (Nat.le_of_ble_eq_true rfl) hl.1 ⟨by omega, by omega⟩ d_law_648 (fun w3 H3 locs3 hX3 hW3 => ?_)
  subst hX3
  refine W.lcmp hx hb d_law_651 ?_
  rw [lg_self]
  refine lv_if_eq (tgt := 772) hx hb d_law_652 (by decide) (fun _ => ?_) (fun h => absurd rfl h)
  exact W.widen (k := cells + 5) (n := slots + 172) (by omega) (by omega) (kk _ _ _ hG2 hW3)

set_option maxHeartbeats 4000000 in
set_option maxRecDepth 100000 in
theorem L_join {p : Program} {l : Launch} {e : Env} {s : State} {m : MethodId} {below : List Frame} {meth : Method} {c : Code} {G : gG} {b L : Nat} {xs : Nat → Int32} {Q : State → Prop} {H : Heap} {locs : List Loc} {cells slots : Nat} {ls : Array Slot} {ax bx i : Nat} {w : va_W} (C0 : lw_At p s m meth c b L xs) (hK : va_K G.1 vwCl (tyL G) s) (hN : nW s) (hL : L ≤ 2561) (hi : i + 5 ≤ L) (hl : lv_has ls 4 (lvL b ax bx (nI i))) (hG : Good G ax bx w) (hW : Wd s G w H locs) (hr1 : cells + 5 ≤ 600000) (hr2 : slots + 172 ≤ 7302250)
    (kk : ∀ (w1 : va_W) (H1 : Heap) (locs1 : List Loc), Good G ax bx w1 → Wd s G w1 H1 locs1 → W p l e room_1 s m #[Value.ref b] below meth c H1 locs1 (cells + 5) (slots + 172) Q (F0 m 772 ls [])) : W p l e room_1 s m #[Value.ref b] below meth c H locs cells slots Q (F0 m 657 ls []) := by
  have hx := C0.1
  have hb := C0.2.1
  obtain ⟨rv, rmC, B, hv, f1, f2, f3, f4, hc, hB⟩ := S_join (l := l) hG (xs (i + 1)) (xs (i + 2))
  obtain ⟨r, rfl⟩ := hv
  refine lv_aload_n hx hb d_law_657 rfl (lv_at hl 1 rfl) ?_
  refine L_ld C0 hL hl hW.2.2 hi 1 (by decide) (by decide) ld_658 ?_
  refine L_ld C0 hL hl hW.2.2 hi 2 (by decide) (by decide) ld_663 ?_
  refine L_call (n := 2) (av := [.int (xs (i + 1)), .int (xs (i + 2))]) (rest := []) C0 hK hN hc hB ?_ ?_ rfl (gV gw_278 gw_279 gw_280 gw_31 gw_281) (by decide +kernel) rfl f1 f2 (by decide) (Good_C hG) hW (by decide) hl.1 ⟨by omega, by omega⟩ d_law_668 (fun w1 H1 locs1 hX1 hW1 => ?_)
  · rfl
  · rfl
  obtain ⟨hm, rmM, w2, g1, g2, g3, g4, hG2, hc2⟩ := hX1
  refine lv_aload_n hx hb d_law_671 rfl (lv_at hl 2 rfl) ?_
  refine L_ld C0 hL hl hW1.2.2 hi 1 (by decide) (by decide) ld_672 ?_
  refine L_ld C0 hL hl hW1.2.2 hi 2 (by decide) (by decide) ld_677 ?_
  refine L_call (n := 2) (av := [.int (xs (i + 1)), .int (xs (i + 2))]) (rest := [.int r]) (X := fun w => w = w2) C0 hK hN hc2 (fun A H h => ⟨w2, h, rfl⟩) g3 g4 rfl (gV gw_510 gw_511 gw_512 gw_36 gw_513) (by decide +kernel) rfl g1 g2 (by decide) hm hW1 (Nat.le_of_ble_eq_true rfl) hl.1 ⟨by omega, by omega⟩ d_law_682 (fun w3 H3 locs3 hX3 hW3 => ?_)
  subst hX3
  refine lv_icmp_eq (tgt := 772) hx hb d_law_685 (by decide) (fun _ => ?_) (fun h => absurd rfl h)
  exact W.widen (k := cells + 5) (n := slots + 172) (by omega) (by omega) (kk _ _ _ hG2 hW3)

set_option maxHeartbeats 4000000 in
set_option maxRecDepth 100000 in
theorem L_save {p : Program} {l : Launch} {e : Env} {s : State} {m : MethodId} {below : List Frame} {meth : Method} {c : Code} {G : gG} {b L : Nat} {xs : Nat → Int32} {Q : State → Prop} {H : Heap} {locs : List Loc} {cells slots : Nat} {ls : Array Slot} {ax bx i : Nat} {w : va_W} (C0 : lw_At p s m meth c b L xs) (hK : va_K G.1 vwCl (tyL G) s) (hN : nW s) (hL : L ≤ 2561) (hi : i + 5 ≤ L) (hl : lv_has ls 4 (lvL b ax bx (nI i))) (hG : Good G ax bx w) (hW : Wd s G w H locs) (hr1 : cells + 5 ≤ 600000) (hr2 : slots + 172 ≤ 7302250)
    (kk : ∀ (w1 : va_W) (H1 : Heap) (locs1 : List Loc), Good G ax bx w1 → Wd s G w1 H1 locs1 → W p l e room_1 s m #[Value.ref b] below meth c H1 locs1 (cells + 5) (slots + 172) Q (F0 m 772 ls [])) : W p l e room_1 s m #[Value.ref b] below meth c H locs cells slots Q (F0 m 690 ls []) := by
  have hx := C0.1
  have hb := C0.2.1
  obtain ⟨rv, rmC, B, hv, f1, f2, f3, f4, hc, hB⟩ := S_save (l := l) hG (xs (i + 1)) (xs (i + 2))
  obtain ⟨r, rfl⟩ := hv
  refine lv_aload_n hx hb d_law_690 rfl (lv_at hl 1 rfl) ?_
  refine L_ld C0 hL hl hW.2.2 hi 1 (by decide) (by decide) ld_691 ?_
  refine L_ld C0 hL hl hW.2.2 hi 2 (by decide) (by decide) ld_696 ?_
  refine L_call (n := 2) (av := [.int (xs (i + 1)), .int (xs (i + 2))]) (rest := []) C0 hK hN hc hB ?_ ?_ rfl (gV gw_298 gw_299 gw_300 gw_31 gw_301) (by decide +kernel) rfl f1 f2 (by decide) (Good_C hG) hW (by decide) hl.1 ⟨by omega, by omega⟩ d_law_701 (fun w1 H1 locs1 hX1 hW1 => ?_)
  · rfl
  · rfl
  obtain ⟨hm, rmM, w2, g1, g2, g3, g4, hG2, hc2⟩ := hX1
  refine lv_aload_n hx hb d_law_704 rfl (lv_at hl 2 rfl) ?_
  refine L_ld C0 hL hl hW1.2.2 hi 1 (by decide) (by decide) ld_705 ?_
  refine L_ld C0 hL hl hW1.2.2 hi 2 (by decide) (by decide) ld_710 ?_
  refine L_call (n := 2) (av := [.int (xs (i + 1)), .int (xs (i + 2))]) (rest := [.int r]) (X := fun w => w = w2) C0 hK hN hc2 (fun A H h => ⟨w2, h, rfl⟩) g3 g4 rfl (gV gw_520 gw_521 gw_522 gw_36 gw_523) (by decide +kernel) rfl g1 g2 (by decide) hm hW1 (Nat.le_of_ble_eq_true rfl) hl.1 ⟨by omega, by omega⟩ d_law_715 (fun w3 H3 locs3 hX3 hW3 => ?_)
  subst hX3
  refine lv_icmp_eq (tgt := 772) hx hb d_law_718 (by decide) (fun _ => ?_) (fun h => absurd rfl h)
  exact W.widen (k := cells + 5) (n := slots + 172) (by omega) (by omega) (kk _ _ _ hG2 hW3)

set_option maxHeartbeats 4000000 in
set_option maxRecDepth 100000 in
theorem L_unit {p : Program} {l : Launch} {e : Env} {s : State} {m : MethodId} {below : List Frame} {meth : Method} {c : Code} {G : gG} {b L : Nat} {xs : Nat → Int32} {Q : State → Prop} {H : Heap} {locs : List Loc} {cells slots : Nat} {ls : Array Slot} {ax bx i : Nat} {w : va_W} (C0 : lw_At p s m meth c b L xs) (hK : va_K G.1 vwCl (tyL G) s) (hN : nW s) (hL : L ≤ 2561) (hi : i + 5 ≤ L) (hl : lv_has ls 4 (lvL b ax bx (nI i))) (hG : Good G ax bx w) (hW : Wd s G w H locs) (hr1 : cells + 5 ≤ 600000) (hr2 : slots + 172 ≤ 7302250)
    (kk : ∀ (w1 : va_W) (H1 : Heap) (locs1 : List Loc), Good G ax bx w1 → Wd s G w1 H1 locs1 → W p l e room_1 s m #[Value.ref b] below meth c H1 locs1 (cells + 5) (slots + 172) Q (F0 m 772 ls [])) : W p l e room_1 s m #[Value.ref b] below meth c H locs cells slots Q (F0 m 723 ls []) := by
  have hx := C0.1
  have hb := C0.2.1
  obtain ⟨rv, rmC, B, hv, f1, f2, f3, f4, hc, hB⟩ := S_unit (l := l) hG (xs (i + 1))
  obtain ⟨r, rfl⟩ := hv
  refine lv_aload_n hx hb d_law_723 rfl (lv_at hl 1 rfl) ?_
  refine L_ld C0 hL hl hW.2.2 hi 1 (by decide) (by decide) ld_724 ?_
  refine L_call (n := 1) (av := [.int (xs (i + 1))]) (rest := []) C0 hK hN hc hB ?_ ?_ rfl (gV gw_320 gw_321 gw_322 gw_31 gw_323) (by decide +kernel) rfl f1 f2 (by decide) (Good_C hG) hW (by decide) hl.1 ⟨by omega, by omega⟩ d_law_729 (fun w1 H1 locs1 hX1 hW1 => ?_)
  · rfl
  · rfl
  obtain ⟨hm, rmM, w2, g1, g2, g3, g4, hG2, hc2⟩ := hX1
  refine lv_aload_n hx hb d_law_732 rfl (lv_at hl 2 rfl) ?_
  refine L_ld C0 hL hl hW1.2.2 hi 1 (by decide) (by decide) ld_733 ?_
  refine L_call (n := 1) (av := [.int (xs (i + 1))]) (rest := [.int r]) (X := fun w => w = w2) C0 hK hN hc2 (fun A H h => ⟨w2, h, rfl⟩) g3 g4 rfl (gV gw_527 gw_528 gw_529 gw_36 gw_530) (by decide +kernel) rfl g1 g2 (by decide) hm hW1 (Nat.le_of_ble_eq_true rfl) hl.1 ⟨by omega, by omega⟩ d_law_738 (fun w3 H3 locs3 hX3 hW3 => ?_)
  subst hX3
  refine lv_icmp_eq (tgt := 772) hx hb d_law_741 (by decide) (fun _ => ?_) (fun h => absurd rfl h)
  exact W.widen (k := cells + 5) (n := slots + 172) (by omega) (by omega) (kk _ _ _ hG2 hW3)

set_option maxHeartbeats 4000000 in
set_option maxRecDepth 100000 in
theorem L_load {p : Program} {l : Launch} {e : Env} {s : State} {m : MethodId} {below : List Frame} {meth : Method} {c : Code} {G : gG} {b L : Nat} {xs : Nat → Int32} {Q : State → Prop} {H : Heap} {locs : List Loc} {cells slots : Nat} {ls : Array Slot} {ax bx i : Nat} {w : va_W} (C0 : lw_At p s m meth c b L xs) (hK : va_K G.1 vwCl (tyL G) s) (hN : nW s) (hL : L ≤ 2561) (hi : i + 5 ≤ L) (hl : lv_has ls 4 (lvL b ax bx (nI i))) (hG : Good G ax bx w) (hW : Wd s G w H locs) (hr1 : cells + 5 ≤ 600000) (hr2 : slots + 172 ≤ 7302250)
    (kk : ∀ (w1 : va_W) (H1 : Heap) (locs1 : List Loc), Good G ax bx w1 → Wd s G w1 H1 locs1 → W p l e room_1 s m #[Value.ref b] below meth c H1 locs1 (cells + 5) (slots + 172) Q (F0 m 772 ls [])) : W p l e room_1 s m #[Value.ref b] below meth c H locs cells slots Q (F0 m 746 ls []) := by
  have hx := C0.1
  have hb := C0.2.1
  obtain ⟨rv, rmC, B, hv, f1, f2, f3, f4, hc, hB⟩ := S_load (l := l) hG 
  obtain ⟨r, rfl⟩ := hv
  refine lv_aload_n hx hb d_law_746 rfl (lv_at hl 1 rfl) ?_
  refine L_call (n := 0) (av := []) (rest := []) C0 hK hN hc hB ?_ ?_ rfl (gV gw_324 gw_325 gw_326 gw_31 gw_327) (by decide +kernel) rfl f1 f2 (by decide) (Good_C hG) hW (by decide) hl.1 ⟨by omega, by omega⟩ d_law_747 (fun w1 H1 locs1 hX1 hW1 => ?_)
  · rfl
  · rfl
  obtain ⟨hm, rmM, w2, g1, g2, g3, g4, hG2, hc2⟩ := hX1
  refine lv_aload_n hx hb d_law_750 rfl (lv_at hl 2 rfl) ?_
  refine L_call (n := 0) (av := []) (rest := [.int r]) (X := fun w => w = w2) C0 hK hN hc2 (fun A H h => ⟨w2, h, rfl⟩) g3 g4 rfl (gV gw_531 gw_532 gw_533 gw_36 gw_534) (by decide +kernel) rfl g1 g2 (by decide) hm hW1 (Nat.le_of_ble_eq_true rfl) hl.1 ⟨by omega, by omega⟩ d_law_751 (fun w3 H3 locs3 hX3 hW3 => ?_)
  subst hX3
  refine lv_icmp_eq (tgt := 772) hx hb d_law_754 (by decide) (fun _ => ?_) (fun h => absurd rfl h)
  exact W.widen (k := cells + 5) (n := slots + 172) (by omega) (by omega) (kk _ _ _ hG2 hW3)

set_option maxHeartbeats 4000000 in
set_option maxRecDepth 100000 in
theorem L_rows {p : Program} {l : Launch} {e : Env} {s : State} {m : MethodId} {below : List Frame} {meth : Method} {c : Code} {G : gG} {b L : Nat} {xs : Nat → Int32} {Q : State → Prop} {H : Heap} {locs : List Loc} {cells slots : Nat} {ls : Array Slot} {ax bx i : Nat} {w : va_W} (C0 : lw_At p s m meth c b L xs) (hK : va_K G.1 vwCl (tyL G) s) (hN : nW s) (hL : L ≤ 2561) (hi : i + 5 ≤ L) (hl : lv_has ls 4 (lvL b ax bx (nI i))) (hG : Good G ax bx w) (hW : Wd s G w H locs) (hr1 : cells + 5 ≤ 600000) (hr2 : slots + 172 ≤ 7302250)
    (kk : ∀ (w1 : va_W) (H1 : Heap) (locs1 : List Loc), Good G ax bx w1 → Wd s G w1 H1 locs1 → W p l e room_1 s m #[Value.ref b] below meth c H1 locs1 (cells + 5) (slots + 172) Q (F0 m 772 ls [])) : W p l e room_1 s m #[Value.ref b] below meth c H locs cells slots Q (F0 m 759 ls []) := by
  have hx := C0.1
  have hb := C0.2.1
  obtain ⟨rv, rmC, B, hv, f1, f2, f3, f4, hc, hB⟩ := S_rows (l := l) hG 
  obtain ⟨r, rfl⟩ := hv
  refine lv_aload_n hx hb d_law_759 rfl (lv_at hl 1 rfl) ?_
  refine L_call (n := 0) (av := []) (rest := []) C0 hK hN hc hB ?_ ?_ rfl (gV gw_365 gw_366 gw_367 gw_31 gw_368) (by decide +kernel) rfl f1 f2 (by decide) (Good_C hG) hW (by decide) hl.1 ⟨by omega, by omega⟩ d_law_760 (fun w1 H1 locs1 hX1 hW1 => ?_)
  · rfl
  · rfl
  obtain ⟨hm, rmM, w2, g1, g2, g3, g4, hG2, hc2⟩ := hX1
  refine lv_aload_n hx hb d_law_763 rfl (lv_at hl 2 rfl) ?_
  refine L_call (n := 0) (av := []) (rest := [.int r]) (X := fun w => w = w2) C0 hK hN hc2 (fun A H h => ⟨w2, h, rfl⟩) g3 g4 rfl (gV gw_544 gw_545 gw_546 gw_36 gw_547) (by decide +kernel) rfl g1 g2 (by decide) hm hW1 (Nat.le_of_ble_eq_true rfl) hl.1 ⟨by omega, by omega⟩ d_law_764 (fun w3 H3 locs3 hX3 hW3 => ?_)
  subst hX3
  refine lv_icmp_eq (tgt := 772) hx hb d_law_767 (by decide) (fun _ => ?_) (fun h => absurd rfl h)
  exact W.widen (k := cells + 5) (n := slots + 172) (by omega) (by omega) (kk _ _ _ hG2 hW3)
