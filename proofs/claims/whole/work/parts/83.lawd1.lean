theorem d_law_305 : decode code 305 = .ok (.invokevirtual 45, 3) := by decide +kernel
theorem d_law_308 : decode code 308 = .ok (.if_icmp .eq 464, 3) := by decide +kernel
theorem d_law_313 : decode code 313 = .ok (.aload_n 1, 1) := by decide +kernel
theorem ld_314 : ldk 314 1 := ⟨by decide +kernel, by decide +kernel, by decide +kernel, by decide +kernel, by decide +kernel⟩
theorem d_law_319 : decode code 319 = .ok (.invokevirtual 46, 3) := by decide +kernel
theorem d_law_322 : decode code 322 = .ok (.aload_n 2, 1) := by decide +kernel
theorem ld_323 : ldk 323 1 := ⟨by decide +kernel, by decide +kernel, by decide +kernel, by decide +kernel, by decide +kernel⟩
theorem d_law_328 : decode code 328 = .ok (.invokevirtual 49, 3) := by decide +kernel
theorem d_law_331 : decode code 331 = .ok (.if_icmp .eq 441, 3) := by decide +kernel
theorem d_law_336 : decode code 336 = .ok (.aload_n 1, 1) := by decide +kernel
theorem ld_337 : ldk 337 1 := ⟨by decide +kernel, by decide +kernel, by decide +kernel, by decide +kernel, by decide +kernel⟩
theorem ld_342 : ldk 342 2 := ⟨by decide +kernel, by decide +kernel, by decide +kernel, by decide +kernel, by decide +kernel⟩
theorem d_law_347 : decode code 347 = .ok (.invokevirtual 50, 3) := by decide +kernel
theorem d_law_350 : decode code 350 = .ok (.aload_n 2, 1) := by decide +kernel
theorem ld_351 : ldk 351 1 := ⟨by decide +kernel, by decide +kernel, by decide +kernel, by decide +kernel, by decide +kernel⟩
theorem ld_356 : ldk 356 2 := ⟨by decide +kernel, by decide +kernel, by decide +kernel, by decide +kernel, by decide +kernel⟩
theorem d_law_361 : decode code 361 = .ok (.invokevirtual 53, 3) := by decide +kernel
theorem d_law_364 : decode code 364 = .ok (.if_icmp .eq 408, 3) := by decide +kernel
theorem d_law_369 : decode code 369 = .ok (.aload_n 1, 1) := by decide +kernel
theorem ld_370 : ldk 370 1 := ⟨by decide +kernel, by decide +kernel, by decide +kernel, by decide +kernel, by decide +kernel⟩
theorem ld_375 : ldk 375 2 := ⟨by decide +kernel, by decide +kernel, by decide +kernel, by decide +kernel, by decide +kernel⟩
theorem d_law_380 : decode code 380 = .ok (.invokevirtual 54, 3) := by decide +kernel
theorem d_law_383 : decode code 383 = .ok (.aload_n 2, 1) := by decide +kernel
theorem ld_384 : ldk 384 1 := ⟨by decide +kernel, by decide +kernel, by decide +kernel, by decide +kernel, by decide +kernel⟩
theorem ld_389 : ldk 389 2 := ⟨by decide +kernel, by decide +kernel, by decide +kernel, by decide +kernel, by decide +kernel⟩
theorem d_law_394 : decode code 394 = .ok (.invokevirtual 57, 3) := by decide +kernel
theorem d_law_397 : decode code 397 = .ok (.if_icmp .eq 375, 3) := by decide +kernel
theorem d_law_402 : decode code 402 = .ok (.aload_n 1, 1) := by decide +kernel
theorem ld_403 : ldk 403 1 := ⟨by decide +kernel, by decide +kernel, by decide +kernel, by decide +kernel, by decide +kernel⟩
theorem ld_408 : ldk 408 2 := ⟨by decide +kernel, by decide +kernel, by decide +kernel, by decide +kernel, by decide +kernel⟩
theorem d_law_413 : decode code 413 = .ok (.invokevirtual 58, 3) := by decide +kernel
theorem d_law_416 : decode code 416 = .ok (.aload_n 2, 1) := by decide +kernel
theorem ld_417 : ldk 417 1 := ⟨by decide +kernel, by decide +kernel, by decide +kernel, by decide +kernel, by decide +kernel⟩
theorem ld_422 : ldk 422 2 := ⟨by decide +kernel, by decide +kernel, by decide +kernel, by decide +kernel, by decide +kernel⟩
theorem d_law_427 : decode code 427 = .ok (.invokevirtual 62, 3) := by decide +kernel
theorem d_law_430 : decode code 430 = .ok (.if_icmp .eq 342, 3) := by decide +kernel
theorem d_law_435 : decode code 435 = .ok (.aload_n 1, 1) := by decide +kernel
theorem ld_436 : ldk 436 1 := ⟨by decide +kernel, by decide +kernel, by decide +kernel, by decide +kernel, by decide +kernel⟩
theorem d_law_441 : decode code 441 = .ok (.invokevirtual 63, 3) := by decide +kernel
theorem d_law_444 : decode code 444 = .ok (.aload_n 2, 1) := by decide +kernel
theorem ld_445 : ldk 445 1 := ⟨by decide +kernel, by decide +kernel, by decide +kernel, by decide +kernel, by decide +kernel⟩
theorem d_law_450 : decode code 450 = .ok (.invokevirtual 66, 3) := by decide +kernel
theorem d_law_453 : decode code 453 = .ok (.if_icmp .eq 319, 3) := by decide +kernel
theorem d_law_458 : decode code 458 = .ok (.aload_n 1, 1) := by decide +kernel
theorem ld_459 : ldk 459 1 := ⟨by decide +kernel, by decide +kernel, by decide +kernel, by decide +kernel, by decide +kernel⟩