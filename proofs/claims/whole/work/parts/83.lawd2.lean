theorem d_law_464 : decode code 464 = .ok (.invokevirtual 67, 3) := by decide +kernel
theorem d_law_467 : decode code 467 = .ok (.aload_n 2, 1) := by decide +kernel
theorem ld_468 : ldk 468 1 := ⟨by decide +kernel, by decide +kernel, by decide +kernel, by decide +kernel, by decide +kernel⟩
theorem d_law_473 : decode code 473 = .ok (.invokevirtual 70, 3) := by decide +kernel
theorem d_law_476 : decode code 476 = .ok (.if_icmp .eq 296, 3) := by decide +kernel
theorem d_law_481 : decode code 481 = .ok (.aload_n 1, 1) := by decide +kernel
theorem ld_482 : ldk 482 1 := ⟨by decide +kernel, by decide +kernel, by decide +kernel, by decide +kernel, by decide +kernel⟩
theorem d_law_487 : decode code 487 = .ok (.invokevirtual 71, 3) := by decide +kernel
theorem d_law_490 : decode code 490 = .ok (.aload_n 2, 1) := by decide +kernel
theorem ld_491 : ldk 491 1 := ⟨by decide +kernel, by decide +kernel, by decide +kernel, by decide +kernel, by decide +kernel⟩
theorem d_law_496 : decode code 496 = .ok (.invokevirtual 74, 3) := by decide +kernel
theorem d_law_499 : decode code 499 = .ok (.if_icmp .eq 273, 3) := by decide +kernel
theorem d_law_504 : decode code 504 = .ok (.aload_n 1, 1) := by decide +kernel
theorem ld_505 : ldk 505 1 := ⟨by decide +kernel, by decide +kernel, by decide +kernel, by decide +kernel, by decide +kernel⟩
theorem ld_510 : ldk 510 2 := ⟨by decide +kernel, by decide +kernel, by decide +kernel, by decide +kernel, by decide +kernel⟩
theorem ld_519 : ldk 519 3 := ⟨by decide +kernel, by decide +kernel, by decide +kernel, by decide +kernel, by decide +kernel⟩
theorem lg_510 : lgk 510 := ⟨ld_510, by decide +kernel, by decide +kernel, by decide +kernel, ld_519, by decide +kernel, by decide +kernel, by decide +kernel, by decide +kernel⟩
theorem ld_530 : ldk 530 4 := ⟨by decide +kernel, by decide +kernel, by decide +kernel, by decide +kernel, by decide +kernel⟩
theorem bo_530 : bok 530 := ⟨ld_530, by decide +kernel, by decide +kernel, by decide +kernel, by decide +kernel⟩
theorem d_law_543 : decode code 543 = .ok (.invokevirtual 77, 3) := by decide +kernel
theorem d_law_546 : decode code 546 = .ok (.aload_n 2, 1) := by decide +kernel
theorem ld_547 : ldk 547 1 := ⟨by decide +kernel, by decide +kernel, by decide +kernel, by decide +kernel, by decide +kernel⟩
theorem ld_552 : ldk 552 2 := ⟨by decide +kernel, by decide +kernel, by decide +kernel, by decide +kernel, by decide +kernel⟩
theorem ld_561 : ldk 561 3 := ⟨by decide +kernel, by decide +kernel, by decide +kernel, by decide +kernel, by decide +kernel⟩
theorem lg_552 : lgk 552 := ⟨ld_552, by decide +kernel, by decide +kernel, by decide +kernel, ld_561, by decide +kernel, by decide +kernel, by decide +kernel, by decide +kernel⟩
theorem ld_572 : ldk 572 4 := ⟨by decide +kernel, by decide +kernel, by decide +kernel, by decide +kernel, by decide +kernel⟩
theorem bo_572 : bok 572 := ⟨ld_572, by decide +kernel, by decide +kernel, by decide +kernel, by decide +kernel⟩
theorem d_law_585 : decode code 585 = .ok (.invokevirtual 81, 3) := by decide +kernel
theorem d_law_588 : decode code 588 = .ok (.if_icmp .eq 184, 3) := by decide +kernel
theorem d_law_593 : decode code 593 = .ok (.aload_n 1, 1) := by decide +kernel
theorem ld_594 : ldk 594 1 := ⟨by decide +kernel, by decide +kernel, by decide +kernel, by decide +kernel, by decide +kernel⟩
theorem ld_599 : ldk 599 2 := ⟨by decide +kernel, by decide +kernel, by decide +kernel, by decide +kernel, by decide +kernel⟩
theorem ld_608 : ldk 608 3 := ⟨by decide +kernel, by decide +kernel, by decide +kernel, by decide +kernel, by decide +kernel⟩
theorem lg_599 : lgk 599 := ⟨ld_599, by decide +kernel, by decide +kernel, by decide +kernel, ld_608, by decide +kernel, by decide +kernel, by decide +kernel, by decide +kernel⟩
theorem d_law_619 : decode code 619 = .ok (.invokevirtual 82, 3) := by decide +kernel
theorem d_law_622 : decode code 622 = .ok (.aload_n 2, 1) := by decide +kernel
theorem ld_623 : ldk 623 1 := ⟨by decide +kernel, by decide +kernel, by decide +kernel, by decide +kernel, by decide +kernel⟩
theorem ld_628 : ldk 628 2 := ⟨by decide +kernel, by decide +kernel, by decide +kernel, by decide +kernel, by decide +kernel⟩
theorem ld_637 : ldk 637 3 := ⟨by decide +kernel, by decide +kernel, by decide +kernel, by decide +kernel, by decide +kernel⟩
theorem lg_628 : lgk 628 := ⟨ld_628, by decide +kernel, by decide +kernel, by decide +kernel, ld_637, by decide +kernel, by decide +kernel, by decide +kernel, by decide +kernel⟩
theorem d_law_648 : decode code 648 = .ok (.invokevirtual 86, 3) := by decide +kernel
theorem d_law_651 : decode code 651 = .ok (.lcmp, 1) := by decide +kernel
theorem d_law_652 : decode code 652 = .ok (.ifCond .eq 120, 3) := by decide +kernel
theorem d_law_657 : decode code 657 = .ok (.aload_n 1, 1) := by decide +kernel
theorem ld_658 : ldk 658 1 := ⟨by decide +kernel, by decide +kernel, by decide +kernel, by decide +kernel, by decide +kernel⟩