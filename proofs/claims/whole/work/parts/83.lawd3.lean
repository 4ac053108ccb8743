theorem ld_663 : ldk 663 2 := ⟨by decide +kernel, by decide +kernel, by decide +kernel, by decide +kernel, by decide +kernel⟩
theorem d_law_668 : decode code 668 = .ok (.invokevirtual 87, 3) := by decide +kernel
theorem d_law_671 : decode code 671 = .ok (.aload_n 2, 1) := by decide +kernel
theorem ld_672 : ldk 672 1 := ⟨by decide +kernel, by decide +kernel, by decide +kernel, by decide +kernel, by decide +kernel⟩
theorem ld_677 : ldk 677 2 := ⟨by decide +kernel, by decide +kernel, by decide +kernel, by decide +kernel, by decide +kernel⟩
theorem d_law_682 : decode code 682 = .ok (.invokevirtual 90, 3) := by decide +kernel
theorem d_law_685 : decode code 685 = .ok (.if_icmp .eq 87, 3) := by decide +kernel
theorem d_law_690 : decode code 690 = .ok (.aload_n 1, 1) := by decide +kernel
theorem ld_691 : ldk 691 1 := ⟨by decide +kernel, by decide +kernel, by decide +kernel, by decide +kernel, by decide +kernel⟩
theorem ld_696 : ldk 696 2 := ⟨by decide +kernel, by decide +kernel, by decide +kernel, by decide +kernel, by decide +kernel⟩
theorem d_law_701 : decode code 701 = .ok (.invokevirtual 91, 3) := by decide +kernel
theorem d_law_704 : decode code 704 = .ok (.aload_n 2, 1) := by decide +kernel
theorem ld_705 : ldk 705 1 := ⟨by decide +kernel, by decide +kernel, by decide +kernel, by decide +kernel, by decide +kernel⟩
theorem ld_710 : ldk 710 2 := ⟨by decide +kernel, by decide +kernel, by decide +kernel, by decide +kernel, by decide +kernel⟩
theorem d_law_715 : decode code 715 = .ok (.invokevirtual 94, 3) := by decide +kernel
theorem d_law_718 : decode code 718 = .ok (.if_icmp .eq 54, 3) := by decide +kernel
theorem d_law_723 : decode code 723 = .ok (.aload_n 1, 1) := by decide +kernel
theorem ld_724 : ldk 724 1 := ⟨by decide +kernel, by decide +kernel, by decide +kernel, by decide +kernel, by decide +kernel⟩
theorem d_law_729 : decode code 729 = .ok (.invokevirtual 95, 3) := by decide +kernel
theorem d_law_732 : decode code 732 = .ok (.aload_n 2, 1) := by decide +kernel
theorem ld_733 : ldk 733 1 := ⟨by decide +kernel, by decide +kernel, by decide +kernel, by decide +kernel, by decide +kernel⟩
theorem d_law_738 : decode code 738 = .ok (.invokevirtual 99, 3) := by decide +kernel
theorem d_law_741 : decode code 741 = .ok (.if_icmp .eq 31, 3) := by decide +kernel
theorem d_law_746 : decode code 746 = .ok (.aload_n 1, 1) := by decide +kernel
theorem d_law_747 : decode code 747 = .ok (.invokevirtual 100, 3) := by decide +kernel
theorem d_law_750 : decode code 750 = .ok (.aload_n 2, 1) := by decide +kernel
theorem d_law_751 : decode code 751 = .ok (.invokevirtual 103, 3) := by decide +kernel
theorem d_law_754 : decode code 754 = .ok (.if_icmp .eq 18, 3) := by decide +kernel
theorem d_law_759 : decode code 759 = .ok (.aload_n 1, 1) := by decide +kernel
theorem d_law_760 : decode code 760 = .ok (.invokevirtual 104, 3) := by decide +kernel
theorem d_law_763 : decode code 763 = .ok (.aload_n 2, 1) := by decide +kernel
theorem d_law_764 : decode code 764 = .ok (.invokevirtual 107, 3) := by decide +kernel
theorem d_law_767 : decode code 767 = .ok (.if_icmp .eq 5, 3) := by decide +kernel
theorem d_law_28 : decode code 28 = .ok (.iload_n 3, 1) := by decide +kernel
theorem d_law_29 : decode code 29 = .ok (.aload_n 0, 1) := by decide +kernel
theorem d_law_30 : decode code 30 = .ok (.arraylength, 1) := by decide +kernel
theorem d_law_31 : decode code 31 = .ok (.iconst 5, 1) := by decide +kernel
theorem d_law_32 : decode code 32 = .ok (.isub, 1) := by decide +kernel
theorem d_law_33 : decode code 33 = .ok (.if_icmp .gt 745, 3) := by decide +kernel
theorem d_law_36 : decode code 36 = .ok (.aload_n 0, 1) := by decide +kernel
theorem d_law_37 : decode code 37 = .ok (.iload_n 3, 1) := by decide +kernel
theorem d_law_38 : decode code 38 = .ok (.iaload, 1) := by decide +kernel
theorem d_law_39 : decode code 39 = .ok (.bipush 31, 2) := by decide +kernel
theorem d_law_41 : decode code 41 = .ok (.iand, 1) := by decide +kernel
theorem d_law_42 : decode code 42 = .ok (.tableswitch 730 0 18 #[90, 103, 146, 215, 238, 271, 294, 327, 360, 393, 416, 439, 462, 551, 615, 648, 681, 704, 717], 90) := by decide +kernel