theorem tc_644 : decode cL_law 644 = .ok (.ifCond .eq 7, 3) := by decide +kernel
theorem tc_647 : decode cL_law 647 = .ok (.iconst 1, 1) := by decide +kernel
theorem tc_648 : decode cL_law 648 = .ok (.goto 4, 3) := by decide +kernel
theorem tc_651 : decode cL_law 651 = .ok (.iconst 0, 1) := by decide +kernel
theorem tc_652 : decode cL_law 652 = .ok (.aload_n 3, 1) := by decide +kernel
theorem tc_653 : decode cL_law 653 = .ok (.invokestatic 178, 3) := by decide +kernel
theorem tc_656 : decode cL_law 656 = .ok (.istore 5, 2) := by decide +kernel
theorem tc_658 : decode cL_law 658 = .ok (.aload_n 2, 1) := by decide +kernel
theorem tc_659 : decode cL_law 659 = .ok (.aload_n 0, 1) := by decide +kernel
theorem tc_660 : decode cL_law 660 = .ok (.iload 4, 2) := by decide +kernel
theorem tc_662 : decode cL_law 662 = .ok (.iconst 1, 1) := by decide +kernel
theorem tc_663 : decode cL_law 663 = .ok (.iadd, 1) := by decide +kernel
theorem tc_664 : decode cL_law 664 = .ok (.iaload, 1) := by decide +kernel
theorem tc_665 : decode cL_law 665 = .ok (.aload_n 0, 1) := by decide +kernel
theorem tc_666 : decode cL_law 666 = .ok (.iload 4, 2) := by decide +kernel
theorem tc_668 : decode cL_law 668 = .ok (.iconst 2, 1) := by decide +kernel
theorem tc_669 : decode cL_law 669 = .ok (.iadd, 1) := by decide +kernel
theorem tc_670 : decode cL_law 670 = .ok (.iaload, 1) := by decide +kernel
theorem tc_671 : decode cL_law 671 = .ok (.aload_n 0, 1) := by decide +kernel
theorem tc_672 : decode cL_law 672 = .ok (.iload 4, 2) := by decide +kernel
theorem tc_674 : decode cL_law 674 = .ok (.iconst 3, 1) := by decide +kernel
theorem tc_675 : decode cL_law 675 = .ok (.iadd, 1) := by decide +kernel
theorem tc_676 : decode cL_law 676 = .ok (.iaload, 1) := by decide +kernel
theorem tc_677 : decode cL_law 677 = .ok (.ifCond .eq 7, 3) := by decide +kernel
theorem tc_680 : decode cL_law 680 = .ok (.iconst 1, 1) := by decide +kernel
theorem tc_681 : decode cL_law 681 = .ok (.goto 4, 3) := by decide +kernel
theorem tc_684 : decode cL_law 684 = .ok (.iconst 0, 1) := by decide +kernel
theorem tc_685 : decode cL_law 685 = .ok (.invokevirtual 181, 3) := by decide +kernel
theorem tc_688 : decode cL_law 688 = .ok (.istore 6, 2) := by decide +kernel
theorem tc_690 : decode cL_law 690 = .ok (.goto 1183, 3) := by decide +kernel
