theorem dX5_go_659 : decode cX5_go 659 = .ok (.iaload, 1) := by decide +kernel
theorem dX5_go_660 : decode cX5_go 660 = .ok (.iastore, 1) := by decide +kernel
theorem dX5_go_661 : decode cX5_go 661 = .ok (.goto 100, 3) := by decide +kernel
theorem dX5_go_664 : decode cX5_go 664 = .ok (.iload 5, 2) := by decide +kernel
theorem dX5_go_666 : decode cX5_go 666 = .ok (.bipush 27, 2) := by decide +kernel
theorem dX5_go_668 : decode cX5_go 668 = .ok (.if_icmp .ne 20, 3) := by decide +kernel
theorem dX5_go_671 : decode cX5_go 671 = .ok (.iload 11, 2) := by decide +kernel
theorem dX5_go_673 : decode cX5_go 673 = .ok (.ifCond .eq 8, 3) := by decide +kernel
theorem dX5_go_676 : decode cX5_go 676 = .ok (.iload 7, 2) := by decide +kernel
theorem dX5_go_678 : decode cX5_go 678 = .ok (.goto 5, 3) := by decide +kernel
theorem dX5_go_681 : decode cX5_go 681 = .ok (.iload 9, 2) := by decide +kernel
theorem dX5_go_683 : decode cX5_go 683 = .ok (.istore 9, 2) := by decide +kernel
theorem dX5_go_685 : decode cX5_go 685 = .ok (.goto 76, 3) := by decide +kernel
theorem dX5_go_688 : decode cX5_go 688 = .ok (.iload 5, 2) := by decide +kernel
theorem dX5_go_690 : decode cX5_go 690 = .ok (.bipush 28, 2) := by decide +kernel
theorem dX5_go_692 : decode cX5_go 692 = .ok (.if_icmp .ne 10, 3) := by decide +kernel
theorem dX5_go_695 : decode cX5_go 695 = .ok (.iload 6, 2) := by decide +kernel
theorem dX5_go_697 : decode cX5_go 697 = .ok (.istore 9, 2) := by decide +kernel
theorem dX5_go_699 : decode cX5_go 699 = .ok (.goto 62, 3) := by decide +kernel
theorem dX5_go_702 : decode cX5_go 702 = .ok (.iload 5, 2) := by decide +kernel
theorem dX5_go_704 : decode cX5_go 704 = .ok (.bipush 29, 2) := by decide +kernel
theorem dX5_go_706 : decode cX5_go 706 = .ok (.if_icmp .ne 17, 3) := by decide +kernel
theorem dX5_go_709 : decode cX5_go 709 = .ok (.iload 11, 2) := by decide +kernel
theorem dX5_go_711 : decode cX5_go 711 = .ok (.ifCond .ne 50, 3) := by decide +kernel
theorem dX5_go_714 : decode cX5_go 714 = .ok (.aload_n 0, 1) := by decide +kernel
theorem dX5_go_715 : decode cX5_go 715 = .ok (.iconst 3, 1) := by decide +kernel
theorem dX5_go_716 : decode cX5_go 716 = .ok (.iload 4, 2) := by decide +kernel
theorem dX5_go_718 : decode cX5_go 718 = .ok (.iconst 0, 1) := by decide +kernel
theorem dX5_go_719 : decode cX5_go 719 = .ok (.invokevirtual 155, 3) := by decide +kernel
theorem dX5_go_722 : decode cX5_go 722 = .ok (.return_, 1) := by decide +kernel
theorem dX5_go_723 : decode cX5_go 723 = .ok (.aload_n 0, 1) := by decide +kernel
theorem dX5_go_724 : decode cX5_go 724 = .ok (.iload 5, 2) := by decide +kernel
theorem dX5_go_726 : decode cX5_go 726 = .ok (.bipush 30, 2) := by decide +kernel
theorem dX5_go_728 : decode cX5_go 728 = .ok (.if_icmp .ne 7, 3) := by decide +kernel
theorem dX5_go_731 : decode cX5_go 731 = .ok (.iconst 4, 1) := by decide +kernel
theorem dX5_go_732 : decode cX5_go 732 = .ok (.goto 4, 3) := by decide +kernel
theorem dX5_go_735 : decode cX5_go 735 = .ok (.iconst 0, 1) := by decide +kernel
theorem dX5_go_736 : decode cX5_go 736 = .ok (.iload 4, 2) := by decide +kernel
theorem dX5_go_738 : decode cX5_go 738 = .ok (.iload 5, 2) := by decide +kernel
theorem dX5_go_740 : decode cX5_go 740 = .ok (.bipush 30, 2) := by decide +kernel
theorem dX5_go_742 : decode cX5_go 742 = .ok (.if_icmp .ne 8, 3) := by decide +kernel
theorem dX5_go_745 : decode cX5_go 745 = .ok (.iload 6, 2) := by decide +kernel
theorem dX5_go_747 : decode cX5_go 747 = .ok (.goto 10, 3) := by decide +kernel
theorem dX5_go_750 : decode cX5_go 750 = .ok (.aload_n 0, 1) := by decide +kernel
theorem dX5_go_751 : decode cX5_go 751 = .ok (.getfield 62, 3) := by decide +kernel
theorem dX5_go_754 : decode cX5_go 754 = .ok (.iload 6, 2) := by decide +kernel
theorem dX5_go_756 : decode cX5_go 756 = .ok (.iaload, 1) := by decide +kernel
theorem dX5_go_757 : decode cX5_go 757 = .ok (.invokevirtual 155, 3) := by decide +kernel
theorem dX5_go_760 : decode cX5_go 760 = .ok (.return_, 1) := by decide +kernel
theorem dX5_go_761 : decode cX5_go 761 = .ok (.iload 9, 2) := by decide +kernel
theorem dX5_go_763 : decode cX5_go 763 = .ok (.istore 4, 2) := by decide +kernel
theorem dX5_go_765 : decode cX5_go 765 = .ok (.goto (-704), 3) := by decide +kernel
theorem dX5_go_768 : decode cX5_go 768 = .ok (.aload_n 0, 1) := by decide +kernel
theorem dX5_go_769 : decode cX5_go 769 = .ok (.iconst 0, 1) := by decide +kernel
theorem dX5_go_770 : decode cX5_go 770 = .ok (.aload_n 0, 1) := by decide +kernel
theorem dX5_go_771 : decode cX5_go 771 = .ok (.getfield 93, 3) := by decide +kernel
theorem dX5_go_774 : decode cX5_go 774 = .ok (.iconst 0, 1) := by decide +kernel
theorem dX5_go_775 : decode cX5_go 775 = .ok (.invokevirtual 155, 3) := by decide +kernel
theorem dX5_go_778 : decode cX5_go 778 = .ok (.return_, 1) := by decide +kernel
theorem dX5_isPath_0 : decode cX5_isPath 0 = .ok (.aload_n 0, 1) := by decide +kernel
theorem dX5_isPath_1 : decode cX5_isPath 1 = .ok (.getfield 39, 3) := by decide +kernel
theorem dX5_isPath_4 : decode cX5_isPath 4 = .ok (.iload_n 1, 1) := by decide +kernel
theorem dX5_isPath_5 : decode cX5_isPath 5 = .ok (.iaload, 1) := by decide +kernel
theorem dX5_isPath_6 : decode cX5_isPath 6 = .ok (.aload_n 0, 1) := by decide +kernel
theorem dX5_isPath_7 : decode cX5_isPath 7 = .ok (.getfield 148, 3) := by decide +kernel
theorem dX5_isPath_10 : decode cX5_isPath 10 = .ok (.if_icmp .ne 7, 3) := by decide +kernel
theorem dX5_isPath_13 : decode cX5_isPath 13 = .ok (.iconst 1, 1) := by decide +kernel
theorem dX5_isPath_14 : decode cX5_isPath 14 = .ok (.goto 4, 3) := by decide +kernel
theorem dX5_isPath_17 : decode cX5_isPath 17 = .ok (.iconst 0, 1) := by decide +kernel
theorem dX5_isPath_18 : decode cX5_isPath 18 = .ok (.istore_n 2, 1) := by decide +kernel
theorem dX5_isPath_19 : decode cX5_isPath 19 = .ok (.iconst 0, 1) := by decide +kernel
theorem dX5_isPath_20 : decode cX5_isPath 20 = .ok (.istore_n 3, 1) := by decide +kernel
theorem dX5_isPath_21 : decode cX5_isPath 21 = .ok (.iload_n 3, 1) := by decide +kernel
theorem dX5_isPath_22 : decode cX5_isPath 22 = .ok (.aload_n 0, 1) := by decide +kernel
theorem dX5_isPath_23 : decode cX5_isPath 23 = .ok (.getfield 148, 3) := by decide +kernel
theorem dX5_isPath_26 : decode cX5_isPath 26 = .ok (.if_icmp .ge 36, 3) := by decide +kernel
theorem dX5_isPath_29 : decode cX5_isPath 29 = .ok (.iload_n 2, 1) := by decide +kernel
theorem dX5_isPath_30 : decode cX5_isPath 30 = .ok (.ifCond .eq 32, 3) := by decide +kernel
theorem dX5_isPath_33 : decode cX5_isPath 33 = .ok (.aload_n 0, 1) := by decide +kernel
theorem dX5_isPath_34 : decode cX5_isPath 34 = .ok (.getfield 50, 3) := by decide +kernel
theorem dX5_isPath_37 : decode cX5_isPath 37 = .ok (.iload_n 1, 1) := by decide +kernel
theorem dX5_isPath_38 : decode cX5_isPath 38 = .ok (.aaload, 1) := by decide +kernel
theorem dX5_isPath_39 : decode cX5_isPath 39 = .ok (.iload_n 3, 1) := by decide +kernel
theorem dX5_isPath_40 : decode cX5_isPath 40 = .ok (.iaload, 1) := by decide +kernel
theorem dX5_isPath_41 : decode cX5_isPath 41 = .ok (.aload_n 0, 1) := by decide +kernel
theorem dX5_isPath_42 : decode cX5_isPath 42 = .ok (.getfield 68, 3) := by decide +kernel
theorem dX5_isPath_45 : decode cX5_isPath 45 = .ok (.iload_n 3, 1) := by decide +kernel
theorem dX5_isPath_46 : decode cX5_isPath 46 = .ok (.iaload, 1) := by decide +kernel
theorem dX5_isPath_47 : decode cX5_isPath 47 = .ok (.if_icmp .ne 7, 3) := by decide +kernel
theorem dX5_isPath_50 : decode cX5_isPath 50 = .ok (.iconst 1, 1) := by decide +kernel
theorem dX5_isPath_51 : decode cX5_isPath 51 = .ok (.goto 4, 3) := by decide +kernel
theorem dX5_isPath_54 : decode cX5_isPath 54 = .ok (.iconst 0, 1) := by decide +kernel
theorem dX5_isPath_55 : decode cX5_isPath 55 = .ok (.istore_n 2, 1) := by decide +kernel
theorem dX5_isPath_56 : decode cX5_isPath 56 = .ok (.iinc 3 1, 3) := by decide +kernel
theorem dX5_isPath_59 : decode cX5_isPath 59 = .ok (.goto (-38), 3) := by decide +kernel
theorem dX5_isPath_62 : decode cX5_isPath 62 = .ok (.iload_n 2, 1) := by decide +kernel
theorem dX5_isPath_63 : decode cX5_isPath 63 = .ok (.ireturn, 1) := by decide +kernel
theorem dX5_explore_0 : decode cX5_explore 0 = .ok (.aload_n 0, 1) := by decide +kernel
theorem dX5_explore_1 : decode cX5_explore 1 = .ok (.iconst (-1), 1) := by decide +kernel
theorem dX5_explore_2 : decode cX5_explore 2 = .ok (.putfield 29, 3) := by decide +kernel
theorem dX5_explore_5 : decode cX5_explore 5 = .ok (.iconst 0, 1) := by decide +kernel
theorem dX5_explore_6 : decode cX5_explore 6 = .ok (.istore_n 1, 1) := by decide +kernel
theorem dX5_explore_7 : decode cX5_explore 7 = .ok (.iconst 0, 1) := by decide +kernel
theorem dX5_explore_8 : decode cX5_explore 8 = .ok (.istore_n 2, 1) := by decide +kernel
theorem dX5_explore_9 : decode cX5_explore 9 = .ok (.iload_n 2, 1) := by decide +kernel
theorem dX5_explore_10 : decode cX5_explore 10 = .ok (.bipush 60, 2) := by decide +kernel
theorem dX5_explore_12 : decode cX5_explore 12 = .ok (.if_icmp .ge 16, 3) := by decide +kernel
theorem dX5_explore_15 : decode cX5_explore 15 = .ok (.aload_n 0, 1) := by decide +kernel
theorem dX5_explore_16 : decode cX5_explore 16 = .ok (.getfield 59, 3) := by decide +kernel
theorem dX5_explore_19 : decode cX5_explore 19 = .ok (.iload_n 2, 1) := by decide +kernel
theorem dX5_explore_20 : decode cX5_explore 20 = .ok (.iconst 0, 1) := by decide +kernel
theorem dX5_explore_21 : decode cX5_explore 21 = .ok (.bastore, 1) := by decide +kernel
theorem dX5_explore_22 : decode cX5_explore 22 = .ok (.iinc 2 1, 3) := by decide +kernel
theorem dX5_explore_25 : decode cX5_explore 25 = .ok (.goto (-16), 3) := by decide +kernel
theorem dX5_explore_28 : decode cX5_explore 28 = .ok (.iconst 0, 1) := by decide +kernel
theorem dX5_explore_29 : decode cX5_explore 29 = .ok (.istore_n 2, 1) := by decide +kernel
theorem dX5_explore_30 : decode cX5_explore 30 = .ok (.iload_n 2, 1) := by decide +kernel
theorem dX5_explore_31 : decode cX5_explore 31 = .ok (.aload_n 0, 1) := by decide +kernel
theorem dX5_explore_32 : decode cX5_explore 32 = .ok (.invokevirtual 163, 3) := by decide +kernel
theorem dX5_explore_35 : decode cX5_explore 35 = .ok (.if_icmp .ge 186, 3) := by decide +kernel
theorem dX5_explore_38 : decode cX5_explore 38 = .ok (.aload_n 0, 1) := by decide +kernel
theorem dX5_explore_39 : decode cX5_explore 39 = .ok (.iload_n 2, 1) := by decide +kernel
theorem dX5_explore_40 : decode cX5_explore 40 = .ok (.aconst_null, 1) := by decide +kernel
theorem dX5_explore_41 : decode cX5_explore 41 = .ok (.iconst 1, 1) := by decide +kernel
theorem dX5_explore_42 : decode cX5_explore 42 = .ok (.invokevirtual 167, 3) := by decide +kernel
theorem dX5_explore_45 : decode cX5_explore 45 = .ok (.iconst 0, 1) := by decide +kernel
theorem dX5_explore_46 : decode cX5_explore 46 = .ok (.istore_n 3, 1) := by decide +kernel
theorem dX5_explore_47 : decode cX5_explore 47 = .ok (.iload_n 3, 1) := by decide +kernel
theorem dX5_explore_48 : decode cX5_explore 48 = .ok (.iload_n 1, 1) := by decide +kernel
theorem dX5_explore_49 : decode cX5_explore 49 = .ok (.if_icmp .ge 17, 3) := by decide +kernel
theorem dX5_explore_52 : decode cX5_explore 52 = .ok (.aload_n 0, 1) := by decide +kernel
theorem dX5_explore_53 : decode cX5_explore 53 = .ok (.iload_n 3, 1) := by decide +kernel
theorem dX5_explore_54 : decode cX5_explore 54 = .ok (.invokevirtual 171, 3) := by decide +kernel
theorem dX5_explore_57 : decode cX5_explore 57 = .ok (.ifCond .ne 9, 3) := by decide +kernel
theorem dX5_explore_60 : decode cX5_explore 60 = .ok (.iinc 3 1, 3) := by decide +kernel
theorem dX5_explore_63 : decode cX5_explore 63 = .ok (.goto (-16), 3) := by decide +kernel
theorem dX5_explore_66 : decode cX5_explore 66 = .ok (.iload_n 3, 1) := by decide +kernel
theorem dX5_explore_67 : decode cX5_explore 67 = .ok (.bipush 40, 2) := by decide +kernel
theorem dX5_explore_69 : decode cX5_explore 69 = .ok (.if_icmp .ne 5, 3) := by decide +kernel
theorem dX5_explore_72 : decode cX5_explore 72 = .ok (.iconst (-1), 1) := by decide +kernel
theorem dX5_explore_73 : decode cX5_explore 73 = .ok (.ireturn, 1) := by decide +kernel
theorem dX5_explore_74 : decode cX5_explore 74 = .ok (.iload_n 3, 1) := by decide +kernel
theorem dX5_explore_75 : decode cX5_explore 75 = .ok (.iload_n 1, 1) := by decide +kernel
theorem dX5_explore_76 : decode cX5_explore 76 = .ok (.if_icmp .ne 84, 3) := by decide +kernel
theorem dX5_explore_79 : decode cX5_explore 79 = .ok (.iinc 1 1, 3) := by decide +kernel
theorem dX5_explore_82 : decode cX5_explore 82 = .ok (.aload_n 0, 1) := by decide +kernel
theorem dX5_explore_83 : decode cX5_explore 83 = .ok (.getfield 39, 3) := by decide +kernel
theorem dX5_explore_86 : decode cX5_explore 86 = .ok (.iload_n 3, 1) := by decide +kernel
theorem dX5_explore_87 : decode cX5_explore 87 = .ok (.aload_n 0, 1) := by decide +kernel
theorem dX5_explore_88 : decode cX5_explore 88 = .ok (.getfield 148, 3) := by decide +kernel
theorem dX5_explore_91 : decode cX5_explore 91 = .ok (.iastore, 1) := by decide +kernel
theorem dX5_explore_92 : decode cX5_explore 92 = .ok (.iconst 0, 1) := by decide +kernel
theorem dX5_explore_93 : decode cX5_explore 93 = .ok (.istore 4, 2) := by decide +kernel
theorem dX5_explore_95 : decode cX5_explore 95 = .ok (.iload 4, 2) := by decide +kernel
theorem dX5_explore_97 : decode cX5_explore 97 = .ok (.aload_n 0, 1) := by decide +kernel
theorem dX5_explore_98 : decode cX5_explore 98 = .ok (.getfield 148, 3) := by decide +kernel
theorem dX5_explore_101 : decode cX5_explore 101 = .ok (.if_icmp .ge 25, 3) := by decide +kernel
theorem dX5_explore_104 : decode cX5_explore 104 = .ok (.aload_n 0, 1) := by decide +kernel
theorem dX5_explore_105 : decode cX5_explore 105 = .ok (.getfield 50, 3) := by decide +kernel
theorem dX5_explore_108 : decode cX5_explore 108 = .ok (.iload_n 3, 1) := by decide +kernel
theorem dX5_explore_109 : decode cX5_explore 109 = .ok (.aaload, 1) := by decide +kernel
theorem dX5_explore_110 : decode cX5_explore 110 = .ok (.iload 4, 2) := by decide +kernel
theorem dX5_explore_112 : decode cX5_explore 112 = .ok (.aload_n 0, 1) := by decide +kernel
theorem dX5_explore_113 : decode cX5_explore 113 = .ok (.getfield 68, 3) := by decide +kernel
theorem dX5_explore_116 : decode cX5_explore 116 = .ok (.iload 4, 2) := by decide +kernel
theorem dX5_explore_118 : decode cX5_explore 118 = .ok (.iaload, 1) := by decide +kernel
theorem dX5_explore_119 : decode cX5_explore 119 = .ok (.iastore, 1) := by decide +kernel
theorem dX5_explore_120 : decode cX5_explore 120 = .ok (.iinc 4 1, 3) := by decide +kernel
theorem dX5_explore_123 : decode cX5_explore 123 = .ok (.goto (-28), 3) := by decide +kernel
theorem dX5_explore_126 : decode cX5_explore 126 = .ok (.aload_n 0, 1) := by decide +kernel
theorem dX5_explore_127 : decode cX5_explore 127 = .ok (.getfield 33, 3) := by decide +kernel
theorem dX5_explore_130 : decode cX5_explore 130 = .ok (.iload_n 3, 1) := by decide +kernel
theorem dX5_explore_131 : decode cX5_explore 131 = .ok (.aload_n 0, 1) := by decide +kernel
theorem dX5_explore_132 : decode cX5_explore 132 = .ok (.getfield 136, 3) := by decide +kernel
theorem dX5_explore_135 : decode cX5_explore 135 = .ok (.iastore, 1) := by decide +kernel
theorem dX5_explore_136 : decode cX5_explore 136 = .ok (.aload_n 0, 1) := by decide +kernel
theorem dX5_explore_137 : decode cX5_explore 137 = .ok (.getfield 36, 3) := by decide +kernel
theorem dX5_explore_140 : decode cX5_explore 140 = .ok (.iload_n 3, 1) := by decide +kernel
theorem dX5_explore_141 : decode cX5_explore 141 = .ok (.aload_n 0, 1) := by decide +kernel
theorem dX5_explore_142 : decode cX5_explore 142 = .ok (.getfield 139, 3) := by decide +kernel
theorem dX5_explore_145 : decode cX5_explore 145 = .ok (.iastore, 1) := by decide +kernel
theorem dX5_explore_146 : decode cX5_explore 146 = .ok (.aload_n 0, 1) := by decide +kernel
theorem dX5_explore_147 : decode cX5_explore 147 = .ok (.getfield 42, 3) := by decide +kernel
theorem dX5_explore_150 : decode cX5_explore 150 = .ok (.iload_n 3, 1) := by decide +kernel
theorem dX5_explore_151 : decode cX5_explore 151 = .ok (.iload_n 2, 1) := by decide +kernel
theorem dX5_explore_152 : decode cX5_explore 152 = .ok (.iastore, 1) := by decide +kernel
theorem dX5_explore_153 : decode cX5_explore 153 = .ok (.aload_n 0, 1) := by decide +kernel
theorem dX5_explore_154 : decode cX5_explore 154 = .ok (.getfield 45, 3) := by decide +kernel
theorem dX5_explore_157 : decode cX5_explore 157 = .ok (.iload_n 3, 1) := by decide +kernel
theorem dX5_explore_158 : decode cX5_explore 158 = .ok (.iconst 1, 1) := by decide +kernel
theorem dX5_explore_159 : decode cX5_explore 159 = .ok (.bastore, 1) := by decide +kernel
theorem dX5_explore_160 : decode cX5_explore 160 = .ok (.aload_n 0, 1) := by decide +kernel
theorem dX5_explore_161 : decode cX5_explore 161 = .ok (.getfield 53, 3) := by decide +kernel
theorem dX5_explore_164 : decode cX5_explore 164 = .ok (.iload_n 2, 1) := by decide +kernel
theorem dX5_explore_165 : decode cX5_explore 165 = .ok (.iload_n 3, 1) := by decide +kernel
theorem dX5_explore_166 : decode cX5_explore 166 = .ok (.iastore, 1) := by decide +kernel
theorem dX5_explore_167 : decode cX5_explore 167 = .ok (.aload_n 0, 1) := by decide +kernel
theorem dX5_explore_168 : decode cX5_explore 168 = .ok (.getfield 56, 3) := by decide +kernel
theorem dX5_explore_171 : decode cX5_explore 171 = .ok (.iload_n 2, 1) := by decide +kernel
theorem dX5_explore_172 : decode cX5_explore 172 = .ok (.aload_n 0, 1) := by decide +kernel
theorem dX5_explore_173 : decode cX5_explore 173 = .ok (.getfield 142, 3) := by decide +kernel
theorem dX5_explore_176 : decode cX5_explore 176 = .ok (.iastore, 1) := by decide +kernel
theorem dX5_explore_177 : decode cX5_explore 177 = .ok (.aload_n 0, 1) := by decide +kernel
theorem dX5_explore_178 : decode cX5_explore 178 = .ok (.getfield 45, 3) := by decide +kernel
theorem dX5_explore_181 : decode cX5_explore 181 = .ok (.iload_n 3, 1) := by decide +kernel
theorem dX5_explore_182 : decode cX5_explore 182 = .ok (.aload_n 0, 1) := by decide +kernel
theorem dX5_explore_183 : decode cX5_explore 183 = .ok (.getfield 45, 3) := by decide +kernel
theorem dX5_explore_186 : decode cX5_explore 186 = .ok (.iload_n 3, 1) := by decide +kernel
theorem dX5_explore_187 : decode cX5_explore 187 = .ok (.baload, 1) := by decide +kernel
theorem dX5_explore_188 : decode cX5_explore 188 = .ok (.ifCond .eq 25, 3) := by decide +kernel
theorem dX5_explore_191 : decode cX5_explore 191 = .ok (.aload_n 0, 1) := by decide +kernel
theorem dX5_explore_192 : decode cX5_explore 192 = .ok (.getfield 142, 3) := by decide +kernel
theorem dX5_explore_195 : decode cX5_explore 195 = .ok (.aload_n 0, 1) := by decide +kernel
theorem dX5_explore_196 : decode cX5_explore 196 = .ok (.getfield 56, 3) := by decide +kernel
theorem dX5_explore_199 : decode cX5_explore 199 = .ok (.aload_n 0, 1) := by decide +kernel
theorem dX5_explore_200 : decode cX5_explore 200 = .ok (.getfield 42, 3) := by decide +kernel
theorem dX5_explore_203 : decode cX5_explore 203 = .ok (.iload_n 3, 1) := by decide +kernel
theorem dX5_explore_204 : decode cX5_explore 204 = .ok (.iaload, 1) := by decide +kernel
theorem dX5_explore_205 : decode cX5_explore 205 = .ok (.iaload, 1) := by decide +kernel
theorem dX5_explore_206 : decode cX5_explore 206 = .ok (.if_icmp .ne 7, 3) := by decide +kernel
theorem dX5_explore_209 : decode cX5_explore 209 = .ok (.iconst 1, 1) := by decide +kernel
theorem dX5_explore_210 : decode cX5_explore 210 = .ok (.goto 4, 3) := by decide +kernel
theorem dX5_explore_213 : decode cX5_explore 213 = .ok (.iconst 0, 1) := by decide +kernel
theorem dX5_explore_214 : decode cX5_explore 214 = .ok (.bastore, 1) := by decide +kernel
theorem dX5_explore_215 : decode cX5_explore 215 = .ok (.iinc 2 1, 3) := by decide +kernel
theorem dX5_explore_218 : decode cX5_explore 218 = .ok (.goto (-188), 3) := by decide +kernel
theorem dX5_explore_221 : decode cX5_explore 221 = .ok (.aload_n 0, 1) := by decide +kernel
theorem dX5_explore_222 : decode cX5_explore 222 = .ok (.iload_n 1, 1) := by decide +kernel
theorem dX5_explore_223 : decode cX5_explore 223 = .ok (.putfield 29, 3) := by decide +kernel
theorem dX5_explore_226 : decode cX5_explore 226 = .ok (.aload_n 0, 1) := by decide +kernel
theorem dX5_explore_227 : decode cX5_explore 227 = .ok (.invokevirtual 174, 3) := by decide +kernel
theorem dX5_explore_230 : decode cX5_explore 230 = .ok (.iload_n 1, 1) := by decide +kernel
theorem dX5_explore_231 : decode cX5_explore 231 = .ok (.ireturn, 1) := by decide +kernel
theorem dX5_isAhead_0 : decode cX5_isAhead 0 = .ok (.iconst 0, 1) := by decide +kernel
theorem dX5_isAhead_1 : decode cX5_isAhead 1 = .ok (.istore_n 3, 1) := by decide +kernel
theorem dX5_isAhead_2 : decode cX5_isAhead 2 = .ok (.iload_n 3, 1) := by decide +kernel
theorem dX5_isAhead_3 : decode cX5_isAhead 3 = .ok (.aload_n 0, 1) := by decide +kernel
theorem dX5_isAhead_4 : decode cX5_isAhead 4 = .ok (.getfield 39, 3) := by decide +kernel
theorem dX5_isAhead_7 : decode cX5_isAhead 7 = .ok (.iload_n 1, 1) := by decide +kernel
theorem dX5_isAhead_8 : decode cX5_isAhead 8 = .ok (.iaload, 1) := by decide +kernel
theorem dX5_isAhead_9 : decode cX5_isAhead 9 = .ok (.if_icmp .ge 38, 3) := by decide +kernel
theorem dX5_isAhead_12 : decode cX5_isAhead 12 = .ok (.iload_n 3, 1) := by decide +kernel
theorem dX5_isAhead_13 : decode cX5_isAhead 13 = .ok (.aload_n 0, 1) := by decide +kernel
theorem dX5_isAhead_14 : decode cX5_isAhead 14 = .ok (.getfield 39, 3) := by decide +kernel
theorem dX5_isAhead_17 : decode cX5_isAhead 17 = .ok (.iload_n 2, 1) := by decide +kernel
theorem dX5_isAhead_18 : decode cX5_isAhead 18 = .ok (.iaload, 1) := by decide +kernel
theorem dX5_isAhead_19 : decode cX5_isAhead 19 = .ok (.if_icmp .ge 28, 3) := by decide +kernel
theorem dX5_isAhead_22 : decode cX5_isAhead 22 = .ok (.aload_n 0, 1) := by decide +kernel
theorem dX5_isAhead_23 : decode cX5_isAhead 23 = .ok (.getfield 50, 3) := by decide +kernel
theorem dX5_isAhead_26 : decode cX5_isAhead 26 = .ok (.iload_n 1, 1) := by decide +kernel
theorem dX5_isAhead_27 : decode cX5_isAhead 27 = .ok (.aaload, 1) := by decide +kernel
theorem dX5_isAhead_28 : decode cX5_isAhead 28 = .ok (.iload_n 3, 1) := by decide +kernel
theorem dX5_isAhead_29 : decode cX5_isAhead 29 = .ok (.iaload, 1) := by decide +kernel
theorem dX5_isAhead_30 : decode cX5_isAhead 30 = .ok (.aload_n 0, 1) := by decide +kernel
theorem dX5_isAhead_31 : decode cX5_isAhead 31 = .ok (.getfield 50, 3) := by decide +kernel
theorem dX5_isAhead_34 : decode cX5_isAhead 34 = .ok (.iload_n 2, 1) := by decide +kernel
theorem dX5_isAhead_35 : decode cX5_isAhead 35 = .ok (.aaload, 1) := by decide +kernel
theorem dX5_isAhead_36 : decode cX5_isAhead 36 = .ok (.iload_n 3, 1) := by decide +kernel
theorem dX5_isAhead_37 : decode cX5_isAhead 37 = .ok (.iaload, 1) := by decide +kernel
theorem dX5_isAhead_38 : decode cX5_isAhead 38 = .ok (.if_icmp .ne 9, 3) := by decide +kernel
theorem dX5_isAhead_41 : decode cX5_isAhead 41 = .ok (.iinc 3 1, 3) := by decide +kernel
theorem dX5_isAhead_44 : decode cX5_isAhead 44 = .ok (.goto (-42), 3) := by decide +kernel
theorem dX5_isAhead_47 : decode cX5_isAhead 47 = .ok (.iload_n 3, 1) := by decide +kernel
theorem dX5_isAhead_48 : decode cX5_isAhead 48 = .ok (.aload_n 0, 1) := by decide +kernel
theorem dX5_isAhead_49 : decode cX5_isAhead 49 = .ok (.getfield 39, 3) := by decide +kernel
theorem dX5_isAhead_52 : decode cX5_isAhead 52 = .ok (.iload_n 1, 1) := by decide +kernel
theorem dX5_isAhead_53 : decode cX5_isAhead 53 = .ok (.iaload, 1) := by decide +kernel
theorem dX5_isAhead_54 : decode cX5_isAhead 54 = .ok (.if_icmp .ge 36, 3) := by decide +kernel
theorem dX5_isAhead_57 : decode cX5_isAhead 57 = .ok (.iload_n 3, 1) := by decide +kernel
theorem dX5_isAhead_58 : decode cX5_isAhead 58 = .ok (.aload_n 0, 1) := by decide +kernel
theorem dX5_isAhead_59 : decode cX5_isAhead 59 = .ok (.getfield 39, 3) := by decide +kernel
theorem dX5_isAhead_62 : decode cX5_isAhead 62 = .ok (.iload_n 2, 1) := by decide +kernel
theorem dX5_isAhead_63 : decode cX5_isAhead 63 = .ok (.iaload, 1) := by decide +kernel
theorem dX5_isAhead_64 : decode cX5_isAhead 64 = .ok (.if_icmp .ge 26, 3) := by decide +kernel
theorem dX5_isAhead_67 : decode cX5_isAhead 67 = .ok (.aload_n 0, 1) := by decide +kernel
theorem dX5_isAhead_68 : decode cX5_isAhead 68 = .ok (.getfield 50, 3) := by decide +kernel
theorem dX5_isAhead_71 : decode cX5_isAhead 71 = .ok (.iload_n 1, 1) := by decide +kernel
theorem dX5_isAhead_72 : decode cX5_isAhead 72 = .ok (.aaload, 1) := by decide +kernel
theorem dX5_isAhead_73 : decode cX5_isAhead 73 = .ok (.iload_n 3, 1) := by decide +kernel
theorem dX5_isAhead_74 : decode cX5_isAhead 74 = .ok (.iaload, 1) := by decide +kernel
theorem dX5_isAhead_75 : decode cX5_isAhead 75 = .ok (.aload_n 0, 1) := by decide +kernel
theorem dX5_isAhead_76 : decode cX5_isAhead 76 = .ok (.getfield 50, 3) := by decide +kernel
theorem dX5_isAhead_79 : decode cX5_isAhead 79 = .ok (.iload_n 2, 1) := by decide +kernel
theorem dX5_isAhead_80 : decode cX5_isAhead 80 = .ok (.aaload, 1) := by decide +kernel
theorem dX5_isAhead_81 : decode cX5_isAhead 81 = .ok (.iload_n 3, 1) := by decide +kernel
theorem dX5_isAhead_82 : decode cX5_isAhead 82 = .ok (.iaload, 1) := by decide +kernel
theorem dX5_isAhead_83 : decode cX5_isAhead 83 = .ok (.if_icmp .le 7, 3) := by decide +kernel
theorem dX5_isAhead_86 : decode cX5_isAhead 86 = .ok (.iconst 1, 1) := by decide +kernel
theorem dX5_isAhead_87 : decode cX5_isAhead 87 = .ok (.goto 4, 3) := by decide +kernel
theorem dX5_isAhead_90 : decode cX5_isAhead 90 = .ok (.iconst 0, 1) := by decide +kernel
theorem dX5_isAhead_91 : decode cX5_isAhead 91 = .ok (.ireturn, 1) := by decide +kernel
theorem dX5_order_0 : decode cX5_order 0 = .ok (.iconst 0, 1) := by decide +kernel
theorem dX5_order_1 : decode cX5_order 1 = .ok (.istore_n 1, 1) := by decide +kernel
theorem dX5_order_2 : decode cX5_order 2 = .ok (.iload_n 1, 1) := by decide +kernel
theorem dX5_order_3 : decode cX5_order 3 = .ok (.aload_n 0, 1) := by decide +kernel
theorem dX5_order_4 : decode cX5_order 4 = .ok (.getfield 29, 3) := by decide +kernel
theorem dX5_order_7 : decode cX5_order 7 = .ok (.if_icmp .ge 42, 3) := by decide +kernel
theorem dX5_order_10 : decode cX5_order 10 = .ok (.iload_n 1, 1) := by decide +kernel
theorem dX5_order_11 : decode cX5_order 11 = .ok (.iconst 1, 1) := by decide +kernel
theorem dX5_order_12 : decode cX5_order 12 = .ok (.iadd, 1) := by decide +kernel
theorem dX5_order_13 : decode cX5_order 13 = .ok (.istore_n 2, 1) := by decide +kernel
theorem dX5_order_14 : decode cX5_order 14 = .ok (.iload_n 2, 1) := by decide +kernel
theorem dX5_order_15 : decode cX5_order 15 = .ok (.aload_n 0, 1) := by decide +kernel
theorem dX5_order_16 : decode cX5_order 16 = .ok (.getfield 29, 3) := by decide +kernel
theorem dX5_order_19 : decode cX5_order 19 = .ok (.if_icmp .ge 24, 3) := by decide +kernel
theorem dX5_order_22 : decode cX5_order 22 = .ok (.aload_n 0, 1) := by decide +kernel
theorem dX5_order_23 : decode cX5_order 23 = .ok (.iload_n 2, 1) := by decide +kernel
theorem dX5_order_24 : decode cX5_order 24 = .ok (.iload_n 1, 1) := by decide +kernel
theorem dX5_order_25 : decode cX5_order 25 = .ok (.invokevirtual 177, 3) := by decide +kernel
theorem dX5_order_28 : decode cX5_order 28 = .ok (.ifCond .eq 9, 3) := by decide +kernel
theorem dX5_order_31 : decode cX5_order 31 = .ok (.aload_n 0, 1) := by decide +kernel
theorem dX5_order_32 : decode cX5_order 32 = .ok (.iload_n 1, 1) := by decide +kernel
theorem dX5_order_33 : decode cX5_order 33 = .ok (.iload_n 2, 1) := by decide +kernel
theorem dX5_order_34 : decode cX5_order 34 = .ok (.invokevirtual 180, 3) := by decide +kernel
theorem dX5_order_37 : decode cX5_order 37 = .ok (.iinc 2 1, 3) := by decide +kernel
theorem dX5_order_40 : decode cX5_order 40 = .ok (.goto (-26), 3) := by decide +kernel
theorem dX5_order_43 : decode cX5_order 43 = .ok (.iinc 1 1, 3) := by decide +kernel
theorem dX5_order_46 : decode cX5_order 46 = .ok (.goto (-44), 3) := by decide +kernel
theorem dX5_order_49 : decode cX5_order 49 = .ok (.return_, 1) := by decide +kernel
theorem dX5_turn_0 : decode cX5_turn 0 = .ok (.aload_n 0, 1) := by decide +kernel
theorem dX5_turn_1 : decode cX5_turn 1 = .ok (.iload_n 1, 1) := by decide +kernel
theorem dX5_turn_2 : decode cX5_turn 2 = .ok (.iaload, 1) := by decide +kernel
theorem dX5_turn_3 : decode cX5_turn 3 = .ok (.istore_n 3, 1) := by decide +kernel
theorem dX5_turn_4 : decode cX5_turn 4 = .ok (.aload_n 0, 1) := by decide +kernel
theorem dX5_turn_5 : decode cX5_turn 5 = .ok (.iload_n 1, 1) := by decide +kernel
theorem dX5_turn_6 : decode cX5_turn 6 = .ok (.aload_n 0, 1) := by decide +kernel
theorem dX5_turn_7 : decode cX5_turn 7 = .ok (.iload_n 2, 1) := by decide +kernel
theorem dX5_turn_8 : decode cX5_turn 8 = .ok (.iaload, 1) := by decide +kernel
theorem dX5_turn_9 : decode cX5_turn 9 = .ok (.iastore, 1) := by decide +kernel
theorem dX5_turn_10 : decode cX5_turn 10 = .ok (.aload_n 0, 1) := by decide +kernel
theorem dX5_turn_11 : decode cX5_turn 11 = .ok (.iload_n 2, 1) := by decide +kernel
theorem dX5_turn_12 : decode cX5_turn 12 = .ok (.iload_n 3, 1) := by decide +kernel
theorem dX5_turn_13 : decode cX5_turn 13 = .ok (.iastore, 1) := by decide +kernel
theorem dX5_turn_14 : decode cX5_turn 14 = .ok (.return_, 1) := by decide +kernel
theorem dX5_exchange_0 : decode cX5_exchange 0 = .ok (.aload_n 0, 1) := by decide +kernel
theorem dX5_exchange_1 : decode cX5_exchange 1 = .ok (.getfield 33, 3) := by decide +kernel
theorem dX5_exchange_4 : decode cX5_exchange 4 = .ok (.iload_n 1, 1) := by decide +kernel
theorem dX5_exchange_5 : decode cX5_exchange 5 = .ok (.iload_n 2, 1) := by decide +kernel
theorem dX5_exchange_6 : decode cX5_exchange 6 = .ok (.invokestatic 184, 3) := by decide +kernel
theorem dX5_exchange_9 : decode cX5_exchange 9 = .ok (.aload_n 0, 1) := by decide +kernel
theorem dX5_exchange_10 : decode cX5_exchange 10 = .ok (.getfield 36, 3) := by decide +kernel
theorem dX5_exchange_13 : decode cX5_exchange 13 = .ok (.iload_n 1, 1) := by decide +kernel
theorem dX5_exchange_14 : decode cX5_exchange 14 = .ok (.iload_n 2, 1) := by decide +kernel
theorem dX5_exchange_15 : decode cX5_exchange 15 = .ok (.invokestatic 184, 3) := by decide +kernel
theorem dX5_exchange_18 : decode cX5_exchange 18 = .ok (.aload_n 0, 1) := by decide +kernel
theorem dX5_exchange_19 : decode cX5_exchange 19 = .ok (.getfield 39, 3) := by decide +kernel
theorem dX5_exchange_22 : decode cX5_exchange 22 = .ok (.iload_n 1, 1) := by decide +kernel
theorem dX5_exchange_23 : decode cX5_exchange 23 = .ok (.iload_n 2, 1) := by decide +kernel
theorem dX5_exchange_24 : decode cX5_exchange 24 = .ok (.invokestatic 184, 3) := by decide +kernel
theorem dX5_exchange_27 : decode cX5_exchange 27 = .ok (.aload_n 0, 1) := by decide +kernel
theorem dX5_exchange_28 : decode cX5_exchange 28 = .ok (.getfield 42, 3) := by decide +kernel
theorem dX5_exchange_31 : decode cX5_exchange 31 = .ok (.iload_n 1, 1) := by decide +kernel
theorem dX5_exchange_32 : decode cX5_exchange 32 = .ok (.iload_n 2, 1) := by decide +kernel
theorem dX5_exchange_33 : decode cX5_exchange 33 = .ok (.invokestatic 184, 3) := by decide +kernel
theorem dX5_exchange_36 : decode cX5_exchange 36 = .ok (.aload_n 0, 1) := by decide +kernel
theorem dX5_exchange_37 : decode cX5_exchange 37 = .ok (.getfield 45, 3) := by decide +kernel
theorem dX5_exchange_40 : decode cX5_exchange 40 = .ok (.iload_n 1, 1) := by decide +kernel
theorem dX5_exchange_41 : decode cX5_exchange 41 = .ok (.baload, 1) := by decide +kernel
theorem dX5_exchange_42 : decode cX5_exchange 42 = .ok (.istore_n 3, 1) := by decide +kernel
theorem dX5_exchange_43 : decode cX5_exchange 43 = .ok (.aload_n 0, 1) := by decide +kernel
theorem dX5_exchange_44 : decode cX5_exchange 44 = .ok (.getfield 45, 3) := by decide +kernel
theorem dX5_exchange_47 : decode cX5_exchange 47 = .ok (.iload_n 1, 1) := by decide +kernel
theorem dX5_exchange_48 : decode cX5_exchange 48 = .ok (.aload_n 0, 1) := by decide +kernel
theorem dX5_exchange_49 : decode cX5_exchange 49 = .ok (.getfield 45, 3) := by decide +kernel
theorem dX5_exchange_52 : decode cX5_exchange 52 = .ok (.iload_n 2, 1) := by decide +kernel
theorem dX5_exchange_53 : decode cX5_exchange 53 = .ok (.baload, 1) := by decide +kernel
theorem dX5_exchange_54 : decode cX5_exchange 54 = .ok (.bastore, 1) := by decide +kernel
theorem dX5_exchange_55 : decode cX5_exchange 55 = .ok (.aload_n 0, 1) := by decide +kernel
theorem dX5_exchange_56 : decode cX5_exchange 56 = .ok (.getfield 45, 3) := by decide +kernel
theorem dX5_exchange_59 : decode cX5_exchange 59 = .ok (.iload_n 2, 1) := by decide +kernel
theorem dX5_exchange_60 : decode cX5_exchange 60 = .ok (.iload_n 3, 1) := by decide +kernel
theorem dX5_exchange_61 : decode cX5_exchange 61 = .ok (.bastore, 1) := by decide +kernel
theorem dX5_exchange_62 : decode cX5_exchange 62 = .ok (.iconst 0, 1) := by decide +kernel
theorem dX5_exchange_63 : decode cX5_exchange 63 = .ok (.istore 4, 2) := by decide +kernel
theorem dX5_exchange_65 : decode cX5_exchange 65 = .ok (.iload 4, 2) := by decide +kernel
theorem dX5_exchange_67 : decode cX5_exchange 67 = .ok (.bipush 60, 2) := by decide +kernel
theorem dX5_exchange_69 : decode cX5_exchange 69 = .ok (.if_icmp .ge 49, 3) := by decide +kernel
theorem dX5_exchange_72 : decode cX5_exchange 72 = .ok (.aload_n 0, 1) := by decide +kernel
theorem dX5_exchange_73 : decode cX5_exchange 73 = .ok (.getfield 50, 3) := by decide +kernel
theorem dX5_exchange_76 : decode cX5_exchange 76 = .ok (.iload_n 1, 1) := by decide +kernel
theorem dX5_exchange_77 : decode cX5_exchange 77 = .ok (.aaload, 1) := by decide +kernel
theorem dX5_exchange_78 : decode cX5_exchange 78 = .ok (.iload 4, 2) := by decide +kernel
theorem dX5_exchange_80 : decode cX5_exchange 80 = .ok (.iaload, 1) := by decide +kernel
theorem dX5_exchange_81 : decode cX5_exchange 81 = .ok (.istore 5, 2) := by decide +kernel
theorem dX5_exchange_83 : decode cX5_exchange 83 = .ok (.aload_n 0, 1) := by decide +kernel
theorem dX5_exchange_84 : decode cX5_exchange 84 = .ok (.getfield 50, 3) := by decide +kernel
theorem dX5_exchange_87 : decode cX5_exchange 87 = .ok (.iload_n 1, 1) := by decide +kernel
theorem dX5_exchange_88 : decode cX5_exchange 88 = .ok (.aaload, 1) := by decide +kernel
theorem dX5_exchange_89 : decode cX5_exchange 89 = .ok (.iload 4, 2) := by decide +kernel
theorem dX5_exchange_91 : decode cX5_exchange 91 = .ok (.aload_n 0, 1) := by decide +kernel
theorem dX5_exchange_92 : decode cX5_exchange 92 = .ok (.getfield 50, 3) := by decide +kernel
theorem dX5_exchange_95 : decode cX5_exchange 95 = .ok (.iload_n 2, 1) := by decide +kernel
theorem dX5_exchange_96 : decode cX5_exchange 96 = .ok (.aaload, 1) := by decide +kernel
theorem dX5_exchange_97 : decode cX5_exchange 97 = .ok (.iload 4, 2) := by decide +kernel
theorem dX5_exchange_99 : decode cX5_exchange 99 = .ok (.iaload, 1) := by decide +kernel
theorem dX5_exchange_100 : decode cX5_exchange 100 = .ok (.iastore, 1) := by decide +kernel
theorem dX5_exchange_101 : decode cX5_exchange 101 = .ok (.aload_n 0, 1) := by decide +kernel
theorem dX5_exchange_102 : decode cX5_exchange 102 = .ok (.getfield 50, 3) := by decide +kernel
theorem dX5_exchange_105 : decode cX5_exchange 105 = .ok (.iload_n 2, 1) := by decide +kernel
theorem dX5_exchange_106 : decode cX5_exchange 106 = .ok (.aaload, 1) := by decide +kernel
theorem dX5_exchange_107 : decode cX5_exchange 107 = .ok (.iload 4, 2) := by decide +kernel
theorem dX5_exchange_109 : decode cX5_exchange 109 = .ok (.iload 5, 2) := by decide +kernel
theorem dX5_exchange_111 : decode cX5_exchange 111 = .ok (.iastore, 1) := by decide +kernel
theorem dX5_exchange_112 : decode cX5_exchange 112 = .ok (.iinc 4 1, 3) := by decide +kernel
theorem dX5_exchange_115 : decode cX5_exchange 115 = .ok (.goto (-50), 3) := by decide +kernel
theorem dX5_exchange_118 : decode cX5_exchange 118 = .ok (.iconst 0, 1) := by decide +kernel
theorem dX5_exchange_119 : decode cX5_exchange 119 = .ok (.istore 4, 2) := by decide +kernel
theorem dX5_exchange_121 : decode cX5_exchange 121 = .ok (.iload 4, 2) := by decide +kernel
theorem dX5_exchange_123 : decode cX5_exchange 123 = .ok (.aload_n 0, 1) := by decide +kernel
theorem dX5_exchange_124 : decode cX5_exchange 124 = .ok (.invokevirtual 163, 3) := by decide +kernel
theorem dX5_exchange_127 : decode cX5_exchange 127 = .ok (.if_icmp .ge 53, 3) := by decide +kernel
theorem dX5_exchange_130 : decode cX5_exchange 130 = .ok (.aload_n 0, 1) := by decide +kernel
theorem dX5_exchange_131 : decode cX5_exchange 131 = .ok (.getfield 53, 3) := by decide +kernel
theorem dX5_exchange_134 : decode cX5_exchange 134 = .ok (.iload 4, 2) := by decide +kernel
theorem dX5_exchange_136 : decode cX5_exchange 136 = .ok (.aload_n 0, 1) := by decide +kernel
theorem dX5_exchange_137 : decode cX5_exchange 137 = .ok (.getfield 53, 3) := by decide +kernel
theorem dX5_exchange_140 : decode cX5_exchange 140 = .ok (.iload 4, 2) := by decide +kernel
theorem dX5_exchange_142 : decode cX5_exchange 142 = .ok (.iaload, 1) := by decide +kernel
theorem dX5_exchange_143 : decode cX5_exchange 143 = .ok (.iload_n 1, 1) := by decide +kernel
theorem dX5_exchange_144 : decode cX5_exchange 144 = .ok (.if_icmp .ne 7, 3) := by decide +kernel
theorem dX5_exchange_147 : decode cX5_exchange 147 = .ok (.iload_n 2, 1) := by decide +kernel
theorem dX5_exchange_148 : decode cX5_exchange 148 = .ok (.goto 25, 3) := by decide +kernel
theorem dX5_exchange_151 : decode cX5_exchange 151 = .ok (.aload_n 0, 1) := by decide +kernel
theorem dX5_exchange_152 : decode cX5_exchange 152 = .ok (.getfield 53, 3) := by decide +kernel
theorem dX5_exchange_155 : decode cX5_exchange 155 = .ok (.iload 4, 2) := by decide +kernel
theorem dX5_exchange_157 : decode cX5_exchange 157 = .ok (.iaload, 1) := by decide +kernel
theorem dX5_exchange_158 : decode cX5_exchange 158 = .ok (.iload_n 2, 1) := by decide +kernel
theorem dX5_exchange_159 : decode cX5_exchange 159 = .ok (.if_icmp .ne 7, 3) := by decide +kernel
theorem dX5_exchange_162 : decode cX5_exchange 162 = .ok (.iload_n 1, 1) := by decide +kernel
theorem dX5_exchange_163 : decode cX5_exchange 163 = .ok (.goto 10, 3) := by decide +kernel
theorem dX5_exchange_166 : decode cX5_exchange 166 = .ok (.aload_n 0, 1) := by decide +kernel
theorem dX5_exchange_167 : decode cX5_exchange 167 = .ok (.getfield 53, 3) := by decide +kernel
theorem dX5_exchange_170 : decode cX5_exchange 170 = .ok (.iload 4, 2) := by decide +kernel
theorem dX5_exchange_172 : decode cX5_exchange 172 = .ok (.iaload, 1) := by decide +kernel
theorem dX5_exchange_173 : decode cX5_exchange 173 = .ok (.iastore, 1) := by decide +kernel
theorem dX5_exchange_174 : decode cX5_exchange 174 = .ok (.iinc 4 1, 3) := by decide +kernel
theorem dX5_exchange_177 : decode cX5_exchange 177 = .ok (.goto (-56), 3) := by decide +kernel
theorem dX5_exchange_180 : decode cX5_exchange 180 = .ok (.return_, 1) := by decide +kernel
theorem dX5_has_0 : decode cX5_has 0 = .ok (.iload_n 1, 1) := by decide +kernel
theorem dX5_has_1 : decode cX5_has 1 = .ok (.ifCond .lt 15, 3) := by decide +kernel
theorem dX5_has_4 : decode cX5_has 4 = .ok (.iload_n 1, 1) := by decide +kernel
theorem dX5_has_5 : decode cX5_has 5 = .ok (.aload_n 0, 1) := by decide +kernel
theorem dX5_has_6 : decode cX5_has 6 = .ok (.getfield 29, 3) := by decide +kernel
theorem dX5_has_9 : decode cX5_has 9 = .ok (.if_icmp .ge 7, 3) := by decide +kernel
theorem dX5_has_12 : decode cX5_has 12 = .ok (.iconst 1, 1) := by decide +kernel
theorem dX5_has_13 : decode cX5_has 13 = .ok (.goto 4, 3) := by decide +kernel
theorem dX5_has_16 : decode cX5_has 16 = .ok (.iconst 0, 1) := by decide +kernel
theorem dX5_has_17 : decode cX5_has 17 = .ok (.ireturn, 1) := by decide +kernel
theorem dX5_isWord_0 : decode cX5_isWord 0 = .ok (.iload_n 1, 1) := by decide +kernel
theorem dX5_isWord_1 : decode cX5_isWord 1 = .ok (.ifCond .lt 15, 3) := by decide +kernel
theorem dX5_isWord_4 : decode cX5_isWord 4 = .ok (.iload_n 1, 1) := by decide +kernel
theorem dX5_isWord_5 : decode cX5_isWord 5 = .ok (.aload_n 0, 1) := by decide +kernel
theorem dX5_isWord_6 : decode cX5_isWord 6 = .ok (.invokevirtual 163, 3) := by decide +kernel
theorem dX5_isWord_9 : decode cX5_isWord 9 = .ok (.if_icmp .ge 7, 3) := by decide +kernel
theorem dX5_isWord_12 : decode cX5_isWord 12 = .ok (.iconst 1, 1) := by decide +kernel
theorem dX5_isWord_13 : decode cX5_isWord 13 = .ok (.goto 4, 3) := by decide +kernel
theorem dX5_isWord_16 : decode cX5_isWord 16 = .ok (.iconst 0, 1) := by decide +kernel
theorem dX5_isWord_17 : decode cX5_isWord 17 = .ok (.ireturn, 1) := by decide +kernel
theorem dX5_path_0 : decode cX5_path 0 = .ok (.aload_n 0, 1) := by decide +kernel
theorem dX5_path_1 : decode cX5_path 1 = .ok (.iload_n 1, 1) := by decide +kernel
theorem dX5_path_2 : decode cX5_path 2 = .ok (.invokevirtual 188, 3) := by decide +kernel
theorem dX5_path_5 : decode cX5_path 5 = .ok (.ifCond .ne 5, 3) := by decide +kernel
theorem dX5_path_8 : decode cX5_path 8 = .ok (.iconst (-1), 1) := by decide +kernel
theorem dX5_path_9 : decode cX5_path 9 = .ok (.ireturn, 1) := by decide +kernel
theorem dX5_path_10 : decode cX5_path 10 = .ok (.iload_n 2, 1) := by decide +kernel
theorem dX5_path_11 : decode cX5_path 11 = .ok (.tableswitch 87 0 5 #[37, 44, 51, 58, 65, 77], 37) := by decide +kernel
theorem dX5_path_48 : decode cX5_path 48 = .ok (.aload_n 0, 1) := by decide +kernel
theorem dX5_path_49 : decode cX5_path 49 = .ok (.getfield 33, 3) := by decide +kernel
theorem dX5_path_52 : decode cX5_path 52 = .ok (.iload_n 1, 1) := by decide +kernel
theorem dX5_path_53 : decode cX5_path 53 = .ok (.iaload, 1) := by decide +kernel
theorem dX5_path_54 : decode cX5_path 54 = .ok (.ireturn, 1) := by decide +kernel
theorem dX5_path_55 : decode cX5_path 55 = .ok (.aload_n 0, 1) := by decide +kernel
theorem dX5_path_56 : decode cX5_path 56 = .ok (.getfield 36, 3) := by decide +kernel
theorem dX5_path_59 : decode cX5_path 59 = .ok (.iload_n 1, 1) := by decide +kernel
theorem dX5_path_60 : decode cX5_path 60 = .ok (.iaload, 1) := by decide +kernel
theorem dX5_path_61 : decode cX5_path 61 = .ok (.ireturn, 1) := by decide +kernel
theorem dX5_path_62 : decode cX5_path 62 = .ok (.aload_n 0, 1) := by decide +kernel
theorem dX5_path_63 : decode cX5_path 63 = .ok (.getfield 39, 3) := by decide +kernel
theorem dX5_path_66 : decode cX5_path 66 = .ok (.iload_n 1, 1) := by decide +kernel
theorem dX5_path_67 : decode cX5_path 67 = .ok (.iaload, 1) := by decide +kernel
theorem dX5_path_68 : decode cX5_path 68 = .ok (.ireturn, 1) := by decide +kernel
theorem dX5_path_69 : decode cX5_path 69 = .ok (.aload_n 0, 1) := by decide +kernel
theorem dX5_path_70 : decode cX5_path 70 = .ok (.getfield 42, 3) := by decide +kernel
theorem dX5_path_73 : decode cX5_path 73 = .ok (.iload_n 1, 1) := by decide +kernel
theorem dX5_path_74 : decode cX5_path 74 = .ok (.iaload, 1) := by decide +kernel
theorem dX5_path_75 : decode cX5_path 75 = .ok (.ireturn, 1) := by decide +kernel
theorem dX5_path_76 : decode cX5_path 76 = .ok (.aload_n 0, 1) := by decide +kernel
theorem dX5_path_77 : decode cX5_path 77 = .ok (.getfield 56, 3) := by decide +kernel
theorem dX5_path_80 : decode cX5_path 80 = .ok (.aload_n 0, 1) := by decide +kernel
theorem dX5_path_81 : decode cX5_path 81 = .ok (.getfield 42, 3) := by decide +kernel
theorem dX5_path_84 : decode cX5_path 84 = .ok (.iload_n 1, 1) := by decide +kernel
theorem dX5_path_85 : decode cX5_path 85 = .ok (.iaload, 1) := by decide +kernel
theorem dX5_path_86 : decode cX5_path 86 = .ok (.iaload, 1) := by decide +kernel
theorem dX5_path_87 : decode cX5_path 87 = .ok (.ireturn, 1) := by decide +kernel
theorem dX5_path_88 : decode cX5_path 88 = .ok (.aload_n 0, 1) := by decide +kernel
theorem dX5_path_89 : decode cX5_path 89 = .ok (.getfield 45, 3) := by decide +kernel
theorem dX5_path_92 : decode cX5_path 92 = .ok (.iload_n 1, 1) := by decide +kernel
theorem dX5_path_93 : decode cX5_path 93 = .ok (.baload, 1) := by decide +kernel
theorem dX5_path_94 : decode cX5_path 94 = .ok (.invokestatic 128, 3) := by decide +kernel
theorem dX5_path_97 : decode cX5_path 97 = .ok (.ireturn, 1) := by decide +kernel
theorem dX5_path_98 : decode cX5_path 98 = .ok (.iconst 0, 1) := by decide +kernel
theorem dX5_path_99 : decode cX5_path 99 = .ok (.ireturn, 1) := by decide +kernel
theorem dX5_decision_0 : decode cX5_decision 0 = .ok (.aload_n 0, 1) := by decide +kernel
theorem dX5_decision_1 : decode cX5_decision 1 = .ok (.iload_n 1, 1) := by decide +kernel
theorem dX5_decision_2 : decode cX5_decision 2 = .ok (.invokevirtual 188, 3) := by decide +kernel
theorem dX5_decision_5 : decode cX5_decision 5 = .ok (.ifCond .eq 28, 3) := by decide +kernel
theorem dX5_decision_8 : decode cX5_decision 8 = .ok (.iload_n 2, 1) := by decide +kernel
theorem dX5_decision_9 : decode cX5_decision 9 = .ok (.ifCond .lt 24, 3) := by decide +kernel
theorem dX5_decision_12 : decode cX5_decision 12 = .ok (.iload_n 2, 1) := by decide +kernel
theorem dX5_decision_13 : decode cX5_decision 13 = .ok (.aload_n 0, 1) := by decide +kernel
theorem dX5_decision_14 : decode cX5_decision 14 = .ok (.getfield 39, 3) := by decide +kernel
theorem dX5_decision_17 : decode cX5_decision 17 = .ok (.iload_n 1, 1) := by decide +kernel
theorem dX5_decision_18 : decode cX5_decision 18 = .ok (.iaload, 1) := by decide +kernel
theorem dX5_decision_19 : decode cX5_decision 19 = .ok (.if_icmp .ge 14, 3) := by decide +kernel
theorem dX5_decision_22 : decode cX5_decision 22 = .ok (.aload_n 0, 1) := by decide +kernel
theorem dX5_decision_23 : decode cX5_decision 23 = .ok (.getfield 50, 3) := by decide +kernel
theorem dX5_decision_26 : decode cX5_decision 26 = .ok (.iload_n 1, 1) := by decide +kernel
theorem dX5_decision_27 : decode cX5_decision 27 = .ok (.aaload, 1) := by decide +kernel
theorem dX5_decision_28 : decode cX5_decision 28 = .ok (.iload_n 2, 1) := by decide +kernel
theorem dX5_decision_29 : decode cX5_decision 29 = .ok (.iaload, 1) := by decide +kernel
theorem dX5_decision_30 : decode cX5_decision 30 = .ok (.goto 4, 3) := by decide +kernel
theorem dX5_decision_33 : decode cX5_decision 33 = .ok (.iconst (-1), 1) := by decide +kernel
theorem dX5_decision_34 : decode cX5_decision 34 = .ok (.ireturn, 1) := by decide +kernel
theorem dX5_holds_0 : decode cX5_holds 0 = .ok (.aload_n 0, 1) := by decide +kernel
theorem dX5_holds_1 : decode cX5_holds 1 = .ok (.iload_n 1, 1) := by decide +kernel
theorem dX5_holds_2 : decode cX5_holds 2 = .ok (.invokevirtual 188, 3) := by decide +kernel
theorem dX5_holds_5 : decode cX5_holds 5 = .ok (.ifCond .eq 32, 3) := by decide +kernel
theorem dX5_holds_8 : decode cX5_holds 8 = .ok (.aload_n 0, 1) := by decide +kernel
theorem dX5_holds_9 : decode cX5_holds 9 = .ok (.iload_n 2, 1) := by decide +kernel
theorem dX5_holds_10 : decode cX5_holds 10 = .ok (.invokevirtual 191, 3) := by decide +kernel
theorem dX5_holds_13 : decode cX5_holds 13 = .ok (.ifCond .eq 24, 3) := by decide +kernel
theorem dX5_holds_16 : decode cX5_holds 16 = .ok (.aload_n 0, 1) := by decide +kernel
theorem dX5_holds_17 : decode cX5_holds 17 = .ok (.getfield 53, 3) := by decide +kernel
theorem dX5_holds_20 : decode cX5_holds 20 = .ok (.iload_n 2, 1) := by decide +kernel
theorem dX5_holds_21 : decode cX5_holds 21 = .ok (.iaload, 1) := by decide +kernel
theorem dX5_holds_22 : decode cX5_holds 22 = .ok (.iload_n 1, 1) := by decide +kernel
theorem dX5_holds_23 : decode cX5_holds 23 = .ok (.if_icmp .ne 7, 3) := by decide +kernel
theorem dX5_holds_26 : decode cX5_holds 26 = .ok (.iconst 1, 1) := by decide +kernel
theorem dX5_holds_27 : decode cX5_holds 27 = .ok (.goto 4, 3) := by decide +kernel
theorem dX5_holds_30 : decode cX5_holds 30 = .ok (.iconst 0, 1) := by decide +kernel
theorem dX5_holds_31 : decode cX5_holds 31 = .ok (.invokestatic 128, 3) := by decide +kernel
theorem dX5_holds_34 : decode cX5_holds 34 = .ok (.goto 4, 3) := by decide +kernel
theorem dX5_holds_37 : decode cX5_holds 37 = .ok (.iconst (-1), 1) := by decide +kernel
theorem dX5_holds_38 : decode cX5_holds 38 = .ok (.ireturn, 1) := by decide +kernel
theorem dX5_value_0 : decode cX5_value 0 = .ok (.aload_n 0, 1) := by decide +kernel
theorem dX5_value_1 : decode cX5_value 1 = .ok (.iload_n 1, 1) := by decide +kernel
theorem dX5_value_2 : decode cX5_value 2 = .ok (.invokevirtual 188, 3) := by decide +kernel
theorem dX5_value_5 : decode cX5_value 5 = .ok (.ifCond .eq 11, 3) := by decide +kernel
theorem dX5_value_8 : decode cX5_value 8 = .ok (.aload_n 0, 1) := by decide +kernel
theorem dX5_value_9 : decode cX5_value 9 = .ok (.iload_n 2, 1) := by decide +kernel
theorem dX5_value_10 : decode cX5_value 10 = .ok (.invokevirtual 191, 3) := by decide +kernel
theorem dX5_value_13 : decode cX5_value 13 = .ok (.ifCond .ne 5, 3) := by decide +kernel
theorem dX5_value_16 : decode cX5_value 16 = .ok (.iconst 0, 1) := by decide +kernel
theorem dX5_value_17 : decode cX5_value 17 = .ok (.ireturn, 1) := by decide +kernel
theorem dX5_value_18 : decode cX5_value 18 = .ok (.aload_n 0, 1) := by decide +kernel
theorem dX5_value_19 : decode cX5_value 19 = .ok (.iload_n 2, 1) := by decide +kernel
theorem dX5_value_20 : decode cX5_value 20 = .ok (.aload_n 0, 1) := by decide +kernel
theorem dX5_value_21 : decode cX5_value 21 = .ok (.getfield 50, 3) := by decide +kernel
theorem dX5_value_24 : decode cX5_value 24 = .ok (.iload_n 1, 1) := by decide +kernel
theorem dX5_value_25 : decode cX5_value 25 = .ok (.aaload, 1) := by decide +kernel
theorem dX5_value_26 : decode cX5_value 26 = .ok (.iconst 0, 1) := by decide +kernel
theorem dX5_value_27 : decode cX5_value 27 = .ok (.invokevirtual 167, 3) := by decide +kernel
theorem dX5_value_30 : decode cX5_value 30 = .ok (.aload_n 0, 1) := by decide +kernel
theorem dX5_value_31 : decode cX5_value 31 = .ok (.getfield 142, 3) := by decide +kernel
theorem dX5_value_34 : decode cX5_value 34 = .ok (.ireturn, 1) := by decide +kernel
theorem dX5_find_0 : decode cX5_find 0 = .ok (.aload_n 0, 1) := by decide +kernel
theorem dX5_find_1 : decode cX5_find 1 = .ok (.iload_n 1, 1) := by decide +kernel
theorem dX5_find_2 : decode cX5_find 2 = .ok (.invokevirtual 188, 3) := by decide +kernel
theorem dX5_find_5 : decode cX5_find 5 = .ok (.ifCond .eq 12, 3) := by decide +kernel
theorem dX5_find_8 : decode cX5_find 8 = .ok (.iload_n 2, 1) := by decide +kernel
theorem dX5_find_9 : decode cX5_find 9 = .ok (.ifCond .lt 8, 3) := by decide +kernel
theorem dX5_find_12 : decode cX5_find 12 = .ok (.iload_n 2, 1) := by decide +kernel
theorem dX5_find_13 : decode cX5_find 13 = .ok (.iconst 3, 1) := by decide +kernel
theorem dX5_find_14 : decode cX5_find 14 = .ok (.if_icmp .le 5, 3) := by decide +kernel
theorem dX5_find_17 : decode cX5_find 17 = .ok (.iconst (-1), 1) := by decide +kernel
theorem dX5_find_18 : decode cX5_find 18 = .ok (.ireturn, 1) := by decide +kernel
theorem dX5_find_19 : decode cX5_find 19 = .ok (.iconst 0, 1) := by decide +kernel
theorem dX5_find_20 : decode cX5_find 20 = .ok (.istore 4, 2) := by decide +kernel
theorem dX5_find_22 : decode cX5_find 22 = .ok (.iload 4, 2) := by decide +kernel
theorem dX5_find_24 : decode cX5_find 24 = .ok (.aload_n 0, 1) := by decide +kernel
theorem dX5_find_25 : decode cX5_find 25 = .ok (.invokevirtual 163, 3) := by decide +kernel
theorem dX5_find_28 : decode cX5_find 28 = .ok (.if_icmp .ge 81, 3) := by decide +kernel
theorem dX5_find_31 : decode cX5_find 31 = .ok (.aload_n 0, 1) := by decide +kernel
theorem dX5_find_32 : decode cX5_find 32 = .ok (.getfield 53, 3) := by decide +kernel
theorem dX5_find_35 : decode cX5_find 35 = .ok (.iload 4, 2) := by decide +kernel
theorem dX5_find_37 : decode cX5_find 37 = .ok (.iaload, 1) := by decide +kernel
theorem dX5_find_38 : decode cX5_find 38 = .ok (.iload_n 1, 1) := by decide +kernel
theorem dX5_find_39 : decode cX5_find 39 = .ok (.if_icmp .eq 6, 3) := by decide +kernel
theorem dX5_find_42 : decode cX5_find 42 = .ok (.goto 61, 3) := by decide +kernel
theorem dX5_find_45 : decode cX5_find 45 = .ok (.aload_n 0, 1) := by decide +kernel
theorem dX5_find_46 : decode cX5_find 46 = .ok (.getfield 56, 3) := by decide +kernel
theorem dX5_find_49 : decode cX5_find 49 = .ok (.iload 4, 2) := by decide +kernel
theorem dX5_find_51 : decode cX5_find 51 = .ok (.iaload, 1) := by decide +kernel
theorem dX5_find_52 : decode cX5_find 52 = .ok (.istore 5, 2) := by decide +kernel
theorem dX5_find_54 : decode cX5_find 54 = .ok (.iload_n 2, 1) := by decide +kernel
theorem dX5_find_55 : decode cX5_find 55 = .ok (.ifCond .ne 9, 3) := by decide +kernel
theorem dX5_find_58 : decode cX5_find 58 = .ok (.iload 5, 2) := by decide +kernel
theorem dX5_find_60 : decode cX5_find 60 = .ok (.iload_n 3, 1) := by decide +kernel
theorem dX5_find_61 : decode cX5_find 61 = .ok (.if_icmp .eq 39, 3) := by decide +kernel
theorem dX5_find_64 : decode cX5_find 64 = .ok (.iload_n 2, 1) := by decide +kernel
theorem dX5_find_65 : decode cX5_find 65 = .ok (.iconst 1, 1) := by decide +kernel
theorem dX5_find_66 : decode cX5_find 66 = .ok (.if_icmp .ne 9, 3) := by decide +kernel
theorem dX5_find_69 : decode cX5_find 69 = .ok (.iload 5, 2) := by decide +kernel
theorem dX5_find_71 : decode cX5_find 71 = .ok (.iload_n 3, 1) := by decide +kernel
theorem dX5_find_72 : decode cX5_find 72 = .ok (.if_icmp .ne 28, 3) := by decide +kernel
theorem dX5_find_75 : decode cX5_find 75 = .ok (.iload_n 2, 1) := by decide +kernel
theorem dX5_find_76 : decode cX5_find 76 = .ok (.iconst 2, 1) := by decide +kernel
theorem dX5_find_77 : decode cX5_find 77 = .ok (.if_icmp .ne 12, 3) := by decide +kernel
theorem dX5_find_80 : decode cX5_find 80 = .ok (.iload 5, 2) := by decide +kernel
theorem dX5_find_82 : decode cX5_find 82 = .ok (.iload_n 3, 1) := by decide +kernel
theorem dX5_find_83 : decode cX5_find 83 = .ok (.invokestatic 132, 3) := by decide +kernel
theorem dX5_find_86 : decode cX5_find 86 = .ok (.ifCond .ne 14, 3) := by decide +kernel
theorem dX5_find_89 : decode cX5_find 89 = .ok (.iload_n 2, 1) := by decide +kernel
theorem dX5_find_90 : decode cX5_find 90 = .ok (.iconst 3, 1) := by decide +kernel
theorem dX5_find_91 : decode cX5_find 91 = .ok (.if_icmp .ne 12, 3) := by decide +kernel
theorem dX5_find_94 : decode cX5_find 94 = .ok (.iload 5, 2) := by decide +kernel
theorem dX5_find_96 : decode cX5_find 96 = .ok (.iload_n 3, 1) := by decide +kernel
theorem dX5_find_97 : decode cX5_find 97 = .ok (.if_icmp .ge 6, 3) := by decide +kernel
theorem dX5_find_100 : decode cX5_find 100 = .ok (.iload 4, 2) := by decide +kernel
theorem dX5_find_102 : decode cX5_find 102 = .ok (.ireturn, 1) := by decide +kernel
theorem dX5_find_103 : decode cX5_find 103 = .ok (.iinc 4 1, 3) := by decide +kernel
theorem dX5_find_106 : decode cX5_find 106 = .ok (.goto (-84), 3) := by decide +kernel
theorem dX5_find_109 : decode cX5_find 109 = .ok (.iconst (-1), 1) := by decide +kernel
theorem dX5_find_110 : decode cX5_find 110 = .ok (.ireturn, 1) := by decide +kernel
theorem dX5_run_0 : decode cX5_run 0 = .ok (.aload_n 0, 1) := by decide +kernel
theorem dX5_run_1 : decode cX5_run 1 = .ok (.iload_n 1, 1) := by decide +kernel
theorem dX5_run_2 : decode cX5_run 2 = .ok (.invokevirtual 191, 3) := by decide +kernel
theorem dX5_run_5 : decode cX5_run 5 = .ok (.ifCond .ne 5, 3) := by decide +kernel
theorem dX5_run_8 : decode cX5_run 8 = .ok (.iconst (-1), 1) := by decide +kernel
theorem dX5_run_9 : decode cX5_run 9 = .ok (.ireturn, 1) := by decide +kernel
theorem dX5_run_10 : decode cX5_run 10 = .ok (.aload_n 0, 1) := by decide +kernel
theorem dX5_run_11 : decode cX5_run 11 = .ok (.iload_n 1, 1) := by decide +kernel
theorem dX5_run_12 : decode cX5_run 12 = .ok (.aconst_null, 1) := by decide +kernel
theorem dX5_run_13 : decode cX5_run 13 = .ok (.iconst 0, 1) := by decide +kernel
theorem dX5_run_14 : decode cX5_run 14 = .ok (.invokevirtual 167, 3) := by decide +kernel
theorem dX5_run_17 : decode cX5_run 17 = .ok (.aload_n 0, 1) := by decide +kernel
theorem dX5_run_18 : decode cX5_run 18 = .ok (.iconst 1, 1) := by decide +kernel
theorem dX5_run_19 : decode cX5_run 19 = .ok (.putfield 116, 3) := by decide +kernel
theorem dX5_run_22 : decode cX5_run 22 = .ok (.aload_n 0, 1) := by decide +kernel
theorem dX5_run_23 : decode cX5_run 23 = .ok (.iconst 1, 1) := by decide +kernel
theorem dX5_run_24 : decode cX5_run 24 = .ok (.putfield 80, 3) := by decide +kernel
theorem dX5_run_27 : decode cX5_run 27 = .ok (.aload_n 0, 1) := by decide +kernel
theorem dX5_run_28 : decode cX5_run 28 = .ok (.iload_n 1, 1) := by decide +kernel
theorem dX5_run_29 : decode cX5_run 29 = .ok (.putfield 194, 3) := by decide +kernel
theorem dX5_run_32 : decode cX5_run 32 = .ok (.aload_n 0, 1) := by decide +kernel
theorem dX5_run_33 : decode cX5_run 33 = .ok (.aload_n 0, 1) := by decide +kernel
theorem dX5_run_34 : decode cX5_run 34 = .ok (.getfield 136, 3) := by decide +kernel
theorem dX5_run_37 : decode cX5_run 37 = .ok (.putfield 197, 3) := by decide +kernel
theorem dX5_run_40 : decode cX5_run 40 = .ok (.aload_n 0, 1) := by decide +kernel
theorem dX5_run_41 : decode cX5_run 41 = .ok (.aload_n 0, 1) := by decide +kernel
theorem dX5_run_42 : decode cX5_run 42 = .ok (.getfield 139, 3) := by decide +kernel
theorem dX5_run_45 : decode cX5_run 45 = .ok (.putfield 200, 3) := by decide +kernel
theorem dX5_run_48 : decode cX5_run 48 = .ok (.aload_n 0, 1) := by decide +kernel
theorem dX5_run_49 : decode cX5_run 49 = .ok (.aload_n 0, 1) := by decide +kernel
theorem dX5_run_50 : decode cX5_run 50 = .ok (.getfield 142, 3) := by decide +kernel
theorem dX5_run_53 : decode cX5_run 53 = .ok (.putfield 203, 3) := by decide +kernel
theorem dX5_run_56 : decode cX5_run 56 = .ok (.aload_n 0, 1) := by decide +kernel
theorem dX5_run_57 : decode cX5_run 57 = .ok (.aload_n 0, 1) := by decide +kernel
theorem dX5_run_58 : decode cX5_run 58 = .ok (.getfield 145, 3) := by decide +kernel
theorem dX5_run_61 : decode cX5_run 61 = .ok (.putfield 206, 3) := by decide +kernel
theorem dX5_run_64 : decode cX5_run 64 = .ok (.aload_n 0, 1) := by decide +kernel
theorem dX5_run_65 : decode cX5_run 65 = .ok (.aload_n 0, 1) := by decide +kernel
theorem dX5_run_66 : decode cX5_run 66 = .ok (.getfield 148, 3) := by decide +kernel
theorem dX5_run_69 : decode cX5_run 69 = .ok (.putfield 209, 3) := by decide +kernel
theorem dX5_run_72 : decode cX5_run 72 = .ok (.iconst 0, 1) := by decide +kernel
theorem dX5_run_73 : decode cX5_run 73 = .ok (.istore_n 2, 1) := by decide +kernel
theorem dX5_run_74 : decode cX5_run 74 = .ok (.iload_n 2, 1) := by decide +kernel
theorem dX5_run_75 : decode cX5_run 75 = .ok (.bipush 16, 2) := by decide +kernel
theorem dX5_run_77 : decode cX5_run 77 = .ok (.if_icmp .ge 21, 3) := by decide +kernel
theorem dX5_run_80 : decode cX5_run 80 = .ok (.aload_n 0, 1) := by decide +kernel
theorem dX5_run_81 : decode cX5_run 81 = .ok (.getfield 71, 3) := by decide +kernel
theorem dX5_run_84 : decode cX5_run 84 = .ok (.iload_n 2, 1) := by decide +kernel
theorem dX5_run_85 : decode cX5_run 85 = .ok (.aload_n 0, 1) := by decide +kernel
theorem dX5_run_86 : decode cX5_run 86 = .ok (.getfield 62, 3) := by decide +kernel
theorem dX5_run_89 : decode cX5_run 89 = .ok (.iload_n 2, 1) := by decide +kernel
theorem dX5_run_90 : decode cX5_run 90 = .ok (.iaload, 1) := by decide +kernel
theorem dX5_run_91 : decode cX5_run 91 = .ok (.iastore, 1) := by decide +kernel
theorem dX5_run_92 : decode cX5_run 92 = .ok (.iinc 2 1, 3) := by decide +kernel
theorem dX5_run_95 : decode cX5_run 95 = .ok (.goto (-21), 3) := by decide +kernel
theorem dX5_run_98 : decode cX5_run 98 = .ok (.iconst 0, 1) := by decide +kernel
theorem dX5_run_99 : decode cX5_run 99 = .ok (.istore_n 2, 1) := by decide +kernel
theorem dX5_run_100 : decode cX5_run 100 = .ok (.iload_n 2, 1) := by decide +kernel
theorem dX5_run_101 : decode cX5_run 101 = .ok (.bipush 8, 2) := by decide +kernel
theorem dX5_run_103 : decode cX5_run 103 = .ok (.if_icmp .ge 21, 3) := by decide +kernel
theorem dX5_run_106 : decode cX5_run 106 = .ok (.aload_n 0, 1) := by decide +kernel
theorem dX5_run_107 : decode cX5_run 107 = .ok (.getfield 74, 3) := by decide +kernel
theorem dX5_run_110 : decode cX5_run 110 = .ok (.iload_n 2, 1) := by decide +kernel
theorem dX5_run_111 : decode cX5_run 111 = .ok (.aload_n 0, 1) := by decide +kernel
theorem dX5_run_112 : decode cX5_run 112 = .ok (.getfield 65, 3) := by decide +kernel
theorem dX5_run_115 : decode cX5_run 115 = .ok (.iload_n 2, 1) := by decide +kernel
theorem dX5_run_116 : decode cX5_run 116 = .ok (.iaload, 1) := by decide +kernel
theorem dX5_run_117 : decode cX5_run 117 = .ok (.iastore, 1) := by decide +kernel
theorem dX5_run_118 : decode cX5_run 118 = .ok (.iinc 2 1, 3) := by decide +kernel
theorem dX5_run_121 : decode cX5_run 121 = .ok (.goto (-21), 3) := by decide +kernel
theorem dX5_run_124 : decode cX5_run 124 = .ok (.aload_n 0, 1) := by decide +kernel
theorem dX5_run_125 : decode cX5_run 125 = .ok (.getfield 136, 3) := by decide +kernel
theorem dX5_run_128 : decode cX5_run 128 = .ok (.ireturn, 1) := by decide +kernel
theorem dX5_ran_0 : decode cX5_ran 0 = .ok (.aload_n 0, 1) := by decide +kernel
theorem dX5_ran_1 : decode cX5_ran 1 = .ok (.getfield 116, 3) := by decide +kernel
theorem dX5_ran_4 : decode cX5_ran 4 = .ok (.ifCond .ne 5, 3) := by decide +kernel
theorem dX5_ran_7 : decode cX5_ran 7 = .ok (.iconst (-1), 1) := by decide +kernel
theorem dX5_ran_8 : decode cX5_ran 8 = .ok (.ireturn, 1) := by decide +kernel
theorem dX5_ran_9 : decode cX5_ran 9 = .ok (.iload_n 1, 1) := by decide +kernel
theorem dX5_ran_10 : decode cX5_ran 10 = .ok (.tableswitch 91 0 5 #[38, 43, 48, 53, 58, 63], 38) := by decide +kernel
theorem dX5_ran_48 : decode cX5_ran 48 = .ok (.aload_n 0, 1) := by decide +kernel
theorem dX5_ran_49 : decode cX5_ran 49 = .ok (.getfield 197, 3) := by decide +kernel
theorem dX5_ran_52 : decode cX5_ran 52 = .ok (.ireturn, 1) := by decide +kernel
theorem dX5_ran_53 : decode cX5_ran 53 = .ok (.aload_n 0, 1) := by decide +kernel
theorem dX5_ran_54 : decode cX5_ran 54 = .ok (.getfield 200, 3) := by decide +kernel
theorem dX5_ran_57 : decode cX5_ran 57 = .ok (.ireturn, 1) := by decide +kernel
theorem dX5_ran_58 : decode cX5_ran 58 = .ok (.aload_n 0, 1) := by decide +kernel
theorem dX5_ran_59 : decode cX5_ran 59 = .ok (.getfield 203, 3) := by decide +kernel
theorem dX5_ran_62 : decode cX5_ran 62 = .ok (.ireturn, 1) := by decide +kernel
theorem dX5_ran_63 : decode cX5_ran 63 = .ok (.aload_n 0, 1) := by decide +kernel
theorem dX5_ran_64 : decode cX5_ran 64 = .ok (.getfield 206, 3) := by decide +kernel
theorem dX5_ran_67 : decode cX5_ran 67 = .ok (.ireturn, 1) := by decide +kernel
theorem dX5_ran_68 : decode cX5_ran 68 = .ok (.aload_n 0, 1) := by decide +kernel
theorem dX5_ran_69 : decode cX5_ran 69 = .ok (.getfield 209, 3) := by decide +kernel
theorem dX5_ran_72 : decode cX5_ran 72 = .ok (.ireturn, 1) := by decide +kernel
theorem dX5_ran_73 : decode cX5_ran 73 = .ok (.aload_n 0, 1) := by decide +kernel
theorem dX5_ran_74 : decode cX5_ran 74 = .ok (.getfield 29, 3) := by decide +kernel
theorem dX5_ran_77 : decode cX5_ran 77 = .ok (.ifCond .lt 22, 3) := by decide +kernel
theorem dX5_ran_80 : decode cX5_ran 80 = .ok (.aload_n 0, 1) := by decide +kernel
theorem dX5_ran_81 : decode cX5_ran 81 = .ok (.getfield 80, 3) := by decide +kernel
theorem dX5_ran_84 : decode cX5_ran 84 = .ok (.ifCond .eq 15, 3) := by decide +kernel
theorem dX5_ran_87 : decode cX5_ran 87 = .ok (.aload_n 0, 1) := by decide +kernel
theorem dX5_ran_88 : decode cX5_ran 88 = .ok (.getfield 53, 3) := by decide +kernel
theorem dX5_ran_91 : decode cX5_ran 91 = .ok (.aload_n 0, 1) := by decide +kernel
theorem dX5_ran_92 : decode cX5_ran 92 = .ok (.getfield 194, 3) := by decide +kernel
theorem dX5_ran_95 : decode cX5_ran 95 = .ok (.iaload, 1) := by decide +kernel
theorem dX5_ran_96 : decode cX5_ran 96 = .ok (.goto 4, 3) := by decide +kernel
theorem dX5_ran_99 : decode cX5_ran 99 = .ok (.iconst (-1), 1) := by decide +kernel
theorem dX5_ran_100 : decode cX5_ran 100 = .ok (.ireturn, 1) := by decide +kernel
theorem dX5_ran_101 : decode cX5_ran 101 = .ok (.iconst (-1), 1) := by decide +kernel
theorem dX5_ran_102 : decode cX5_ran 102 = .ok (.ireturn, 1) := by decide +kernel
theorem dX5_register_0 : decode cX5_register 0 = .ok (.aload_n 0, 1) := by decide +kernel
theorem dX5_register_1 : decode cX5_register 1 = .ok (.getfield 116, 3) := by decide +kernel
theorem dX5_register_4 : decode cX5_register 4 = .ok (.ifCond .eq 22, 3) := by decide +kernel
theorem dX5_register_7 : decode cX5_register 7 = .ok (.iload_n 1, 1) := by decide +kernel
theorem dX5_register_8 : decode cX5_register 8 = .ok (.ifCond .lt 18, 3) := by decide +kernel
theorem dX5_register_11 : decode cX5_register 11 = .ok (.iload_n 1, 1) := by decide +kernel
theorem dX5_register_12 : decode cX5_register 12 = .ok (.bipush 16, 2) := by decide +kernel
theorem dX5_register_14 : decode cX5_register 14 = .ok (.if_icmp .ge 12, 3) := by decide +kernel
theorem dX5_register_17 : decode cX5_register 17 = .ok (.aload_n 0, 1) := by decide +kernel
theorem dX5_register_18 : decode cX5_register 18 = .ok (.getfield 71, 3) := by decide +kernel
theorem dX5_register_21 : decode cX5_register 21 = .ok (.iload_n 1, 1) := by decide +kernel
theorem dX5_register_22 : decode cX5_register 22 = .ok (.iaload, 1) := by decide +kernel
theorem dX5_register_23 : decode cX5_register 23 = .ok (.goto 4, 3) := by decide +kernel
theorem dX5_register_26 : decode cX5_register 26 = .ok (.iconst 0, 1) := by decide +kernel
theorem dX5_register_27 : decode cX5_register 27 = .ok (.ireturn, 1) := by decide +kernel
theorem dX5_cell_0 : decode cX5_cell 0 = .ok (.aload_n 0, 1) := by decide +kernel
theorem dX5_cell_1 : decode cX5_cell 1 = .ok (.getfield 116, 3) := by decide +kernel
theorem dX5_cell_4 : decode cX5_cell 4 = .ok (.ifCond .eq 22, 3) := by decide +kernel
theorem dX5_cell_7 : decode cX5_cell 7 = .ok (.iload_n 1, 1) := by decide +kernel
theorem dX5_cell_8 : decode cX5_cell 8 = .ok (.ifCond .lt 18, 3) := by decide +kernel
theorem dX5_cell_11 : decode cX5_cell 11 = .ok (.iload_n 1, 1) := by decide +kernel
theorem dX5_cell_12 : decode cX5_cell 12 = .ok (.bipush 8, 2) := by decide +kernel
theorem dX5_cell_14 : decode cX5_cell 14 = .ok (.if_icmp .ge 12, 3) := by decide +kernel
theorem dX5_cell_17 : decode cX5_cell 17 = .ok (.aload_n 0, 1) := by decide +kernel
theorem dX5_cell_18 : decode cX5_cell 18 = .ok (.getfield 74, 3) := by decide +kernel
theorem dX5_cell_21 : decode cX5_cell 21 = .ok (.iload_n 1, 1) := by decide +kernel
theorem dX5_cell_22 : decode cX5_cell 22 = .ok (.iaload, 1) := by decide +kernel
theorem dX5_cell_23 : decode cX5_cell 23 = .ok (.goto 4, 3) := by decide +kernel
theorem dX5_cell_26 : decode cX5_cell 26 = .ok (.iconst 0, 1) := by decide +kernel
theorem dX5_cell_27 : decode cX5_cell 27 = .ok (.ireturn, 1) := by decide +kernel
theorem dX5_failing_0 : decode cX5_failing 0 = .ok (.iconst (-1), 1) := by decide +kernel
theorem dX5_failing_1 : decode cX5_failing 1 = .ok (.istore_n 3, 1) := by decide +kernel
theorem dX5_failing_2 : decode cX5_failing 2 = .ok (.iconst 0, 1) := by decide +kernel
theorem dX5_failing_3 : decode cX5_failing 3 = .ok (.istore 4, 2) := by decide +kernel
theorem dX5_failing_5 : decode cX5_failing 5 = .ok (.iload 4, 2) := by decide +kernel
theorem dX5_failing_7 : decode cX5_failing 7 = .ok (.aload_n 0, 1) := by decide +kernel
theorem dX5_failing_8 : decode cX5_failing 8 = .ok (.getfield 29, 3) := by decide +kernel
theorem dX5_failing_11 : decode cX5_failing 11 = .ok (.if_icmp .ge 55, 3) := by decide +kernel
theorem dX5_failing_14 : decode cX5_failing 14 = .ok (.aload_n 0, 1) := by decide +kernel
theorem dX5_failing_15 : decode cX5_failing 15 = .ok (.getfield 33, 3) := by decide +kernel
theorem dX5_failing_18 : decode cX5_failing 18 = .ok (.iload 4, 2) := by decide +kernel
theorem dX5_failing_20 : decode cX5_failing 20 = .ok (.iaload, 1) := by decide +kernel
theorem dX5_failing_21 : decode cX5_failing 21 = .ok (.iload_n 1, 1) := by decide +kernel
theorem dX5_failing_22 : decode cX5_failing 22 = .ok (.if_icmp .ne 38, 3) := by decide +kernel
theorem dX5_failing_25 : decode cX5_failing 25 = .ok (.aload_n 0, 1) := by decide +kernel
theorem dX5_failing_26 : decode cX5_failing 26 = .ok (.getfield 36, 3) := by decide +kernel
theorem dX5_failing_29 : decode cX5_failing 29 = .ok (.iload 4, 2) := by decide +kernel
theorem dX5_failing_31 : decode cX5_failing 31 = .ok (.iaload, 1) := by decide +kernel
theorem dX5_failing_32 : decode cX5_failing 32 = .ok (.iload_n 2, 1) := by decide +kernel
theorem dX5_failing_33 : decode cX5_failing 33 = .ok (.if_icmp .ne 27, 3) := by decide +kernel
theorem dX5_failing_36 : decode cX5_failing 36 = .ok (.iload_n 3, 1) := by decide +kernel
theorem dX5_failing_37 : decode cX5_failing 37 = .ok (.iconst (-1), 1) := by decide +kernel
theorem dX5_failing_38 : decode cX5_failing 38 = .ok (.if_icmp .eq 14, 3) := by decide +kernel
theorem dX5_failing_41 : decode cX5_failing 41 = .ok (.aload_n 0, 1) := by decide +kernel
theorem dX5_failing_42 : decode cX5_failing 42 = .ok (.getfield 42, 3) := by decide +kernel
theorem dX5_failing_45 : decode cX5_failing 45 = .ok (.iload 4, 2) := by decide +kernel
theorem dX5_failing_47 : decode cX5_failing 47 = .ok (.iaload, 1) := by decide +kernel
theorem dX5_failing_48 : decode cX5_failing 48 = .ok (.iload_n 3, 1) := by decide +kernel
theorem dX5_failing_49 : decode cX5_failing 49 = .ok (.if_icmp .ge 11, 3) := by decide +kernel
theorem dX5_failing_52 : decode cX5_failing 52 = .ok (.aload_n 0, 1) := by decide +kernel
theorem dX5_failing_53 : decode cX5_failing 53 = .ok (.getfield 42, 3) := by decide +kernel
theorem dX5_failing_56 : decode cX5_failing 56 = .ok (.iload 4, 2) := by decide +kernel
theorem dX5_failing_58 : decode cX5_failing 58 = .ok (.iaload, 1) := by decide +kernel
theorem dX5_failing_59 : decode cX5_failing 59 = .ok (.istore_n 3, 1) := by decide +kernel
theorem dX5_failing_60 : decode cX5_failing 60 = .ok (.iinc 4 1, 3) := by decide +kernel
theorem dX5_failing_63 : decode cX5_failing 63 = .ok (.goto (-58), 3) := by decide +kernel
theorem dX5_failing_66 : decode cX5_failing 66 = .ok (.iload_n 3, 1) := by decide +kernel
theorem dX5_failing_67 : decode cX5_failing 67 = .ok (.ireturn, 1) := by decide +kernel
theorem dX5_failures_0 : decode cX5_failures 0 = .ok (.iconst 0, 1) := by decide +kernel
theorem dX5_failures_1 : decode cX5_failures 1 = .ok (.istore_n 1, 1) := by decide +kernel
theorem dX5_failures_2 : decode cX5_failures 2 = .ok (.iconst 0, 1) := by decide +kernel
theorem dX5_failures_3 : decode cX5_failures 3 = .ok (.istore_n 2, 1) := by decide +kernel
theorem dX5_failures_4 : decode cX5_failures 4 = .ok (.iload_n 2, 1) := by decide +kernel
theorem dX5_failures_5 : decode cX5_failures 5 = .ok (.aload_n 0, 1) := by decide +kernel
theorem dX5_failures_6 : decode cX5_failures 6 = .ok (.getfield 93, 3) := by decide +kernel
theorem dX5_failures_9 : decode cX5_failures 9 = .ok (.if_icmp .ge 40, 3) := by decide +kernel
theorem dX5_failures_12 : decode cX5_failures 12 = .ok (.iconst 1, 1) := by decide +kernel
theorem dX5_failures_13 : decode cX5_failures 13 = .ok (.istore_n 3, 1) := by decide +kernel
theorem dX5_failures_14 : decode cX5_failures 14 = .ok (.iload_n 3, 1) := by decide +kernel
theorem dX5_failures_15 : decode cX5_failures 15 = .ok (.iconst 5, 1) := by decide +kernel
theorem dX5_failures_16 : decode cX5_failures 16 = .ok (.if_icmp .ge 27, 3) := by decide +kernel
theorem dX5_failures_19 : decode cX5_failures 19 = .ok (.iload_n 1, 1) := by decide +kernel
theorem dX5_failures_20 : decode cX5_failures 20 = .ok (.aload_n 0, 1) := by decide +kernel
theorem dX5_failures_21 : decode cX5_failures 21 = .ok (.iload_n 3, 1) := by decide +kernel
theorem dX5_failures_22 : decode cX5_failures 22 = .ok (.iload_n 2, 1) := by decide +kernel
theorem dX5_failures_23 : decode cX5_failures 23 = .ok (.invokevirtual 212, 3) := by decide +kernel
theorem dX5_failures_26 : decode cX5_failures 26 = .ok (.iconst (-1), 1) := by decide +kernel
theorem dX5_failures_27 : decode cX5_failures 27 = .ok (.if_icmp .ne 7, 3) := by decide +kernel
theorem dX5_failures_30 : decode cX5_failures 30 = .ok (.iconst 0, 1) := by decide +kernel
theorem dX5_failures_31 : decode cX5_failures 31 = .ok (.goto 4, 3) := by decide +kernel
theorem dX5_failures_34 : decode cX5_failures 34 = .ok (.iconst 1, 1) := by decide +kernel
theorem dX5_failures_35 : decode cX5_failures 35 = .ok (.iadd, 1) := by decide +kernel
theorem dX5_failures_36 : decode cX5_failures 36 = .ok (.istore_n 1, 1) := by decide +kernel
theorem dX5_failures_37 : decode cX5_failures 37 = .ok (.iinc 3 1, 3) := by decide +kernel
theorem dX5_failures_40 : decode cX5_failures 40 = .ok (.goto (-26), 3) := by decide +kernel
theorem dX5_failures_43 : decode cX5_failures 43 = .ok (.iinc 2 1, 3) := by decide +kernel
theorem dX5_failures_46 : decode cX5_failures 46 = .ok (.goto (-42), 3) := by decide +kernel
theorem dX5_failures_49 : decode cX5_failures 49 = .ok (.iload_n 1, 1) := by decide +kernel
theorem dX5_failures_50 : decode cX5_failures 50 = .ok (.ireturn, 1) := by decide +kernel
theorem dX5_failure_0 : decode cX5_failure 0 = .ok (.iload_n 1, 1) := by decide +kernel
theorem dX5_failure_1 : decode cX5_failure 1 = .ok (.ifCond .ge 5, 3) := by decide +kernel
theorem dX5_failure_4 : decode cX5_failure 4 = .ok (.iconst (-1), 1) := by decide +kernel
theorem dX5_failure_5 : decode cX5_failure 5 = .ok (.ireturn, 1) := by decide +kernel
theorem dX5_failure_6 : decode cX5_failure 6 = .ok (.iload_n 1, 1) := by decide +kernel
theorem dX5_failure_7 : decode cX5_failure 7 = .ok (.istore_n 3, 1) := by decide +kernel
theorem dX5_failure_8 : decode cX5_failure 8 = .ok (.iconst 0, 1) := by decide +kernel
theorem dX5_failure_9 : decode cX5_failure 9 = .ok (.istore 4, 2) := by decide +kernel
theorem dX5_failure_11 : decode cX5_failure 11 = .ok (.iload 4, 2) := by decide +kernel
theorem dX5_failure_13 : decode cX5_failure 13 = .ok (.aload_n 0, 1) := by decide +kernel
theorem dX5_failure_14 : decode cX5_failure 14 = .ok (.getfield 93, 3) := by decide +kernel
theorem dX5_failure_17 : decode cX5_failure 17 = .ok (.if_icmp .ge 81, 3) := by decide +kernel
theorem dX5_failure_20 : decode cX5_failure 20 = .ok (.iconst 1, 1) := by decide +kernel
theorem dX5_failure_21 : decode cX5_failure 21 = .ok (.istore 5, 2) := by decide +kernel
theorem dX5_failure_23 : decode cX5_failure 23 = .ok (.iload 5, 2) := by decide +kernel
theorem dX5_failure_25 : decode cX5_failure 25 = .ok (.iconst 5, 1) := by decide +kernel
theorem dX5_failure_26 : decode cX5_failure 26 = .ok (.if_icmp .ge 66, 3) := by decide +kernel
theorem dX5_failure_29 : decode cX5_failure 29 = .ok (.aload_n 0, 1) := by decide +kernel
theorem dX5_failure_30 : decode cX5_failure 30 = .ok (.iload 5, 2) := by decide +kernel
theorem dX5_failure_32 : decode cX5_failure 32 = .ok (.iload 4, 2) := by decide +kernel
theorem dX5_failure_34 : decode cX5_failure 34 = .ok (.invokevirtual 212, 3) := by decide +kernel
theorem dX5_failure_37 : decode cX5_failure 37 = .ok (.istore 6, 2) := by decide +kernel
theorem dX5_failure_39 : decode cX5_failure 39 = .ok (.iload 6, 2) := by decide +kernel
theorem dX5_failure_41 : decode cX5_failure 41 = .ok (.iconst (-1), 1) := by decide +kernel
theorem dX5_failure_42 : decode cX5_failure 42 = .ok (.if_icmp .ne 6, 3) := by decide +kernel
theorem dX5_failure_45 : decode cX5_failure 45 = .ok (.goto 41, 3) := by decide +kernel
theorem dX5_failure_48 : decode cX5_failure 48 = .ok (.iload_n 3, 1) := by decide +kernel
theorem dX5_failure_49 : decode cX5_failure 49 = .ok (.ifCond .ne 34, 3) := by decide +kernel
theorem dX5_failure_52 : decode cX5_failure 52 = .ok (.iload_n 2, 1) := by decide +kernel
theorem dX5_failure_53 : decode cX5_failure 53 = .ok (.ifCond .ne 8, 3) := by decide +kernel
theorem dX5_failure_56 : decode cX5_failure 56 = .ok (.iload 5, 2) := by decide +kernel
theorem dX5_failure_58 : decode cX5_failure 58 = .ok (.goto 24, 3) := by decide +kernel
theorem dX5_failure_61 : decode cX5_failure 61 = .ok (.iload_n 2, 1) := by decide +kernel
theorem dX5_failure_62 : decode cX5_failure 62 = .ok (.iconst 1, 1) := by decide +kernel
theorem dX5_failure_63 : decode cX5_failure 63 = .ok (.if_icmp .ne 8, 3) := by decide +kernel
theorem dX5_failure_66 : decode cX5_failure 66 = .ok (.iload 4, 2) := by decide +kernel
theorem dX5_failure_68 : decode cX5_failure 68 = .ok (.goto 14, 3) := by decide +kernel
theorem dX5_failure_71 : decode cX5_failure 71 = .ok (.iload_n 2, 1) := by decide +kernel
theorem dX5_failure_72 : decode cX5_failure 72 = .ok (.iconst 2, 1) := by decide +kernel
theorem dX5_failure_73 : decode cX5_failure 73 = .ok (.if_icmp .ne 8, 3) := by decide +kernel
theorem dX5_failure_76 : decode cX5_failure 76 = .ok (.iload 6, 2) := by decide +kernel
theorem dX5_failure_78 : decode cX5_failure 78 = .ok (.goto 4, 3) := by decide +kernel
theorem dX5_failure_81 : decode cX5_failure 81 = .ok (.iconst (-1), 1) := by decide +kernel
theorem dX5_failure_82 : decode cX5_failure 82 = .ok (.ireturn, 1) := by decide +kernel
theorem dX5_failure_83 : decode cX5_failure 83 = .ok (.iinc 3 (-1), 3) := by decide +kernel
theorem dX5_failure_86 : decode cX5_failure 86 = .ok (.iinc 5 1, 3) := by decide +kernel
theorem dX5_failure_89 : decode cX5_failure 89 = .ok (.goto (-66), 3) := by decide +kernel
theorem dX5_failure_92 : decode cX5_failure 92 = .ok (.iinc 4 1, 3) := by decide +kernel
theorem dX5_failure_95 : decode cX5_failure 95 = .ok (.goto (-84), 3) := by decide +kernel
theorem dX5_failure_98 : decode cX5_failure 98 = .ok (.iconst (-1), 1) := by decide +kernel
theorem dX5_failure_99 : decode cX5_failure 99 = .ok (.ireturn, 1) := by decide +kernel
theorem dX5_covered_0 : decode cX5_covered 0 = .ok (.aload_n 0, 1) := by decide +kernel
theorem dX5_covered_1 : decode cX5_covered 1 = .ok (.getfield 29, 3) := by decide +kernel
theorem dX5_covered_4 : decode cX5_covered 4 = .ok (.ifCond .lt 15, 3) := by decide +kernel
theorem dX5_covered_7 : decode cX5_covered 7 = .ok (.iload_n 1, 1) := by decide +kernel
theorem dX5_covered_8 : decode cX5_covered 8 = .ok (.ifCond .lt 11, 3) := by decide +kernel
theorem dX5_covered_11 : decode cX5_covered 11 = .ok (.iload_n 1, 1) := by decide +kernel
theorem dX5_covered_12 : decode cX5_covered 12 = .ok (.aload_n 0, 1) := by decide +kernel
theorem dX5_covered_13 : decode cX5_covered 13 = .ok (.getfield 93, 3) := by decide +kernel
theorem dX5_covered_16 : decode cX5_covered 16 = .ok (.if_icmp .lt 7, 3) := by decide +kernel
theorem dX5_covered_19 : decode cX5_covered 19 = .ok (.iconst (-1), 1) := by decide +kernel
theorem dX5_covered_20 : decode cX5_covered 20 = .ok (.goto 12, 3) := by decide +kernel
theorem dX5_covered_23 : decode cX5_covered 23 = .ok (.aload_n 0, 1) := by decide +kernel
theorem dX5_covered_24 : decode cX5_covered 24 = .ok (.getfield 59, 3) := by decide +kernel
theorem dX5_covered_27 : decode cX5_covered 27 = .ok (.iload_n 1, 1) := by decide +kernel
theorem dX5_covered_28 : decode cX5_covered 28 = .ok (.baload, 1) := by decide +kernel
theorem dX5_covered_29 : decode cX5_covered 29 = .ok (.invokestatic 128, 3) := by decide +kernel
theorem dX5_covered_32 : decode cX5_covered 32 = .ok (.ireturn, 1) := by decide +kernel
theorem dX5_count_0 : decode cX5_count 0 = .ok (.iconst 0, 1) := by decide +kernel
theorem dX5_count_1 : decode cX5_count 1 = .ok (.istore_n 2, 1) := by decide +kernel
theorem dX5_count_2 : decode cX5_count 2 = .ok (.iload_n 1, 1) := by decide +kernel
theorem dX5_count_3 : decode cX5_count 3 = .ok (.tableswitch 119 0 5 #[37, 42, 47, 52, 57, 73], 37) := by decide +kernel
theorem dX5_count_40 : decode cX5_count 40 = .ok (.aload_n 0, 1) := by decide +kernel
theorem dX5_count_41 : decode cX5_count 41 = .ok (.getfield 84, 3) := by decide +kernel
theorem dX5_count_44 : decode cX5_count 44 = .ok (.ireturn, 1) := by decide +kernel
theorem dX5_count_45 : decode cX5_count 45 = .ok (.aload_n 0, 1) := by decide +kernel
theorem dX5_count_46 : decode cX5_count 46 = .ok (.getfield 87, 3) := by decide +kernel
theorem dX5_count_49 : decode cX5_count 49 = .ok (.ireturn, 1) := by decide +kernel
theorem dX5_count_50 : decode cX5_count 50 = .ok (.aload_n 0, 1) := by decide +kernel
theorem dX5_count_51 : decode cX5_count 51 = .ok (.getfield 93, 3) := by decide +kernel
theorem dX5_count_54 : decode cX5_count 54 = .ok (.ireturn, 1) := by decide +kernel
theorem dX5_count_55 : decode cX5_count 55 = .ok (.aload_n 0, 1) := by decide +kernel
theorem dX5_count_56 : decode cX5_count 56 = .ok (.getfield 29, 3) := by decide +kernel
theorem dX5_count_59 : decode cX5_count 59 = .ok (.ireturn, 1) := by decide +kernel
theorem dX5_count_60 : decode cX5_count 60 = .ok (.aload_n 0, 1) := by decide +kernel
theorem dX5_count_61 : decode cX5_count 61 = .ok (.getfield 29, 3) := by decide +kernel
theorem dX5_count_64 : decode cX5_count 64 = .ok (.ifCond .ge 7, 3) := by decide +kernel
theorem dX5_count_67 : decode cX5_count 67 = .ok (.iconst (-1), 1) := by decide +kernel
theorem dX5_count_68 : decode cX5_count 68 = .ok (.goto 7, 3) := by decide +kernel
theorem dX5_count_71 : decode cX5_count 71 = .ok (.aload_n 0, 1) := by decide +kernel
theorem dX5_count_72 : decode cX5_count 72 = .ok (.invokevirtual 215, 3) := by decide +kernel
theorem dX5_count_75 : decode cX5_count 75 = .ok (.ireturn, 1) := by decide +kernel
theorem dX5_count_76 : decode cX5_count 76 = .ok (.iconst 0, 1) := by decide +kernel
theorem dX5_count_77 : decode cX5_count 77 = .ok (.istore_n 3, 1) := by decide +kernel
theorem dX5_count_78 : decode cX5_count 78 = .ok (.iload_n 3, 1) := by decide +kernel
theorem dX5_count_79 : decode cX5_count 79 = .ok (.aload_n 0, 1) := by decide +kernel
theorem dX5_count_80 : decode cX5_count 80 = .ok (.getfield 93, 3) := by decide +kernel
theorem dX5_count_83 : decode cX5_count 83 = .ok (.if_icmp .ge 26, 3) := by decide +kernel
theorem dX5_count_86 : decode cX5_count 86 = .ok (.iload_n 2, 1) := by decide +kernel
theorem dX5_count_87 : decode cX5_count 87 = .ok (.aload_n 0, 1) := by decide +kernel
theorem dX5_count_88 : decode cX5_count 88 = .ok (.getfield 59, 3) := by decide +kernel
theorem dX5_count_91 : decode cX5_count 91 = .ok (.iload_n 3, 1) := by decide +kernel
theorem dX5_count_92 : decode cX5_count 92 = .ok (.baload, 1) := by decide +kernel
theorem dX5_count_93 : decode cX5_count 93 = .ok (.ifCond .eq 7, 3) := by decide +kernel
theorem dX5_count_96 : decode cX5_count 96 = .ok (.iconst 1, 1) := by decide +kernel
theorem dX5_count_97 : decode cX5_count 97 = .ok (.goto 4, 3) := by decide +kernel
theorem dX5_count_100 : decode cX5_count 100 = .ok (.iconst 0, 1) := by decide +kernel
theorem dX5_count_101 : decode cX5_count 101 = .ok (.iadd, 1) := by decide +kernel
theorem dX5_count_102 : decode cX5_count 102 = .ok (.istore_n 2, 1) := by decide +kernel
theorem dX5_count_103 : decode cX5_count 103 = .ok (.iinc 3 1, 3) := by decide +kernel
theorem dX5_count_106 : decode cX5_count 106 = .ok (.goto (-28), 3) := by decide +kernel
theorem dX5_count_109 : decode cX5_count 109 = .ok (.aload_n 0, 1) := by decide +kernel
theorem dX5_count_110 : decode cX5_count 110 = .ok (.getfield 29, 3) := by decide +kernel
theorem dX5_count_113 : decode cX5_count 113 = .ok (.ifCond .ge 7, 3) := by decide +kernel
theorem dX5_count_116 : decode cX5_count 116 = .ok (.iconst (-1), 1) := by decide +kernel
theorem dX5_count_117 : decode cX5_count 117 = .ok (.goto 4, 3) := by decide +kernel
theorem dX5_count_120 : decode cX5_count 120 = .ok (.iload_n 2, 1) := by decide +kernel
theorem dX5_count_121 : decode cX5_count 121 = .ok (.ireturn, 1) := by decide +kernel
theorem dX5_count_122 : decode cX5_count 122 = .ok (.iconst (-1), 1) := by decide +kernel
theorem dX5_count_123 : decode cX5_count 123 = .ok (.ireturn, 1) := by decide +kernel
