theorem dX2_init_0 : decode cX2_init 0 = .ok (.aload_n 0, 1) := by decide +kernel
theorem dX2_init_1 : decode cX2_init 1 = .ok (.invokespecial 1, 3) := by decide +kernel
theorem dX2_init_4 : decode cX2_init 4 = .ok (.aload_n 0, 1) := by decide +kernel
theorem dX2_init_5 : decode cX2_init 5 = .ok (.bipush 40, 2) := by decide +kernel
theorem dX2_init_7 : decode cX2_init 7 = .ok (.newarray .int, 2) := by decide +kernel
theorem dX2_init_9 : decode cX2_init 9 = .ok (.putfield 7, 3) := by decide +kernel
theorem dX2_init_12 : decode cX2_init 12 = .ok (.aload_n 0, 1) := by decide +kernel
theorem dX2_init_13 : decode cX2_init 13 = .ok (.sipush 300, 3) := by decide +kernel
theorem dX2_init_16 : decode cX2_init 16 = .ok (.newarray .int, 2) := by decide +kernel
theorem dX2_init_18 : decode cX2_init 18 = .ok (.putfield 13, 3) := by decide +kernel
theorem dX2_init_21 : decode cX2_init 21 = .ok (.aload_n 0, 1) := by decide +kernel
theorem dX2_init_22 : decode cX2_init 22 = .ok (.sipush 300, 3) := by decide +kernel
theorem dX2_init_25 : decode cX2_init 25 = .ok (.newarray .int, 2) := by decide +kernel
theorem dX2_init_27 : decode cX2_init 27 = .ok (.putfield 16, 3) := by decide +kernel
theorem dX2_init_30 : decode cX2_init 30 = .ok (.aload_n 0, 1) := by decide +kernel
theorem dX2_init_31 : decode cX2_init 31 = .ok (.sipush 300, 3) := by decide +kernel
theorem dX2_init_34 : decode cX2_init 34 = .ok (.newarray .int, 2) := by decide +kernel
theorem dX2_init_36 : decode cX2_init 36 = .ok (.putfield 19, 3) := by decide +kernel
theorem dX2_init_39 : decode cX2_init 39 = .ok (.aload_n 0, 1) := by decide +kernel
theorem dX2_init_40 : decode cX2_init 40 = .ok (.bipush 40, 2) := by decide +kernel
theorem dX2_init_42 : decode cX2_init 42 = .ok (.newarray .int, 2) := by decide +kernel
theorem dX2_init_44 : decode cX2_init 44 = .ok (.putfield 22, 3) := by decide +kernel
theorem dX2_init_47 : decode cX2_init 47 = .ok (.aload_n 0, 1) := by decide +kernel
theorem dX2_init_48 : decode cX2_init 48 = .ok (.bipush 40, 2) := by decide +kernel
theorem dX2_init_50 : decode cX2_init 50 = .ok (.newarray .int, 2) := by decide +kernel
theorem dX2_init_52 : decode cX2_init 52 = .ok (.putfield 25, 3) := by decide +kernel
theorem dX2_init_55 : decode cX2_init 55 = .ok (.aload_n 0, 1) := by decide +kernel
theorem dX2_init_56 : decode cX2_init 56 = .ok (.bipush 40, 2) := by decide +kernel
theorem dX2_init_58 : decode cX2_init 58 = .ok (.newarray .boolean, 2) := by decide +kernel
theorem dX2_init_60 : decode cX2_init 60 = .ok (.putfield 28, 3) := by decide +kernel
theorem dX2_init_63 : decode cX2_init 63 = .ok (.aload_n 0, 1) := by decide +kernel
theorem dX2_init_64 : decode cX2_init 64 = .ok (.bipush 40, 2) := by decide +kernel
theorem dX2_init_66 : decode cX2_init 66 = .ok (.newarray .boolean, 2) := by decide +kernel
theorem dX2_init_68 : decode cX2_init 68 = .ok (.putfield 32, 3) := by decide +kernel
theorem dX2_init_71 : decode cX2_init 71 = .ok (.aload_n 0, 1) := by decide +kernel
theorem dX2_init_72 : decode cX2_init 72 = .ok (.iload_n 1, 1) := by decide +kernel
theorem dX2_init_73 : decode cX2_init 73 = .ok (.iconst 1, 1) := by decide +kernel
theorem dX2_init_74 : decode cX2_init 74 = .ok (.if_icmp .ge 7, 3) := by decide +kernel
theorem dX2_init_77 : decode cX2_init 77 = .ok (.iconst 1, 1) := by decide +kernel
theorem dX2_init_78 : decode cX2_init 78 = .ok (.goto 15, 3) := by decide +kernel
theorem dX2_init_81 : decode cX2_init 81 = .ok (.iload_n 1, 1) := by decide +kernel
theorem dX2_init_82 : decode cX2_init 82 = .ok (.bipush 40, 2) := by decide +kernel
theorem dX2_init_84 : decode cX2_init 84 = .ok (.if_icmp .le 8, 3) := by decide +kernel
theorem dX2_init_87 : decode cX2_init 87 = .ok (.bipush 40, 2) := by decide +kernel
theorem dX2_init_89 : decode cX2_init 89 = .ok (.goto 4, 3) := by decide +kernel
theorem dX2_init_92 : decode cX2_init 92 = .ok (.iload_n 1, 1) := by decide +kernel
theorem dX2_init_93 : decode cX2_init 93 = .ok (.putfield 35, 3) := by decide +kernel
theorem dX2_init_96 : decode cX2_init 96 = .ok (.aload_n 0, 1) := by decide +kernel
theorem dX2_init_97 : decode cX2_init 97 = .ok (.iload_n 2, 1) := by decide +kernel
theorem dX2_init_98 : decode cX2_init 98 = .ok (.iconst 1, 1) := by decide +kernel
theorem dX2_init_99 : decode cX2_init 99 = .ok (.if_icmp .ge 7, 3) := by decide +kernel
theorem dX2_init_102 : decode cX2_init 102 = .ok (.iconst 1, 1) := by decide +kernel
theorem dX2_init_103 : decode cX2_init 103 = .ok (.goto 17, 3) := by decide +kernel
theorem dX2_init_106 : decode cX2_init 106 = .ok (.iload_n 2, 1) := by decide +kernel
theorem dX2_init_107 : decode cX2_init 107 = .ok (.sipush 300, 3) := by decide +kernel
theorem dX2_init_110 : decode cX2_init 110 = .ok (.if_icmp .le 9, 3) := by decide +kernel
theorem dX2_init_113 : decode cX2_init 113 = .ok (.sipush 300, 3) := by decide +kernel
theorem dX2_init_116 : decode cX2_init 116 = .ok (.goto 4, 3) := by decide +kernel
theorem dX2_init_119 : decode cX2_init 119 = .ok (.iload_n 2, 1) := by decide +kernel
theorem dX2_init_120 : decode cX2_init 120 = .ok (.putfield 39, 3) := by decide +kernel
theorem dX2_init_123 : decode cX2_init 123 = .ok (.aload_n 0, 1) := by decide +kernel
theorem dX2_init_124 : decode cX2_init 124 = .ok (.iload_n 3, 1) := by decide +kernel
theorem dX2_init_125 : decode cX2_init 125 = .ok (.ifCond .ge 7, 3) := by decide +kernel
theorem dX2_init_128 : decode cX2_init 128 = .ok (.iconst 0, 1) := by decide +kernel
theorem dX2_init_129 : decode cX2_init 129 = .ok (.goto 4, 3) := by decide +kernel
theorem dX2_init_132 : decode cX2_init 132 = .ok (.iload_n 3, 1) := by decide +kernel
theorem dX2_init_133 : decode cX2_init 133 = .ok (.putfield 42, 3) := by decide +kernel
theorem dX2_init_136 : decode cX2_init 136 = .ok (.aload_n 0, 1) := by decide +kernel
theorem dX2_init_137 : decode cX2_init 137 = .ok (.invokevirtual 45, 3) := by decide +kernel
theorem dX2_init_140 : decode cX2_init 140 = .ok (.return_, 1) := by decide +kernel
theorem dX2_clear_0 : decode cX2_clear 0 = .ok (.iconst 0, 1) := by decide +kernel
theorem dX2_clear_1 : decode cX2_clear 1 = .ok (.istore_n 1, 1) := by decide +kernel
theorem dX2_clear_2 : decode cX2_clear 2 = .ok (.iload_n 1, 1) := by decide +kernel
theorem dX2_clear_3 : decode cX2_clear 3 = .ok (.bipush 40, 2) := by decide +kernel
theorem dX2_clear_5 : decode cX2_clear 5 = .ok (.if_icmp .ge 16, 3) := by decide +kernel
theorem dX2_clear_8 : decode cX2_clear 8 = .ok (.aload_n 0, 1) := by decide +kernel
theorem dX2_clear_9 : decode cX2_clear 9 = .ok (.getfield 7, 3) := by decide +kernel
theorem dX2_clear_12 : decode cX2_clear 12 = .ok (.iload_n 1, 1) := by decide +kernel
theorem dX2_clear_13 : decode cX2_clear 13 = .ok (.iconst (-1), 1) := by decide +kernel
theorem dX2_clear_14 : decode cX2_clear 14 = .ok (.iastore, 1) := by decide +kernel
theorem dX2_clear_15 : decode cX2_clear 15 = .ok (.iinc 1 1, 3) := by decide +kernel
theorem dX2_clear_18 : decode cX2_clear 18 = .ok (.goto (-16), 3) := by decide +kernel
theorem dX2_clear_21 : decode cX2_clear 21 = .ok (.aload_n 0, 1) := by decide +kernel
theorem dX2_clear_22 : decode cX2_clear 22 = .ok (.iconst 0, 1) := by decide +kernel
theorem dX2_clear_23 : decode cX2_clear 23 = .ok (.putfield 48, 3) := by decide +kernel
theorem dX2_clear_26 : decode cX2_clear 26 = .ok (.return_, 1) := by decide +kernel
theorem dX2_isItem_0 : decode cX2_isItem 0 = .ok (.iload_n 1, 1) := by decide +kernel
theorem dX2_isItem_1 : decode cX2_isItem 1 = .ok (.ifCond .lt 15, 3) := by decide +kernel
theorem dX2_isItem_4 : decode cX2_isItem 4 = .ok (.iload_n 1, 1) := by decide +kernel
theorem dX2_isItem_5 : decode cX2_isItem 5 = .ok (.aload_n 0, 1) := by decide +kernel
theorem dX2_isItem_6 : decode cX2_isItem 6 = .ok (.getfield 35, 3) := by decide +kernel
theorem dX2_isItem_9 : decode cX2_isItem 9 = .ok (.if_icmp .ge 7, 3) := by decide +kernel
theorem dX2_isItem_12 : decode cX2_isItem 12 = .ok (.iconst 1, 1) := by decide +kernel
theorem dX2_isItem_13 : decode cX2_isItem 13 = .ok (.goto 4, 3) := by decide +kernel
theorem dX2_isItem_16 : decode cX2_isItem 16 = .ok (.iconst 0, 1) := by decide +kernel
theorem dX2_isItem_17 : decode cX2_isItem 17 = .ok (.ireturn, 1) := by decide +kernel
theorem dX2_isThere_0 : decode cX2_isThere 0 = .ok (.aload_n 0, 1) := by decide +kernel
theorem dX2_isThere_1 : decode cX2_isThere 1 = .ok (.iload_n 1, 1) := by decide +kernel
theorem dX2_isThere_2 : decode cX2_isThere 2 = .ok (.invokevirtual 51, 3) := by decide +kernel
theorem dX2_isThere_5 : decode cX2_isThere 5 = .ok (.ifCond .eq 17, 3) := by decide +kernel
theorem dX2_isThere_8 : decode cX2_isThere 8 = .ok (.aload_n 0, 1) := by decide +kernel
theorem dX2_isThere_9 : decode cX2_isThere 9 = .ok (.getfield 7, 3) := by decide +kernel
theorem dX2_isThere_12 : decode cX2_isThere 12 = .ok (.iload_n 1, 1) := by decide +kernel
theorem dX2_isThere_13 : decode cX2_isThere 13 = .ok (.iaload, 1) := by decide +kernel
theorem dX2_isThere_14 : decode cX2_isThere 14 = .ok (.iconst (-1), 1) := by decide +kernel
theorem dX2_isThere_15 : decode cX2_isThere 15 = .ok (.if_icmp .eq 7, 3) := by decide +kernel
theorem dX2_isThere_18 : decode cX2_isThere 18 = .ok (.iconst 1, 1) := by decide +kernel
theorem dX2_isThere_19 : decode cX2_isThere 19 = .ok (.goto 4, 3) := by decide +kernel
theorem dX2_isThere_22 : decode cX2_isThere 22 = .ok (.iconst 0, 1) := by decide +kernel
theorem dX2_isThere_23 : decode cX2_isThere 23 = .ok (.ireturn, 1) := by decide +kernel
theorem dX2_unlike_0 : decode cX2_unlike 0 = .ok (.iconst 0, 1) := by decide +kernel
theorem dX2_unlike_1 : decode cX2_unlike 1 = .ok (.istore_n 2, 1) := by decide +kernel
theorem dX2_unlike_2 : decode cX2_unlike 2 = .ok (.iconst 0, 1) := by decide +kernel
theorem dX2_unlike_3 : decode cX2_unlike 3 = .ok (.istore_n 3, 1) := by decide +kernel
theorem dX2_unlike_4 : decode cX2_unlike 4 = .ok (.iload_n 3, 1) := by decide +kernel
theorem dX2_unlike_5 : decode cX2_unlike 5 = .ok (.bipush 31, 2) := by decide +kernel
theorem dX2_unlike_7 : decode cX2_unlike 7 = .ok (.if_icmp .ge 30, 3) := by decide +kernel
theorem dX2_unlike_10 : decode cX2_unlike 10 = .ok (.iload_n 0, 1) := by decide +kernel
theorem dX2_unlike_11 : decode cX2_unlike 11 = .ok (.iload_n 3, 1) := by decide +kernel
theorem dX2_unlike_12 : decode cX2_unlike 12 = .ok (.ishr, 1) := by decide +kernel
theorem dX2_unlike_13 : decode cX2_unlike 13 = .ok (.iconst 1, 1) := by decide +kernel
theorem dX2_unlike_14 : decode cX2_unlike 14 = .ok (.iand, 1) := by decide +kernel
theorem dX2_unlike_15 : decode cX2_unlike 15 = .ok (.iload_n 1, 1) := by decide +kernel
theorem dX2_unlike_16 : decode cX2_unlike 16 = .ok (.iload_n 3, 1) := by decide +kernel
theorem dX2_unlike_17 : decode cX2_unlike 17 = .ok (.ishr, 1) := by decide +kernel
theorem dX2_unlike_18 : decode cX2_unlike 18 = .ok (.iconst 1, 1) := by decide +kernel
theorem dX2_unlike_19 : decode cX2_unlike 19 = .ok (.iand, 1) := by decide +kernel
theorem dX2_unlike_20 : decode cX2_unlike 20 = .ok (.if_icmp .eq 9, 3) := by decide +kernel
theorem dX2_unlike_23 : decode cX2_unlike 23 = .ok (.iload_n 3, 1) := by decide +kernel
theorem dX2_unlike_24 : decode cX2_unlike 24 = .ok (.iconst 1, 1) := by decide +kernel
theorem dX2_unlike_25 : decode cX2_unlike 25 = .ok (.iadd, 1) := by decide +kernel
theorem dX2_unlike_26 : decode cX2_unlike 26 = .ok (.goto 4, 3) := by decide +kernel
theorem dX2_unlike_29 : decode cX2_unlike 29 = .ok (.iload_n 2, 1) := by decide +kernel
theorem dX2_unlike_30 : decode cX2_unlike 30 = .ok (.istore_n 2, 1) := by decide +kernel
theorem dX2_unlike_31 : decode cX2_unlike 31 = .ok (.iinc 3 1, 3) := by decide +kernel
theorem dX2_unlike_34 : decode cX2_unlike 34 = .ok (.goto (-30), 3) := by decide +kernel
theorem dX2_unlike_37 : decode cX2_unlike 37 = .ok (.iload_n 2, 1) := by decide +kernel
theorem dX2_unlike_38 : decode cX2_unlike 38 = .ok (.ireturn, 1) := by decide +kernel
theorem dX2_push_0 : decode cX2_push 0 = .ok (.aload_n 0, 1) := by decide +kernel
theorem dX2_push_1 : decode cX2_push 1 = .ok (.iload_n 1, 1) := by decide +kernel
theorem dX2_push_2 : decode cX2_push 2 = .ok (.invokevirtual 51, 3) := by decide +kernel
theorem dX2_push_5 : decode cX2_push 5 = .ok (.ifCond .eq 13, 3) := by decide +kernel
theorem dX2_push_8 : decode cX2_push 8 = .ok (.aload_n 0, 1) := by decide +kernel
theorem dX2_push_9 : decode cX2_push 9 = .ok (.getfield 7, 3) := by decide +kernel
theorem dX2_push_12 : decode cX2_push 12 = .ok (.iload_n 1, 1) := by decide +kernel
theorem dX2_push_13 : decode cX2_push 13 = .ok (.iaload, 1) := by decide +kernel
theorem dX2_push_14 : decode cX2_push 14 = .ok (.iconst (-1), 1) := by decide +kernel
theorem dX2_push_15 : decode cX2_push 15 = .ok (.if_icmp .eq 5, 3) := by decide +kernel
theorem dX2_push_18 : decode cX2_push 18 = .ok (.iconst (-1), 1) := by decide +kernel
theorem dX2_push_19 : decode cX2_push 19 = .ok (.ireturn, 1) := by decide +kernel
theorem dX2_push_20 : decode cX2_push 20 = .ok (.iload_n 2, 1) := by decide +kernel
theorem dX2_push_21 : decode cX2_push 21 = .ok (.aload_n 0, 1) := by decide +kernel
theorem dX2_push_22 : decode cX2_push 22 = .ok (.getfield 48, 3) := by decide +kernel
theorem dX2_push_25 : decode cX2_push 25 = .ok (.if_icmp .ge 6, 3) := by decide +kernel
theorem dX2_push_28 : decode cX2_push 28 = .ok (.bipush (-2), 2) := by decide +kernel
theorem dX2_push_30 : decode cX2_push 30 = .ok (.ireturn, 1) := by decide +kernel
theorem dX2_push_31 : decode cX2_push 31 = .ok (.aload_n 0, 1) := by decide +kernel
theorem dX2_push_32 : decode cX2_push 32 = .ok (.getfield 7, 3) := by decide +kernel
theorem dX2_push_35 : decode cX2_push 35 = .ok (.iload_n 1, 1) := by decide +kernel
theorem dX2_push_36 : decode cX2_push 36 = .ok (.iload_n 2, 1) := by decide +kernel
theorem dX2_push_37 : decode cX2_push 37 = .ok (.iastore, 1) := by decide +kernel
theorem dX2_push_38 : decode cX2_push 38 = .ok (.aload_n 0, 1) := by decide +kernel
theorem dX2_push_39 : decode cX2_push 39 = .ok (.dup, 1) := by decide +kernel
theorem dX2_push_40 : decode cX2_push 40 = .ok (.getfield 55, 3) := by decide +kernel
theorem dX2_push_43 : decode cX2_push 43 = .ok (.iconst 1, 1) := by decide +kernel
theorem dX2_push_44 : decode cX2_push 44 = .ok (.iadd, 1) := by decide +kernel
theorem dX2_push_45 : decode cX2_push 45 = .ok (.putfield 55, 3) := by decide +kernel
theorem dX2_push_48 : decode cX2_push 48 = .ok (.aload_n 0, 1) := by decide +kernel
theorem dX2_push_49 : decode cX2_push 49 = .ok (.dup, 1) := by decide +kernel
theorem dX2_push_50 : decode cX2_push 50 = .ok (.getfield 58, 3) := by decide +kernel
theorem dX2_push_53 : decode cX2_push 53 = .ok (.iconst 1, 1) := by decide +kernel
theorem dX2_push_54 : decode cX2_push 54 = .ok (.iadd, 1) := by decide +kernel
theorem dX2_push_55 : decode cX2_push 55 = .ok (.putfield 58, 3) := by decide +kernel
theorem dX2_push_58 : decode cX2_push 58 = .ok (.iconst 0, 1) := by decide +kernel
theorem dX2_push_59 : decode cX2_push 59 = .ok (.ireturn, 1) := by decide +kernel
theorem dX2_lower_0 : decode cX2_lower 0 = .ok (.aload_n 0, 1) := by decide +kernel
theorem dX2_lower_1 : decode cX2_lower 1 = .ok (.iload_n 1, 1) := by decide +kernel
theorem dX2_lower_2 : decode cX2_lower 2 = .ok (.invokevirtual 61, 3) := by decide +kernel
theorem dX2_lower_5 : decode cX2_lower 5 = .ok (.ifCond .ne 5, 3) := by decide +kernel
theorem dX2_lower_8 : decode cX2_lower 8 = .ok (.iconst (-1), 1) := by decide +kernel
theorem dX2_lower_9 : decode cX2_lower 9 = .ok (.ireturn, 1) := by decide +kernel
theorem dX2_lower_10 : decode cX2_lower 10 = .ok (.iload_n 2, 1) := by decide +kernel
theorem dX2_lower_11 : decode cX2_lower 11 = .ok (.aload_n 0, 1) := by decide +kernel
theorem dX2_lower_12 : decode cX2_lower 12 = .ok (.getfield 48, 3) := by decide +kernel
theorem dX2_lower_15 : decode cX2_lower 15 = .ok (.if_icmp .lt 13, 3) := by decide +kernel
theorem dX2_lower_18 : decode cX2_lower 18 = .ok (.iload_n 2, 1) := by decide +kernel
theorem dX2_lower_19 : decode cX2_lower 19 = .ok (.aload_n 0, 1) := by decide +kernel
theorem dX2_lower_20 : decode cX2_lower 20 = .ok (.getfield 7, 3) := by decide +kernel
theorem dX2_lower_23 : decode cX2_lower 23 = .ok (.iload_n 1, 1) := by decide +kernel
theorem dX2_lower_24 : decode cX2_lower 24 = .ok (.iaload, 1) := by decide +kernel
theorem dX2_lower_25 : decode cX2_lower 25 = .ok (.if_icmp .le 6, 3) := by decide +kernel
theorem dX2_lower_28 : decode cX2_lower 28 = .ok (.bipush (-2), 2) := by decide +kernel
theorem dX2_lower_30 : decode cX2_lower 30 = .ok (.ireturn, 1) := by decide +kernel
theorem dX2_lower_31 : decode cX2_lower 31 = .ok (.aload_n 0, 1) := by decide +kernel
theorem dX2_lower_32 : decode cX2_lower 32 = .ok (.dup, 1) := by decide +kernel
theorem dX2_lower_33 : decode cX2_lower 33 = .ok (.getfield 55, 3) := by decide +kernel
theorem dX2_lower_36 : decode cX2_lower 36 = .ok (.iload_n 2, 1) := by decide +kernel
theorem dX2_lower_37 : decode cX2_lower 37 = .ok (.aload_n 0, 1) := by decide +kernel
theorem dX2_lower_38 : decode cX2_lower 38 = .ok (.getfield 48, 3) := by decide +kernel
theorem dX2_lower_41 : decode cX2_lower 41 = .ok (.invokestatic 64, 3) := by decide +kernel
theorem dX2_lower_44 : decode cX2_lower 44 = .ok (.aload_n 0, 1) := by decide +kernel
theorem dX2_lower_45 : decode cX2_lower 45 = .ok (.getfield 7, 3) := by decide +kernel
theorem dX2_lower_48 : decode cX2_lower 48 = .ok (.iload_n 1, 1) := by decide +kernel
theorem dX2_lower_49 : decode cX2_lower 49 = .ok (.iaload, 1) := by decide +kernel
theorem dX2_lower_50 : decode cX2_lower 50 = .ok (.aload_n 0, 1) := by decide +kernel
theorem dX2_lower_51 : decode cX2_lower 51 = .ok (.getfield 48, 3) := by decide +kernel
theorem dX2_lower_54 : decode cX2_lower 54 = .ok (.invokestatic 64, 3) := by decide +kernel
theorem dX2_lower_57 : decode cX2_lower 57 = .ok (.if_icmp .eq 7, 3) := by decide +kernel
theorem dX2_lower_60 : decode cX2_lower 60 = .ok (.iconst 1, 1) := by decide +kernel
theorem dX2_lower_61 : decode cX2_lower 61 = .ok (.goto 4, 3) := by decide +kernel
theorem dX2_lower_64 : decode cX2_lower 64 = .ok (.iconst 0, 1) := by decide +kernel
theorem dX2_lower_65 : decode cX2_lower 65 = .ok (.iadd, 1) := by decide +kernel
theorem dX2_lower_66 : decode cX2_lower 66 = .ok (.putfield 55, 3) := by decide +kernel
theorem dX2_lower_69 : decode cX2_lower 69 = .ok (.aload_n 0, 1) := by decide +kernel
theorem dX2_lower_70 : decode cX2_lower 70 = .ok (.getfield 7, 3) := by decide +kernel
theorem dX2_lower_73 : decode cX2_lower 73 = .ok (.iload_n 1, 1) := by decide +kernel
theorem dX2_lower_74 : decode cX2_lower 74 = .ok (.iload_n 2, 1) := by decide +kernel
theorem dX2_lower_75 : decode cX2_lower 75 = .ok (.iastore, 1) := by decide +kernel
theorem dX2_lower_76 : decode cX2_lower 76 = .ok (.aload_n 0, 1) := by decide +kernel
theorem dX2_lower_77 : decode cX2_lower 77 = .ok (.dup, 1) := by decide +kernel
theorem dX2_lower_78 : decode cX2_lower 78 = .ok (.getfield 58, 3) := by decide +kernel
theorem dX2_lower_81 : decode cX2_lower 81 = .ok (.iconst 1, 1) := by decide +kernel
theorem dX2_lower_82 : decode cX2_lower 82 = .ok (.iadd, 1) := by decide +kernel
theorem dX2_lower_83 : decode cX2_lower 83 = .ok (.putfield 58, 3) := by decide +kernel
theorem dX2_lower_86 : decode cX2_lower 86 = .ok (.iconst 0, 1) := by decide +kernel
theorem dX2_lower_87 : decode cX2_lower 87 = .ok (.ireturn, 1) := by decide +kernel
theorem dX2_pop_0 : decode cX2_pop 0 = .ok (.iconst (-1), 1) := by decide +kernel
theorem dX2_pop_1 : decode cX2_pop 1 = .ok (.istore_n 1, 1) := by decide +kernel
theorem dX2_pop_2 : decode cX2_pop 2 = .ok (.aload_n 0, 1) := by decide +kernel
theorem dX2_pop_3 : decode cX2_pop 3 = .ok (.getfield 35, 3) := by decide +kernel
theorem dX2_pop_6 : decode cX2_pop 6 = .ok (.iconst 1, 1) := by decide +kernel
theorem dX2_pop_7 : decode cX2_pop 7 = .ok (.isub, 1) := by decide +kernel
theorem dX2_pop_8 : decode cX2_pop 8 = .ok (.istore_n 2, 1) := by decide +kernel
theorem dX2_pop_9 : decode cX2_pop 9 = .ok (.iload_n 2, 1) := by decide +kernel
theorem dX2_pop_10 : decode cX2_pop 10 = .ok (.ifCond .lt 41, 3) := by decide +kernel
theorem dX2_pop_13 : decode cX2_pop 13 = .ok (.aload_n 0, 1) := by decide +kernel
theorem dX2_pop_14 : decode cX2_pop 14 = .ok (.getfield 7, 3) := by decide +kernel
theorem dX2_pop_17 : decode cX2_pop 17 = .ok (.iload_n 2, 1) := by decide +kernel
theorem dX2_pop_18 : decode cX2_pop 18 = .ok (.iaload, 1) := by decide +kernel
theorem dX2_pop_19 : decode cX2_pop 19 = .ok (.iconst (-1), 1) := by decide +kernel
theorem dX2_pop_20 : decode cX2_pop 20 = .ok (.if_icmp .eq 25, 3) := by decide +kernel
theorem dX2_pop_23 : decode cX2_pop 23 = .ok (.iload_n 1, 1) := by decide +kernel
theorem dX2_pop_24 : decode cX2_pop 24 = .ok (.iconst (-1), 1) := by decide +kernel
theorem dX2_pop_25 : decode cX2_pop 25 = .ok (.if_icmp .eq 18, 3) := by decide +kernel
theorem dX2_pop_28 : decode cX2_pop 28 = .ok (.aload_n 0, 1) := by decide +kernel
theorem dX2_pop_29 : decode cX2_pop 29 = .ok (.getfield 7, 3) := by decide +kernel
theorem dX2_pop_32 : decode cX2_pop 32 = .ok (.iload_n 2, 1) := by decide +kernel
theorem dX2_pop_33 : decode cX2_pop 33 = .ok (.iaload, 1) := by decide +kernel
theorem dX2_pop_34 : decode cX2_pop 34 = .ok (.aload_n 0, 1) := by decide +kernel
theorem dX2_pop_35 : decode cX2_pop 35 = .ok (.getfield 7, 3) := by decide +kernel
theorem dX2_pop_38 : decode cX2_pop 38 = .ok (.iload_n 1, 1) := by decide +kernel
theorem dX2_pop_39 : decode cX2_pop 39 = .ok (.iaload, 1) := by decide +kernel
theorem dX2_pop_40 : decode cX2_pop 40 = .ok (.if_icmp .gt 5, 3) := by decide +kernel
theorem dX2_pop_43 : decode cX2_pop 43 = .ok (.iload_n 2, 1) := by decide +kernel
theorem dX2_pop_44 : decode cX2_pop 44 = .ok (.istore_n 1, 1) := by decide +kernel
theorem dX2_pop_45 : decode cX2_pop 45 = .ok (.iinc 2 (-1), 3) := by decide +kernel
theorem dX2_pop_48 : decode cX2_pop 48 = .ok (.goto (-39), 3) := by decide +kernel
theorem dX2_pop_51 : decode cX2_pop 51 = .ok (.iload_n 1, 1) := by decide +kernel
theorem dX2_pop_52 : decode cX2_pop 52 = .ok (.iconst (-1), 1) := by decide +kernel
theorem dX2_pop_53 : decode cX2_pop 53 = .ok (.if_icmp .ne 5, 3) := by decide +kernel
theorem dX2_pop_56 : decode cX2_pop 56 = .ok (.iconst (-1), 1) := by decide +kernel
theorem dX2_pop_57 : decode cX2_pop 57 = .ok (.ireturn, 1) := by decide +kernel
theorem dX2_pop_58 : decode cX2_pop 58 = .ok (.aload_n 0, 1) := by decide +kernel
theorem dX2_pop_59 : decode cX2_pop 59 = .ok (.getfield 7, 3) := by decide +kernel
theorem dX2_pop_62 : decode cX2_pop 62 = .ok (.iload_n 1, 1) := by decide +kernel
theorem dX2_pop_63 : decode cX2_pop 63 = .ok (.iaload, 1) := by decide +kernel
theorem dX2_pop_64 : decode cX2_pop 64 = .ok (.aload_n 0, 1) := by decide +kernel
theorem dX2_pop_65 : decode cX2_pop 65 = .ok (.getfield 48, 3) := by decide +kernel
theorem dX2_pop_68 : decode cX2_pop 68 = .ok (.invokestatic 64, 3) := by decide +kernel
theorem dX2_pop_71 : decode cX2_pop 71 = .ok (.istore_n 2, 1) := by decide +kernel
theorem dX2_pop_72 : decode cX2_pop 72 = .ok (.iload_n 2, 1) := by decide +kernel
theorem dX2_pop_73 : decode cX2_pop 73 = .ok (.ifCond .le 70, 3) := by decide +kernel
theorem dX2_pop_76 : decode cX2_pop 76 = .ok (.iconst 0, 1) := by decide +kernel
theorem dX2_pop_77 : decode cX2_pop 77 = .ok (.istore_n 3, 1) := by decide +kernel
theorem dX2_pop_78 : decode cX2_pop 78 = .ok (.iload_n 3, 1) := by decide +kernel
theorem dX2_pop_79 : decode cX2_pop 79 = .ok (.aload_n 0, 1) := by decide +kernel
theorem dX2_pop_80 : decode cX2_pop 80 = .ok (.getfield 35, 3) := by decide +kernel
theorem dX2_pop_83 : decode cX2_pop 83 = .ok (.if_icmp .ge 50, 3) := by decide +kernel
theorem dX2_pop_86 : decode cX2_pop 86 = .ok (.aload_n 0, 1) := by decide +kernel
theorem dX2_pop_87 : decode cX2_pop 87 = .ok (.dup, 1) := by decide +kernel
theorem dX2_pop_88 : decode cX2_pop 88 = .ok (.getfield 55, 3) := by decide +kernel
theorem dX2_pop_91 : decode cX2_pop 91 = .ok (.aload_n 0, 1) := by decide +kernel
theorem dX2_pop_92 : decode cX2_pop 92 = .ok (.getfield 7, 3) := by decide +kernel
theorem dX2_pop_95 : decode cX2_pop 95 = .ok (.iload_n 3, 1) := by decide +kernel
theorem dX2_pop_96 : decode cX2_pop 96 = .ok (.iaload, 1) := by decide +kernel
theorem dX2_pop_97 : decode cX2_pop 97 = .ok (.iconst (-1), 1) := by decide +kernel
theorem dX2_pop_98 : decode cX2_pop 98 = .ok (.if_icmp .eq 24, 3) := by decide +kernel
theorem dX2_pop_101 : decode cX2_pop 101 = .ok (.aload_n 0, 1) := by decide +kernel
theorem dX2_pop_102 : decode cX2_pop 102 = .ok (.getfield 7, 3) := by decide +kernel
theorem dX2_pop_105 : decode cX2_pop 105 = .ok (.iload_n 3, 1) := by decide +kernel
theorem dX2_pop_106 : decode cX2_pop 106 = .ok (.iaload, 1) := by decide +kernel
theorem dX2_pop_107 : decode cX2_pop 107 = .ok (.aload_n 0, 1) := by decide +kernel
theorem dX2_pop_108 : decode cX2_pop 108 = .ok (.getfield 48, 3) := by decide +kernel
theorem dX2_pop_111 : decode cX2_pop 111 = .ok (.invokestatic 64, 3) := by decide +kernel
theorem dX2_pop_114 : decode cX2_pop 114 = .ok (.iload_n 2, 1) := by decide +kernel
theorem dX2_pop_115 : decode cX2_pop 115 = .ok (.if_icmp .ne 7, 3) := by decide +kernel
theorem dX2_pop_118 : decode cX2_pop 118 = .ok (.iconst 1, 1) := by decide +kernel
theorem dX2_pop_119 : decode cX2_pop 119 = .ok (.goto 4, 3) := by decide +kernel
theorem dX2_pop_122 : decode cX2_pop 122 = .ok (.iconst 0, 1) := by decide +kernel
theorem dX2_pop_123 : decode cX2_pop 123 = .ok (.iadd, 1) := by decide +kernel
theorem dX2_pop_124 : decode cX2_pop 124 = .ok (.putfield 55, 3) := by decide +kernel
theorem dX2_pop_127 : decode cX2_pop 127 = .ok (.iinc 3 1, 3) := by decide +kernel
theorem dX2_pop_130 : decode cX2_pop 130 = .ok (.goto (-52), 3) := by decide +kernel
theorem dX2_pop_133 : decode cX2_pop 133 = .ok (.aload_n 0, 1) := by decide +kernel
theorem dX2_pop_134 : decode cX2_pop 134 = .ok (.aload_n 0, 1) := by decide +kernel
theorem dX2_pop_135 : decode cX2_pop 135 = .ok (.getfield 7, 3) := by decide +kernel
theorem dX2_pop_138 : decode cX2_pop 138 = .ok (.iload_n 1, 1) := by decide +kernel
theorem dX2_pop_139 : decode cX2_pop 139 = .ok (.iaload, 1) := by decide +kernel
theorem dX2_pop_140 : decode cX2_pop 140 = .ok (.putfield 48, 3) := by decide +kernel
theorem dX2_pop_143 : decode cX2_pop 143 = .ok (.aload_n 0, 1) := by decide +kernel
theorem dX2_pop_144 : decode cX2_pop 144 = .ok (.getfield 7, 3) := by decide +kernel
theorem dX2_pop_147 : decode cX2_pop 147 = .ok (.iload_n 1, 1) := by decide +kernel
theorem dX2_pop_148 : decode cX2_pop 148 = .ok (.iconst (-1), 1) := by decide +kernel
theorem dX2_pop_149 : decode cX2_pop 149 = .ok (.iastore, 1) := by decide +kernel
theorem dX2_pop_150 : decode cX2_pop 150 = .ok (.iload_n 1, 1) := by decide +kernel
theorem dX2_pop_151 : decode cX2_pop 151 = .ok (.ireturn, 1) := by decide +kernel
theorem dX2_floor_0 : decode cX2_floor 0 = .ok (.aload_n 0, 1) := by decide +kernel
theorem dX2_floor_1 : decode cX2_floor 1 = .ok (.getfield 48, 3) := by decide +kernel
theorem dX2_floor_4 : decode cX2_floor 4 = .ok (.ireturn, 1) := by decide +kernel
theorem dX2_size_0 : decode cX2_size 0 = .ok (.iconst 0, 1) := by decide +kernel
theorem dX2_size_1 : decode cX2_size 1 = .ok (.istore_n 1, 1) := by decide +kernel
theorem dX2_size_2 : decode cX2_size 2 = .ok (.iconst 0, 1) := by decide +kernel
theorem dX2_size_3 : decode cX2_size 3 = .ok (.istore_n 2, 1) := by decide +kernel
theorem dX2_size_4 : decode cX2_size 4 = .ok (.iload_n 2, 1) := by decide +kernel
theorem dX2_size_5 : decode cX2_size 5 = .ok (.aload_n 0, 1) := by decide +kernel
theorem dX2_size_6 : decode cX2_size 6 = .ok (.getfield 35, 3) := by decide +kernel
theorem dX2_size_9 : decode cX2_size 9 = .ok (.if_icmp .ge 27, 3) := by decide +kernel
theorem dX2_size_12 : decode cX2_size 12 = .ok (.iload_n 1, 1) := by decide +kernel
theorem dX2_size_13 : decode cX2_size 13 = .ok (.aload_n 0, 1) := by decide +kernel
theorem dX2_size_14 : decode cX2_size 14 = .ok (.getfield 7, 3) := by decide +kernel
theorem dX2_size_17 : decode cX2_size 17 = .ok (.iload_n 2, 1) := by decide +kernel
theorem dX2_size_18 : decode cX2_size 18 = .ok (.iaload, 1) := by decide +kernel
theorem dX2_size_19 : decode cX2_size 19 = .ok (.iconst (-1), 1) := by decide +kernel
theorem dX2_size_20 : decode cX2_size 20 = .ok (.if_icmp .eq 7, 3) := by decide +kernel
theorem dX2_size_23 : decode cX2_size 23 = .ok (.iconst 1, 1) := by decide +kernel
theorem dX2_size_24 : decode cX2_size 24 = .ok (.goto 4, 3) := by decide +kernel
theorem dX2_size_27 : decode cX2_size 27 = .ok (.iconst 0, 1) := by decide +kernel
theorem dX2_size_28 : decode cX2_size 28 = .ok (.iadd, 1) := by decide +kernel
theorem dX2_size_29 : decode cX2_size 29 = .ok (.istore_n 1, 1) := by decide +kernel
theorem dX2_size_30 : decode cX2_size 30 = .ok (.iinc 2 1, 3) := by decide +kernel
theorem dX2_size_33 : decode cX2_size 33 = .ok (.goto (-29), 3) := by decide +kernel
theorem dX2_size_36 : decode cX2_size 36 = .ok (.iload_n 1, 1) := by decide +kernel
theorem dX2_size_37 : decode cX2_size 37 = .ok (.ireturn, 1) := by decide +kernel
theorem dX2_key_0 : decode cX2_key 0 = .ok (.aload_n 0, 1) := by decide +kernel
theorem dX2_key_1 : decode cX2_key 1 = .ok (.iload_n 1, 1) := by decide +kernel
theorem dX2_key_2 : decode cX2_key 2 = .ok (.invokevirtual 61, 3) := by decide +kernel
theorem dX2_key_5 : decode cX2_key 5 = .ok (.ifCond .eq 12, 3) := by decide +kernel
theorem dX2_key_8 : decode cX2_key 8 = .ok (.aload_n 0, 1) := by decide +kernel
theorem dX2_key_9 : decode cX2_key 9 = .ok (.getfield 7, 3) := by decide +kernel
theorem dX2_key_12 : decode cX2_key 12 = .ok (.iload_n 1, 1) := by decide +kernel
theorem dX2_key_13 : decode cX2_key 13 = .ok (.iaload, 1) := by decide +kernel
theorem dX2_key_14 : decode cX2_key 14 = .ok (.goto 4, 3) := by decide +kernel
theorem dX2_key_17 : decode cX2_key 17 = .ok (.iconst (-1), 1) := by decide +kernel
theorem dX2_key_18 : decode cX2_key 18 = .ok (.ireturn, 1) := by decide +kernel
theorem dX2_bucket_0 : decode cX2_bucket 0 = .ok (.aload_n 0, 1) := by decide +kernel
theorem dX2_bucket_1 : decode cX2_bucket 1 = .ok (.iload_n 1, 1) := by decide +kernel
theorem dX2_bucket_2 : decode cX2_bucket 2 = .ok (.invokevirtual 61, 3) := by decide +kernel
theorem dX2_bucket_5 : decode cX2_bucket 5 = .ok (.ifCond .eq 19, 3) := by decide +kernel
theorem dX2_bucket_8 : decode cX2_bucket 8 = .ok (.aload_n 0, 1) := by decide +kernel
theorem dX2_bucket_9 : decode cX2_bucket 9 = .ok (.getfield 7, 3) := by decide +kernel
theorem dX2_bucket_12 : decode cX2_bucket 12 = .ok (.iload_n 1, 1) := by decide +kernel
theorem dX2_bucket_13 : decode cX2_bucket 13 = .ok (.iaload, 1) := by decide +kernel
theorem dX2_bucket_14 : decode cX2_bucket 14 = .ok (.aload_n 0, 1) := by decide +kernel
theorem dX2_bucket_15 : decode cX2_bucket 15 = .ok (.getfield 48, 3) := by decide +kernel
theorem dX2_bucket_18 : decode cX2_bucket 18 = .ok (.invokestatic 64, 3) := by decide +kernel
theorem dX2_bucket_21 : decode cX2_bucket 21 = .ok (.goto 4, 3) := by decide +kernel
theorem dX2_bucket_24 : decode cX2_bucket 24 = .ok (.iconst (-1), 1) := by decide +kernel
theorem dX2_bucket_25 : decode cX2_bucket 25 = .ok (.ireturn, 1) := by decide +kernel
theorem dX2_many_0 : decode cX2_many 0 = .ok (.iload_n 1, 1) := by decide +kernel
theorem dX2_many_1 : decode cX2_many 1 = .ok (.ifCond .lt 9, 3) := by decide +kernel
theorem dX2_many_4 : decode cX2_many 4 = .ok (.iload_n 1, 1) := by decide +kernel
theorem dX2_many_5 : decode cX2_many 5 = .ok (.bipush 31, 2) := by decide +kernel
theorem dX2_many_7 : decode cX2_many 7 = .ok (.if_icmp .le 5, 3) := by decide +kernel
theorem dX2_many_10 : decode cX2_many 10 = .ok (.iconst (-1), 1) := by decide +kernel
theorem dX2_many_11 : decode cX2_many 11 = .ok (.ireturn, 1) := by decide +kernel
theorem dX2_many_12 : decode cX2_many 12 = .ok (.iconst 0, 1) := by decide +kernel
theorem dX2_many_13 : decode cX2_many 13 = .ok (.istore_n 2, 1) := by decide +kernel
theorem dX2_many_14 : decode cX2_many 14 = .ok (.iconst 0, 1) := by decide +kernel
theorem dX2_many_15 : decode cX2_many 15 = .ok (.istore_n 3, 1) := by decide +kernel
theorem dX2_many_16 : decode cX2_many 16 = .ok (.iload_n 3, 1) := by decide +kernel
theorem dX2_many_17 : decode cX2_many 17 = .ok (.aload_n 0, 1) := by decide +kernel
theorem dX2_many_18 : decode cX2_many 18 = .ok (.getfield 35, 3) := by decide +kernel
theorem dX2_many_21 : decode cX2_many 21 = .ok (.if_icmp .ge 44, 3) := by decide +kernel
theorem dX2_many_24 : decode cX2_many 24 = .ok (.iload_n 2, 1) := by decide +kernel
theorem dX2_many_25 : decode cX2_many 25 = .ok (.aload_n 0, 1) := by decide +kernel
theorem dX2_many_26 : decode cX2_many 26 = .ok (.getfield 7, 3) := by decide +kernel
theorem dX2_many_29 : decode cX2_many 29 = .ok (.iload_n 3, 1) := by decide +kernel
theorem dX2_many_30 : decode cX2_many 30 = .ok (.iaload, 1) := by decide +kernel
theorem dX2_many_31 : decode cX2_many 31 = .ok (.iconst (-1), 1) := by decide +kernel
theorem dX2_many_32 : decode cX2_many 32 = .ok (.if_icmp .eq 24, 3) := by decide +kernel
theorem dX2_many_35 : decode cX2_many 35 = .ok (.aload_n 0, 1) := by decide +kernel
theorem dX2_many_36 : decode cX2_many 36 = .ok (.getfield 7, 3) := by decide +kernel
theorem dX2_many_39 : decode cX2_many 39 = .ok (.iload_n 3, 1) := by decide +kernel
theorem dX2_many_40 : decode cX2_many 40 = .ok (.iaload, 1) := by decide +kernel
theorem dX2_many_41 : decode cX2_many 41 = .ok (.aload_n 0, 1) := by decide +kernel
theorem dX2_many_42 : decode cX2_many 42 = .ok (.getfield 48, 3) := by decide +kernel
theorem dX2_many_45 : decode cX2_many 45 = .ok (.invokestatic 64, 3) := by decide +kernel
theorem dX2_many_48 : decode cX2_many 48 = .ok (.iload_n 1, 1) := by decide +kernel
theorem dX2_many_49 : decode cX2_many 49 = .ok (.if_icmp .ne 7, 3) := by decide +kernel
theorem dX2_many_52 : decode cX2_many 52 = .ok (.iconst 1, 1) := by decide +kernel
theorem dX2_many_53 : decode cX2_many 53 = .ok (.goto 4, 3) := by decide +kernel
theorem dX2_many_56 : decode cX2_many 56 = .ok (.iconst 0, 1) := by decide +kernel
theorem dX2_many_57 : decode cX2_many 57 = .ok (.iadd, 1) := by decide +kernel
theorem dX2_many_58 : decode cX2_many 58 = .ok (.istore_n 2, 1) := by decide +kernel
theorem dX2_many_59 : decode cX2_many 59 = .ok (.iinc 3 1, 3) := by decide +kernel
theorem dX2_many_62 : decode cX2_many 62 = .ok (.goto (-46), 3) := by decide +kernel
theorem dX2_many_65 : decode cX2_many 65 = .ok (.iload_n 2, 1) := by decide +kernel
theorem dX2_many_66 : decode cX2_many 66 = .ok (.ireturn, 1) := by decide +kernel
theorem dX2_placed_0 : decode cX2_placed 0 = .ok (.aload_n 0, 1) := by decide +kernel
theorem dX2_placed_1 : decode cX2_placed 1 = .ok (.getfield 55, 3) := by decide +kernel
theorem dX2_placed_4 : decode cX2_placed 4 = .ok (.ireturn, 1) := by decide +kernel
theorem dX2_arc_0 : decode cX2_arc 0 = .ok (.aload_n 0, 1) := by decide +kernel
theorem dX2_arc_1 : decode cX2_arc 1 = .ok (.iload_n 1, 1) := by decide +kernel
theorem dX2_arc_2 : decode cX2_arc 2 = .ok (.invokevirtual 51, 3) := by decide +kernel
theorem dX2_arc_5 : decode cX2_arc 5 = .ok (.ifCond .eq 11, 3) := by decide +kernel
theorem dX2_arc_8 : decode cX2_arc 8 = .ok (.aload_n 0, 1) := by decide +kernel
theorem dX2_arc_9 : decode cX2_arc 9 = .ok (.iload_n 2, 1) := by decide +kernel
theorem dX2_arc_10 : decode cX2_arc 10 = .ok (.invokevirtual 51, 3) := by decide +kernel
theorem dX2_arc_13 : decode cX2_arc 13 = .ok (.ifCond .ne 5, 3) := by decide +kernel
theorem dX2_arc_16 : decode cX2_arc 16 = .ok (.iconst (-1), 1) := by decide +kernel
theorem dX2_arc_17 : decode cX2_arc 17 = .ok (.ireturn, 1) := by decide +kernel
theorem dX2_arc_18 : decode cX2_arc 18 = .ok (.iload_n 3, 1) := by decide +kernel
theorem dX2_arc_19 : decode cX2_arc 19 = .ok (.ifCond .lt 11, 3) := by decide +kernel
theorem dX2_arc_22 : decode cX2_arc 22 = .ok (.iload_n 3, 1) := by decide +kernel
theorem dX2_arc_23 : decode cX2_arc 23 = .ok (.aload_n 0, 1) := by decide +kernel
theorem dX2_arc_24 : decode cX2_arc 24 = .ok (.getfield 42, 3) := by decide +kernel
theorem dX2_arc_27 : decode cX2_arc 27 = .ok (.if_icmp .le 6, 3) := by decide +kernel
theorem dX2_arc_30 : decode cX2_arc 30 = .ok (.bipush (-2), 2) := by decide +kernel
theorem dX2_arc_32 : decode cX2_arc 32 = .ok (.ireturn, 1) := by decide +kernel
theorem dX2_arc_33 : decode cX2_arc 33 = .ok (.aload_n 0, 1) := by decide +kernel
theorem dX2_arc_34 : decode cX2_arc 34 = .ok (.getfield 68, 3) := by decide +kernel
theorem dX2_arc_37 : decode cX2_arc 37 = .ok (.aload_n 0, 1) := by decide +kernel
theorem dX2_arc_38 : decode cX2_arc 38 = .ok (.getfield 39, 3) := by decide +kernel
theorem dX2_arc_41 : decode cX2_arc 41 = .ok (.if_icmp .ne 6, 3) := by decide +kernel
theorem dX2_arc_44 : decode cX2_arc 44 = .ok (.bipush (-3), 2) := by decide +kernel
theorem dX2_arc_46 : decode cX2_arc 46 = .ok (.ireturn, 1) := by decide +kernel
theorem dX2_arc_47 : decode cX2_arc 47 = .ok (.aload_n 0, 1) := by decide +kernel
theorem dX2_arc_48 : decode cX2_arc 48 = .ok (.getfield 13, 3) := by decide +kernel
theorem dX2_arc_51 : decode cX2_arc 51 = .ok (.aload_n 0, 1) := by decide +kernel
theorem dX2_arc_52 : decode cX2_arc 52 = .ok (.getfield 68, 3) := by decide +kernel
theorem dX2_arc_55 : decode cX2_arc 55 = .ok (.iload_n 1, 1) := by decide +kernel
theorem dX2_arc_56 : decode cX2_arc 56 = .ok (.iastore, 1) := by decide +kernel
theorem dX2_arc_57 : decode cX2_arc 57 = .ok (.aload_n 0, 1) := by decide +kernel
theorem dX2_arc_58 : decode cX2_arc 58 = .ok (.getfield 16, 3) := by decide +kernel
theorem dX2_arc_61 : decode cX2_arc 61 = .ok (.aload_n 0, 1) := by decide +kernel
theorem dX2_arc_62 : decode cX2_arc 62 = .ok (.getfield 68, 3) := by decide +kernel
theorem dX2_arc_65 : decode cX2_arc 65 = .ok (.iload_n 2, 1) := by decide +kernel
theorem dX2_arc_66 : decode cX2_arc 66 = .ok (.iastore, 1) := by decide +kernel
theorem dX2_arc_67 : decode cX2_arc 67 = .ok (.aload_n 0, 1) := by decide +kernel
theorem dX2_arc_68 : decode cX2_arc 68 = .ok (.getfield 19, 3) := by decide +kernel
theorem dX2_arc_71 : decode cX2_arc 71 = .ok (.aload_n 0, 1) := by decide +kernel
theorem dX2_arc_72 : decode cX2_arc 72 = .ok (.getfield 68, 3) := by decide +kernel
theorem dX2_arc_75 : decode cX2_arc 75 = .ok (.iload_n 3, 1) := by decide +kernel
theorem dX2_arc_76 : decode cX2_arc 76 = .ok (.iastore, 1) := by decide +kernel
theorem dX2_arc_77 : decode cX2_arc 77 = .ok (.aload_n 0, 1) := by decide +kernel
theorem dX2_arc_78 : decode cX2_arc 78 = .ok (.dup, 1) := by decide +kernel
theorem dX2_arc_79 : decode cX2_arc 79 = .ok (.getfield 68, 3) := by decide +kernel
theorem dX2_arc_82 : decode cX2_arc 82 = .ok (.iconst 1, 1) := by decide +kernel
theorem dX2_arc_83 : decode cX2_arc 83 = .ok (.iadd, 1) := by decide +kernel
theorem dX2_arc_84 : decode cX2_arc 84 = .ok (.putfield 68, 3) := by decide +kernel
theorem dX2_arc_87 : decode cX2_arc 87 = .ok (.aload_n 0, 1) := by decide +kernel
theorem dX2_arc_88 : decode cX2_arc 88 = .ok (.iconst 0, 1) := by decide +kernel
theorem dX2_arc_89 : decode cX2_arc 89 = .ok (.putfield 71, 3) := by decide +kernel
theorem dX2_arc_92 : decode cX2_arc 92 = .ok (.iconst 0, 1) := by decide +kernel
theorem dX2_arc_93 : decode cX2_arc 93 = .ok (.ireturn, 1) := by decide +kernel
theorem dX2_reach_0 : decode cX2_reach 0 = .ok (.aload_n 0, 1) := by decide +kernel
theorem dX2_reach_1 : decode cX2_reach 1 = .ok (.getfield 22, 3) := by decide +kernel
theorem dX2_reach_4 : decode cX2_reach 4 = .ok (.iload_n 1, 1) := by decide +kernel
theorem dX2_reach_5 : decode cX2_reach 5 = .ok (.iaload, 1) := by decide +kernel
theorem dX2_reach_6 : decode cX2_reach 6 = .ok (.i2l, 1) := by decide +kernel
theorem dX2_reach_7 : decode cX2_reach 7 = .ok (.iload_n 3, 1) := by decide +kernel
theorem dX2_reach_8 : decode cX2_reach 8 = .ok (.i2l, 1) := by decide +kernel
theorem dX2_reach_9 : decode cX2_reach 9 = .ok (.ladd, 1) := by decide +kernel
theorem dX2_reach_10 : decode cX2_reach 10 = .ok (.lstore 4, 2) := by decide +kernel
theorem dX2_reach_12 : decode cX2_reach 12 = .ok (.aload_n 0, 1) := by decide +kernel
theorem dX2_reach_13 : decode cX2_reach 13 = .ok (.getfield 28, 3) := by decide +kernel
theorem dX2_reach_16 : decode cX2_reach 16 = .ok (.iload_n 2, 1) := by decide +kernel
theorem dX2_reach_17 : decode cX2_reach 17 = .ok (.baload, 1) := by decide +kernel
theorem dX2_reach_18 : decode cX2_reach 18 = .ok (.ifCond .ne 12, 3) := by decide +kernel
theorem dX2_reach_21 : decode cX2_reach 21 = .ok (.lload 4, 2) := by decide +kernel
theorem dX2_reach_23 : decode cX2_reach 23 = .ok (.ldc2_w 75, 3) := by decide +kernel
theorem dX2_reach_26 : decode cX2_reach 26 = .ok (.lcmp, 1) := by decide +kernel
theorem dX2_reach_27 : decode cX2_reach 27 = .ok (.ifCond .le 4, 3) := by decide +kernel
theorem dX2_reach_30 : decode cX2_reach 30 = .ok (.return_, 1) := by decide +kernel
theorem dX2_reach_31 : decode cX2_reach 31 = .ok (.aload_n 0, 1) := by decide +kernel
theorem dX2_reach_32 : decode cX2_reach 32 = .ok (.getfield 7, 3) := by decide +kernel
theorem dX2_reach_35 : decode cX2_reach 35 = .ok (.iload_n 2, 1) := by decide +kernel
theorem dX2_reach_36 : decode cX2_reach 36 = .ok (.iaload, 1) := by decide +kernel
theorem dX2_reach_37 : decode cX2_reach 37 = .ok (.iconst (-1), 1) := by decide +kernel
theorem dX2_reach_38 : decode cX2_reach 38 = .ok (.if_icmp .ne 22, 3) := by decide +kernel
theorem dX2_reach_41 : decode cX2_reach 41 = .ok (.aload_n 0, 1) := by decide +kernel
theorem dX2_reach_42 : decode cX2_reach 42 = .ok (.iload_n 2, 1) := by decide +kernel
theorem dX2_reach_43 : decode cX2_reach 43 = .ok (.lload 4, 2) := by decide +kernel
theorem dX2_reach_45 : decode cX2_reach 45 = .ok (.l2i, 1) := by decide +kernel
theorem dX2_reach_46 : decode cX2_reach 46 = .ok (.invokevirtual 77, 3) := by decide +kernel
theorem dX2_reach_49 : decode cX2_reach 49 = .ok (.pop, 1) := by decide +kernel
theorem dX2_reach_50 : decode cX2_reach 50 = .ok (.aload_n 0, 1) := by decide +kernel
theorem dX2_reach_51 : decode cX2_reach 51 = .ok (.getfield 25, 3) := by decide +kernel
theorem dX2_reach_54 : decode cX2_reach 54 = .ok (.iload_n 2, 1) := by decide +kernel
theorem dX2_reach_55 : decode cX2_reach 55 = .ok (.iload_n 1, 1) := by decide +kernel
theorem dX2_reach_56 : decode cX2_reach 56 = .ok (.iastore, 1) := by decide +kernel
theorem dX2_reach_57 : decode cX2_reach 57 = .ok (.goto 32, 3) := by decide +kernel
theorem dX2_reach_60 : decode cX2_reach 60 = .ok (.lload 4, 2) := by decide +kernel
theorem dX2_reach_62 : decode cX2_reach 62 = .ok (.aload_n 0, 1) := by decide +kernel
theorem dX2_reach_63 : decode cX2_reach 63 = .ok (.getfield 7, 3) := by decide +kernel
theorem dX2_reach_66 : decode cX2_reach 66 = .ok (.iload_n 2, 1) := by decide +kernel
theorem dX2_reach_67 : decode cX2_reach 67 = .ok (.iaload, 1) := by decide +kernel
theorem dX2_reach_68 : decode cX2_reach 68 = .ok (.i2l, 1) := by decide +kernel
theorem dX2_reach_69 : decode cX2_reach 69 = .ok (.lcmp, 1) := by decide +kernel
theorem dX2_reach_70 : decode cX2_reach 70 = .ok (.ifCond .ge 19, 3) := by decide +kernel
theorem dX2_reach_73 : decode cX2_reach 73 = .ok (.aload_n 0, 1) := by decide +kernel
theorem dX2_reach_74 : decode cX2_reach 74 = .ok (.iload_n 2, 1) := by decide +kernel
theorem dX2_reach_75 : decode cX2_reach 75 = .ok (.lload 4, 2) := by decide +kernel
theorem dX2_reach_77 : decode cX2_reach 77 = .ok (.l2i, 1) := by decide +kernel
theorem dX2_reach_78 : decode cX2_reach 78 = .ok (.invokevirtual 80, 3) := by decide +kernel
theorem dX2_reach_81 : decode cX2_reach 81 = .ok (.pop, 1) := by decide +kernel
theorem dX2_reach_82 : decode cX2_reach 82 = .ok (.aload_n 0, 1) := by decide +kernel
theorem dX2_reach_83 : decode cX2_reach 83 = .ok (.getfield 25, 3) := by decide +kernel
theorem dX2_reach_86 : decode cX2_reach 86 = .ok (.iload_n 2, 1) := by decide +kernel
theorem dX2_reach_87 : decode cX2_reach 87 = .ok (.iload_n 1, 1) := by decide +kernel
theorem dX2_reach_88 : decode cX2_reach 88 = .ok (.iastore, 1) := by decide +kernel
theorem dX2_reach_89 : decode cX2_reach 89 = .ok (.return_, 1) := by decide +kernel
theorem dX2_spread_0 : decode cX2_spread 0 = .ok (.iconst 0, 1) := by decide +kernel
theorem dX2_spread_1 : decode cX2_spread 1 = .ok (.istore_n 2, 1) := by decide +kernel
theorem dX2_spread_2 : decode cX2_spread 2 = .ok (.iload_n 2, 1) := by decide +kernel
theorem dX2_spread_3 : decode cX2_spread 3 = .ok (.bipush 40, 2) := by decide +kernel
theorem dX2_spread_5 : decode cX2_spread 5 = .ok (.if_icmp .ge 25, 3) := by decide +kernel
theorem dX2_spread_8 : decode cX2_spread 8 = .ok (.aload_n 0, 1) := by decide +kernel
theorem dX2_spread_9 : decode cX2_spread 9 = .ok (.getfield 32, 3) := by decide +kernel
theorem dX2_spread_12 : decode cX2_spread 12 = .ok (.iload_n 2, 1) := by decide +kernel
theorem dX2_spread_13 : decode cX2_spread 13 = .ok (.iload_n 2, 1) := by decide +kernel
theorem dX2_spread_14 : decode cX2_spread 14 = .ok (.iload_n 1, 1) := by decide +kernel
theorem dX2_spread_15 : decode cX2_spread 15 = .ok (.if_icmp .ne 7, 3) := by decide +kernel
theorem dX2_spread_18 : decode cX2_spread 18 = .ok (.iconst 1, 1) := by decide +kernel
theorem dX2_spread_19 : decode cX2_spread 19 = .ok (.goto 4, 3) := by decide +kernel
theorem dX2_spread_22 : decode cX2_spread 22 = .ok (.iconst 0, 1) := by decide +kernel
theorem dX2_spread_23 : decode cX2_spread 23 = .ok (.bastore, 1) := by decide +kernel
theorem dX2_spread_24 : decode cX2_spread 24 = .ok (.iinc 2 1, 3) := by decide +kernel
theorem dX2_spread_27 : decode cX2_spread 27 = .ok (.goto (-25), 3) := by decide +kernel
theorem dX2_spread_30 : decode cX2_spread 30 = .ok (.iconst 0, 1) := by decide +kernel
theorem dX2_spread_31 : decode cX2_spread 31 = .ok (.istore_n 2, 1) := by decide +kernel
theorem dX2_spread_32 : decode cX2_spread 32 = .ok (.iload_n 2, 1) := by decide +kernel
theorem dX2_spread_33 : decode cX2_spread 33 = .ok (.aload_n 0, 1) := by decide +kernel
theorem dX2_spread_34 : decode cX2_spread 34 = .ok (.getfield 35, 3) := by decide +kernel
theorem dX2_spread_37 : decode cX2_spread 37 = .ok (.if_icmp .ge 69, 3) := by decide +kernel
theorem dX2_spread_40 : decode cX2_spread 40 = .ok (.iconst 0, 1) := by decide +kernel
theorem dX2_spread_41 : decode cX2_spread 41 = .ok (.istore_n 3, 1) := by decide +kernel
theorem dX2_spread_42 : decode cX2_spread 42 = .ok (.iload_n 3, 1) := by decide +kernel
theorem dX2_spread_43 : decode cX2_spread 43 = .ok (.aload_n 0, 1) := by decide +kernel
theorem dX2_spread_44 : decode cX2_spread 44 = .ok (.getfield 68, 3) := by decide +kernel
theorem dX2_spread_47 : decode cX2_spread 47 = .ok (.if_icmp .ge 53, 3) := by decide +kernel
theorem dX2_spread_50 : decode cX2_spread 50 = .ok (.aload_n 0, 1) := by decide +kernel
theorem dX2_spread_51 : decode cX2_spread 51 = .ok (.getfield 32, 3) := by decide +kernel
theorem dX2_spread_54 : decode cX2_spread 54 = .ok (.aload_n 0, 1) := by decide +kernel
theorem dX2_spread_55 : decode cX2_spread 55 = .ok (.getfield 16, 3) := by decide +kernel
theorem dX2_spread_58 : decode cX2_spread 58 = .ok (.iload_n 3, 1) := by decide +kernel
theorem dX2_spread_59 : decode cX2_spread 59 = .ok (.iaload, 1) := by decide +kernel
theorem dX2_spread_60 : decode cX2_spread 60 = .ok (.aload_n 0, 1) := by decide +kernel
theorem dX2_spread_61 : decode cX2_spread 61 = .ok (.getfield 32, 3) := by decide +kernel
theorem dX2_spread_64 : decode cX2_spread 64 = .ok (.aload_n 0, 1) := by decide +kernel
theorem dX2_spread_65 : decode cX2_spread 65 = .ok (.getfield 16, 3) := by decide +kernel
theorem dX2_spread_68 : decode cX2_spread 68 = .ok (.iload_n 3, 1) := by decide +kernel
theorem dX2_spread_69 : decode cX2_spread 69 = .ok (.iaload, 1) := by decide +kernel
theorem dX2_spread_70 : decode cX2_spread 70 = .ok (.baload, 1) := by decide +kernel
theorem dX2_spread_71 : decode cX2_spread 71 = .ok (.ifCond .ne 17, 3) := by decide +kernel
theorem dX2_spread_74 : decode cX2_spread 74 = .ok (.aload_n 0, 1) := by decide +kernel
theorem dX2_spread_75 : decode cX2_spread 75 = .ok (.getfield 32, 3) := by decide +kernel
theorem dX2_spread_78 : decode cX2_spread 78 = .ok (.aload_n 0, 1) := by decide +kernel
theorem dX2_spread_79 : decode cX2_spread 79 = .ok (.getfield 13, 3) := by decide +kernel
theorem dX2_spread_82 : decode cX2_spread 82 = .ok (.iload_n 3, 1) := by decide +kernel
theorem dX2_spread_83 : decode cX2_spread 83 = .ok (.iaload, 1) := by decide +kernel
theorem dX2_spread_84 : decode cX2_spread 84 = .ok (.baload, 1) := by decide +kernel
theorem dX2_spread_85 : decode cX2_spread 85 = .ok (.ifCond .eq 7, 3) := by decide +kernel
theorem dX2_spread_88 : decode cX2_spread 88 = .ok (.iconst 1, 1) := by decide +kernel
theorem dX2_spread_89 : decode cX2_spread 89 = .ok (.goto 4, 3) := by decide +kernel
theorem dX2_spread_92 : decode cX2_spread 92 = .ok (.iconst 0, 1) := by decide +kernel
theorem dX2_spread_93 : decode cX2_spread 93 = .ok (.bastore, 1) := by decide +kernel
theorem dX2_spread_94 : decode cX2_spread 94 = .ok (.iinc 3 1, 3) := by decide +kernel
theorem dX2_spread_97 : decode cX2_spread 97 = .ok (.goto (-55), 3) := by decide +kernel
theorem dX2_spread_100 : decode cX2_spread 100 = .ok (.iinc 2 1, 3) := by decide +kernel
theorem dX2_spread_103 : decode cX2_spread 103 = .ok (.goto (-71), 3) := by decide +kernel
theorem dX2_spread_106 : decode cX2_spread 106 = .ok (.return_, 1) := by decide +kernel
theorem dX2_run_0 : decode cX2_run 0 = .ok (.aload_n 0, 1) := by decide +kernel
theorem dX2_run_1 : decode cX2_run 1 = .ok (.iload_n 1, 1) := by decide +kernel
theorem dX2_run_2 : decode cX2_run 2 = .ok (.invokevirtual 51, 3) := by decide +kernel
theorem dX2_run_5 : decode cX2_run 5 = .ok (.ifCond .ne 5, 3) := by decide +kernel
theorem dX2_run_8 : decode cX2_run 8 = .ok (.iconst (-1), 1) := by decide +kernel
theorem dX2_run_9 : decode cX2_run 9 = .ok (.ireturn, 1) := by decide +kernel
theorem dX2_run_10 : decode cX2_run 10 = .ok (.aload_n 0, 1) := by decide +kernel
theorem dX2_run_11 : decode cX2_run 11 = .ok (.invokevirtual 45, 3) := by decide +kernel
theorem dX2_run_14 : decode cX2_run 14 = .ok (.iconst 0, 1) := by decide +kernel
theorem dX2_run_15 : decode cX2_run 15 = .ok (.istore_n 2, 1) := by decide +kernel
theorem dX2_run_16 : decode cX2_run 16 = .ok (.iload_n 2, 1) := by decide +kernel
theorem dX2_run_17 : decode cX2_run 17 = .ok (.bipush 40, 2) := by decide +kernel
theorem dX2_run_19 : decode cX2_run 19 = .ok (.if_icmp .ge 23, 3) := by decide +kernel
theorem dX2_run_22 : decode cX2_run 22 = .ok (.aload_n 0, 1) := by decide +kernel
theorem dX2_run_23 : decode cX2_run 23 = .ok (.getfield 28, 3) := by decide +kernel
theorem dX2_run_26 : decode cX2_run 26 = .ok (.iload_n 2, 1) := by decide +kernel
theorem dX2_run_27 : decode cX2_run 27 = .ok (.iconst 0, 1) := by decide +kernel
theorem dX2_run_28 : decode cX2_run 28 = .ok (.bastore, 1) := by decide +kernel
theorem dX2_run_29 : decode cX2_run 29 = .ok (.aload_n 0, 1) := by decide +kernel
theorem dX2_run_30 : decode cX2_run 30 = .ok (.getfield 25, 3) := by decide +kernel
theorem dX2_run_33 : decode cX2_run 33 = .ok (.iload_n 2, 1) := by decide +kernel
theorem dX2_run_34 : decode cX2_run 34 = .ok (.iconst (-1), 1) := by decide +kernel
theorem dX2_run_35 : decode cX2_run 35 = .ok (.iastore, 1) := by decide +kernel
theorem dX2_run_36 : decode cX2_run 36 = .ok (.iinc 2 1, 3) := by decide +kernel
theorem dX2_run_39 : decode cX2_run 39 = .ok (.goto (-23), 3) := by decide +kernel
theorem dX2_run_42 : decode cX2_run 42 = .ok (.aload_n 0, 1) := by decide +kernel
theorem dX2_run_43 : decode cX2_run 43 = .ok (.iload_n 1, 1) := by decide +kernel
theorem dX2_run_44 : decode cX2_run 44 = .ok (.iconst 0, 1) := by decide +kernel
theorem dX2_run_45 : decode cX2_run 45 = .ok (.invokevirtual 77, 3) := by decide +kernel
theorem dX2_run_48 : decode cX2_run 48 = .ok (.pop, 1) := by decide +kernel
theorem dX2_run_49 : decode cX2_run 49 = .ok (.aload_n 0, 1) := by decide +kernel
theorem dX2_run_50 : decode cX2_run 50 = .ok (.invokevirtual 83, 3) := by decide +kernel
theorem dX2_run_53 : decode cX2_run 53 = .ok (.ifCond .le 124, 3) := by decide +kernel
theorem dX2_run_56 : decode cX2_run 56 = .ok (.ldc 87, 2) := by decide +kernel
theorem dX2_run_58 : decode cX2_run 58 = .ok (.istore_n 2, 1) := by decide +kernel
theorem dX2_run_59 : decode cX2_run 59 = .ok (.iconst 0, 1) := by decide +kernel
theorem dX2_run_60 : decode cX2_run 60 = .ok (.istore_n 3, 1) := by decide +kernel
theorem dX2_run_61 : decode cX2_run 61 = .ok (.iload_n 3, 1) := by decide +kernel
theorem dX2_run_62 : decode cX2_run 62 = .ok (.aload_n 0, 1) := by decide +kernel
theorem dX2_run_63 : decode cX2_run 63 = .ok (.getfield 35, 3) := by decide +kernel
theorem dX2_run_66 : decode cX2_run 66 = .ok (.if_icmp .ge 40, 3) := by decide +kernel
theorem dX2_run_69 : decode cX2_run 69 = .ok (.aload_n 0, 1) := by decide +kernel
theorem dX2_run_70 : decode cX2_run 70 = .ok (.getfield 7, 3) := by decide +kernel
theorem dX2_run_73 : decode cX2_run 73 = .ok (.iload_n 3, 1) := by decide +kernel
theorem dX2_run_74 : decode cX2_run 74 = .ok (.iaload, 1) := by decide +kernel
theorem dX2_run_75 : decode cX2_run 75 = .ok (.iconst (-1), 1) := by decide +kernel
theorem dX2_run_76 : decode cX2_run 76 = .ok (.if_icmp .eq 22, 3) := by decide +kernel
theorem dX2_run_79 : decode cX2_run 79 = .ok (.aload_n 0, 1) := by decide +kernel
theorem dX2_run_80 : decode cX2_run 80 = .ok (.getfield 7, 3) := by decide +kernel
theorem dX2_run_83 : decode cX2_run 83 = .ok (.iload_n 3, 1) := by decide +kernel
theorem dX2_run_84 : decode cX2_run 84 = .ok (.iaload, 1) := by decide +kernel
theorem dX2_run_85 : decode cX2_run 85 = .ok (.iload_n 2, 1) := by decide +kernel
theorem dX2_run_86 : decode cX2_run 86 = .ok (.if_icmp .ge 12, 3) := by decide +kernel
theorem dX2_run_89 : decode cX2_run 89 = .ok (.aload_n 0, 1) := by decide +kernel
theorem dX2_run_90 : decode cX2_run 90 = .ok (.getfield 7, 3) := by decide +kernel
theorem dX2_run_93 : decode cX2_run 93 = .ok (.iload_n 3, 1) := by decide +kernel
theorem dX2_run_94 : decode cX2_run 94 = .ok (.iaload, 1) := by decide +kernel
theorem dX2_run_95 : decode cX2_run 95 = .ok (.goto 4, 3) := by decide +kernel
theorem dX2_run_98 : decode cX2_run 98 = .ok (.iload_n 2, 1) := by decide +kernel
theorem dX2_run_99 : decode cX2_run 99 = .ok (.istore_n 2, 1) := by decide +kernel
theorem dX2_run_100 : decode cX2_run 100 = .ok (.iinc 3 1, 3) := by decide +kernel
theorem dX2_run_103 : decode cX2_run 103 = .ok (.goto (-42), 3) := by decide +kernel
theorem dX2_run_106 : decode cX2_run 106 = .ok (.aload_n 0, 1) := by decide +kernel
theorem dX2_run_107 : decode cX2_run 107 = .ok (.invokevirtual 88, 3) := by decide +kernel
theorem dX2_run_110 : decode cX2_run 110 = .ok (.istore_n 3, 1) := by decide +kernel
theorem dX2_run_111 : decode cX2_run 111 = .ok (.aload_n 0, 1) := by decide +kernel
theorem dX2_run_112 : decode cX2_run 112 = .ok (.getfield 22, 3) := by decide +kernel
theorem dX2_run_115 : decode cX2_run 115 = .ok (.iload_n 3, 1) := by decide +kernel
theorem dX2_run_116 : decode cX2_run 116 = .ok (.iload_n 2, 1) := by decide +kernel
theorem dX2_run_117 : decode cX2_run 117 = .ok (.iastore, 1) := by decide +kernel
theorem dX2_run_118 : decode cX2_run 118 = .ok (.aload_n 0, 1) := by decide +kernel
theorem dX2_run_119 : decode cX2_run 119 = .ok (.getfield 28, 3) := by decide +kernel
theorem dX2_run_122 : decode cX2_run 122 = .ok (.iload_n 3, 1) := by decide +kernel
theorem dX2_run_123 : decode cX2_run 123 = .ok (.iconst 1, 1) := by decide +kernel
theorem dX2_run_124 : decode cX2_run 124 = .ok (.bastore, 1) := by decide +kernel
theorem dX2_run_125 : decode cX2_run 125 = .ok (.aload_n 0, 1) := by decide +kernel
theorem dX2_run_126 : decode cX2_run 126 = .ok (.getfield 68, 3) := by decide +kernel
theorem dX2_run_129 : decode cX2_run 129 = .ok (.iconst 1, 1) := by decide +kernel
theorem dX2_run_130 : decode cX2_run 130 = .ok (.isub, 1) := by decide +kernel
theorem dX2_run_131 : decode cX2_run 131 = .ok (.istore 4, 2) := by decide +kernel
theorem dX2_run_133 : decode cX2_run 133 = .ok (.iload 4, 2) := by decide +kernel
theorem dX2_run_135 : decode cX2_run 135 = .ok (.ifCond .lt 39, 3) := by decide +kernel
theorem dX2_run_138 : decode cX2_run 138 = .ok (.aload_n 0, 1) := by decide +kernel
theorem dX2_run_139 : decode cX2_run 139 = .ok (.getfield 13, 3) := by decide +kernel
theorem dX2_run_142 : decode cX2_run 142 = .ok (.iload 4, 2) := by decide +kernel
theorem dX2_run_144 : decode cX2_run 144 = .ok (.iaload, 1) := by decide +kernel
theorem dX2_run_145 : decode cX2_run 145 = .ok (.iload_n 3, 1) := by decide +kernel
theorem dX2_run_146 : decode cX2_run 146 = .ok (.if_icmp .ne 22, 3) := by decide +kernel
theorem dX2_run_149 : decode cX2_run 149 = .ok (.aload_n 0, 1) := by decide +kernel
theorem dX2_run_150 : decode cX2_run 150 = .ok (.iload_n 3, 1) := by decide +kernel
theorem dX2_run_151 : decode cX2_run 151 = .ok (.aload_n 0, 1) := by decide +kernel
theorem dX2_run_152 : decode cX2_run 152 = .ok (.getfield 16, 3) := by decide +kernel
theorem dX2_run_155 : decode cX2_run 155 = .ok (.iload 4, 2) := by decide +kernel
theorem dX2_run_157 : decode cX2_run 157 = .ok (.iaload, 1) := by decide +kernel
theorem dX2_run_158 : decode cX2_run 158 = .ok (.aload_n 0, 1) := by decide +kernel
theorem dX2_run_159 : decode cX2_run 159 = .ok (.getfield 19, 3) := by decide +kernel
theorem dX2_run_162 : decode cX2_run 162 = .ok (.iload 4, 2) := by decide +kernel
theorem dX2_run_164 : decode cX2_run 164 = .ok (.iaload, 1) := by decide +kernel
theorem dX2_run_165 : decode cX2_run 165 = .ok (.invokevirtual 91, 3) := by decide +kernel
theorem dX2_run_168 : decode cX2_run 168 = .ok (.iinc 4 (-1), 3) := by decide +kernel
theorem dX2_run_171 : decode cX2_run 171 = .ok (.goto (-38), 3) := by decide +kernel
theorem dX2_run_174 : decode cX2_run 174 = .ok (.goto (-125), 3) := by decide +kernel
theorem dX2_run_177 : decode cX2_run 177 = .ok (.aload_n 0, 1) := by decide +kernel
theorem dX2_run_178 : decode cX2_run 178 = .ok (.iload_n 1, 1) := by decide +kernel
theorem dX2_run_179 : decode cX2_run 179 = .ok (.invokevirtual 95, 3) := by decide +kernel
theorem dX2_run_182 : decode cX2_run 182 = .ok (.aload_n 0, 1) := by decide +kernel
theorem dX2_run_183 : decode cX2_run 183 = .ok (.iconst 1, 1) := by decide +kernel
theorem dX2_run_184 : decode cX2_run 184 = .ok (.putfield 71, 3) := by decide +kernel
theorem dX2_run_187 : decode cX2_run 187 = .ok (.iconst 0, 1) := by decide +kernel
theorem dX2_run_188 : decode cX2_run 188 = .ok (.istore_n 2, 1) := by decide +kernel
theorem dX2_run_189 : decode cX2_run 189 = .ok (.iload_n 2, 1) := by decide +kernel
theorem dX2_run_190 : decode cX2_run 190 = .ok (.aload_n 0, 1) := by decide +kernel
theorem dX2_run_191 : decode cX2_run 191 = .ok (.getfield 35, 3) := by decide +kernel
theorem dX2_run_194 : decode cX2_run 194 = .ok (.if_icmp .ge 43, 3) := by decide +kernel
theorem dX2_run_197 : decode cX2_run 197 = .ok (.aload_n 0, 1) := by decide +kernel
theorem dX2_run_198 : decode cX2_run 198 = .ok (.aload_n 0, 1) := by decide +kernel
theorem dX2_run_199 : decode cX2_run 199 = .ok (.getfield 71, 3) := by decide +kernel
theorem dX2_run_202 : decode cX2_run 202 = .ok (.ifCond .eq 25, 3) := by decide +kernel
theorem dX2_run_205 : decode cX2_run 205 = .ok (.aload_n 0, 1) := by decide +kernel
theorem dX2_run_206 : decode cX2_run 206 = .ok (.getfield 28, 3) := by decide +kernel
theorem dX2_run_209 : decode cX2_run 209 = .ok (.iload_n 2, 1) := by decide +kernel
theorem dX2_run_210 : decode cX2_run 210 = .ok (.baload, 1) := by decide +kernel
theorem dX2_run_211 : decode cX2_run 211 = .ok (.ifCond .ne 12, 3) := by decide +kernel
theorem dX2_run_214 : decode cX2_run 214 = .ok (.aload_n 0, 1) := by decide +kernel
theorem dX2_run_215 : decode cX2_run 215 = .ok (.getfield 32, 3) := by decide +kernel
theorem dX2_run_218 : decode cX2_run 218 = .ok (.iload_n 2, 1) := by decide +kernel
theorem dX2_run_219 : decode cX2_run 219 = .ok (.baload, 1) := by decide +kernel
theorem dX2_run_220 : decode cX2_run 220 = .ok (.ifCond .ne 7, 3) := by decide +kernel
theorem dX2_run_223 : decode cX2_run 223 = .ok (.iconst 1, 1) := by decide +kernel
theorem dX2_run_224 : decode cX2_run 224 = .ok (.goto 4, 3) := by decide +kernel
theorem dX2_run_227 : decode cX2_run 227 = .ok (.iconst 0, 1) := by decide +kernel
theorem dX2_run_228 : decode cX2_run 228 = .ok (.putfield 71, 3) := by decide +kernel
theorem dX2_run_231 : decode cX2_run 231 = .ok (.iinc 2 1, 3) := by decide +kernel
theorem dX2_run_234 : decode cX2_run 234 = .ok (.goto (-45), 3) := by decide +kernel
theorem dX2_run_237 : decode cX2_run 237 = .ok (.aload_n 0, 1) := by decide +kernel
theorem dX2_run_238 : decode cX2_run 238 = .ok (.getfield 71, 3) := by decide +kernel
theorem dX2_run_241 : decode cX2_run 241 = .ok (.ifCond .eq 7, 3) := by decide +kernel
theorem dX2_run_244 : decode cX2_run 244 = .ok (.iconst 0, 1) := by decide +kernel
theorem dX2_run_245 : decode cX2_run 245 = .ok (.goto 5, 3) := by decide +kernel
theorem dX2_run_248 : decode cX2_run 248 = .ok (.bipush (-2), 2) := by decide +kernel
theorem dX2_run_250 : decode cX2_run 250 = .ok (.ireturn, 1) := by decide +kernel
theorem dX2_distance_0 : decode cX2_distance 0 = .ok (.aload_n 0, 1) := by decide +kernel
theorem dX2_distance_1 : decode cX2_distance 1 = .ok (.getfield 71, 3) := by decide +kernel
theorem dX2_distance_4 : decode cX2_distance 4 = .ok (.ifCond .eq 29, 3) := by decide +kernel
theorem dX2_distance_7 : decode cX2_distance 7 = .ok (.aload_n 0, 1) := by decide +kernel
theorem dX2_distance_8 : decode cX2_distance 8 = .ok (.iload_n 1, 1) := by decide +kernel
theorem dX2_distance_9 : decode cX2_distance 9 = .ok (.invokevirtual 51, 3) := by decide +kernel
theorem dX2_distance_12 : decode cX2_distance 12 = .ok (.ifCond .eq 21, 3) := by decide +kernel
theorem dX2_distance_15 : decode cX2_distance 15 = .ok (.aload_n 0, 1) := by decide +kernel
theorem dX2_distance_16 : decode cX2_distance 16 = .ok (.getfield 28, 3) := by decide +kernel
theorem dX2_distance_19 : decode cX2_distance 19 = .ok (.iload_n 1, 1) := by decide +kernel
theorem dX2_distance_20 : decode cX2_distance 20 = .ok (.baload, 1) := by decide +kernel
theorem dX2_distance_21 : decode cX2_distance 21 = .ok (.ifCond .eq 12, 3) := by decide +kernel
theorem dX2_distance_24 : decode cX2_distance 24 = .ok (.aload_n 0, 1) := by decide +kernel
theorem dX2_distance_25 : decode cX2_distance 25 = .ok (.getfield 22, 3) := by decide +kernel
theorem dX2_distance_28 : decode cX2_distance 28 = .ok (.iload_n 1, 1) := by decide +kernel
theorem dX2_distance_29 : decode cX2_distance 29 = .ok (.iaload, 1) := by decide +kernel
theorem dX2_distance_30 : decode cX2_distance 30 = .ok (.goto 4, 3) := by decide +kernel
theorem dX2_distance_33 : decode cX2_distance 33 = .ok (.iconst (-1), 1) := by decide +kernel
theorem dX2_distance_34 : decode cX2_distance 34 = .ok (.ireturn, 1) := by decide +kernel
theorem dX2_before_0 : decode cX2_before 0 = .ok (.aload_n 0, 1) := by decide +kernel
theorem dX2_before_1 : decode cX2_before 1 = .ok (.getfield 71, 3) := by decide +kernel
theorem dX2_before_4 : decode cX2_before 4 = .ok (.ifCond .eq 29, 3) := by decide +kernel
theorem dX2_before_7 : decode cX2_before 7 = .ok (.aload_n 0, 1) := by decide +kernel
theorem dX2_before_8 : decode cX2_before 8 = .ok (.iload_n 1, 1) := by decide +kernel
theorem dX2_before_9 : decode cX2_before 9 = .ok (.invokevirtual 51, 3) := by decide +kernel
theorem dX2_before_12 : decode cX2_before 12 = .ok (.ifCond .eq 21, 3) := by decide +kernel
theorem dX2_before_15 : decode cX2_before 15 = .ok (.aload_n 0, 1) := by decide +kernel
theorem dX2_before_16 : decode cX2_before 16 = .ok (.getfield 28, 3) := by decide +kernel
theorem dX2_before_19 : decode cX2_before 19 = .ok (.iload_n 1, 1) := by decide +kernel
theorem dX2_before_20 : decode cX2_before 20 = .ok (.baload, 1) := by decide +kernel
theorem dX2_before_21 : decode cX2_before 21 = .ok (.ifCond .eq 12, 3) := by decide +kernel
theorem dX2_before_24 : decode cX2_before 24 = .ok (.aload_n 0, 1) := by decide +kernel
theorem dX2_before_25 : decode cX2_before 25 = .ok (.getfield 25, 3) := by decide +kernel
theorem dX2_before_28 : decode cX2_before 28 = .ok (.iload_n 1, 1) := by decide +kernel
theorem dX2_before_29 : decode cX2_before 29 = .ok (.iaload, 1) := by decide +kernel
theorem dX2_before_30 : decode cX2_before 30 = .ok (.goto 4, 3) := by decide +kernel
theorem dX2_before_33 : decode cX2_before 33 = .ok (.iconst (-1), 1) := by decide +kernel
theorem dX2_before_34 : decode cX2_before 34 = .ok (.ireturn, 1) := by decide +kernel
theorem dX2_sound_0 : decode cX2_sound 0 = .ok (.iconst 1, 1) := by decide +kernel
theorem dX2_sound_1 : decode cX2_sound 1 = .ok (.ireturn, 1) := by decide +kernel
theorem dX2_count_0 : decode cX2_count 0 = .ok (.iload_n 1, 1) := by decide +kernel
theorem dX2_count_1 : decode cX2_count 1 = .ok (.ifCond .ne 10, 3) := by decide +kernel
theorem dX2_count_4 : decode cX2_count 4 = .ok (.aload_n 0, 1) := by decide +kernel
theorem dX2_count_5 : decode cX2_count 5 = .ok (.getfield 35, 3) := by decide +kernel
theorem dX2_count_8 : decode cX2_count 8 = .ok (.goto 28, 3) := by decide +kernel
theorem dX2_count_11 : decode cX2_count 11 = .ok (.iload_n 1, 1) := by decide +kernel
theorem dX2_count_12 : decode cX2_count 12 = .ok (.iconst 1, 1) := by decide +kernel
theorem dX2_count_13 : decode cX2_count 13 = .ok (.if_icmp .ne 10, 3) := by decide +kernel
theorem dX2_count_16 : decode cX2_count 16 = .ok (.aload_n 0, 1) := by decide +kernel
theorem dX2_count_17 : decode cX2_count 17 = .ok (.getfield 68, 3) := by decide +kernel
theorem dX2_count_20 : decode cX2_count 20 = .ok (.goto 16, 3) := by decide +kernel
theorem dX2_count_23 : decode cX2_count 23 = .ok (.iload_n 1, 1) := by decide +kernel
theorem dX2_count_24 : decode cX2_count 24 = .ok (.iconst 2, 1) := by decide +kernel
theorem dX2_count_25 : decode cX2_count 25 = .ok (.if_icmp .ne 10, 3) := by decide +kernel
theorem dX2_count_28 : decode cX2_count 28 = .ok (.aload_n 0, 1) := by decide +kernel
theorem dX2_count_29 : decode cX2_count 29 = .ok (.getfield 58, 3) := by decide +kernel
theorem dX2_count_32 : decode cX2_count 32 = .ok (.goto 4, 3) := by decide +kernel
theorem dX2_count_35 : decode cX2_count 35 = .ok (.iconst (-1), 1) := by decide +kernel
theorem dX2_count_36 : decode cX2_count 36 = .ok (.ireturn, 1) := by decide +kernel
theorem dL_cell_0 : decode cL_cell 0 = .ok (.iload_n 1, 1) := by decide +kernel
theorem dL_cell_1 : decode cL_cell 1 = .ok (.aload_n 0, 1) := by decide +kernel
theorem dL_cell_2 : decode cL_cell 2 = .ok (.arraylength, 1) := by decide +kernel
theorem dL_cell_3 : decode cL_cell 3 = .ok (.if_icmp .ge 9, 3) := by decide +kernel
theorem dL_cell_6 : decode cL_cell 6 = .ok (.aload_n 0, 1) := by decide +kernel
theorem dL_cell_7 : decode cL_cell 7 = .ok (.iload_n 1, 1) := by decide +kernel
theorem dL_cell_8 : decode cL_cell 8 = .ok (.iaload, 1) := by decide +kernel
theorem dL_cell_9 : decode cL_cell 9 = .ok (.goto 4, 3) := by decide +kernel
theorem dL_cell_12 : decode cL_cell 12 = .ok (.iconst 0, 1) := by decide +kernel
theorem dL_cell_13 : decode cL_cell 13 = .ok (.ireturn, 1) := by decide +kernel
