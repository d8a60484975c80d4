theorem dX0_init_0 : decode cX0_init 0 = .ok (.aload_n 0, 1) := by decide +kernel
theorem dX0_init_1 : decode cX0_init 1 = .ok (.invokespecial 1, 3) := by decide +kernel
theorem dX0_init_4 : decode cX0_init 4 = .ok (.aload_n 0, 1) := by decide +kernel
theorem dX0_init_5 : decode cX0_init 5 = .ok (.iload_n 1, 1) := by decide +kernel
theorem dX0_init_6 : decode cX0_init 6 = .ok (.putfield 7, 3) := by decide +kernel
theorem dX0_init_9 : decode cX0_init 9 = .ok (.aload_n 0, 1) := by decide +kernel
theorem dX0_init_10 : decode cX0_init 10 = .ok (.iload_n 2, 1) := by decide +kernel
theorem dX0_init_11 : decode cX0_init 11 = .ok (.putfield 13, 3) := by decide +kernel
theorem dX0_init_14 : decode cX0_init 14 = .ok (.aload_n 0, 1) := by decide +kernel
theorem dX0_init_15 : decode cX0_init 15 = .ok (.aload_n 3, 1) := by decide +kernel
theorem dX0_init_16 : decode cX0_init 16 = .ok (.putfield 16, 3) := by decide +kernel
theorem dX0_init_19 : decode cX0_init 19 = .ok (.return_, 1) := by decide +kernel
theorem dX1_init_0 : decode cX1_init 0 = .ok (.aload_n 0, 1) := by decide +kernel
theorem dX1_init_1 : decode cX1_init 1 = .ok (.invokespecial 1, 3) := by decide +kernel
theorem dX1_init_4 : decode cX1_init 4 = .ok (.aload_n 0, 1) := by decide +kernel
theorem dX1_init_5 : decode cX1_init 5 = .ok (.iconst 1, 1) := by decide +kernel
theorem dX1_init_6 : decode cX1_init 6 = .ok (.iload_n 1, 1) := by decide +kernel
theorem dX1_init_7 : decode cX1_init 7 = .ok (.bipush 40, 2) := by decide +kernel
theorem dX1_init_9 : decode cX1_init 9 = .ok (.invokestatic 9, 3) := by decide +kernel
theorem dX1_init_12 : decode cX1_init 12 = .ok (.invokestatic 15, 3) := by decide +kernel
theorem dX1_init_15 : decode cX1_init 15 = .ok (.putfield 18, 3) := by decide +kernel
theorem dX1_init_18 : decode cX1_init 18 = .ok (.aload_n 0, 1) := by decide +kernel
theorem dX1_init_19 : decode cX1_init 19 = .ok (.iconst 1, 1) := by decide +kernel
theorem dX1_init_20 : decode cX1_init 20 = .ok (.iload_n 2, 1) := by decide +kernel
theorem dX1_init_21 : decode cX1_init 21 = .ok (.sipush 300, 3) := by decide +kernel
theorem dX1_init_24 : decode cX1_init 24 = .ok (.invokestatic 9, 3) := by decide +kernel
theorem dX1_init_27 : decode cX1_init 27 = .ok (.invokestatic 15, 3) := by decide +kernel
theorem dX1_init_30 : decode cX1_init 30 = .ok (.putfield 22, 3) := by decide +kernel
theorem dX1_init_33 : decode cX1_init 33 = .ok (.aload_n 0, 1) := by decide +kernel
theorem dX1_init_34 : decode cX1_init 34 = .ok (.iconst 0, 1) := by decide +kernel
theorem dX1_init_35 : decode cX1_init 35 = .ok (.iload_n 3, 1) := by decide +kernel
theorem dX1_init_36 : decode cX1_init 36 = .ok (.invokestatic 15, 3) := by decide +kernel
theorem dX1_init_39 : decode cX1_init 39 = .ok (.putfield 25, 3) := by decide +kernel
theorem dX1_init_42 : decode cX1_init 42 = .ok (.aload_n 0, 1) := by decide +kernel
theorem dX1_init_43 : decode cX1_init 43 = .ok (.aload_n 0, 1) := by decide +kernel
theorem dX1_init_44 : decode cX1_init 44 = .ok (.getfield 18, 3) := by decide +kernel
theorem dX1_init_47 : decode cX1_init 47 = .ok (.newarray .int, 2) := by decide +kernel
theorem dX1_init_49 : decode cX1_init 49 = .ok (.putfield 28, 3) := by decide +kernel
theorem dX1_init_52 : decode cX1_init 52 = .ok (.aload_n 0, 1) := by decide +kernel
theorem dX1_init_53 : decode cX1_init 53 = .ok (.aload_n 0, 1) := by decide +kernel
theorem dX1_init_54 : decode cX1_init 54 = .ok (.getfield 18, 3) := by decide +kernel
theorem dX1_init_57 : decode cX1_init 57 = .ok (.newarray .int, 2) := by decide +kernel
theorem dX1_init_59 : decode cX1_init 59 = .ok (.putfield 32, 3) := by decide +kernel
theorem dX1_init_62 : decode cX1_init 62 = .ok (.aload_n 0, 1) := by decide +kernel
theorem dX1_init_63 : decode cX1_init 63 = .ok (.bipush 32, 2) := by decide +kernel
theorem dX1_init_65 : decode cX1_init 65 = .ok (.newarray .int, 2) := by decide +kernel
theorem dX1_init_67 : decode cX1_init 67 = .ok (.putfield 35, 3) := by decide +kernel
theorem dX1_init_70 : decode cX1_init 70 = .ok (.aload_n 0, 1) := by decide +kernel
theorem dX1_init_71 : decode cX1_init 71 = .ok (.aload_n 0, 1) := by decide +kernel
theorem dX1_init_72 : decode cX1_init 72 = .ok (.getfield 18, 3) := by decide +kernel
theorem dX1_init_75 : decode cX1_init 75 = .ok (.anewarray 38, 3) := by decide +kernel
theorem dX1_init_78 : decode cX1_init 78 = .ok (.putfield 40, 3) := by decide +kernel
theorem dX1_init_81 : decode cX1_init 81 = .ok (.aload_n 0, 1) := by decide +kernel
theorem dX1_init_82 : decode cX1_init 82 = .ok (.aload_n 0, 1) := by decide +kernel
theorem dX1_init_83 : decode cX1_init 83 = .ok (.getfield 18, 3) := by decide +kernel
theorem dX1_init_86 : decode cX1_init 86 = .ok (.newarray .int, 2) := by decide +kernel
theorem dX1_init_88 : decode cX1_init 88 = .ok (.putfield 44, 3) := by decide +kernel
theorem dX1_init_91 : decode cX1_init 91 = .ok (.aload_n 0, 1) := by decide +kernel
theorem dX1_init_92 : decode cX1_init 92 = .ok (.aload_n 0, 1) := by decide +kernel
theorem dX1_init_93 : decode cX1_init 93 = .ok (.getfield 18, 3) := by decide +kernel
theorem dX1_init_96 : decode cX1_init 96 = .ok (.newarray .int, 2) := by decide +kernel
theorem dX1_init_98 : decode cX1_init 98 = .ok (.putfield 47, 3) := by decide +kernel
theorem dX1_init_101 : decode cX1_init 101 = .ok (.aload_n 0, 1) := by decide +kernel
theorem dX1_init_102 : decode cX1_init 102 = .ok (.getfield 32, 3) := by decide +kernel
theorem dX1_init_105 : decode cX1_init 105 = .ok (.iconst (-1), 1) := by decide +kernel
theorem dX1_init_106 : decode cX1_init 106 = .ok (.invokestatic 50, 3) := by decide +kernel
theorem dX1_init_109 : decode cX1_init 109 = .ok (.aload_n 0, 1) := by decide +kernel
theorem dX1_init_110 : decode cX1_init 110 = .ok (.getfield 44, 3) := by decide +kernel
theorem dX1_init_113 : decode cX1_init 113 = .ok (.iconst (-1), 1) := by decide +kernel
theorem dX1_init_114 : decode cX1_init 114 = .ok (.invokestatic 50, 3) := by decide +kernel
theorem dX1_init_117 : decode cX1_init 117 = .ok (.aload_n 0, 1) := by decide +kernel
theorem dX1_init_118 : decode cX1_init 118 = .ok (.getfield 47, 3) := by decide +kernel
theorem dX1_init_121 : decode cX1_init 121 = .ok (.iconst (-1), 1) := by decide +kernel
theorem dX1_init_122 : decode cX1_init 122 = .ok (.invokestatic 50, 3) := by decide +kernel
theorem dX1_init_125 : decode cX1_init 125 = .ok (.return_, 1) := by decide +kernel
theorem dX1_push_0 : decode cX1_push 0 = .ok (.aload_n 0, 1) := by decide +kernel
theorem dX1_push_1 : decode cX1_push 1 = .ok (.iload_n 1, 1) := by decide +kernel
theorem dX1_push_2 : decode cX1_push 2 = .ok (.invokevirtual 56, 3) := by decide +kernel
theorem dX1_push_5 : decode cX1_push 5 = .ok (.ifCond .eq 11, 3) := by decide +kernel
theorem dX1_push_8 : decode cX1_push 8 = .ok (.aload_n 0, 1) := by decide +kernel
theorem dX1_push_9 : decode cX1_push 9 = .ok (.iload_n 1, 1) := by decide +kernel
theorem dX1_push_10 : decode cX1_push 10 = .ok (.invokevirtual 60, 3) := by decide +kernel
theorem dX1_push_13 : decode cX1_push 13 = .ok (.ifCond .eq 5, 3) := by decide +kernel
theorem dX1_push_16 : decode cX1_push 16 = .ok (.iconst (-1), 1) := by decide +kernel
theorem dX1_push_17 : decode cX1_push 17 = .ok (.ireturn, 1) := by decide +kernel
theorem dX1_push_18 : decode cX1_push 18 = .ok (.iload_n 2, 1) := by decide +kernel
theorem dX1_push_19 : decode cX1_push 19 = .ok (.aload_n 0, 1) := by decide +kernel
theorem dX1_push_20 : decode cX1_push 20 = .ok (.getfield 63, 3) := by decide +kernel
theorem dX1_push_23 : decode cX1_push 23 = .ok (.if_icmp .ge 6, 3) := by decide +kernel
theorem dX1_push_26 : decode cX1_push 26 = .ok (.bipush (-2), 2) := by decide +kernel
theorem dX1_push_28 : decode cX1_push 28 = .ok (.ireturn, 1) := by decide +kernel
theorem dX1_push_29 : decode cX1_push 29 = .ok (.aload_n 0, 1) := by decide +kernel
theorem dX1_push_30 : decode cX1_push 30 = .ok (.dup, 1) := by decide +kernel
theorem dX1_push_31 : decode cX1_push 31 = .ok (.getfield 66, 3) := by decide +kernel
theorem dX1_push_34 : decode cX1_push 34 = .ok (.iconst 1, 1) := by decide +kernel
theorem dX1_push_35 : decode cX1_push 35 = .ok (.iadd, 1) := by decide +kernel
theorem dX1_push_36 : decode cX1_push 36 = .ok (.putfield 66, 3) := by decide +kernel
theorem dX1_push_39 : decode cX1_push 39 = .ok (.aload_n 0, 1) := by decide +kernel
theorem dX1_push_40 : decode cX1_push 40 = .ok (.dup, 1) := by decide +kernel
theorem dX1_push_41 : decode cX1_push 41 = .ok (.getfield 69, 3) := by decide +kernel
theorem dX1_push_44 : decode cX1_push 44 = .ok (.iconst 1, 1) := by decide +kernel
theorem dX1_push_45 : decode cX1_push 45 = .ok (.iadd, 1) := by decide +kernel
theorem dX1_push_46 : decode cX1_push 46 = .ok (.putfield 69, 3) := by decide +kernel
theorem dX1_push_49 : decode cX1_push 49 = .ok (.aload_n 0, 1) := by decide +kernel
theorem dX1_push_50 : decode cX1_push 50 = .ok (.getfield 28, 3) := by decide +kernel
theorem dX1_push_53 : decode cX1_push 53 = .ok (.iload_n 1, 1) := by decide +kernel
theorem dX1_push_54 : decode cX1_push 54 = .ok (.iload_n 2, 1) := by decide +kernel
theorem dX1_push_55 : decode cX1_push 55 = .ok (.iastore, 1) := by decide +kernel
theorem dX1_push_56 : decode cX1_push 56 = .ok (.aload_n 0, 1) := by decide +kernel
theorem dX1_push_57 : decode cX1_push 57 = .ok (.iload_n 1, 1) := by decide +kernel
theorem dX1_push_58 : decode cX1_push 58 = .ok (.invokevirtual 72, 3) := by decide +kernel
theorem dX1_push_61 : decode cX1_push 61 = .ok (.iconst 0, 1) := by decide +kernel
theorem dX1_push_62 : decode cX1_push 62 = .ok (.ireturn, 1) := by decide +kernel
theorem dX1_lower_0 : decode cX1_lower 0 = .ok (.aload_n 0, 1) := by decide +kernel
theorem dX1_lower_1 : decode cX1_lower 1 = .ok (.iload_n 1, 1) := by decide +kernel
theorem dX1_lower_2 : decode cX1_lower 2 = .ok (.invokevirtual 60, 3) := by decide +kernel
theorem dX1_lower_5 : decode cX1_lower 5 = .ok (.ifCond .ne 5, 3) := by decide +kernel
theorem dX1_lower_8 : decode cX1_lower 8 = .ok (.iconst (-1), 1) := by decide +kernel
theorem dX1_lower_9 : decode cX1_lower 9 = .ok (.ireturn, 1) := by decide +kernel
theorem dX1_lower_10 : decode cX1_lower 10 = .ok (.iload_n 2, 1) := by decide +kernel
theorem dX1_lower_11 : decode cX1_lower 11 = .ok (.aload_n 0, 1) := by decide +kernel
theorem dX1_lower_12 : decode cX1_lower 12 = .ok (.getfield 63, 3) := by decide +kernel
theorem dX1_lower_15 : decode cX1_lower 15 = .ok (.if_icmp .lt 13, 3) := by decide +kernel
theorem dX1_lower_18 : decode cX1_lower 18 = .ok (.iload_n 2, 1) := by decide +kernel
theorem dX1_lower_19 : decode cX1_lower 19 = .ok (.aload_n 0, 1) := by decide +kernel
theorem dX1_lower_20 : decode cX1_lower 20 = .ok (.getfield 28, 3) := by decide +kernel
theorem dX1_lower_23 : decode cX1_lower 23 = .ok (.iload_n 1, 1) := by decide +kernel
theorem dX1_lower_24 : decode cX1_lower 24 = .ok (.iaload, 1) := by decide +kernel
theorem dX1_lower_25 : decode cX1_lower 25 = .ok (.if_icmp .le 6, 3) := by decide +kernel
theorem dX1_lower_28 : decode cX1_lower 28 = .ok (.bipush (-2), 2) := by decide +kernel
theorem dX1_lower_30 : decode cX1_lower 30 = .ok (.ireturn, 1) := by decide +kernel
theorem dX1_lower_31 : decode cX1_lower 31 = .ok (.iload_n 2, 1) := by decide +kernel
theorem dX1_lower_32 : decode cX1_lower 32 = .ok (.aload_n 0, 1) := by decide +kernel
theorem dX1_lower_33 : decode cX1_lower 33 = .ok (.getfield 28, 3) := by decide +kernel
theorem dX1_lower_36 : decode cX1_lower 36 = .ok (.iload_n 1, 1) := by decide +kernel
theorem dX1_lower_37 : decode cX1_lower 37 = .ok (.iaload, 1) := by decide +kernel
theorem dX1_lower_38 : decode cX1_lower 38 = .ok (.if_icmp .ge 39, 3) := by decide +kernel
theorem dX1_lower_41 : decode cX1_lower 41 = .ok (.aload_n 0, 1) := by decide +kernel
theorem dX1_lower_42 : decode cX1_lower 42 = .ok (.dup, 1) := by decide +kernel
theorem dX1_lower_43 : decode cX1_lower 43 = .ok (.getfield 69, 3) := by decide +kernel
theorem dX1_lower_46 : decode cX1_lower 46 = .ok (.iconst 1, 1) := by decide +kernel
theorem dX1_lower_47 : decode cX1_lower 47 = .ok (.iadd, 1) := by decide +kernel
theorem dX1_lower_48 : decode cX1_lower 48 = .ok (.putfield 69, 3) := by decide +kernel
theorem dX1_lower_51 : decode cX1_lower 51 = .ok (.aload_n 0, 1) := by decide +kernel
theorem dX1_lower_52 : decode cX1_lower 52 = .ok (.getfield 28, 3) := by decide +kernel
theorem dX1_lower_55 : decode cX1_lower 55 = .ok (.iload_n 1, 1) := by decide +kernel
theorem dX1_lower_56 : decode cX1_lower 56 = .ok (.iload_n 2, 1) := by decide +kernel
theorem dX1_lower_57 : decode cX1_lower 57 = .ok (.iastore, 1) := by decide +kernel
theorem dX1_lower_58 : decode cX1_lower 58 = .ok (.aload_n 0, 1) := by decide +kernel
theorem dX1_lower_59 : decode cX1_lower 59 = .ok (.iload_n 2, 1) := by decide +kernel
theorem dX1_lower_60 : decode cX1_lower 60 = .ok (.invokevirtual 76, 3) := by decide +kernel
theorem dX1_lower_63 : decode cX1_lower 63 = .ok (.aload_n 0, 1) := by decide +kernel
theorem dX1_lower_64 : decode cX1_lower 64 = .ok (.getfield 32, 3) := by decide +kernel
theorem dX1_lower_67 : decode cX1_lower 67 = .ok (.iload_n 1, 1) := by decide +kernel
theorem dX1_lower_68 : decode cX1_lower 68 = .ok (.iaload, 1) := by decide +kernel
theorem dX1_lower_69 : decode cX1_lower 69 = .ok (.if_icmp .eq 8, 3) := by decide +kernel
theorem dX1_lower_72 : decode cX1_lower 72 = .ok (.aload_n 0, 1) := by decide +kernel
theorem dX1_lower_73 : decode cX1_lower 73 = .ok (.iload_n 1, 1) := by decide +kernel
theorem dX1_lower_74 : decode cX1_lower 74 = .ok (.invokevirtual 72, 3) := by decide +kernel
theorem dX1_lower_77 : decode cX1_lower 77 = .ok (.iconst 0, 1) := by decide +kernel
theorem dX1_lower_78 : decode cX1_lower 78 = .ok (.ireturn, 1) := by decide +kernel
theorem dX1_pop_0 : decode cX1_pop 0 = .ok (.aload_n 0, 1) := by decide +kernel
theorem dX1_pop_1 : decode cX1_pop 1 = .ok (.invokevirtual 80, 3) := by decide +kernel
theorem dX1_pop_4 : decode cX1_pop 4 = .ok (.istore_n 1, 1) := by decide +kernel
theorem dX1_pop_5 : decode cX1_pop 5 = .ok (.aload_n 0, 1) := by decide +kernel
theorem dX1_pop_6 : decode cX1_pop 6 = .ok (.iload_n 1, 1) := by decide +kernel
theorem dX1_pop_7 : decode cX1_pop 7 = .ok (.invokevirtual 84, 3) := by decide +kernel
theorem dX1_pop_10 : decode cX1_pop 10 = .ok (.istore_n 2, 1) := by decide +kernel
theorem dX1_pop_11 : decode cX1_pop 11 = .ok (.aload_n 0, 1) := by decide +kernel
theorem dX1_pop_12 : decode cX1_pop 12 = .ok (.iload_n 2, 1) := by decide +kernel
theorem dX1_pop_13 : decode cX1_pop 13 = .ok (.invokevirtual 60, 3) := by decide +kernel
theorem dX1_pop_16 : decode cX1_pop 16 = .ok (.ifCond .ne 5, 3) := by decide +kernel
theorem dX1_pop_19 : decode cX1_pop 19 = .ok (.iconst (-1), 1) := by decide +kernel
theorem dX1_pop_20 : decode cX1_pop 20 = .ok (.ireturn, 1) := by decide +kernel
theorem dX1_pop_21 : decode cX1_pop 21 = .ok (.aload_n 0, 1) := by decide +kernel
theorem dX1_pop_22 : decode cX1_pop 22 = .ok (.aload_n 0, 1) := by decide +kernel
theorem dX1_pop_23 : decode cX1_pop 23 = .ok (.getfield 28, 3) := by decide +kernel
theorem dX1_pop_26 : decode cX1_pop 26 = .ok (.iload_n 2, 1) := by decide +kernel
theorem dX1_pop_27 : decode cX1_pop 27 = .ok (.iaload, 1) := by decide +kernel
theorem dX1_pop_28 : decode cX1_pop 28 = .ok (.putfield 63, 3) := by decide +kernel
theorem dX1_pop_31 : decode cX1_pop 31 = .ok (.iload_n 1, 1) := by decide +kernel
theorem dX1_pop_32 : decode cX1_pop 32 = .ok (.ifCond .le 8, 3) := by decide +kernel
theorem dX1_pop_35 : decode cX1_pop 35 = .ok (.aload_n 0, 1) := by decide +kernel
theorem dX1_pop_36 : decode cX1_pop 36 = .ok (.iload_n 1, 1) := by decide +kernel
theorem dX1_pop_37 : decode cX1_pop 37 = .ok (.invokevirtual 87, 3) := by decide +kernel
theorem dX1_pop_40 : decode cX1_pop 40 = .ok (.aload_n 0, 1) := by decide +kernel
theorem dX1_pop_41 : decode cX1_pop 41 = .ok (.iload_n 2, 1) := by decide +kernel
theorem dX1_pop_42 : decode cX1_pop 42 = .ok (.invokevirtual 90, 3) := by decide +kernel
theorem dX1_pop_45 : decode cX1_pop 45 = .ok (.iload_n 2, 1) := by decide +kernel
theorem dX1_pop_46 : decode cX1_pop 46 = .ok (.ireturn, 1) := by decide +kernel
theorem dX1_floor_0 : decode cX1_floor 0 = .ok (.aload_n 0, 1) := by decide +kernel
theorem dX1_floor_1 : decode cX1_floor 1 = .ok (.getfield 63, 3) := by decide +kernel
theorem dX1_floor_4 : decode cX1_floor 4 = .ok (.ireturn, 1) := by decide +kernel
theorem dX1_size_0 : decode cX1_size 0 = .ok (.aload_n 0, 1) := by decide +kernel
theorem dX1_size_1 : decode cX1_size 1 = .ok (.getfield 66, 3) := by decide +kernel
theorem dX1_size_4 : decode cX1_size 4 = .ok (.ireturn, 1) := by decide +kernel
theorem dX1_key_0 : decode cX1_key 0 = .ok (.aload_n 0, 1) := by decide +kernel
theorem dX1_key_1 : decode cX1_key 1 = .ok (.iload_n 1, 1) := by decide +kernel
theorem dX1_key_2 : decode cX1_key 2 = .ok (.invokevirtual 60, 3) := by decide +kernel
theorem dX1_key_5 : decode cX1_key 5 = .ok (.ifCond .eq 12, 3) := by decide +kernel
theorem dX1_key_8 : decode cX1_key 8 = .ok (.aload_n 0, 1) := by decide +kernel
theorem dX1_key_9 : decode cX1_key 9 = .ok (.getfield 28, 3) := by decide +kernel
theorem dX1_key_12 : decode cX1_key 12 = .ok (.iload_n 1, 1) := by decide +kernel
theorem dX1_key_13 : decode cX1_key 13 = .ok (.iaload, 1) := by decide +kernel
theorem dX1_key_14 : decode cX1_key 14 = .ok (.goto 4, 3) := by decide +kernel
theorem dX1_key_17 : decode cX1_key 17 = .ok (.iconst (-1), 1) := by decide +kernel
theorem dX1_key_18 : decode cX1_key 18 = .ok (.ireturn, 1) := by decide +kernel
theorem dX1_bucket_0 : decode cX1_bucket 0 = .ok (.aload_n 0, 1) := by decide +kernel
theorem dX1_bucket_1 : decode cX1_bucket 1 = .ok (.iload_n 1, 1) := by decide +kernel
theorem dX1_bucket_2 : decode cX1_bucket 2 = .ok (.invokevirtual 60, 3) := by decide +kernel
theorem dX1_bucket_5 : decode cX1_bucket 5 = .ok (.ifCond .eq 12, 3) := by decide +kernel
theorem dX1_bucket_8 : decode cX1_bucket 8 = .ok (.aload_n 0, 1) := by decide +kernel
theorem dX1_bucket_9 : decode cX1_bucket 9 = .ok (.getfield 32, 3) := by decide +kernel
theorem dX1_bucket_12 : decode cX1_bucket 12 = .ok (.iload_n 1, 1) := by decide +kernel
theorem dX1_bucket_13 : decode cX1_bucket 13 = .ok (.iaload, 1) := by decide +kernel
theorem dX1_bucket_14 : decode cX1_bucket 14 = .ok (.goto 4, 3) := by decide +kernel
theorem dX1_bucket_17 : decode cX1_bucket 17 = .ok (.iconst (-1), 1) := by decide +kernel
theorem dX1_bucket_18 : decode cX1_bucket 18 = .ok (.ireturn, 1) := by decide +kernel
theorem dX1_many_0 : decode cX1_many 0 = .ok (.iload_n 1, 1) := by decide +kernel
theorem dX1_many_1 : decode cX1_many 1 = .ok (.ifCond .lt 18, 3) := by decide +kernel
theorem dX1_many_4 : decode cX1_many 4 = .ok (.iload_n 1, 1) := by decide +kernel
theorem dX1_many_5 : decode cX1_many 5 = .ok (.bipush 32, 2) := by decide +kernel
theorem dX1_many_7 : decode cX1_many 7 = .ok (.if_icmp .ge 12, 3) := by decide +kernel
theorem dX1_many_10 : decode cX1_many 10 = .ok (.aload_n 0, 1) := by decide +kernel
theorem dX1_many_11 : decode cX1_many 11 = .ok (.getfield 35, 3) := by decide +kernel
theorem dX1_many_14 : decode cX1_many 14 = .ok (.iload_n 1, 1) := by decide +kernel
theorem dX1_many_15 : decode cX1_many 15 = .ok (.iaload, 1) := by decide +kernel
theorem dX1_many_16 : decode cX1_many 16 = .ok (.goto 4, 3) := by decide +kernel
theorem dX1_many_19 : decode cX1_many 19 = .ok (.iconst (-1), 1) := by decide +kernel
theorem dX1_many_20 : decode cX1_many 20 = .ok (.ireturn, 1) := by decide +kernel
theorem dX1_placed_0 : decode cX1_placed 0 = .ok (.aload_n 0, 1) := by decide +kernel
theorem dX1_placed_1 : decode cX1_placed 1 = .ok (.getfield 93, 3) := by decide +kernel
theorem dX1_placed_4 : decode cX1_placed 4 = .ok (.ireturn, 1) := by decide +kernel
theorem dX1_arc_0 : decode cX1_arc 0 = .ok (.aload_n 0, 1) := by decide +kernel
theorem dX1_arc_1 : decode cX1_arc 1 = .ok (.iload_n 1, 1) := by decide +kernel
theorem dX1_arc_2 : decode cX1_arc 2 = .ok (.invokevirtual 56, 3) := by decide +kernel
theorem dX1_arc_5 : decode cX1_arc 5 = .ok (.ifCond .eq 11, 3) := by decide +kernel
theorem dX1_arc_8 : decode cX1_arc 8 = .ok (.aload_n 0, 1) := by decide +kernel
theorem dX1_arc_9 : decode cX1_arc 9 = .ok (.iload_n 2, 1) := by decide +kernel
theorem dX1_arc_10 : decode cX1_arc 10 = .ok (.invokevirtual 56, 3) := by decide +kernel
theorem dX1_arc_13 : decode cX1_arc 13 = .ok (.ifCond .ne 5, 3) := by decide +kernel
theorem dX1_arc_16 : decode cX1_arc 16 = .ok (.iconst (-1), 1) := by decide +kernel
theorem dX1_arc_17 : decode cX1_arc 17 = .ok (.ireturn, 1) := by decide +kernel
theorem dX1_arc_18 : decode cX1_arc 18 = .ok (.iload_n 3, 1) := by decide +kernel
theorem dX1_arc_19 : decode cX1_arc 19 = .ok (.ifCond .lt 11, 3) := by decide +kernel
theorem dX1_arc_22 : decode cX1_arc 22 = .ok (.iload_n 3, 1) := by decide +kernel
theorem dX1_arc_23 : decode cX1_arc 23 = .ok (.aload_n 0, 1) := by decide +kernel
theorem dX1_arc_24 : decode cX1_arc 24 = .ok (.getfield 25, 3) := by decide +kernel
theorem dX1_arc_27 : decode cX1_arc 27 = .ok (.if_icmp .le 6, 3) := by decide +kernel
theorem dX1_arc_30 : decode cX1_arc 30 = .ok (.bipush (-2), 2) := by decide +kernel
theorem dX1_arc_32 : decode cX1_arc 32 = .ok (.ireturn, 1) := by decide +kernel
theorem dX1_arc_33 : decode cX1_arc 33 = .ok (.aload_n 0, 1) := by decide +kernel
theorem dX1_arc_34 : decode cX1_arc 34 = .ok (.getfield 96, 3) := by decide +kernel
theorem dX1_arc_37 : decode cX1_arc 37 = .ok (.aload_n 0, 1) := by decide +kernel
theorem dX1_arc_38 : decode cX1_arc 38 = .ok (.getfield 22, 3) := by decide +kernel
theorem dX1_arc_41 : decode cX1_arc 41 = .ok (.if_icmp .lt 6, 3) := by decide +kernel
theorem dX1_arc_44 : decode cX1_arc 44 = .ok (.bipush (-3), 2) := by decide +kernel
theorem dX1_arc_46 : decode cX1_arc 46 = .ok (.ireturn, 1) := by decide +kernel
theorem dX1_arc_47 : decode cX1_arc 47 = .ok (.aload_n 0, 1) := by decide +kernel
theorem dX1_arc_48 : decode cX1_arc 48 = .ok (.getfield 40, 3) := by decide +kernel
theorem dX1_arc_51 : decode cX1_arc 51 = .ok (.iload_n 1, 1) := by decide +kernel
theorem dX1_arc_52 : decode cX1_arc 52 = .ok (.new 38, 3) := by decide +kernel
theorem dX1_arc_55 : decode cX1_arc 55 = .ok (.dup, 1) := by decide +kernel
theorem dX1_arc_56 : decode cX1_arc 56 = .ok (.iload_n 2, 1) := by decide +kernel
theorem dX1_arc_57 : decode cX1_arc 57 = .ok (.iload_n 3, 1) := by decide +kernel
theorem dX1_arc_58 : decode cX1_arc 58 = .ok (.aload_n 0, 1) := by decide +kernel
theorem dX1_arc_59 : decode cX1_arc 59 = .ok (.getfield 40, 3) := by decide +kernel
theorem dX1_arc_62 : decode cX1_arc 62 = .ok (.iload_n 1, 1) := by decide +kernel
theorem dX1_arc_63 : decode cX1_arc 63 = .ok (.aaload, 1) := by decide +kernel
theorem dX1_arc_64 : decode cX1_arc 64 = .ok (.invokespecial 99, 3) := by decide +kernel
theorem dX1_arc_67 : decode cX1_arc 67 = .ok (.aastore, 1) := by decide +kernel
theorem dX1_arc_68 : decode cX1_arc 68 = .ok (.aload_n 0, 1) := by decide +kernel
theorem dX1_arc_69 : decode cX1_arc 69 = .ok (.dup, 1) := by decide +kernel
theorem dX1_arc_70 : decode cX1_arc 70 = .ok (.getfield 96, 3) := by decide +kernel
theorem dX1_arc_73 : decode cX1_arc 73 = .ok (.iconst 1, 1) := by decide +kernel
theorem dX1_arc_74 : decode cX1_arc 74 = .ok (.iadd, 1) := by decide +kernel
theorem dX1_arc_75 : decode cX1_arc 75 = .ok (.putfield 96, 3) := by decide +kernel
theorem dX1_arc_78 : decode cX1_arc 78 = .ok (.aload_n 0, 1) := by decide +kernel
theorem dX1_arc_79 : decode cX1_arc 79 = .ok (.invokevirtual 102, 3) := by decide +kernel
theorem dX1_arc_82 : decode cX1_arc 82 = .ok (.iconst 0, 1) := by decide +kernel
theorem dX1_arc_83 : decode cX1_arc 83 = .ok (.ireturn, 1) := by decide +kernel
theorem dX1_run_0 : decode cX1_run 0 = .ok (.aload_n 0, 1) := by decide +kernel
theorem dX1_run_1 : decode cX1_run 1 = .ok (.iload_n 1, 1) := by decide +kernel
theorem dX1_run_2 : decode cX1_run 2 = .ok (.invokevirtual 56, 3) := by decide +kernel
theorem dX1_run_5 : decode cX1_run 5 = .ok (.ifCond .ne 5, 3) := by decide +kernel
theorem dX1_run_8 : decode cX1_run 8 = .ok (.iconst (-1), 1) := by decide +kernel
theorem dX1_run_9 : decode cX1_run 9 = .ok (.ireturn, 1) := by decide +kernel
theorem dX1_run_10 : decode cX1_run 10 = .ok (.aload_n 0, 1) := by decide +kernel
theorem dX1_run_11 : decode cX1_run 11 = .ok (.invokevirtual 105, 3) := by decide +kernel
theorem dX1_run_14 : decode cX1_run 14 = .ok (.aload_n 0, 1) := by decide +kernel
theorem dX1_run_15 : decode cX1_run 15 = .ok (.invokevirtual 102, 3) := by decide +kernel
theorem dX1_run_18 : decode cX1_run 18 = .ok (.aload_n 0, 1) := by decide +kernel
theorem dX1_run_19 : decode cX1_run 19 = .ok (.iload_n 1, 1) := by decide +kernel
theorem dX1_run_20 : decode cX1_run 20 = .ok (.iconst 0, 1) := by decide +kernel
theorem dX1_run_21 : decode cX1_run 21 = .ok (.invokevirtual 108, 3) := by decide +kernel
theorem dX1_run_24 : decode cX1_run 24 = .ok (.pop, 1) := by decide +kernel
theorem dX1_run_25 : decode cX1_run 25 = .ok (.iconst 0, 1) := by decide +kernel
theorem dX1_run_26 : decode cX1_run 26 = .ok (.istore_n 2, 1) := by decide +kernel
theorem dX1_run_27 : decode cX1_run 27 = .ok (.iload_n 2, 1) := by decide +kernel
theorem dX1_run_28 : decode cX1_run 28 = .ok (.aload_n 0, 1) := by decide +kernel
theorem dX1_run_29 : decode cX1_run 29 = .ok (.getfield 18, 3) := by decide +kernel
theorem dX1_run_32 : decode cX1_run 32 = .ok (.if_icmp .ge 20, 3) := by decide +kernel
theorem dX1_run_35 : decode cX1_run 35 = .ok (.aload_n 0, 1) := by decide +kernel
theorem dX1_run_36 : decode cX1_run 36 = .ok (.getfield 66, 3) := by decide +kernel
theorem dX1_run_39 : decode cX1_run 39 = .ok (.ifCond .le 13, 3) := by decide +kernel
theorem dX1_run_42 : decode cX1_run 42 = .ok (.aload_n 0, 1) := by decide +kernel
theorem dX1_run_43 : decode cX1_run 43 = .ok (.invokevirtual 111, 3) := by decide +kernel
theorem dX1_run_46 : decode cX1_run 46 = .ok (.iinc 2 1, 3) := by decide +kernel
theorem dX1_run_49 : decode cX1_run 49 = .ok (.goto (-22), 3) := by decide +kernel
theorem dX1_run_52 : decode cX1_run 52 = .ok (.aload_n 0, 1) := by decide +kernel
theorem dX1_run_53 : decode cX1_run 53 = .ok (.invokevirtual 114, 3) := by decide +kernel
theorem dX1_run_56 : decode cX1_run 56 = .ok (.ifCond .eq 10, 3) := by decide +kernel
theorem dX1_run_59 : decode cX1_run 59 = .ok (.aload_n 0, 1) := by decide +kernel
theorem dX1_run_60 : decode cX1_run 60 = .ok (.invokevirtual 102, 3) := by decide +kernel
theorem dX1_run_63 : decode cX1_run 63 = .ok (.bipush (-2), 2) := by decide +kernel
theorem dX1_run_65 : decode cX1_run 65 = .ok (.ireturn, 1) := by decide +kernel
theorem dX1_run_66 : decode cX1_run 66 = .ok (.iconst 0, 1) := by decide +kernel
theorem dX1_run_67 : decode cX1_run 67 = .ok (.ireturn, 1) := by decide +kernel
theorem dX1_distance_0 : decode cX1_distance 0 = .ok (.aload_n 0, 1) := by decide +kernel
theorem dX1_distance_1 : decode cX1_distance 1 = .ok (.iload_n 1, 1) := by decide +kernel
theorem dX1_distance_2 : decode cX1_distance 2 = .ok (.invokevirtual 56, 3) := by decide +kernel
theorem dX1_distance_5 : decode cX1_distance 5 = .ok (.ifCond .eq 12, 3) := by decide +kernel
theorem dX1_distance_8 : decode cX1_distance 8 = .ok (.aload_n 0, 1) := by decide +kernel
theorem dX1_distance_9 : decode cX1_distance 9 = .ok (.getfield 44, 3) := by decide +kernel
theorem dX1_distance_12 : decode cX1_distance 12 = .ok (.iload_n 1, 1) := by decide +kernel
theorem dX1_distance_13 : decode cX1_distance 13 = .ok (.iaload, 1) := by decide +kernel
theorem dX1_distance_14 : decode cX1_distance 14 = .ok (.goto 4, 3) := by decide +kernel
theorem dX1_distance_17 : decode cX1_distance 17 = .ok (.iconst (-1), 1) := by decide +kernel
theorem dX1_distance_18 : decode cX1_distance 18 = .ok (.ireturn, 1) := by decide +kernel
theorem dX1_before_0 : decode cX1_before 0 = .ok (.aload_n 0, 1) := by decide +kernel
theorem dX1_before_1 : decode cX1_before 1 = .ok (.iload_n 1, 1) := by decide +kernel
theorem dX1_before_2 : decode cX1_before 2 = .ok (.invokevirtual 56, 3) := by decide +kernel
theorem dX1_before_5 : decode cX1_before 5 = .ok (.ifCond .eq 12, 3) := by decide +kernel
theorem dX1_before_8 : decode cX1_before 8 = .ok (.aload_n 0, 1) := by decide +kernel
theorem dX1_before_9 : decode cX1_before 9 = .ok (.getfield 47, 3) := by decide +kernel
theorem dX1_before_12 : decode cX1_before 12 = .ok (.iload_n 1, 1) := by decide +kernel
theorem dX1_before_13 : decode cX1_before 13 = .ok (.iaload, 1) := by decide +kernel
theorem dX1_before_14 : decode cX1_before 14 = .ok (.goto 4, 3) := by decide +kernel
theorem dX1_before_17 : decode cX1_before 17 = .ok (.iconst (-1), 1) := by decide +kernel
theorem dX1_before_18 : decode cX1_before 18 = .ok (.ireturn, 1) := by decide +kernel
theorem dX1_sound_0 : decode cX1_sound 0 = .ok (.iconst 0, 1) := by decide +kernel
theorem dX1_sound_1 : decode cX1_sound 1 = .ok (.istore_n 1, 1) := by decide +kernel
theorem dX1_sound_2 : decode cX1_sound 2 = .ok (.iload_n 1, 1) := by decide +kernel
theorem dX1_sound_3 : decode cX1_sound 3 = .ok (.aload_n 0, 1) := by decide +kernel
theorem dX1_sound_4 : decode cX1_sound 4 = .ok (.getfield 18, 3) := by decide +kernel
theorem dX1_sound_7 : decode cX1_sound 7 = .ok (.if_icmp .ge 27, 3) := by decide +kernel
theorem dX1_sound_10 : decode cX1_sound 10 = .ok (.aload_n 0, 1) := by decide +kernel
theorem dX1_sound_11 : decode cX1_sound 11 = .ok (.iload_n 1, 1) := by decide +kernel
theorem dX1_sound_12 : decode cX1_sound 12 = .ok (.invokevirtual 60, 3) := by decide +kernel
theorem dX1_sound_15 : decode cX1_sound 15 = .ok (.ifCond .eq 13, 3) := by decide +kernel
theorem dX1_sound_18 : decode cX1_sound 18 = .ok (.aload_n 0, 1) := by decide +kernel
theorem dX1_sound_19 : decode cX1_sound 19 = .ok (.iload_n 1, 1) := by decide +kernel
theorem dX1_sound_20 : decode cX1_sound 20 = .ok (.invokevirtual 118, 3) := by decide +kernel
theorem dX1_sound_23 : decode cX1_sound 23 = .ok (.ifCond .ne 5, 3) := by decide +kernel
theorem dX1_sound_26 : decode cX1_sound 26 = .ok (.iconst 0, 1) := by decide +kernel
theorem dX1_sound_27 : decode cX1_sound 27 = .ok (.ireturn, 1) := by decide +kernel
theorem dX1_sound_28 : decode cX1_sound 28 = .ok (.iinc 1 1, 3) := by decide +kernel
theorem dX1_sound_31 : decode cX1_sound 31 = .ok (.goto (-29), 3) := by decide +kernel
theorem dX1_sound_34 : decode cX1_sound 34 = .ok (.aload_n 0, 1) := by decide +kernel
theorem dX1_sound_35 : decode cX1_sound 35 = .ok (.getfield 93, 3) := by decide +kernel
theorem dX1_sound_38 : decode cX1_sound 38 = .ok (.i2l, 1) := by decide +kernel
theorem dX1_sound_39 : decode cX1_sound 39 = .ok (.ldc2_w 121, 3) := by decide +kernel
theorem dX1_sound_42 : decode cX1_sound 42 = .ok (.aload_n 0, 1) := by decide +kernel
theorem dX1_sound_43 : decode cX1_sound 43 = .ok (.getfield 69, 3) := by decide +kernel
theorem dX1_sound_46 : decode cX1_sound 46 = .ok (.i2l, 1) := by decide +kernel
theorem dX1_sound_47 : decode cX1_sound 47 = .ok (.lmul, 1) := by decide +kernel
theorem dX1_sound_48 : decode cX1_sound 48 = .ok (.lcmp, 1) := by decide +kernel
theorem dX1_sound_49 : decode cX1_sound 49 = .ok (.ifCond .gt 7, 3) := by decide +kernel
theorem dX1_sound_52 : decode cX1_sound 52 = .ok (.iconst 1, 1) := by decide +kernel
theorem dX1_sound_53 : decode cX1_sound 53 = .ok (.goto 4, 3) := by decide +kernel
theorem dX1_sound_56 : decode cX1_sound 56 = .ok (.iconst 0, 1) := by decide +kernel
theorem dX1_sound_57 : decode cX1_sound 57 = .ok (.ireturn, 1) := by decide +kernel
theorem dX1_count_0 : decode cX1_count 0 = .ok (.iload_n 1, 1) := by decide +kernel
theorem dX1_count_1 : decode cX1_count 1 = .ok (.tableswitch 42 0 2 #[27, 32, 37], 27) := by decide +kernel
theorem dX1_count_28 : decode cX1_count 28 = .ok (.aload_n 0, 1) := by decide +kernel
theorem dX1_count_29 : decode cX1_count 29 = .ok (.getfield 18, 3) := by decide +kernel
theorem dX1_count_32 : decode cX1_count 32 = .ok (.ireturn, 1) := by decide +kernel
theorem dX1_count_33 : decode cX1_count 33 = .ok (.aload_n 0, 1) := by decide +kernel
theorem dX1_count_34 : decode cX1_count 34 = .ok (.getfield 96, 3) := by decide +kernel
theorem dX1_count_37 : decode cX1_count 37 = .ok (.ireturn, 1) := by decide +kernel
theorem dX1_count_38 : decode cX1_count 38 = .ok (.aload_n 0, 1) := by decide +kernel
theorem dX1_count_39 : decode cX1_count 39 = .ok (.getfield 69, 3) := by decide +kernel
theorem dX1_count_42 : decode cX1_count 42 = .ok (.ireturn, 1) := by decide +kernel
theorem dX1_count_43 : decode cX1_count 43 = .ok (.iconst (-1), 1) := by decide +kernel
theorem dX1_count_44 : decode cX1_count 44 = .ok (.ireturn, 1) := by decide +kernel
theorem dX1_isItem_0 : decode cX1_isItem 0 = .ok (.iload_n 1, 1) := by decide +kernel
theorem dX1_isItem_1 : decode cX1_isItem 1 = .ok (.ifCond .lt 15, 3) := by decide +kernel
theorem dX1_isItem_4 : decode cX1_isItem 4 = .ok (.iload_n 1, 1) := by decide +kernel
theorem dX1_isItem_5 : decode cX1_isItem 5 = .ok (.aload_n 0, 1) := by decide +kernel
theorem dX1_isItem_6 : decode cX1_isItem 6 = .ok (.getfield 18, 3) := by decide +kernel
theorem dX1_isItem_9 : decode cX1_isItem 9 = .ok (.if_icmp .ge 7, 3) := by decide +kernel
theorem dX1_isItem_12 : decode cX1_isItem 12 = .ok (.iconst 1, 1) := by decide +kernel
theorem dX1_isItem_13 : decode cX1_isItem 13 = .ok (.goto 4, 3) := by decide +kernel
theorem dX1_isItem_16 : decode cX1_isItem 16 = .ok (.iconst 0, 1) := by decide +kernel
theorem dX1_isItem_17 : decode cX1_isItem 17 = .ok (.ireturn, 1) := by decide +kernel
theorem dX1_isThere_0 : decode cX1_isThere 0 = .ok (.aload_n 0, 1) := by decide +kernel
theorem dX1_isThere_1 : decode cX1_isThere 1 = .ok (.iload_n 1, 1) := by decide +kernel
theorem dX1_isThere_2 : decode cX1_isThere 2 = .ok (.invokevirtual 56, 3) := by decide +kernel
theorem dX1_isThere_5 : decode cX1_isThere 5 = .ok (.ifCond .eq 17, 3) := by decide +kernel
theorem dX1_isThere_8 : decode cX1_isThere 8 = .ok (.aload_n 0, 1) := by decide +kernel
theorem dX1_isThere_9 : decode cX1_isThere 9 = .ok (.getfield 32, 3) := by decide +kernel
theorem dX1_isThere_12 : decode cX1_isThere 12 = .ok (.iload_n 1, 1) := by decide +kernel
theorem dX1_isThere_13 : decode cX1_isThere 13 = .ok (.iaload, 1) := by decide +kernel
theorem dX1_isThere_14 : decode cX1_isThere 14 = .ok (.iconst (-1), 1) := by decide +kernel
theorem dX1_isThere_15 : decode cX1_isThere 15 = .ok (.if_icmp .eq 7, 3) := by decide +kernel
theorem dX1_isThere_18 : decode cX1_isThere 18 = .ok (.iconst 1, 1) := by decide +kernel
theorem dX1_isThere_19 : decode cX1_isThere 19 = .ok (.goto 4, 3) := by decide +kernel
theorem dX1_isThere_22 : decode cX1_isThere 22 = .ok (.iconst 0, 1) := by decide +kernel
theorem dX1_isThere_23 : decode cX1_isThere 23 = .ok (.ireturn, 1) := by decide +kernel
theorem dX1_isWhereItBelongs_0 : decode cX1_isWhereItBelongs 0 = .ok (.aload_n 0, 1) := by decide +kernel
theorem dX1_isWhereItBelongs_1 : decode cX1_isWhereItBelongs 1 = .ok (.getfield 28, 3) := by decide +kernel
theorem dX1_isWhereItBelongs_4 : decode cX1_isWhereItBelongs 4 = .ok (.iload_n 1, 1) := by decide +kernel
theorem dX1_isWhereItBelongs_5 : decode cX1_isWhereItBelongs 5 = .ok (.iaload, 1) := by decide +kernel
theorem dX1_isWhereItBelongs_6 : decode cX1_isWhereItBelongs 6 = .ok (.aload_n 0, 1) := by decide +kernel
theorem dX1_isWhereItBelongs_7 : decode cX1_isWhereItBelongs 7 = .ok (.getfield 63, 3) := by decide +kernel
theorem dX1_isWhereItBelongs_10 : decode cX1_isWhereItBelongs 10 = .ok (.if_icmp .lt 26, 3) := by decide +kernel
theorem dX1_isWhereItBelongs_13 : decode cX1_isWhereItBelongs 13 = .ok (.aload_n 0, 1) := by decide +kernel
theorem dX1_isWhereItBelongs_14 : decode cX1_isWhereItBelongs 14 = .ok (.getfield 32, 3) := by decide +kernel
theorem dX1_isWhereItBelongs_17 : decode cX1_isWhereItBelongs 17 = .ok (.iload_n 1, 1) := by decide +kernel
theorem dX1_isWhereItBelongs_18 : decode cX1_isWhereItBelongs 18 = .ok (.iaload, 1) := by decide +kernel
theorem dX1_isWhereItBelongs_19 : decode cX1_isWhereItBelongs 19 = .ok (.aload_n 0, 1) := by decide +kernel
theorem dX1_isWhereItBelongs_20 : decode cX1_isWhereItBelongs 20 = .ok (.aload_n 0, 1) := by decide +kernel
theorem dX1_isWhereItBelongs_21 : decode cX1_isWhereItBelongs 21 = .ok (.getfield 28, 3) := by decide +kernel
theorem dX1_isWhereItBelongs_24 : decode cX1_isWhereItBelongs 24 = .ok (.iload_n 1, 1) := by decide +kernel
theorem dX1_isWhereItBelongs_25 : decode cX1_isWhereItBelongs 25 = .ok (.iaload, 1) := by decide +kernel
theorem dX1_isWhereItBelongs_26 : decode cX1_isWhereItBelongs 26 = .ok (.invokevirtual 76, 3) := by decide +kernel
theorem dX1_isWhereItBelongs_29 : decode cX1_isWhereItBelongs 29 = .ok (.if_icmp .ne 7, 3) := by decide +kernel
theorem dX1_isWhereItBelongs_32 : decode cX1_isWhereItBelongs 32 = .ok (.iconst 1, 1) := by decide +kernel
theorem dX1_isWhereItBelongs_33 : decode cX1_isWhereItBelongs 33 = .ok (.goto 4, 3) := by decide +kernel
theorem dX1_isWhereItBelongs_36 : decode cX1_isWhereItBelongs 36 = .ok (.iconst 0, 1) := by decide +kernel
theorem dX1_isWhereItBelongs_37 : decode cX1_isWhereItBelongs 37 = .ok (.ireturn, 1) := by decide +kernel
theorem dX1_bucketFor_0 : decode cX1_bucketFor 0 = .ok (.bipush 32, 2) := by decide +kernel
theorem dX1_bucketFor_2 : decode cX1_bucketFor 2 = .ok (.iload_n 1, 1) := by decide +kernel
theorem dX1_bucketFor_3 : decode cX1_bucketFor 3 = .ok (.aload_n 0, 1) := by decide +kernel
theorem dX1_bucketFor_4 : decode cX1_bucketFor 4 = .ok (.getfield 63, 3) := by decide +kernel
theorem dX1_bucketFor_7 : decode cX1_bucketFor 7 = .ok (.ixor, 1) := by decide +kernel
theorem dX1_bucketFor_8 : decode cX1_bucketFor 8 = .ok (.invokestatic 123, 3) := by decide +kernel
theorem dX1_bucketFor_11 : decode cX1_bucketFor 11 = .ok (.isub, 1) := by decide +kernel
theorem dX1_bucketFor_12 : decode cX1_bucketFor 12 = .ok (.ireturn, 1) := by decide +kernel
theorem dX1_putIntoBucket_0 : decode cX1_putIntoBucket 0 = .ok (.aload_n 0, 1) := by decide +kernel
theorem dX1_putIntoBucket_1 : decode cX1_putIntoBucket 1 = .ok (.iload_n 1, 1) := by decide +kernel
theorem dX1_putIntoBucket_2 : decode cX1_putIntoBucket 2 = .ok (.invokevirtual 128, 3) := by decide +kernel
theorem dX1_putIntoBucket_5 : decode cX1_putIntoBucket 5 = .ok (.aload_n 0, 1) := by decide +kernel
theorem dX1_putIntoBucket_6 : decode cX1_putIntoBucket 6 = .ok (.aload_n 0, 1) := by decide +kernel
theorem dX1_putIntoBucket_7 : decode cX1_putIntoBucket 7 = .ok (.getfield 28, 3) := by decide +kernel
theorem dX1_putIntoBucket_10 : decode cX1_putIntoBucket 10 = .ok (.iload_n 1, 1) := by decide +kernel
theorem dX1_putIntoBucket_11 : decode cX1_putIntoBucket 11 = .ok (.iaload, 1) := by decide +kernel
theorem dX1_putIntoBucket_12 : decode cX1_putIntoBucket 12 = .ok (.invokevirtual 76, 3) := by decide +kernel
theorem dX1_putIntoBucket_15 : decode cX1_putIntoBucket 15 = .ok (.istore_n 2, 1) := by decide +kernel
theorem dX1_putIntoBucket_16 : decode cX1_putIntoBucket 16 = .ok (.aload_n 0, 1) := by decide +kernel
theorem dX1_putIntoBucket_17 : decode cX1_putIntoBucket 17 = .ok (.getfield 32, 3) := by decide +kernel
theorem dX1_putIntoBucket_20 : decode cX1_putIntoBucket 20 = .ok (.iload_n 1, 1) := by decide +kernel
theorem dX1_putIntoBucket_21 : decode cX1_putIntoBucket 21 = .ok (.iload_n 2, 1) := by decide +kernel
theorem dX1_putIntoBucket_22 : decode cX1_putIntoBucket 22 = .ok (.iastore, 1) := by decide +kernel
theorem dX1_putIntoBucket_23 : decode cX1_putIntoBucket 23 = .ok (.aload_n 0, 1) := by decide +kernel
theorem dX1_putIntoBucket_24 : decode cX1_putIntoBucket 24 = .ok (.getfield 35, 3) := by decide +kernel
theorem dX1_putIntoBucket_27 : decode cX1_putIntoBucket 27 = .ok (.iload_n 2, 1) := by decide +kernel
theorem dX1_putIntoBucket_28 : decode cX1_putIntoBucket 28 = .ok (.dup2, 1) := by decide +kernel
theorem dX1_putIntoBucket_29 : decode cX1_putIntoBucket 29 = .ok (.iaload, 1) := by decide +kernel
theorem dX1_putIntoBucket_30 : decode cX1_putIntoBucket 30 = .ok (.iconst 1, 1) := by decide +kernel
theorem dX1_putIntoBucket_31 : decode cX1_putIntoBucket 31 = .ok (.iadd, 1) := by decide +kernel
theorem dX1_putIntoBucket_32 : decode cX1_putIntoBucket 32 = .ok (.iastore, 1) := by decide +kernel
theorem dX1_putIntoBucket_33 : decode cX1_putIntoBucket 33 = .ok (.aload_n 0, 1) := by decide +kernel
theorem dX1_putIntoBucket_34 : decode cX1_putIntoBucket 34 = .ok (.dup, 1) := by decide +kernel
theorem dX1_putIntoBucket_35 : decode cX1_putIntoBucket 35 = .ok (.getfield 93, 3) := by decide +kernel
theorem dX1_putIntoBucket_38 : decode cX1_putIntoBucket 38 = .ok (.iconst 1, 1) := by decide +kernel
theorem dX1_putIntoBucket_39 : decode cX1_putIntoBucket 39 = .ok (.iadd, 1) := by decide +kernel
theorem dX1_putIntoBucket_40 : decode cX1_putIntoBucket 40 = .ok (.putfield 93, 3) := by decide +kernel
theorem dX1_putIntoBucket_43 : decode cX1_putIntoBucket 43 = .ok (.return_, 1) := by decide +kernel
theorem dX1_leaveBucket_0 : decode cX1_leaveBucket 0 = .ok (.aload_n 0, 1) := by decide +kernel
theorem dX1_leaveBucket_1 : decode cX1_leaveBucket 1 = .ok (.getfield 32, 3) := by decide +kernel
theorem dX1_leaveBucket_4 : decode cX1_leaveBucket 4 = .ok (.iload_n 1, 1) := by decide +kernel
theorem dX1_leaveBucket_5 : decode cX1_leaveBucket 5 = .ok (.iaload, 1) := by decide +kernel
theorem dX1_leaveBucket_6 : decode cX1_leaveBucket 6 = .ok (.istore_n 2, 1) := by decide +kernel
theorem dX1_leaveBucket_7 : decode cX1_leaveBucket 7 = .ok (.iload_n 2, 1) := by decide +kernel
theorem dX1_leaveBucket_8 : decode cX1_leaveBucket 8 = .ok (.iconst (-1), 1) := by decide +kernel
theorem dX1_leaveBucket_9 : decode cX1_leaveBucket 9 = .ok (.if_icmp .eq 20, 3) := by decide +kernel
theorem dX1_leaveBucket_12 : decode cX1_leaveBucket 12 = .ok (.aload_n 0, 1) := by decide +kernel
theorem dX1_leaveBucket_13 : decode cX1_leaveBucket 13 = .ok (.getfield 35, 3) := by decide +kernel
theorem dX1_leaveBucket_16 : decode cX1_leaveBucket 16 = .ok (.iload_n 2, 1) := by decide +kernel
theorem dX1_leaveBucket_17 : decode cX1_leaveBucket 17 = .ok (.dup2, 1) := by decide +kernel
theorem dX1_leaveBucket_18 : decode cX1_leaveBucket 18 = .ok (.iaload, 1) := by decide +kernel
theorem dX1_leaveBucket_19 : decode cX1_leaveBucket 19 = .ok (.iconst 1, 1) := by decide +kernel
theorem dX1_leaveBucket_20 : decode cX1_leaveBucket 20 = .ok (.isub, 1) := by decide +kernel
theorem dX1_leaveBucket_21 : decode cX1_leaveBucket 21 = .ok (.iastore, 1) := by decide +kernel
theorem dX1_leaveBucket_22 : decode cX1_leaveBucket 22 = .ok (.aload_n 0, 1) := by decide +kernel
theorem dX1_leaveBucket_23 : decode cX1_leaveBucket 23 = .ok (.getfield 32, 3) := by decide +kernel
theorem dX1_leaveBucket_26 : decode cX1_leaveBucket 26 = .ok (.iload_n 1, 1) := by decide +kernel
theorem dX1_leaveBucket_27 : decode cX1_leaveBucket 27 = .ok (.iconst (-1), 1) := by decide +kernel
theorem dX1_leaveBucket_28 : decode cX1_leaveBucket 28 = .ok (.iastore, 1) := by decide +kernel
theorem dX1_leaveBucket_29 : decode cX1_leaveBucket 29 = .ok (.return_, 1) := by decide +kernel
theorem dX1_takeOut_0 : decode cX1_takeOut 0 = .ok (.aload_n 0, 1) := by decide +kernel
theorem dX1_takeOut_1 : decode cX1_takeOut 1 = .ok (.iload_n 1, 1) := by decide +kernel
theorem dX1_takeOut_2 : decode cX1_takeOut 2 = .ok (.invokevirtual 128, 3) := by decide +kernel
theorem dX1_takeOut_5 : decode cX1_takeOut 5 = .ok (.aload_n 0, 1) := by decide +kernel
theorem dX1_takeOut_6 : decode cX1_takeOut 6 = .ok (.dup, 1) := by decide +kernel
theorem dX1_takeOut_7 : decode cX1_takeOut 7 = .ok (.getfield 66, 3) := by decide +kernel
theorem dX1_takeOut_10 : decode cX1_takeOut 10 = .ok (.iconst 1, 1) := by decide +kernel
theorem dX1_takeOut_11 : decode cX1_takeOut 11 = .ok (.isub, 1) := by decide +kernel
theorem dX1_takeOut_12 : decode cX1_takeOut 12 = .ok (.putfield 66, 3) := by decide +kernel
theorem dX1_takeOut_15 : decode cX1_takeOut 15 = .ok (.return_, 1) := by decide +kernel
theorem dX1_lowestBucket_0 : decode cX1_lowestBucket 0 = .ok (.iconst 0, 1) := by decide +kernel
theorem dX1_lowestBucket_1 : decode cX1_lowestBucket 1 = .ok (.istore_n 1, 1) := by decide +kernel
theorem dX1_lowestBucket_2 : decode cX1_lowestBucket 2 = .ok (.iload_n 1, 1) := by decide +kernel
theorem dX1_lowestBucket_3 : decode cX1_lowestBucket 3 = .ok (.bipush 32, 2) := by decide +kernel
theorem dX1_lowestBucket_5 : decode cX1_lowestBucket 5 = .ok (.if_icmp .ge 20, 3) := by decide +kernel
theorem dX1_lowestBucket_8 : decode cX1_lowestBucket 8 = .ok (.aload_n 0, 1) := by decide +kernel
theorem dX1_lowestBucket_9 : decode cX1_lowestBucket 9 = .ok (.getfield 35, 3) := by decide +kernel
theorem dX1_lowestBucket_12 : decode cX1_lowestBucket 12 = .ok (.iload_n 1, 1) := by decide +kernel
theorem dX1_lowestBucket_13 : decode cX1_lowestBucket 13 = .ok (.iaload, 1) := by decide +kernel
theorem dX1_lowestBucket_14 : decode cX1_lowestBucket 14 = .ok (.ifCond .le 5, 3) := by decide +kernel
theorem dX1_lowestBucket_17 : decode cX1_lowestBucket 17 = .ok (.iload_n 1, 1) := by decide +kernel
theorem dX1_lowestBucket_18 : decode cX1_lowestBucket 18 = .ok (.ireturn, 1) := by decide +kernel
theorem dX1_lowestBucket_19 : decode cX1_lowestBucket 19 = .ok (.iinc 1 1, 3) := by decide +kernel
theorem dX1_lowestBucket_22 : decode cX1_lowestBucket 22 = .ok (.goto (-20), 3) := by decide +kernel
theorem dX1_lowestBucket_25 : decode cX1_lowestBucket 25 = .ok (.iconst (-1), 1) := by decide +kernel
theorem dX1_lowestBucket_26 : decode cX1_lowestBucket 26 = .ok (.ireturn, 1) := by decide +kernel
theorem dX1_leastItemIn_0 : decode cX1_leastItemIn 0 = .ok (.iconst (-1), 1) := by decide +kernel
theorem dX1_leastItemIn_1 : decode cX1_leastItemIn 1 = .ok (.istore_n 2, 1) := by decide +kernel
theorem dX1_leastItemIn_2 : decode cX1_leastItemIn 2 = .ok (.iconst 0, 1) := by decide +kernel
theorem dX1_leastItemIn_3 : decode cX1_leastItemIn 3 = .ok (.istore_n 3, 1) := by decide +kernel
theorem dX1_leastItemIn_4 : decode cX1_leastItemIn 4 = .ok (.iload_n 3, 1) := by decide +kernel
theorem dX1_leastItemIn_5 : decode cX1_leastItemIn 5 = .ok (.aload_n 0, 1) := by decide +kernel
theorem dX1_leastItemIn_6 : decode cX1_leastItemIn 6 = .ok (.getfield 18, 3) := by decide +kernel
theorem dX1_leastItemIn_9 : decode cX1_leastItemIn 9 = .ok (.if_icmp .ge 49, 3) := by decide +kernel
theorem dX1_leastItemIn_12 : decode cX1_leastItemIn 12 = .ok (.aload_n 0, 1) := by decide +kernel
theorem dX1_leastItemIn_13 : decode cX1_leastItemIn 13 = .ok (.iload_n 3, 1) := by decide +kernel
theorem dX1_leastItemIn_14 : decode cX1_leastItemIn 14 = .ok (.invokevirtual 60, 3) := by decide +kernel
theorem dX1_leastItemIn_17 : decode cX1_leastItemIn 17 = .ok (.ifCond .eq 35, 3) := by decide +kernel
theorem dX1_leastItemIn_20 : decode cX1_leastItemIn 20 = .ok (.aload_n 0, 1) := by decide +kernel
theorem dX1_leastItemIn_21 : decode cX1_leastItemIn 21 = .ok (.getfield 32, 3) := by decide +kernel
theorem dX1_leastItemIn_24 : decode cX1_leastItemIn 24 = .ok (.iload_n 3, 1) := by decide +kernel
theorem dX1_leastItemIn_25 : decode cX1_leastItemIn 25 = .ok (.iaload, 1) := by decide +kernel
theorem dX1_leastItemIn_26 : decode cX1_leastItemIn 26 = .ok (.iload_n 1, 1) := by decide +kernel
theorem dX1_leastItemIn_27 : decode cX1_leastItemIn 27 = .ok (.if_icmp .ne 25, 3) := by decide +kernel
theorem dX1_leastItemIn_30 : decode cX1_leastItemIn 30 = .ok (.iload_n 2, 1) := by decide +kernel
theorem dX1_leastItemIn_31 : decode cX1_leastItemIn 31 = .ok (.iconst (-1), 1) := by decide +kernel
theorem dX1_leastItemIn_32 : decode cX1_leastItemIn 32 = .ok (.if_icmp .eq 18, 3) := by decide +kernel
theorem dX1_leastItemIn_35 : decode cX1_leastItemIn 35 = .ok (.aload_n 0, 1) := by decide +kernel
theorem dX1_leastItemIn_36 : decode cX1_leastItemIn 36 = .ok (.getfield 28, 3) := by decide +kernel
theorem dX1_leastItemIn_39 : decode cX1_leastItemIn 39 = .ok (.iload_n 3, 1) := by decide +kernel
theorem dX1_leastItemIn_40 : decode cX1_leastItemIn 40 = .ok (.iaload, 1) := by decide +kernel
theorem dX1_leastItemIn_41 : decode cX1_leastItemIn 41 = .ok (.aload_n 0, 1) := by decide +kernel
theorem dX1_leastItemIn_42 : decode cX1_leastItemIn 42 = .ok (.getfield 28, 3) := by decide +kernel
theorem dX1_leastItemIn_45 : decode cX1_leastItemIn 45 = .ok (.iload_n 2, 1) := by decide +kernel
theorem dX1_leastItemIn_46 : decode cX1_leastItemIn 46 = .ok (.iaload, 1) := by decide +kernel
theorem dX1_leastItemIn_47 : decode cX1_leastItemIn 47 = .ok (.if_icmp .ge 5, 3) := by decide +kernel
theorem dX1_leastItemIn_50 : decode cX1_leastItemIn 50 = .ok (.iload_n 3, 1) := by decide +kernel
theorem dX1_leastItemIn_51 : decode cX1_leastItemIn 51 = .ok (.istore_n 2, 1) := by decide +kernel
theorem dX1_leastItemIn_52 : decode cX1_leastItemIn 52 = .ok (.iinc 3 1, 3) := by decide +kernel
theorem dX1_leastItemIn_55 : decode cX1_leastItemIn 55 = .ok (.goto (-51), 3) := by decide +kernel
theorem dX1_leastItemIn_58 : decode cX1_leastItemIn 58 = .ok (.iload_n 2, 1) := by decide +kernel
theorem dX1_leastItemIn_59 : decode cX1_leastItemIn 59 = .ok (.ireturn, 1) := by decide +kernel
theorem dX1_spread_0 : decode cX1_spread 0 = .ok (.iconst 0, 1) := by decide +kernel
theorem dX1_spread_1 : decode cX1_spread 1 = .ok (.istore_n 2, 1) := by decide +kernel
theorem dX1_spread_2 : decode cX1_spread 2 = .ok (.iload_n 2, 1) := by decide +kernel
theorem dX1_spread_3 : decode cX1_spread 3 = .ok (.aload_n 0, 1) := by decide +kernel
theorem dX1_spread_4 : decode cX1_spread 4 = .ok (.getfield 18, 3) := by decide +kernel
theorem dX1_spread_7 : decode cX1_spread 7 = .ok (.if_icmp .ge 24, 3) := by decide +kernel
theorem dX1_spread_10 : decode cX1_spread 10 = .ok (.aload_n 0, 1) := by decide +kernel
theorem dX1_spread_11 : decode cX1_spread 11 = .ok (.getfield 32, 3) := by decide +kernel
theorem dX1_spread_14 : decode cX1_spread 14 = .ok (.iload_n 2, 1) := by decide +kernel
theorem dX1_spread_15 : decode cX1_spread 15 = .ok (.iaload, 1) := by decide +kernel
theorem dX1_spread_16 : decode cX1_spread 16 = .ok (.iload_n 1, 1) := by decide +kernel
theorem dX1_spread_17 : decode cX1_spread 17 = .ok (.if_icmp .ne 8, 3) := by decide +kernel
theorem dX1_spread_20 : decode cX1_spread 20 = .ok (.aload_n 0, 1) := by decide +kernel
theorem dX1_spread_21 : decode cX1_spread 21 = .ok (.iload_n 2, 1) := by decide +kernel
theorem dX1_spread_22 : decode cX1_spread 22 = .ok (.invokevirtual 72, 3) := by decide +kernel
theorem dX1_spread_25 : decode cX1_spread 25 = .ok (.iinc 2 1, 3) := by decide +kernel
theorem dX1_spread_28 : decode cX1_spread 28 = .ok (.goto (-26), 3) := by decide +kernel
theorem dX1_spread_31 : decode cX1_spread 31 = .ok (.return_, 1) := by decide +kernel
theorem dX1_emptyQueue_0 : decode cX1_emptyQueue 0 = .ok (.aload_n 0, 1) := by decide +kernel
theorem dX1_emptyQueue_1 : decode cX1_emptyQueue 1 = .ok (.getfield 32, 3) := by decide +kernel
theorem dX1_emptyQueue_4 : decode cX1_emptyQueue 4 = .ok (.iconst (-1), 1) := by decide +kernel
theorem dX1_emptyQueue_5 : decode cX1_emptyQueue 5 = .ok (.invokestatic 50, 3) := by decide +kernel
theorem dX1_emptyQueue_8 : decode cX1_emptyQueue 8 = .ok (.aload_n 0, 1) := by decide +kernel
theorem dX1_emptyQueue_9 : decode cX1_emptyQueue 9 = .ok (.getfield 35, 3) := by decide +kernel
theorem dX1_emptyQueue_12 : decode cX1_emptyQueue 12 = .ok (.iconst 0, 1) := by decide +kernel
theorem dX1_emptyQueue_13 : decode cX1_emptyQueue 13 = .ok (.invokestatic 50, 3) := by decide +kernel
theorem dX1_emptyQueue_16 : decode cX1_emptyQueue 16 = .ok (.aload_n 0, 1) := by decide +kernel
theorem dX1_emptyQueue_17 : decode cX1_emptyQueue 17 = .ok (.iconst 0, 1) := by decide +kernel
theorem dX1_emptyQueue_18 : decode cX1_emptyQueue 18 = .ok (.putfield 66, 3) := by decide +kernel
theorem dX1_emptyQueue_21 : decode cX1_emptyQueue 21 = .ok (.aload_n 0, 1) := by decide +kernel
theorem dX1_emptyQueue_22 : decode cX1_emptyQueue 22 = .ok (.iconst 0, 1) := by decide +kernel
theorem dX1_emptyQueue_23 : decode cX1_emptyQueue 23 = .ok (.putfield 63, 3) := by decide +kernel
theorem dX1_emptyQueue_26 : decode cX1_emptyQueue 26 = .ok (.return_, 1) := by decide +kernel
theorem dX1_forgetWays_0 : decode cX1_forgetWays 0 = .ok (.aload_n 0, 1) := by decide +kernel
theorem dX1_forgetWays_1 : decode cX1_forgetWays 1 = .ok (.getfield 44, 3) := by decide +kernel
theorem dX1_forgetWays_4 : decode cX1_forgetWays 4 = .ok (.iconst (-1), 1) := by decide +kernel
theorem dX1_forgetWays_5 : decode cX1_forgetWays 5 = .ok (.invokestatic 50, 3) := by decide +kernel
theorem dX1_forgetWays_8 : decode cX1_forgetWays 8 = .ok (.aload_n 0, 1) := by decide +kernel
theorem dX1_forgetWays_9 : decode cX1_forgetWays 9 = .ok (.getfield 47, 3) := by decide +kernel
theorem dX1_forgetWays_12 : decode cX1_forgetWays 12 = .ok (.iconst (-1), 1) := by decide +kernel
theorem dX1_forgetWays_13 : decode cX1_forgetWays 13 = .ok (.invokestatic 50, 3) := by decide +kernel
theorem dX1_forgetWays_16 : decode cX1_forgetWays 16 = .ok (.return_, 1) := by decide +kernel
theorem dX1_takeNext_0 : decode cX1_takeNext 0 = .ok (.aload_n 0, 1) := by decide +kernel
theorem dX1_takeNext_1 : decode cX1_takeNext 1 = .ok (.invokevirtual 131, 3) := by decide +kernel
theorem dX1_takeNext_4 : decode cX1_takeNext 4 = .ok (.istore_n 1, 1) := by decide +kernel
theorem dX1_takeNext_5 : decode cX1_takeNext 5 = .ok (.aload_n 0, 1) := by decide +kernel
theorem dX1_takeNext_6 : decode cX1_takeNext 6 = .ok (.iload_n 1, 1) := by decide +kernel
theorem dX1_takeNext_7 : decode cX1_takeNext 7 = .ok (.invokevirtual 56, 3) := by decide +kernel
theorem dX1_takeNext_10 : decode cX1_takeNext 10 = .ok (.ifCond .ne 4, 3) := by decide +kernel
theorem dX1_takeNext_13 : decode cX1_takeNext 13 = .ok (.return_, 1) := by decide +kernel
theorem dX1_takeNext_14 : decode cX1_takeNext 14 = .ok (.aload_n 0, 1) := by decide +kernel
theorem dX1_takeNext_15 : decode cX1_takeNext 15 = .ok (.getfield 44, 3) := by decide +kernel
theorem dX1_takeNext_18 : decode cX1_takeNext 18 = .ok (.iload_n 1, 1) := by decide +kernel
theorem dX1_takeNext_19 : decode cX1_takeNext 19 = .ok (.aload_n 0, 1) := by decide +kernel
theorem dX1_takeNext_20 : decode cX1_takeNext 20 = .ok (.getfield 63, 3) := by decide +kernel
theorem dX1_takeNext_23 : decode cX1_takeNext 23 = .ok (.iastore, 1) := by decide +kernel
theorem dX1_takeNext_24 : decode cX1_takeNext 24 = .ok (.aload_n 0, 1) := by decide +kernel
theorem dX1_takeNext_25 : decode cX1_takeNext 25 = .ok (.getfield 40, 3) := by decide +kernel
theorem dX1_takeNext_28 : decode cX1_takeNext 28 = .ok (.iload_n 1, 1) := by decide +kernel
theorem dX1_takeNext_29 : decode cX1_takeNext 29 = .ok (.aaload, 1) := by decide +kernel
theorem dX1_takeNext_30 : decode cX1_takeNext 30 = .ok (.astore_n 2, 1) := by decide +kernel
theorem dX1_takeNext_31 : decode cX1_takeNext 31 = .ok (.aload_n 2, 1) := by decide +kernel
theorem dX1_takeNext_32 : decode cX1_takeNext 32 = .ok (.ifnull 17, 3) := by decide +kernel
theorem dX1_takeNext_35 : decode cX1_takeNext 35 = .ok (.aload_n 0, 1) := by decide +kernel
theorem dX1_takeNext_36 : decode cX1_takeNext 36 = .ok (.iload_n 1, 1) := by decide +kernel
theorem dX1_takeNext_37 : decode cX1_takeNext 37 = .ok (.aload_n 2, 1) := by decide +kernel
theorem dX1_takeNext_38 : decode cX1_takeNext 38 = .ok (.invokevirtual 134, 3) := by decide +kernel
theorem dX1_takeNext_41 : decode cX1_takeNext 41 = .ok (.aload_n 2, 1) := by decide +kernel
theorem dX1_takeNext_42 : decode cX1_takeNext 42 = .ok (.getfield 138, 3) := by decide +kernel
theorem dX1_takeNext_45 : decode cX1_takeNext 45 = .ok (.astore_n 2, 1) := by decide +kernel
theorem dX1_takeNext_46 : decode cX1_takeNext 46 = .ok (.goto (-15), 3) := by decide +kernel
theorem dX1_takeNext_49 : decode cX1_takeNext 49 = .ok (.return_, 1) := by decide +kernel
theorem dX1_tryWay_0 : decode cX1_tryWay 0 = .ok (.aload_n 2, 1) := by decide +kernel
theorem dX1_tryWay_1 : decode cX1_tryWay 1 = .ok (.getfield 142, 3) := by decide +kernel
theorem dX1_tryWay_4 : decode cX1_tryWay 4 = .ok (.istore_n 3, 1) := by decide +kernel
theorem dX1_tryWay_5 : decode cX1_tryWay 5 = .ok (.aload_n 0, 1) := by decide +kernel
theorem dX1_tryWay_6 : decode cX1_tryWay 6 = .ok (.getfield 44, 3) := by decide +kernel
theorem dX1_tryWay_9 : decode cX1_tryWay 9 = .ok (.iload_n 1, 1) := by decide +kernel
theorem dX1_tryWay_10 : decode cX1_tryWay 10 = .ok (.iaload, 1) := by decide +kernel
theorem dX1_tryWay_11 : decode cX1_tryWay 11 = .ok (.i2l, 1) := by decide +kernel
theorem dX1_tryWay_12 : decode cX1_tryWay 12 = .ok (.aload_n 2, 1) := by decide +kernel
theorem dX1_tryWay_13 : decode cX1_tryWay 13 = .ok (.getfield 145, 3) := by decide +kernel
theorem dX1_tryWay_16 : decode cX1_tryWay 16 = .ok (.i2l, 1) := by decide +kernel
theorem dX1_tryWay_17 : decode cX1_tryWay 17 = .ok (.ladd, 1) := by decide +kernel
theorem dX1_tryWay_18 : decode cX1_tryWay 18 = .ok (.lstore 4, 2) := by decide +kernel
theorem dX1_tryWay_20 : decode cX1_tryWay 20 = .ok (.aload_n 0, 1) := by decide +kernel
theorem dX1_tryWay_21 : decode cX1_tryWay 21 = .ok (.getfield 44, 3) := by decide +kernel
theorem dX1_tryWay_24 : decode cX1_tryWay 24 = .ok (.iload_n 3, 1) := by decide +kernel
theorem dX1_tryWay_25 : decode cX1_tryWay 25 = .ok (.iaload, 1) := by decide +kernel
theorem dX1_tryWay_26 : decode cX1_tryWay 26 = .ok (.iconst (-1), 1) := by decide +kernel
theorem dX1_tryWay_27 : decode cX1_tryWay 27 = .ok (.if_icmp .ne 12, 3) := by decide +kernel
theorem dX1_tryWay_30 : decode cX1_tryWay 30 = .ok (.lload 4, 2) := by decide +kernel
theorem dX1_tryWay_32 : decode cX1_tryWay 32 = .ok (.ldc2_w 148, 3) := by decide +kernel
theorem dX1_tryWay_35 : decode cX1_tryWay 35 = .ok (.lcmp, 1) := by decide +kernel
theorem dX1_tryWay_36 : decode cX1_tryWay 36 = .ok (.ifCond .le 4, 3) := by decide +kernel
theorem dX1_tryWay_39 : decode cX1_tryWay 39 = .ok (.return_, 1) := by decide +kernel
theorem dX1_tryWay_40 : decode cX1_tryWay 40 = .ok (.aload_n 0, 1) := by decide +kernel
theorem dX1_tryWay_41 : decode cX1_tryWay 41 = .ok (.iload_n 3, 1) := by decide +kernel
theorem dX1_tryWay_42 : decode cX1_tryWay 42 = .ok (.invokevirtual 60, 3) := by decide +kernel
theorem dX1_tryWay_45 : decode cX1_tryWay 45 = .ok (.ifCond .ne 22, 3) := by decide +kernel
theorem dX1_tryWay_48 : decode cX1_tryWay 48 = .ok (.aload_n 0, 1) := by decide +kernel
theorem dX1_tryWay_49 : decode cX1_tryWay 49 = .ok (.iload_n 3, 1) := by decide +kernel
theorem dX1_tryWay_50 : decode cX1_tryWay 50 = .ok (.lload 4, 2) := by decide +kernel
theorem dX1_tryWay_52 : decode cX1_tryWay 52 = .ok (.l2i, 1) := by decide +kernel
theorem dX1_tryWay_53 : decode cX1_tryWay 53 = .ok (.invokevirtual 108, 3) := by decide +kernel
theorem dX1_tryWay_56 : decode cX1_tryWay 56 = .ok (.pop, 1) := by decide +kernel
theorem dX1_tryWay_57 : decode cX1_tryWay 57 = .ok (.aload_n 0, 1) := by decide +kernel
theorem dX1_tryWay_58 : decode cX1_tryWay 58 = .ok (.getfield 47, 3) := by decide +kernel
theorem dX1_tryWay_61 : decode cX1_tryWay 61 = .ok (.iload_n 3, 1) := by decide +kernel
theorem dX1_tryWay_62 : decode cX1_tryWay 62 = .ok (.iload_n 1, 1) := by decide +kernel
theorem dX1_tryWay_63 : decode cX1_tryWay 63 = .ok (.iastore, 1) := by decide +kernel
theorem dX1_tryWay_64 : decode cX1_tryWay 64 = .ok (.goto 32, 3) := by decide +kernel
theorem dX1_tryWay_67 : decode cX1_tryWay 67 = .ok (.lload 4, 2) := by decide +kernel
theorem dX1_tryWay_69 : decode cX1_tryWay 69 = .ok (.aload_n 0, 1) := by decide +kernel
theorem dX1_tryWay_70 : decode cX1_tryWay 70 = .ok (.getfield 28, 3) := by decide +kernel
theorem dX1_tryWay_73 : decode cX1_tryWay 73 = .ok (.iload_n 3, 1) := by decide +kernel
theorem dX1_tryWay_74 : decode cX1_tryWay 74 = .ok (.iaload, 1) := by decide +kernel
theorem dX1_tryWay_75 : decode cX1_tryWay 75 = .ok (.i2l, 1) := by decide +kernel
theorem dX1_tryWay_76 : decode cX1_tryWay 76 = .ok (.lcmp, 1) := by decide +kernel
theorem dX1_tryWay_77 : decode cX1_tryWay 77 = .ok (.ifCond .ge 19, 3) := by decide +kernel
theorem dX1_tryWay_80 : decode cX1_tryWay 80 = .ok (.aload_n 0, 1) := by decide +kernel
theorem dX1_tryWay_81 : decode cX1_tryWay 81 = .ok (.iload_n 3, 1) := by decide +kernel
theorem dX1_tryWay_82 : decode cX1_tryWay 82 = .ok (.lload 4, 2) := by decide +kernel
theorem dX1_tryWay_84 : decode cX1_tryWay 84 = .ok (.l2i, 1) := by decide +kernel
theorem dX1_tryWay_85 : decode cX1_tryWay 85 = .ok (.invokevirtual 150, 3) := by decide +kernel
theorem dX1_tryWay_88 : decode cX1_tryWay 88 = .ok (.pop, 1) := by decide +kernel
theorem dX1_tryWay_89 : decode cX1_tryWay 89 = .ok (.aload_n 0, 1) := by decide +kernel
theorem dX1_tryWay_90 : decode cX1_tryWay 90 = .ok (.getfield 47, 3) := by decide +kernel
theorem dX1_tryWay_93 : decode cX1_tryWay 93 = .ok (.iload_n 3, 1) := by decide +kernel
theorem dX1_tryWay_94 : decode cX1_tryWay 94 = .ok (.iload_n 1, 1) := by decide +kernel
theorem dX1_tryWay_95 : decode cX1_tryWay 95 = .ok (.iastore, 1) := by decide +kernel
theorem dX1_tryWay_96 : decode cX1_tryWay 96 = .ok (.return_, 1) := by decide +kernel
theorem dX1_isSomeWayTooLong_0 : decode cX1_isSomeWayTooLong 0 = .ok (.iconst 0, 1) := by decide +kernel
theorem dX1_isSomeWayTooLong_1 : decode cX1_isSomeWayTooLong 1 = .ok (.istore_n 1, 1) := by decide +kernel
theorem dX1_isSomeWayTooLong_2 : decode cX1_isSomeWayTooLong 2 = .ok (.iload_n 1, 1) := by decide +kernel
theorem dX1_isSomeWayTooLong_3 : decode cX1_isSomeWayTooLong 3 = .ok (.aload_n 0, 1) := by decide +kernel
theorem dX1_isSomeWayTooLong_4 : decode cX1_isSomeWayTooLong 4 = .ok (.getfield 18, 3) := by decide +kernel
theorem dX1_isSomeWayTooLong_7 : decode cX1_isSomeWayTooLong 7 = .ok (.if_icmp .ge 29, 3) := by decide +kernel
theorem dX1_isSomeWayTooLong_10 : decode cX1_isSomeWayTooLong 10 = .ok (.aload_n 0, 1) := by decide +kernel
theorem dX1_isSomeWayTooLong_11 : decode cX1_isSomeWayTooLong 11 = .ok (.getfield 44, 3) := by decide +kernel
theorem dX1_isSomeWayTooLong_14 : decode cX1_isSomeWayTooLong 14 = .ok (.iload_n 1, 1) := by decide +kernel
theorem dX1_isSomeWayTooLong_15 : decode cX1_isSomeWayTooLong 15 = .ok (.iaload, 1) := by decide +kernel
theorem dX1_isSomeWayTooLong_16 : decode cX1_isSomeWayTooLong 16 = .ok (.iconst (-1), 1) := by decide +kernel
theorem dX1_isSomeWayTooLong_17 : decode cX1_isSomeWayTooLong 17 = .ok (.if_icmp .eq 13, 3) := by decide +kernel
theorem dX1_isSomeWayTooLong_20 : decode cX1_isSomeWayTooLong 20 = .ok (.aload_n 0, 1) := by decide +kernel
theorem dX1_isSomeWayTooLong_21 : decode cX1_isSomeWayTooLong 21 = .ok (.iload_n 1, 1) := by decide +kernel
theorem dX1_isSomeWayTooLong_22 : decode cX1_isSomeWayTooLong 22 = .ok (.invokevirtual 153, 3) := by decide +kernel
theorem dX1_isSomeWayTooLong_25 : decode cX1_isSomeWayTooLong 25 = .ok (.ifCond .eq 5, 3) := by decide +kernel
theorem dX1_isSomeWayTooLong_28 : decode cX1_isSomeWayTooLong 28 = .ok (.iconst 1, 1) := by decide +kernel
theorem dX1_isSomeWayTooLong_29 : decode cX1_isSomeWayTooLong 29 = .ok (.ireturn, 1) := by decide +kernel
theorem dX1_isSomeWayTooLong_30 : decode cX1_isSomeWayTooLong 30 = .ok (.iinc 1 1, 3) := by decide +kernel
theorem dX1_isSomeWayTooLong_33 : decode cX1_isSomeWayTooLong 33 = .ok (.goto (-31), 3) := by decide +kernel
theorem dX1_isSomeWayTooLong_36 : decode cX1_isSomeWayTooLong 36 = .ok (.iconst 0, 1) := by decide +kernel
theorem dX1_isSomeWayTooLong_37 : decode cX1_isSomeWayTooLong 37 = .ok (.ireturn, 1) := by decide +kernel
theorem dX1_leadsToUntaken_0 : decode cX1_leadsToUntaken 0 = .ok (.aload_n 0, 1) := by decide +kernel
theorem dX1_leadsToUntaken_1 : decode cX1_leadsToUntaken 1 = .ok (.getfield 40, 3) := by decide +kernel
theorem dX1_leadsToUntaken_4 : decode cX1_leadsToUntaken 4 = .ok (.iload_n 1, 1) := by decide +kernel
theorem dX1_leadsToUntaken_5 : decode cX1_leadsToUntaken 5 = .ok (.aaload, 1) := by decide +kernel
theorem dX1_leadsToUntaken_6 : decode cX1_leadsToUntaken 6 = .ok (.astore_n 2, 1) := by decide +kernel
theorem dX1_leadsToUntaken_7 : decode cX1_leadsToUntaken 7 = .ok (.aload_n 2, 1) := by decide +kernel
theorem dX1_leadsToUntaken_8 : decode cX1_leadsToUntaken 8 = .ok (.ifnull 26, 3) := by decide +kernel
theorem dX1_leadsToUntaken_11 : decode cX1_leadsToUntaken 11 = .ok (.aload_n 0, 1) := by decide +kernel
theorem dX1_leadsToUntaken_12 : decode cX1_leadsToUntaken 12 = .ok (.getfield 44, 3) := by decide +kernel
theorem dX1_leadsToUntaken_15 : decode cX1_leadsToUntaken 15 = .ok (.aload_n 2, 1) := by decide +kernel
theorem dX1_leadsToUntaken_16 : decode cX1_leadsToUntaken 16 = .ok (.getfield 142, 3) := by decide +kernel
theorem dX1_leadsToUntaken_19 : decode cX1_leadsToUntaken 19 = .ok (.iaload, 1) := by decide +kernel
theorem dX1_leadsToUntaken_20 : decode cX1_leadsToUntaken 20 = .ok (.iconst (-1), 1) := by decide +kernel
theorem dX1_leadsToUntaken_21 : decode cX1_leadsToUntaken 21 = .ok (.if_icmp .ne 5, 3) := by decide +kernel
theorem dX1_leadsToUntaken_24 : decode cX1_leadsToUntaken 24 = .ok (.iconst 1, 1) := by decide +kernel
theorem dX1_leadsToUntaken_25 : decode cX1_leadsToUntaken 25 = .ok (.ireturn, 1) := by decide +kernel
theorem dX1_leadsToUntaken_26 : decode cX1_leadsToUntaken 26 = .ok (.aload_n 2, 1) := by decide +kernel
theorem dX1_leadsToUntaken_27 : decode cX1_leadsToUntaken 27 = .ok (.getfield 138, 3) := by decide +kernel
theorem dX1_leadsToUntaken_30 : decode cX1_leadsToUntaken 30 = .ok (.astore_n 2, 1) := by decide +kernel
theorem dX1_leadsToUntaken_31 : decode cX1_leadsToUntaken 31 = .ok (.goto (-24), 3) := by decide +kernel
theorem dX1_leadsToUntaken_34 : decode cX1_leadsToUntaken 34 = .ok (.iconst 0, 1) := by decide +kernel
theorem dX1_leadsToUntaken_35 : decode cX1_leadsToUntaken 35 = .ok (.ireturn, 1) := by decide +kernel
theorem dJ6_numberOfLeadingZeros_0f7a4_0 : decode cJ6_numberOfLeadingZeros_0f7a4 0 = .ok (.iload_n 0, 1) := by decide +kernel
theorem dJ6_numberOfLeadingZeros_0f7a4_1 : decode cJ6_numberOfLeadingZeros_0f7a4 1 = .ok (.ifCond .gt 14, 3) := by decide +kernel
theorem dJ6_numberOfLeadingZeros_0f7a4_4 : decode cJ6_numberOfLeadingZeros_0f7a4 4 = .ok (.iload_n 0, 1) := by decide +kernel
theorem dJ6_numberOfLeadingZeros_0f7a4_5 : decode cJ6_numberOfLeadingZeros_0f7a4 5 = .ok (.ifCond .ne 8, 3) := by decide +kernel
theorem dJ6_numberOfLeadingZeros_0f7a4_8 : decode cJ6_numberOfLeadingZeros_0f7a4 8 = .ok (.bipush 32, 2) := by decide +kernel
theorem dJ6_numberOfLeadingZeros_0f7a4_10 : decode cJ6_numberOfLeadingZeros_0f7a4 10 = .ok (.goto 4, 3) := by decide +kernel
theorem dJ6_numberOfLeadingZeros_0f7a4_13 : decode cJ6_numberOfLeadingZeros_0f7a4 13 = .ok (.iconst 0, 1) := by decide +kernel
theorem dJ6_numberOfLeadingZeros_0f7a4_14 : decode cJ6_numberOfLeadingZeros_0f7a4 14 = .ok (.ireturn, 1) := by decide +kernel
theorem dJ6_numberOfLeadingZeros_0f7a4_15 : decode cJ6_numberOfLeadingZeros_0f7a4 15 = .ok (.bipush 31, 2) := by decide +kernel
theorem dJ6_numberOfLeadingZeros_0f7a4_17 : decode cJ6_numberOfLeadingZeros_0f7a4 17 = .ok (.istore_n 1, 1) := by decide +kernel
theorem dJ6_numberOfLeadingZeros_0f7a4_18 : decode cJ6_numberOfLeadingZeros_0f7a4 18 = .ok (.iload_n 0, 1) := by decide +kernel
theorem dJ6_numberOfLeadingZeros_0f7a4_19 : decode cJ6_numberOfLeadingZeros_0f7a4 19 = .ok (.ldc_w 264, 3) := by decide +kernel
theorem dJ6_numberOfLeadingZeros_0f7a4_22 : decode cJ6_numberOfLeadingZeros_0f7a4 22 = .ok (.if_icmp .lt 11, 3) := by decide +kernel
theorem dJ6_numberOfLeadingZeros_0f7a4_25 : decode cJ6_numberOfLeadingZeros_0f7a4 25 = .ok (.iinc 1 (-16), 3) := by decide +kernel
theorem dJ6_numberOfLeadingZeros_0f7a4_28 : decode cJ6_numberOfLeadingZeros_0f7a4 28 = .ok (.iload_n 0, 1) := by decide +kernel
theorem dJ6_numberOfLeadingZeros_0f7a4_29 : decode cJ6_numberOfLeadingZeros_0f7a4 29 = .ok (.bipush 16, 2) := by decide +kernel
theorem dJ6_numberOfLeadingZeros_0f7a4_31 : decode cJ6_numberOfLeadingZeros_0f7a4 31 = .ok (.iushr, 1) := by decide +kernel
theorem dJ6_numberOfLeadingZeros_0f7a4_32 : decode cJ6_numberOfLeadingZeros_0f7a4 32 = .ok (.istore_n 0, 1) := by decide +kernel
theorem dJ6_numberOfLeadingZeros_0f7a4_33 : decode cJ6_numberOfLeadingZeros_0f7a4 33 = .ok (.iload_n 0, 1) := by decide +kernel
theorem dJ6_numberOfLeadingZeros_0f7a4_34 : decode cJ6_numberOfLeadingZeros_0f7a4 34 = .ok (.sipush 256, 3) := by decide +kernel
theorem dJ6_numberOfLeadingZeros_0f7a4_37 : decode cJ6_numberOfLeadingZeros_0f7a4 37 = .ok (.if_icmp .lt 11, 3) := by decide +kernel
theorem dJ6_numberOfLeadingZeros_0f7a4_40 : decode cJ6_numberOfLeadingZeros_0f7a4 40 = .ok (.iinc 1 (-8), 3) := by decide +kernel
theorem dJ6_numberOfLeadingZeros_0f7a4_43 : decode cJ6_numberOfLeadingZeros_0f7a4 43 = .ok (.iload_n 0, 1) := by decide +kernel
theorem dJ6_numberOfLeadingZeros_0f7a4_44 : decode cJ6_numberOfLeadingZeros_0f7a4 44 = .ok (.bipush 8, 2) := by decide +kernel
theorem dJ6_numberOfLeadingZeros_0f7a4_46 : decode cJ6_numberOfLeadingZeros_0f7a4 46 = .ok (.iushr, 1) := by decide +kernel
theorem dJ6_numberOfLeadingZeros_0f7a4_47 : decode cJ6_numberOfLeadingZeros_0f7a4 47 = .ok (.istore_n 0, 1) := by decide +kernel
theorem dJ6_numberOfLeadingZeros_0f7a4_48 : decode cJ6_numberOfLeadingZeros_0f7a4 48 = .ok (.iload_n 0, 1) := by decide +kernel
theorem dJ6_numberOfLeadingZeros_0f7a4_49 : decode cJ6_numberOfLeadingZeros_0f7a4 49 = .ok (.bipush 16, 2) := by decide +kernel
theorem dJ6_numberOfLeadingZeros_0f7a4_51 : decode cJ6_numberOfLeadingZeros_0f7a4 51 = .ok (.if_icmp .lt 10, 3) := by decide +kernel
theorem dJ6_numberOfLeadingZeros_0f7a4_54 : decode cJ6_numberOfLeadingZeros_0f7a4 54 = .ok (.iinc 1 (-4), 3) := by decide +kernel
theorem dJ6_numberOfLeadingZeros_0f7a4_57 : decode cJ6_numberOfLeadingZeros_0f7a4 57 = .ok (.iload_n 0, 1) := by decide +kernel
theorem dJ6_numberOfLeadingZeros_0f7a4_58 : decode cJ6_numberOfLeadingZeros_0f7a4 58 = .ok (.iconst 4, 1) := by decide +kernel
theorem dJ6_numberOfLeadingZeros_0f7a4_59 : decode cJ6_numberOfLeadingZeros_0f7a4 59 = .ok (.iushr, 1) := by decide +kernel
theorem dJ6_numberOfLeadingZeros_0f7a4_60 : decode cJ6_numberOfLeadingZeros_0f7a4 60 = .ok (.istore_n 0, 1) := by decide +kernel
theorem dJ6_numberOfLeadingZeros_0f7a4_61 : decode cJ6_numberOfLeadingZeros_0f7a4 61 = .ok (.iload_n 0, 1) := by decide +kernel
theorem dJ6_numberOfLeadingZeros_0f7a4_62 : decode cJ6_numberOfLeadingZeros_0f7a4 62 = .ok (.iconst 4, 1) := by decide +kernel
theorem dJ6_numberOfLeadingZeros_0f7a4_63 : decode cJ6_numberOfLeadingZeros_0f7a4 63 = .ok (.if_icmp .lt 10, 3) := by decide +kernel
theorem dJ6_numberOfLeadingZeros_0f7a4_66 : decode cJ6_numberOfLeadingZeros_0f7a4 66 = .ok (.iinc 1 (-2), 3) := by decide +kernel
theorem dJ6_numberOfLeadingZeros_0f7a4_69 : decode cJ6_numberOfLeadingZeros_0f7a4 69 = .ok (.iload_n 0, 1) := by decide +kernel
theorem dJ6_numberOfLeadingZeros_0f7a4_70 : decode cJ6_numberOfLeadingZeros_0f7a4 70 = .ok (.iconst 2, 1) := by decide +kernel
theorem dJ6_numberOfLeadingZeros_0f7a4_71 : decode cJ6_numberOfLeadingZeros_0f7a4 71 = .ok (.iushr, 1) := by decide +kernel
theorem dJ6_numberOfLeadingZeros_0f7a4_72 : decode cJ6_numberOfLeadingZeros_0f7a4 72 = .ok (.istore_n 0, 1) := by decide +kernel
theorem dJ6_numberOfLeadingZeros_0f7a4_73 : decode cJ6_numberOfLeadingZeros_0f7a4 73 = .ok (.iload_n 1, 1) := by decide +kernel
theorem dJ6_numberOfLeadingZeros_0f7a4_74 : decode cJ6_numberOfLeadingZeros_0f7a4 74 = .ok (.iload_n 0, 1) := by decide +kernel
theorem dJ6_numberOfLeadingZeros_0f7a4_75 : decode cJ6_numberOfLeadingZeros_0f7a4 75 = .ok (.iconst 1, 1) := by decide +kernel
theorem dJ6_numberOfLeadingZeros_0f7a4_76 : decode cJ6_numberOfLeadingZeros_0f7a4 76 = .ok (.iushr, 1) := by decide +kernel
theorem dJ6_numberOfLeadingZeros_0f7a4_77 : decode cJ6_numberOfLeadingZeros_0f7a4 77 = .ok (.isub, 1) := by decide +kernel
theorem dJ6_numberOfLeadingZeros_0f7a4_78 : decode cJ6_numberOfLeadingZeros_0f7a4 78 = .ok (.ireturn, 1) := by decide +kernel
theorem dJ9_max_7cf53_0 : decode cJ9_max_7cf53 0 = .ok (.iload_n 0, 1) := by decide +kernel
theorem dJ9_max_7cf53_1 : decode cJ9_max_7cf53 1 = .ok (.iload_n 1, 1) := by decide +kernel
theorem dJ9_max_7cf53_2 : decode cJ9_max_7cf53 2 = .ok (.if_icmp .lt 7, 3) := by decide +kernel
theorem dJ9_max_7cf53_5 : decode cJ9_max_7cf53 5 = .ok (.iload_n 0, 1) := by decide +kernel
theorem dJ9_max_7cf53_6 : decode cJ9_max_7cf53 6 = .ok (.goto 4, 3) := by decide +kernel
theorem dJ9_max_7cf53_9 : decode cJ9_max_7cf53 9 = .ok (.iload_n 1, 1) := by decide +kernel
theorem dJ9_max_7cf53_10 : decode cJ9_max_7cf53 10 = .ok (.ireturn, 1) := by decide +kernel
theorem dJ9_min_7cf53_0 : decode cJ9_min_7cf53 0 = .ok (.iload_n 0, 1) := by decide +kernel
theorem dJ9_min_7cf53_1 : decode cJ9_min_7cf53 1 = .ok (.iload_n 1, 1) := by decide +kernel
theorem dJ9_min_7cf53_2 : decode cJ9_min_7cf53 2 = .ok (.if_icmp .gt 7, 3) := by decide +kernel
theorem dJ9_min_7cf53_5 : decode cJ9_min_7cf53 5 = .ok (.iload_n 0, 1) := by decide +kernel
theorem dJ9_min_7cf53_6 : decode cJ9_min_7cf53 6 = .ok (.goto 4, 3) := by decide +kernel
theorem dJ9_min_7cf53_9 : decode cJ9_min_7cf53 9 = .ok (.iload_n 1, 1) := by decide +kernel
theorem dJ9_min_7cf53_10 : decode cJ9_min_7cf53 10 = .ok (.ireturn, 1) := by decide +kernel
theorem dJ7_fill_53178_0 : decode cJ7_fill_53178 0 = .ok (.iconst 0, 1) := by decide +kernel
theorem dJ7_fill_53178_1 : decode cJ7_fill_53178 1 = .ok (.istore_n 2, 1) := by decide +kernel
theorem dJ7_fill_53178_2 : decode cJ7_fill_53178 2 = .ok (.aload_n 0, 1) := by decide +kernel
theorem dJ7_fill_53178_3 : decode cJ7_fill_53178 3 = .ok (.arraylength, 1) := by decide +kernel
theorem dJ7_fill_53178_4 : decode cJ7_fill_53178 4 = .ok (.istore_n 3, 1) := by decide +kernel
theorem dJ7_fill_53178_5 : decode cJ7_fill_53178 5 = .ok (.iload_n 2, 1) := by decide +kernel
theorem dJ7_fill_53178_6 : decode cJ7_fill_53178 6 = .ok (.iload_n 3, 1) := by decide +kernel
theorem dJ7_fill_53178_7 : decode cJ7_fill_53178 7 = .ok (.if_icmp .ge 13, 3) := by decide +kernel
theorem dJ7_fill_53178_10 : decode cJ7_fill_53178 10 = .ok (.aload_n 0, 1) := by decide +kernel
theorem dJ7_fill_53178_11 : decode cJ7_fill_53178 11 = .ok (.iload_n 2, 1) := by decide +kernel
theorem dJ7_fill_53178_12 : decode cJ7_fill_53178 12 = .ok (.iload_n 1, 1) := by decide +kernel
theorem dJ7_fill_53178_13 : decode cJ7_fill_53178 13 = .ok (.iastore, 1) := by decide +kernel
theorem dJ7_fill_53178_14 : decode cJ7_fill_53178 14 = .ok (.iinc 2 1, 3) := by decide +kernel
theorem dJ7_fill_53178_17 : decode cJ7_fill_53178 17 = .ok (.goto (-12), 3) := by decide +kernel
theorem dJ7_fill_53178_20 : decode cJ7_fill_53178 20 = .ok (.return_, 1) := by decide +kernel
