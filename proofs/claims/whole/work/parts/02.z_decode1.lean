-- decode rows, as printed (NAMES.whole)
theorem dX9_told_12 : decode cX9_told 12 = .ok (.getfield 14, 3) := by decide +kernel
theorem dX9_told_15 : decode cX9_told 15 = .ok (.getfield 87, 3) := by decide +kernel
theorem dX9_told_18 : decode cX9_told 18 = .ok (.getfield 100, 3) := by decide +kernel
theorem dX9_told_21 : decode cX9_told 21 = .ok (.iload_n 1, 1) := by decide +kernel
theorem dX9_told_22 : decode cX9_told 22 = .ok (.iaload, 1) := by decide +kernel
theorem dX9_told_23 : decode cX9_told 23 = .ok (.ireturn, 1) := by decide +kernel
theorem dX9_warmth_0 : decode cX9_warmth 0 = .ok (.iload_n 1, 1) := by decide +kernel
theorem dX9_warmth_1 : decode cX9_warmth 1 = .ok (.invokestatic 103, 3) := by decide +kernel
theorem dX9_warmth_4 : decode cX9_warmth 4 = .ok (.ifCond .ne 5, 3) := by decide +kernel
theorem dX9_warmth_7 : decode cX9_warmth 7 = .ok (.iconst (-1), 1) := by decide +kernel
theorem dX9_warmth_8 : decode cX9_warmth 8 = .ok (.ireturn, 1) := by decide +kernel
theorem dX9_warmth_9 : decode cX9_warmth 9 = .ok (.aload_n 0, 1) := by decide +kernel
theorem dX9_warmth_10 : decode cX9_warmth 10 = .ok (.invokevirtual 107, 3) := by decide +kernel
theorem dX9_warmth_13 : decode cX9_warmth 13 = .ok (.aload_n 0, 1) := by decide +kernel
theorem dX9_warmth_14 : decode cX9_warmth 14 = .ok (.getfield 35, 3) := by decide +kernel
theorem dX9_warmth_17 : decode cX9_warmth 17 = .ok (.getfield 110, 3) := by decide +kernel
theorem dX9_warmth_20 : decode cX9_warmth 20 = .ok (.iload_n 1, 1) := by decide +kernel
theorem dX9_warmth_21 : decode cX9_warmth 21 = .ok (.iaload, 1) := by decide +kernel
theorem dX9_warmth_22 : decode cX9_warmth 22 = .ok (.ireturn, 1) := by decide +kernel
theorem dX9_noise_0 : decode cX9_noise 0 = .ok (.iload_n 1, 1) := by decide +kernel
theorem dX9_noise_1 : decode cX9_noise 1 = .ok (.invokestatic 113, 3) := by decide +kernel
theorem dX9_noise_4 : decode cX9_noise 4 = .ok (.ifCond .eq 10, 3) := by decide +kernel
theorem dX9_noise_7 : decode cX9_noise 7 = .ok (.iload_n 2, 1) := by decide +kernel
theorem dX9_noise_8 : decode cX9_noise 8 = .ok (.invokestatic 116, 3) := by decide +kernel
theorem dX9_noise_11 : decode cX9_noise 11 = .ok (.ifCond .ne 5, 3) := by decide +kernel
theorem dX9_noise_14 : decode cX9_noise 14 = .ok (.iconst (-1), 1) := by decide +kernel
theorem dX9_noise_15 : decode cX9_noise 15 = .ok (.ireturn, 1) := by decide +kernel
theorem dX9_noise_16 : decode cX9_noise 16 = .ok (.iload_n 3, 1) := by decide +kernel
theorem dX9_noise_17 : decode cX9_noise 17 = .ok (.ifCond .lt 22, 3) := by decide +kernel
theorem dX9_noise_20 : decode cX9_noise 20 = .ok (.iload_n 3, 1) := by decide +kernel
theorem dX9_noise_21 : decode cX9_noise 21 = .ok (.bipush 9, 2) := by decide +kernel
theorem dX9_noise_23 : decode cX9_noise 23 = .ok (.if_icmp .gt 16, 3) := by decide +kernel
theorem dX9_noise_26 : decode cX9_noise 26 = .ok (.iload 4, 2) := by decide +kernel
theorem dX9_noise_28 : decode cX9_noise 28 = .ok (.iconst 1, 1) := by decide +kernel
theorem dX9_noise_29 : decode cX9_noise 29 = .ok (.if_icmp .lt 10, 3) := by decide +kernel
theorem dX9_noise_32 : decode cX9_noise 32 = .ok (.iload 4, 2) := by decide +kernel
theorem dX9_noise_34 : decode cX9_noise 34 = .ok (.bipush 40, 2) := by decide +kernel
theorem dX9_noise_36 : decode cX9_noise 36 = .ok (.if_icmp .le 6, 3) := by decide +kernel
theorem dX9_noise_39 : decode cX9_noise 39 = .ok (.bipush (-2), 2) := by decide +kernel
theorem dX9_noise_41 : decode cX9_noise 41 = .ok (.ireturn, 1) := by decide +kernel
theorem dX9_noise_42 : decode cX9_noise 42 = .ok (.aload_n 0, 1) := by decide +kernel
theorem dX9_noise_43 : decode cX9_noise 43 = .ok (.getfield 14, 3) := by decide +kernel
theorem dX9_noise_46 : decode cX9_noise 46 = .ok (.getfield 119, 3) := by decide +kernel
theorem dX9_noise_49 : decode cX9_noise 49 = .ok (.getfield 123, 3) := by decide +kernel
theorem dX9_noise_52 : decode cX9_noise 52 = .ok (.bipush 10, 2) := by decide +kernel
theorem dX9_noise_54 : decode cX9_noise 54 = .ok (.if_icmp .lt 6, 3) := by decide +kernel
theorem dX9_noise_57 : decode cX9_noise 57 = .ok (.bipush (-4), 2) := by decide +kernel
theorem dX9_noise_59 : decode cX9_noise 59 = .ok (.ireturn, 1) := by decide +kernel
theorem dX9_noise_60 : decode cX9_noise 60 = .ok (.aload_n 0, 1) := by decide +kernel
theorem dX9_noise_61 : decode cX9_noise 61 = .ok (.iconst 0, 1) := by decide +kernel
theorem dX9_noise_62 : decode cX9_noise 62 = .ok (.putfield 46, 3) := by decide +kernel
theorem dX9_noise_65 : decode cX9_noise 65 = .ok (.aload_n 0, 1) := by decide +kernel
theorem dX9_noise_66 : decode cX9_noise 66 = .ok (.getfield 14, 3) := by decide +kernel
theorem dX9_noise_69 : decode cX9_noise 69 = .ok (.getfield 119, 3) := by decide +kernel
theorem dX9_noise_72 : decode cX9_noise 72 = .ok (.iload_n 1, 1) := by decide +kernel
theorem dX9_noise_73 : decode cX9_noise 73 = .ok (.iload_n 2, 1) := by decide +kernel
theorem dX9_noise_74 : decode cX9_noise 74 = .ok (.iload_n 3, 1) := by decide +kernel
theorem dX9_noise_75 : decode cX9_noise 75 = .ok (.iload 4, 2) := by decide +kernel
theorem dX9_noise_77 : decode cX9_noise 77 = .ok (.invokevirtual 128, 3) := by decide +kernel
theorem dX9_noise_80 : decode cX9_noise 80 = .ok (.ireturn, 1) := by decide +kernel
theorem dX9_of_0 : decode cX9_of 0 = .ok (.aload_n 0, 1) := by decide +kernel
theorem dX9_of_1 : decode cX9_of 1 = .ok (.getfield 14, 3) := by decide +kernel
theorem dX9_of_4 : decode cX9_of 4 = .ok (.getfield 119, 3) := by decide +kernel
theorem dX9_of_7 : decode cX9_of 7 = .ok (.iload_n 1, 1) := by decide +kernel
theorem dX9_of_8 : decode cX9_of 8 = .ok (.invokevirtual 131, 3) := by decide +kernel
theorem dX9_of_11 : decode cX9_of 11 = .ok (.ifCond .ne 5, 3) := by decide +kernel
theorem dX9_of_14 : decode cX9_of 14 = .ok (.iconst (-1), 1) := by decide +kernel
theorem dX9_of_15 : decode cX9_of 15 = .ok (.ireturn, 1) := by decide +kernel
theorem dX9_of_16 : decode cX9_of 16 = .ok (.iload_n 2, 1) := by decide +kernel
theorem dX9_of_17 : decode cX9_of 17 = .ok (.tableswitch 102 0 4 #[35, 48, 61, 74, 87], 35) := by decide +kernel
theorem dX9_of_52 : decode cX9_of 52 = .ok (.aload_n 0, 1) := by decide +kernel
theorem dX9_of_53 : decode cX9_of 53 = .ok (.getfield 14, 3) := by decide +kernel
theorem dX9_of_56 : decode cX9_of 56 = .ok (.getfield 119, 3) := by decide +kernel
theorem dX9_of_59 : decode cX9_of 59 = .ok (.getfield 134, 3) := by decide +kernel
theorem dX9_of_62 : decode cX9_of 62 = .ok (.iload_n 1, 1) := by decide +kernel
theorem dX9_of_63 : decode cX9_of 63 = .ok (.iaload, 1) := by decide +kernel
theorem dX9_of_64 : decode cX9_of 64 = .ok (.ireturn, 1) := by decide +kernel
theorem dX9_of_65 : decode cX9_of 65 = .ok (.aload_n 0, 1) := by decide +kernel
theorem dX9_of_66 : decode cX9_of 66 = .ok (.getfield 14, 3) := by decide +kernel
theorem dX9_of_69 : decode cX9_of 69 = .ok (.getfield 119, 3) := by decide +kernel
theorem dX9_of_72 : decode cX9_of 72 = .ok (.getfield 137, 3) := by decide +kernel
theorem dX9_of_75 : decode cX9_of 75 = .ok (.iload_n 1, 1) := by decide +kernel
theorem dX9_of_76 : decode cX9_of 76 = .ok (.iaload, 1) := by decide +kernel
theorem dX9_of_77 : decode cX9_of 77 = .ok (.ireturn, 1) := by decide +kernel
theorem dX9_of_78 : decode cX9_of 78 = .ok (.aload_n 0, 1) := by decide +kernel
theorem dX9_of_79 : decode cX9_of 79 = .ok (.getfield 14, 3) := by decide +kernel
theorem dX9_of_82 : decode cX9_of 82 = .ok (.getfield 119, 3) := by decide +kernel
theorem dX9_of_85 : decode cX9_of 85 = .ok (.getfield 140, 3) := by decide +kernel
theorem dX9_of_88 : decode cX9_of 88 = .ok (.iload_n 1, 1) := by decide +kernel
theorem dX9_of_89 : decode cX9_of 89 = .ok (.iaload, 1) := by decide +kernel
theorem dX9_of_90 : decode cX9_of 90 = .ok (.ireturn, 1) := by decide +kernel
theorem dX9_of_91 : decode cX9_of 91 = .ok (.aload_n 0, 1) := by decide +kernel
theorem dX9_of_92 : decode cX9_of 92 = .ok (.getfield 14, 3) := by decide +kernel
theorem dX9_of_95 : decode cX9_of 95 = .ok (.getfield 119, 3) := by decide +kernel
theorem dX9_of_98 : decode cX9_of 98 = .ok (.getfield 143, 3) := by decide +kernel
theorem dX9_of_101 : decode cX9_of 101 = .ok (.iload_n 1, 1) := by decide +kernel
theorem dX9_of_102 : decode cX9_of 102 = .ok (.iaload, 1) := by decide +kernel
theorem dX9_of_103 : decode cX9_of 103 = .ok (.ireturn, 1) := by decide +kernel
theorem dX9_of_104 : decode cX9_of 104 = .ok (.aload_n 0, 1) := by decide +kernel
theorem dX9_of_105 : decode cX9_of 105 = .ok (.getfield 14, 3) := by decide +kernel
theorem dX9_of_108 : decode cX9_of 108 = .ok (.getfield 119, 3) := by decide +kernel
theorem dX9_of_111 : decode cX9_of 111 = .ok (.getfield 146, 3) := by decide +kernel
theorem dX9_of_114 : decode cX9_of 114 = .ok (.iload_n 1, 1) := by decide +kernel
theorem dX9_of_115 : decode cX9_of 115 = .ok (.ishr, 1) := by decide +kernel
theorem dX9_of_116 : decode cX9_of 116 = .ok (.iconst 1, 1) := by decide +kernel
theorem dX9_of_117 : decode cX9_of 117 = .ok (.iand, 1) := by decide +kernel
theorem dX9_of_118 : decode cX9_of 118 = .ok (.ireturn, 1) := by decide +kernel
theorem dX9_of_119 : decode cX9_of 119 = .ok (.iconst (-1), 1) := by decide +kernel
theorem dX9_of_120 : decode cX9_of 120 = .ok (.ireturn, 1) := by decide +kernel
theorem dX9_still_0 : decode cX9_still 0 = .ok (.aload_n 0, 1) := by decide +kernel
theorem dX9_still_1 : decode cX9_still 1 = .ok (.getfield 14, 3) := by decide +kernel
theorem dX9_still_4 : decode cX9_still 4 = .ok (.getfield 119, 3) := by decide +kernel
theorem dX9_still_7 : decode cX9_still 7 = .ok (.iload_n 1, 1) := by decide +kernel
theorem dX9_still_8 : decode cX9_still 8 = .ok (.invokevirtual 131, 3) := by decide +kernel
theorem dX9_still_11 : decode cX9_still 11 = .ok (.ifCond .ne 5, 3) := by decide +kernel
theorem dX9_still_14 : decode cX9_still 14 = .ok (.iconst (-1), 1) := by decide +kernel
theorem dX9_still_15 : decode cX9_still 15 = .ok (.ireturn, 1) := by decide +kernel
theorem dX9_still_16 : decode cX9_still 16 = .ok (.aload_n 0, 1) := by decide +kernel
theorem dX9_still_17 : decode cX9_still 17 = .ok (.getfield 14, 3) := by decide +kernel
theorem dX9_still_20 : decode cX9_still 20 = .ok (.getfield 119, 3) := by decide +kernel
theorem dX9_still_23 : decode cX9_still 23 = .ok (.getfield 146, 3) := by decide +kernel
theorem dX9_still_26 : decode cX9_still 26 = .ok (.iload_n 1, 1) := by decide +kernel
theorem dX9_still_27 : decode cX9_still 27 = .ok (.ishr, 1) := by decide +kernel
theorem dX9_still_28 : decode cX9_still 28 = .ok (.iconst 1, 1) := by decide +kernel
theorem dX9_still_29 : decode cX9_still 29 = .ok (.iand, 1) := by decide +kernel
theorem dX9_still_30 : decode cX9_still 30 = .ok (.istore_n 3, 1) := by decide +kernel
theorem dX9_still_31 : decode cX9_still 31 = .ok (.iload_n 2, 1) := by decide +kernel
theorem dX9_still_32 : decode cX9_still 32 = .ok (.ifCond .eq 24, 3) := by decide +kernel
theorem dX9_still_35 : decode cX9_still 35 = .ok (.aload_n 0, 1) := by decide +kernel
theorem dX9_still_36 : decode cX9_still 36 = .ok (.getfield 14, 3) := by decide +kernel
theorem dX9_still_39 : decode cX9_still 39 = .ok (.getfield 119, 3) := by decide +kernel
theorem dX9_still_42 : decode cX9_still 42 = .ok (.dup, 1) := by decide +kernel
theorem dX9_still_43 : decode cX9_still 43 = .ok (.getfield 146, 3) := by decide +kernel
theorem dX9_still_46 : decode cX9_still 46 = .ok (.iconst 1, 1) := by decide +kernel
theorem dX9_still_47 : decode cX9_still 47 = .ok (.iload_n 1, 1) := by decide +kernel
theorem dX9_still_48 : decode cX9_still 48 = .ok (.ishl, 1) := by decide +kernel
theorem dX9_still_49 : decode cX9_still 49 = .ok (.ior, 1) := by decide +kernel
theorem dX9_still_50 : decode cX9_still 50 = .ok (.putfield 146, 3) := by decide +kernel
theorem dX9_still_53 : decode cX9_still 53 = .ok (.goto 23, 3) := by decide +kernel
theorem dX9_still_56 : decode cX9_still 56 = .ok (.aload_n 0, 1) := by decide +kernel
theorem dX9_still_57 : decode cX9_still 57 = .ok (.getfield 14, 3) := by decide +kernel
theorem dX9_still_60 : decode cX9_still 60 = .ok (.getfield 119, 3) := by decide +kernel
theorem dX9_still_63 : decode cX9_still 63 = .ok (.dup, 1) := by decide +kernel
theorem dX9_still_64 : decode cX9_still 64 = .ok (.getfield 146, 3) := by decide +kernel
theorem dX9_still_67 : decode cX9_still 67 = .ok (.iconst 1, 1) := by decide +kernel
theorem dX9_still_68 : decode cX9_still 68 = .ok (.iload_n 1, 1) := by decide +kernel
theorem dX9_still_69 : decode cX9_still 69 = .ok (.ishl, 1) := by decide +kernel
theorem dX9_still_70 : decode cX9_still 70 = .ok (.iconst (-1), 1) := by decide +kernel
theorem dX9_still_71 : decode cX9_still 71 = .ok (.ixor, 1) := by decide +kernel
theorem dX9_still_72 : decode cX9_still 72 = .ok (.iand, 1) := by decide +kernel
theorem dX9_still_73 : decode cX9_still 73 = .ok (.putfield 146, 3) := by decide +kernel
theorem dX9_still_76 : decode cX9_still 76 = .ok (.iload_n 3, 1) := by decide +kernel
theorem dX9_still_77 : decode cX9_still 77 = .ok (.ireturn, 1) := by decide +kernel
theorem dX9_knocks_0 : decode cX9_knocks 0 = .ok (.aload_n 0, 1) := by decide +kernel
theorem dX9_knocks_1 : decode cX9_knocks 1 = .ok (.getfield 14, 3) := by decide +kernel
theorem dX9_knocks_4 : decode cX9_knocks 4 = .ok (.getfield 119, 3) := by decide +kernel
theorem dX9_knocks_7 : decode cX9_knocks 7 = .ok (.iload_n 1, 1) := by decide +kernel
theorem dX9_knocks_8 : decode cX9_knocks 8 = .ok (.invokevirtual 131, 3) := by decide +kernel
theorem dX9_knocks_11 : decode cX9_knocks 11 = .ok (.ifCond .eq 10, 3) := by decide +kernel
theorem dX9_knocks_14 : decode cX9_knocks 14 = .ok (.iload_n 2, 1) := by decide +kernel
theorem dX9_knocks_15 : decode cX9_knocks 15 = .ok (.invokestatic 103, 3) := by decide +kernel
theorem dX9_knocks_18 : decode cX9_knocks 18 = .ok (.ifCond .ne 5, 3) := by decide +kernel
theorem dX9_knocks_21 : decode cX9_knocks 21 = .ok (.iconst (-1), 1) := by decide +kernel
theorem dX9_knocks_22 : decode cX9_knocks 22 = .ok (.ireturn, 1) := by decide +kernel
theorem dX9_knocks_23 : decode cX9_knocks 23 = .ok (.aload_n 0, 1) := by decide +kernel
theorem dX9_knocks_24 : decode cX9_knocks 24 = .ok (.invokevirtual 107, 3) := by decide +kernel
theorem dX9_knocks_27 : decode cX9_knocks 27 = .ok (.iload_n 3, 1) := by decide +kernel
theorem dX9_knocks_28 : decode cX9_knocks 28 = .ok (.tableswitch 76 0 2 #[28, 38, 48], 28) := by decide +kernel
theorem dX9_knocks_56 : decode cX9_knocks 56 = .ok (.aload_n 0, 1) := by decide +kernel
theorem dX9_knocks_57 : decode cX9_knocks 57 = .ok (.getfield 35, 3) := by decide +kernel
theorem dX9_knocks_60 : decode cX9_knocks 60 = .ok (.iload_n 1, 1) := by decide +kernel
theorem dX9_knocks_61 : decode cX9_knocks 61 = .ok (.iload_n 2, 1) := by decide +kernel
theorem dX9_knocks_62 : decode cX9_knocks 62 = .ok (.invokevirtual 149, 3) := by decide +kernel
theorem dX9_knocks_65 : decode cX9_knocks 65 = .ok (.ireturn, 1) := by decide +kernel
theorem dX9_knocks_66 : decode cX9_knocks 66 = .ok (.aload_n 0, 1) := by decide +kernel
theorem dX9_knocks_67 : decode cX9_knocks 67 = .ok (.getfield 35, 3) := by decide +kernel
theorem dX9_knocks_70 : decode cX9_knocks 70 = .ok (.iload_n 1, 1) := by decide +kernel
theorem dX9_knocks_71 : decode cX9_knocks 71 = .ok (.iload_n 2, 1) := by decide +kernel
theorem dX9_knocks_72 : decode cX9_knocks 72 = .ok (.invokevirtual 153, 3) := by decide +kernel
theorem dX9_knocks_75 : decode cX9_knocks 75 = .ok (.ireturn, 1) := by decide +kernel
theorem dX9_knocks_76 : decode cX9_knocks 76 = .ok (.aload_n 0, 1) := by decide +kernel
theorem dX9_knocks_77 : decode cX9_knocks 77 = .ok (.getfield 14, 3) := by decide +kernel
theorem dX9_knocks_80 : decode cX9_knocks 80 = .ok (.getfield 119, 3) := by decide +kernel
theorem dX9_knocks_83 : decode cX9_knocks 83 = .ok (.iload_n 1, 1) := by decide +kernel
theorem dX9_knocks_84 : decode cX9_knocks 84 = .ok (.invokevirtual 156, 3) := by decide +kernel
theorem dX9_knocks_87 : decode cX9_knocks 87 = .ok (.ifCond .eq 15, 3) := by decide +kernel
theorem dX9_knocks_90 : decode cX9_knocks 90 = .ok (.aload_n 0, 1) := by decide +kernel
theorem dX9_knocks_91 : decode cX9_knocks 91 = .ok (.getfield 35, 3) := by decide +kernel
theorem dX9_knocks_94 : decode cX9_knocks 94 = .ok (.iload_n 1, 1) := by decide +kernel
theorem dX9_knocks_95 : decode cX9_knocks 95 = .ok (.iload_n 2, 1) := by decide +kernel
theorem dX9_knocks_96 : decode cX9_knocks 96 = .ok (.invokevirtual 159, 3) := by decide +kernel
theorem dX9_knocks_99 : decode cX9_knocks 99 = .ok (.goto 4, 3) := by decide +kernel
theorem dX9_knocks_102 : decode cX9_knocks 102 = .ok (.iconst 0, 1) := by decide +kernel
theorem dX9_knocks_103 : decode cX9_knocks 103 = .ok (.ireturn, 1) := by decide +kernel
theorem dX9_knocks_104 : decode cX9_knocks 104 = .ok (.iconst (-1), 1) := by decide +kernel
theorem dX9_knocks_105 : decode cX9_knocks 105 = .ok (.ireturn, 1) := by decide +kernel
theorem dX9_loud_0 : decode cX9_loud 0 = .ok (.aload_n 0, 1) := by decide +kernel
theorem dX9_loud_1 : decode cX9_loud 1 = .ok (.getfield 14, 3) := by decide +kernel
theorem dX9_loud_4 : decode cX9_loud 4 = .ok (.getfield 119, 3) := by decide +kernel
theorem dX9_loud_7 : decode cX9_loud 7 = .ok (.iload_n 1, 1) := by decide +kernel
theorem dX9_loud_8 : decode cX9_loud 8 = .ok (.invokevirtual 131, 3) := by decide +kernel
theorem dX9_loud_11 : decode cX9_loud 11 = .ok (.ifCond .eq 17, 3) := by decide +kernel
theorem dX9_loud_14 : decode cX9_loud 14 = .ok (.iload_n 2, 1) := by decide +kernel
theorem dX9_loud_15 : decode cX9_loud 15 = .ok (.invokestatic 116, 3) := by decide +kernel
theorem dX9_loud_18 : decode cX9_loud 18 = .ok (.ifCond .eq 10, 3) := by decide +kernel
theorem dX9_loud_21 : decode cX9_loud 21 = .ok (.iload_n 3, 1) := by decide +kernel
theorem dX9_loud_22 : decode cX9_loud 22 = .ok (.invokestatic 103, 3) := by decide +kernel
theorem dX9_loud_25 : decode cX9_loud 25 = .ok (.ifCond .ne 5, 3) := by decide +kernel
theorem dX9_loud_28 : decode cX9_loud 28 = .ok (.iconst (-1), 1) := by decide +kernel
theorem dX9_loud_29 : decode cX9_loud 29 = .ok (.ireturn, 1) := by decide +kernel
theorem dX9_loud_30 : decode cX9_loud 30 = .ok (.aload_n 0, 1) := by decide +kernel
theorem dX9_loud_31 : decode cX9_loud 31 = .ok (.invokevirtual 107, 3) := by decide +kernel
theorem dX9_loud_34 : decode cX9_loud 34 = .ok (.aload_n 0, 1) := by decide +kernel
theorem dX9_loud_35 : decode cX9_loud 35 = .ok (.iload_n 1, 1) := by decide +kernel
theorem dX9_loud_36 : decode cX9_loud 36 = .ok (.iload_n 2, 1) := by decide +kernel
theorem dX9_loud_37 : decode cX9_loud 37 = .ok (.iload_n 3, 1) := by decide +kernel
theorem dX9_loud_38 : decode cX9_loud 38 = .ok (.invokevirtual 162, 3) := by decide +kernel
theorem dX9_loud_41 : decode cX9_loud 41 = .ok (.ireturn, 1) := by decide +kernel
theorem dX9_heard_0 : decode cX9_heard 0 = .ok (.iload_n 1, 1) := by decide +kernel
theorem dX9_heard_1 : decode cX9_heard 1 = .ok (.invokestatic 116, 3) := by decide +kernel
theorem dX9_heard_4 : decode cX9_heard 4 = .ok (.ifCond .eq 15, 3) := by decide +kernel
theorem dX9_heard_7 : decode cX9_heard 7 = .ok (.iload_n 2, 1) := by decide +kernel
theorem dX9_heard_8 : decode cX9_heard 8 = .ok (.iconst (-1), 1) := by decide +kernel
theorem dX9_heard_9 : decode cX9_heard 9 = .ok (.if_icmp .eq 12, 3) := by decide +kernel
theorem dX9_heard_12 : decode cX9_heard 12 = .ok (.iload_n 2, 1) := by decide +kernel
theorem dX9_heard_13 : decode cX9_heard 13 = .ok (.invokestatic 103, 3) := by decide +kernel
theorem dX9_heard_16 : decode cX9_heard 16 = .ok (.ifCond .ne 5, 3) := by decide +kernel
theorem dX9_heard_19 : decode cX9_heard 19 = .ok (.iconst (-1), 1) := by decide +kernel
theorem dX9_heard_20 : decode cX9_heard 20 = .ok (.ireturn, 1) := by decide +kernel
theorem dX9_heard_21 : decode cX9_heard 21 = .ok (.aload_n 0, 1) := by decide +kernel
theorem dX9_heard_22 : decode cX9_heard 22 = .ok (.invokevirtual 107, 3) := by decide +kernel
theorem dX9_heard_25 : decode cX9_heard 25 = .ok (.iload_n 2, 1) := by decide +kernel
theorem dX9_heard_26 : decode cX9_heard 26 = .ok (.iconst (-1), 1) := by decide +kernel
theorem dX9_heard_27 : decode cX9_heard 27 = .ok (.if_icmp .ne 11, 3) := by decide +kernel
theorem dX9_heard_30 : decode cX9_heard 30 = .ok (.aload_n 0, 1) := by decide +kernel
theorem dX9_heard_31 : decode cX9_heard 31 = .ok (.iload_n 1, 1) := by decide +kernel
theorem dX9_heard_32 : decode cX9_heard 32 = .ok (.invokevirtual 166, 3) := by decide +kernel
theorem dX9_heard_35 : decode cX9_heard 35 = .ok (.goto 9, 3) := by decide +kernel
theorem dX9_heard_38 : decode cX9_heard 38 = .ok (.aload_n 0, 1) := by decide +kernel
theorem dX9_heard_39 : decode cX9_heard 39 = .ok (.iload_n 1, 1) := by decide +kernel
theorem dX9_heard_40 : decode cX9_heard 40 = .ok (.iload_n 2, 1) := by decide +kernel
theorem dX9_heard_41 : decode cX9_heard 41 = .ok (.invokevirtual 170, 3) := by decide +kernel
theorem dX9_heard_44 : decode cX9_heard 44 = .ok (.ireturn, 1) := by decide +kernel
theorem dX9_seems_0 : decode cX9_seems 0 = .ok (.iload_n 1, 1) := by decide +kernel
theorem dX9_seems_1 : decode cX9_seems 1 = .ok (.invokestatic 103, 3) := by decide +kernel
theorem dX9_seems_4 : decode cX9_seems 4 = .ok (.ifCond .ne 5, 3) := by decide +kernel
theorem dX9_seems_7 : decode cX9_seems 7 = .ok (.iconst (-1), 1) := by decide +kernel
theorem dX9_seems_8 : decode cX9_seems 8 = .ok (.ireturn, 1) := by decide +kernel
theorem dX9_seems_9 : decode cX9_seems 9 = .ok (.aload_n 0, 1) := by decide +kernel
theorem dX9_seems_10 : decode cX9_seems 10 = .ok (.invokevirtual 107, 3) := by decide +kernel
theorem dX9_seems_13 : decode cX9_seems 13 = .ok (.bipush (-5), 2) := by decide +kernel
theorem dX9_seems_15 : decode cX9_seems 15 = .ok (.istore_n 2, 1) := by decide +kernel
theorem dX9_seems_16 : decode cX9_seems 16 = .ok (.iconst 0, 1) := by decide +kernel
theorem dX9_seems_17 : decode cX9_seems 17 = .ok (.istore_n 3, 1) := by decide +kernel
theorem dX9_seems_18 : decode cX9_seems 18 = .ok (.iconst 0, 1) := by decide +kernel
theorem dX9_seems_19 : decode cX9_seems 19 = .ok (.istore 4, 2) := by decide +kernel
theorem dX9_seems_21 : decode cX9_seems 21 = .ok (.iload 4, 2) := by decide +kernel
theorem dX9_seems_23 : decode cX9_seems 23 = .ok (.bipush 10, 2) := by decide +kernel
theorem dX9_seems_25 : decode cX9_seems 25 = .ok (.if_icmp .ge 30, 3) := by decide +kernel
theorem dX9_seems_28 : decode cX9_seems 28 = .ok (.aload_n 0, 1) := by decide +kernel
theorem dX9_seems_29 : decode cX9_seems 29 = .ok (.iload 4, 2) := by decide +kernel
theorem dX9_seems_31 : decode cX9_seems 31 = .ok (.iload_n 1, 1) := by decide +kernel
theorem dX9_seems_32 : decode cX9_seems 32 = .ok (.invokevirtual 173, 3) := by decide +kernel
theorem dX9_seems_35 : decode cX9_seems 35 = .ok (.istore 5, 2) := by decide +kernel
theorem dX9_seems_37 : decode cX9_seems 37 = .ok (.iload 5, 2) := by decide +kernel
theorem dX9_seems_39 : decode cX9_seems 39 = .ok (.iload_n 3, 1) := by decide +kernel
theorem dX9_seems_40 : decode cX9_seems 40 = .ok (.if_icmp .le 9, 3) := by decide +kernel
theorem dX9_seems_43 : decode cX9_seems 43 = .ok (.iload 5, 2) := by decide +kernel
theorem dX9_seems_45 : decode cX9_seems 45 = .ok (.istore_n 3, 1) := by decide +kernel
theorem dX9_seems_46 : decode cX9_seems 46 = .ok (.iload 4, 2) := by decide +kernel
theorem dX9_seems_48 : decode cX9_seems 48 = .ok (.istore_n 2, 1) := by decide +kernel
theorem dX9_seems_49 : decode cX9_seems 49 = .ok (.iinc 4 1, 3) := by decide +kernel
theorem dX9_seems_52 : decode cX9_seems 52 = .ok (.goto (-31), 3) := by decide +kernel
theorem dX9_seems_55 : decode cX9_seems 55 = .ok (.iload_n 2, 1) := by decide +kernel
theorem dX9_seems_56 : decode cX9_seems 56 = .ok (.ireturn, 1) := by decide +kernel
theorem dX9_note_0 : decode cX9_note 0 = .ok (.iload_n 1, 1) := by decide +kernel
theorem dX9_note_1 : decode cX9_note 1 = .ok (.invokestatic 116, 3) := by decide +kernel
theorem dX9_note_4 : decode cX9_note 4 = .ok (.ifCond .eq 10, 3) := by decide +kernel
theorem dX9_note_7 : decode cX9_note 7 = .ok (.iload_n 2, 1) := by decide +kernel
theorem dX9_note_8 : decode cX9_note 8 = .ok (.invokestatic 103, 3) := by decide +kernel
theorem dX9_note_11 : decode cX9_note 11 = .ok (.ifCond .ne 5, 3) := by decide +kernel
theorem dX9_note_14 : decode cX9_note 14 = .ok (.iconst (-1), 1) := by decide +kernel
theorem dX9_note_15 : decode cX9_note 15 = .ok (.ireturn, 1) := by decide +kernel
theorem dX9_note_16 : decode cX9_note 16 = .ok (.iload_n 3, 1) := by decide +kernel
theorem dX9_note_17 : decode cX9_note 17 = .ok (.ifCond .lt 9, 3) := by decide +kernel
theorem dX9_note_20 : decode cX9_note 20 = .ok (.iload_n 3, 1) := by decide +kernel
theorem dX9_note_21 : decode cX9_note 21 = .ok (.bipush 99, 2) := by decide +kernel
theorem dX9_note_23 : decode cX9_note 23 = .ok (.if_icmp .le 6, 3) := by decide +kernel
theorem dX9_note_26 : decode cX9_note 26 = .ok (.bipush (-2), 2) := by decide +kernel
theorem dX9_note_28 : decode cX9_note 28 = .ok (.ireturn, 1) := by decide +kernel
theorem dX9_note_29 : decode cX9_note 29 = .ok (.aload_n 0, 1) := by decide +kernel
theorem dX9_note_30 : decode cX9_note 30 = .ok (.getfield 14, 3) := by decide +kernel
theorem dX9_note_33 : decode cX9_note 33 = .ok (.getfield 176, 3) := by decide +kernel
theorem dX9_note_36 : decode cX9_note 36 = .ok (.getfield 180, 3) := by decide +kernel
theorem dX9_note_39 : decode cX9_note 39 = .ok (.bipush 12, 2) := by decide +kernel
theorem dX9_note_41 : decode cX9_note 41 = .ok (.if_icmp .lt 6, 3) := by decide +kernel
theorem dX9_note_44 : decode cX9_note 44 = .ok (.bipush (-4), 2) := by decide +kernel
theorem dX9_note_46 : decode cX9_note 46 = .ok (.ireturn, 1) := by decide +kernel
theorem dX9_note_47 : decode cX9_note 47 = .ok (.aload_n 0, 1) := by decide +kernel
theorem dX9_note_48 : decode cX9_note 48 = .ok (.getfield 14, 3) := by decide +kernel
theorem dX9_note_51 : decode cX9_note 51 = .ok (.getfield 176, 3) := by decide +kernel
theorem dX9_note_54 : decode cX9_note 54 = .ok (.iload_n 1, 1) := by decide +kernel
theorem dX9_note_55 : decode cX9_note 55 = .ok (.iload_n 2, 1) := by decide +kernel
theorem dX9_note_56 : decode cX9_note 56 = .ok (.iload_n 3, 1) := by decide +kernel
theorem dX9_note_57 : decode cX9_note 57 = .ok (.invokevirtual 183, 3) := by decide +kernel
theorem dX9_note_60 : decode cX9_note 60 = .ok (.ireturn, 1) := by decide +kernel
theorem dX9_clear_0 : decode cX9_clear 0 = .ok (.aload_n 0, 1) := by decide +kernel
theorem dX9_clear_1 : decode cX9_clear 1 = .ok (.getfield 14, 3) := by decide +kernel
theorem dX9_clear_4 : decode cX9_clear 4 = .ok (.getfield 176, 3) := by decide +kernel
theorem dX9_clear_7 : decode cX9_clear 7 = .ok (.getfield 180, 3) := by decide +kernel
theorem dX9_clear_10 : decode cX9_clear 10 = .ok (.istore_n 1, 1) := by decide +kernel
theorem dX9_clear_11 : decode cX9_clear 11 = .ok (.aload_n 0, 1) := by decide +kernel
theorem dX9_clear_12 : decode cX9_clear 12 = .ok (.getfield 14, 3) := by decide +kernel
theorem dX9_clear_15 : decode cX9_clear 15 = .ok (.getfield 176, 3) := by decide +kernel
theorem dX9_clear_18 : decode cX9_clear 18 = .ok (.iconst 0, 1) := by decide +kernel
theorem dX9_clear_19 : decode cX9_clear 19 = .ok (.putfield 180, 3) := by decide +kernel
theorem dX9_clear_22 : decode cX9_clear 22 = .ok (.iload_n 1, 1) := by decide +kernel
theorem dX9_clear_23 : decode cX9_clear 23 = .ok (.ireturn, 1) := by decide +kernel
theorem dX9_fits_0 : decode cX9_fits 0 = .ok (.aload_n 0, 1) := by decide +kernel
theorem dX9_fits_1 : decode cX9_fits 1 = .ok (.getfield 14, 3) := by decide +kernel
theorem dX9_fits_4 : decode cX9_fits 4 = .ok (.getfield 119, 3) := by decide +kernel
theorem dX9_fits_7 : decode cX9_fits 7 = .ok (.iload_n 1, 1) := by decide +kernel
theorem dX9_fits_8 : decode cX9_fits 8 = .ok (.invokevirtual 131, 3) := by decide +kernel
theorem dX9_fits_11 : decode cX9_fits 11 = .ok (.ifCond .ne 5, 3) := by decide +kernel
theorem dX9_fits_14 : decode cX9_fits 14 = .ok (.iconst (-1), 1) := by decide +kernel
theorem dX9_fits_15 : decode cX9_fits 15 = .ok (.ireturn, 1) := by decide +kernel
theorem dX9_fits_16 : decode cX9_fits 16 = .ok (.aload_n 0, 1) := by decide +kernel
theorem dX9_fits_17 : decode cX9_fits 17 = .ok (.invokevirtual 107, 3) := by decide +kernel
theorem dX9_fits_20 : decode cX9_fits 20 = .ok (.aload_n 0, 1) := by decide +kernel
theorem dX9_fits_21 : decode cX9_fits 21 = .ok (.iload_n 1, 1) := by decide +kernel
theorem dX9_fits_22 : decode cX9_fits 22 = .ok (.invokevirtual 185, 3) := by decide +kernel
theorem dX9_fits_25 : decode cX9_fits 25 = .ok (.ireturn, 1) := by decide +kernel
theorem dX9_odds_0 : decode cX9_odds 0 = .ok (.aload_n 0, 1) := by decide +kernel
theorem dX9_odds_1 : decode cX9_odds 1 = .ok (.getfield 14, 3) := by decide +kernel
theorem dX9_odds_4 : decode cX9_odds 4 = .ok (.getfield 119, 3) := by decide +kernel
theorem dX9_odds_7 : decode cX9_odds 7 = .ok (.iload_n 1, 1) := by decide +kernel
theorem dX9_odds_8 : decode cX9_odds 8 = .ok (.invokevirtual 131, 3) := by decide +kernel
theorem dX9_odds_11 : decode cX9_odds 11 = .ok (.ifCond .eq 12, 3) := by decide +kernel
theorem dX9_odds_14 : decode cX9_odds 14 = .ok (.iload_n 2, 1) := by decide +kernel
theorem dX9_odds_15 : decode cX9_odds 15 = .ok (.ifCond .lt 8, 3) := by decide +kernel
theorem dX9_odds_18 : decode cX9_odds 18 = .ok (.iload_n 2, 1) := by decide +kernel
theorem dX9_odds_19 : decode cX9_odds 19 = .ok (.iconst 1, 1) := by decide +kernel
theorem dX9_odds_20 : decode cX9_odds 20 = .ok (.if_icmp .le 5, 3) := by decide +kernel
theorem dX9_odds_23 : decode cX9_odds 23 = .ok (.iconst (-1), 1) := by decide +kernel
theorem dX9_odds_24 : decode cX9_odds 24 = .ok (.ireturn, 1) := by decide +kernel
theorem dX9_odds_25 : decode cX9_odds 25 = .ok (.aload_n 0, 1) := by decide +kernel
theorem dX9_odds_26 : decode cX9_odds 26 = .ok (.invokevirtual 107, 3) := by decide +kernel
theorem dX9_odds_29 : decode cX9_odds 29 = .ok (.iconst 0, 1) := by decide +kernel
theorem dX9_odds_30 : decode cX9_odds 30 = .ok (.istore_n 3, 1) := by decide +kernel
theorem dX9_odds_31 : decode cX9_odds 31 = .ok (.iconst 0, 1) := by decide +kernel
theorem dX9_odds_32 : decode cX9_odds 32 = .ok (.istore 4, 2) := by decide +kernel
theorem dX9_odds_34 : decode cX9_odds 34 = .ok (.iload 4, 2) := by decide +kernel
theorem dX9_odds_36 : decode cX9_odds 36 = .ok (.aload_n 0, 1) := by decide +kernel
theorem dX9_odds_37 : decode cX9_odds 37 = .ok (.getfield 14, 3) := by decide +kernel
theorem dX9_odds_40 : decode cX9_odds 40 = .ok (.getfield 119, 3) := by decide +kernel
theorem dX9_odds_43 : decode cX9_odds 43 = .ok (.getfield 123, 3) := by decide +kernel
theorem dX9_odds_46 : decode cX9_odds 46 = .ok (.if_icmp .ge 21, 3) := by decide +kernel
theorem dX9_odds_49 : decode cX9_odds 49 = .ok (.iload_n 3, 1) := by decide +kernel
theorem dX9_odds_50 : decode cX9_odds 50 = .ok (.aload_n 0, 1) := by decide +kernel
theorem dX9_odds_51 : decode cX9_odds 51 = .ok (.iload 4, 2) := by decide +kernel
theorem dX9_odds_53 : decode cX9_odds 53 = .ok (.invokevirtual 185, 3) := by decide +kernel
theorem dX9_odds_56 : decode cX9_odds 56 = .ok (.invokestatic 188, 3) := by decide +kernel
theorem dX9_odds_59 : decode cX9_odds 59 = .ok (.iadd, 1) := by decide +kernel
theorem dX9_odds_60 : decode cX9_odds 60 = .ok (.istore_n 3, 1) := by decide +kernel
theorem dX9_odds_61 : decode cX9_odds 61 = .ok (.iinc 4 1, 3) := by decide +kernel
theorem dX9_odds_64 : decode cX9_odds 64 = .ok (.goto (-30), 3) := by decide +kernel
theorem dX9_odds_67 : decode cX9_odds 67 = .ok (.iload_n 3, 1) := by decide +kernel
theorem dX9_odds_68 : decode cX9_odds 68 = .ok (.ifCond .ne 5, 3) := by decide +kernel
theorem dX9_odds_71 : decode cX9_odds 71 = .ok (.iload_n 2, 1) := by decide +kernel
theorem dX9_odds_72 : decode cX9_odds 72 = .ok (.ireturn, 1) := by decide +kernel
theorem dX9_odds_73 : decode cX9_odds 73 = .ok (.aload_n 0, 1) := by decide +kernel
theorem dX9_odds_74 : decode cX9_odds 74 = .ok (.iload_n 1, 1) := by decide +kernel
theorem dX9_odds_75 : decode cX9_odds 75 = .ok (.invokevirtual 185, 3) := by decide +kernel
theorem dX9_odds_78 : decode cX9_odds 78 = .ok (.invokestatic 188, 3) := by decide +kernel
theorem dX9_odds_81 : decode cX9_odds 81 = .ok (.istore 4, 2) := by decide +kernel
theorem dX9_odds_83 : decode cX9_odds 83 = .ok (.iload 4, 2) := by decide +kernel
theorem dX9_odds_85 : decode cX9_odds 85 = .ok (.iload_n 3, 1) := by decide +kernel
theorem dX9_odds_86 : decode cX9_odds 86 = .ok (.invokestatic 192, 3) := by decide +kernel
theorem dX9_odds_89 : decode cX9_odds 89 = .ok (.istore 5, 2) := by decide +kernel
theorem dX9_odds_91 : decode cX9_odds 91 = .ok (.iload 5, 2) := by decide +kernel
theorem dX9_odds_93 : decode cX9_odds 93 = .ok (.iconst 1, 1) := by decide +kernel
theorem dX9_odds_94 : decode cX9_odds 94 = .ok (.if_icmp .ge 5, 3) := by decide +kernel
theorem dX9_odds_97 : decode cX9_odds 97 = .ok (.iload_n 2, 1) := by decide +kernel
theorem dX9_odds_98 : decode cX9_odds 98 = .ok (.ireturn, 1) := by decide +kernel
theorem dX9_odds_99 : decode cX9_odds 99 = .ok (.iload_n 2, 1) := by decide +kernel
theorem dX9_odds_100 : decode cX9_odds 100 = .ok (.ifCond .ne 8, 3) := by decide +kernel
theorem dX9_odds_103 : decode cX9_odds 103 = .ok (.iload 4, 2) := by decide +kernel
theorem dX9_odds_105 : decode cX9_odds 105 = .ok (.goto 4, 3) := by decide +kernel
theorem dX9_odds_108 : decode cX9_odds 108 = .ok (.iload_n 3, 1) := by decide +kernel
theorem dX9_odds_109 : decode cX9_odds 109 = .ok (.iload 5, 2) := by decide +kernel
theorem dX9_odds_111 : decode cX9_odds 111 = .ok (.idiv, 1) := by decide +kernel
theorem dX9_odds_112 : decode cX9_odds 112 = .ok (.ireturn, 1) := by decide +kernel
theorem dX9_which_0 : decode cX9_which 0 = .ok (.aload_n 0, 1) := by decide +kernel
theorem dX9_which_1 : decode cX9_which 1 = .ok (.invokevirtual 107, 3) := by decide +kernel
theorem dX9_which_4 : decode cX9_which 4 = .ok (.iload_n 1, 1) := by decide +kernel
theorem dX9_which_5 : decode cX9_which 5 = .ok (.tableswitch 42 0 2 #[27, 32, 37], 27) := by decide +kernel
theorem dX9_which_32 : decode cX9_which 32 = .ok (.aload_n 0, 1) := by decide +kernel
theorem dX9_which_33 : decode cX9_which 33 = .ok (.invokevirtual 195, 3) := by decide +kernel
theorem dX9_which_36 : decode cX9_which 36 = .ok (.ireturn, 1) := by decide +kernel
theorem dX9_which_37 : decode cX9_which 37 = .ok (.aload_n 0, 1) := by decide +kernel
theorem dX9_which_38 : decode cX9_which 38 = .ok (.invokevirtual 199, 3) := by decide +kernel
theorem dX9_which_41 : decode cX9_which 41 = .ok (.ireturn, 1) := by decide +kernel
theorem dX9_which_42 : decode cX9_which 42 = .ok (.aload_n 0, 1) := by decide +kernel
theorem dX9_which_43 : decode cX9_which 43 = .ok (.invokevirtual 202, 3) := by decide +kernel
theorem dX9_which_46 : decode cX9_which 46 = .ok (.ireturn, 1) := by decide +kernel
theorem dX9_which_47 : decode cX9_which 47 = .ok (.iconst (-1), 1) := by decide +kernel
theorem dX9_which_48 : decode cX9_which 48 = .ok (.ireturn, 1) := by decide +kernel
theorem dX9_next_0 : decode cX9_next 0 = .ok (.aload_n 0, 1) := by decide +kernel
theorem dX9_next_1 : decode cX9_next 1 = .ok (.getfield 14, 3) := by decide +kernel
theorem dX9_next_4 : decode cX9_next 4 = .ok (.getfield 119, 3) := by decide +kernel
theorem dX9_next_7 : decode cX9_next 7 = .ok (.getfield 123, 3) := by decide +kernel
theorem dX9_next_10 : decode cX9_next 10 = .ok (.ifCond .ne 6, 3) := by decide +kernel
theorem dX9_next_13 : decode cX9_next 13 = .ok (.bipush (-5), 2) := by decide +kernel
theorem dX9_next_15 : decode cX9_next 15 = .ok (.ireturn, 1) := by decide +kernel
theorem dX9_next_16 : decode cX9_next 16 = .ok (.aload_n 0, 1) := by decide +kernel
theorem dX9_next_17 : decode cX9_next 17 = .ok (.invokevirtual 107, 3) := by decide +kernel
theorem dX9_next_20 : decode cX9_next 20 = .ok (.bipush (-5), 2) := by decide +kernel
theorem dX9_next_22 : decode cX9_next 22 = .ok (.istore_n 1, 1) := by decide +kernel
theorem dX9_next_23 : decode cX9_next 23 = .ok (.bipush 11, 2) := by decide +kernel
theorem dX9_next_25 : decode cX9_next 25 = .ok (.istore_n 2, 1) := by decide +kernel
theorem dX9_next_26 : decode cX9_next 26 = .ok (.iconst 0, 1) := by decide +kernel
theorem dX9_next_27 : decode cX9_next 27 = .ok (.istore_n 3, 1) := by decide +kernel
theorem dX9_next_28 : decode cX9_next 28 = .ok (.iload_n 3, 1) := by decide +kernel
theorem dX9_next_29 : decode cX9_next 29 = .ok (.bipush 10, 2) := by decide +kernel
theorem dX9_next_31 : decode cX9_next 31 = .ok (.if_icmp .ge 51, 3) := by decide +kernel
theorem dX9_next_34 : decode cX9_next 34 = .ok (.iconst 0, 1) := by decide +kernel
theorem dX9_next_35 : decode cX9_next 35 = .ok (.istore 4, 2) := by decide +kernel
theorem dX9_next_37 : decode cX9_next 37 = .ok (.iload 4, 2) := by decide +kernel
theorem dX9_next_39 : decode cX9_next 39 = .ok (.bipush 40, 2) := by decide +kernel
theorem dX9_next_41 : decode cX9_next 41 = .ok (.if_icmp .ge 35, 3) := by decide +kernel
theorem dX9_next_44 : decode cX9_next 44 = .ok (.aload_n 0, 1) := by decide +kernel
theorem dX9_next_45 : decode cX9_next 45 = .ok (.iload_n 3, 1) := by decide +kernel
theorem dX9_next_46 : decode cX9_next 46 = .ok (.iload 4, 2) := by decide +kernel
theorem dX9_next_48 : decode cX9_next 48 = .ok (.invokevirtual 205, 3) := by decide +kernel
theorem dX9_next_51 : decode cX9_next 51 = .ok (.istore 5, 2) := by decide +kernel
theorem dX9_next_53 : decode cX9_next 53 = .ok (.iload 5, 2) := by decide +kernel
theorem dX9_next_55 : decode cX9_next 55 = .ok (.iload_n 2, 1) := by decide +kernel
theorem dX9_next_56 : decode cX9_next 56 = .ok (.if_icmp .ge 14, 3) := by decide +kernel
theorem dX9_next_59 : decode cX9_next 59 = .ok (.iload 5, 2) := by decide +kernel
theorem dX9_next_61 : decode cX9_next 61 = .ok (.istore_n 2, 1) := by decide +kernel
theorem dX9_next_62 : decode cX9_next 62 = .ok (.bipush 100, 2) := by decide +kernel
theorem dX9_next_64 : decode cX9_next 64 = .ok (.iload_n 3, 1) := by decide +kernel
theorem dX9_next_65 : decode cX9_next 65 = .ok (.imul, 1) := by decide +kernel
theorem dX9_next_66 : decode cX9_next 66 = .ok (.iload 4, 2) := by decide +kernel
theorem dX9_next_68 : decode cX9_next 68 = .ok (.iadd, 1) := by decide +kernel
theorem dX9_next_69 : decode cX9_next 69 = .ok (.istore_n 1, 1) := by decide +kernel
theorem dX9_next_70 : decode cX9_next 70 = .ok (.iinc 4 1, 3) := by decide +kernel
theorem dX9_next_73 : decode cX9_next 73 = .ok (.goto (-36), 3) := by decide +kernel
theorem dX9_next_76 : decode cX9_next 76 = .ok (.iinc 3 1, 3) := by decide +kernel
theorem dX9_next_79 : decode cX9_next 79 = .ok (.goto (-51), 3) := by decide +kernel
theorem dX9_next_82 : decode cX9_next 82 = .ok (.iload_n 1, 1) := by decide +kernel
theorem dX9_next_83 : decode cX9_next 83 = .ok (.ireturn, 1) := by decide +kernel
theorem dX9_least_0 : decode cX9_least 0 = .ok (.iload_n 1, 1) := by decide +kernel
theorem dX9_least_1 : decode cX9_least 1 = .ok (.invokestatic 116, 3) := by decide +kernel
theorem dX9_least_4 : decode cX9_least 4 = .ok (.ifCond .ne 5, 3) := by decide +kernel
theorem dX9_least_7 : decode cX9_least 7 = .ok (.iconst (-1), 1) := by decide +kernel
theorem dX9_least_8 : decode cX9_least 8 = .ok (.ireturn, 1) := by decide +kernel
theorem dX9_least_9 : decode cX9_least 9 = .ok (.iload_n 2, 1) := by decide +kernel
theorem dX9_least_10 : decode cX9_least 10 = .ok (.ifCond .lt 9, 3) := by decide +kernel
theorem dX9_least_13 : decode cX9_least 13 = .ok (.iload_n 2, 1) := by decide +kernel
theorem dX9_least_14 : decode cX9_least 14 = .ok (.bipush 99, 2) := by decide +kernel
theorem dX9_least_16 : decode cX9_least 16 = .ok (.if_icmp .le 6, 3) := by decide +kernel
theorem dX9_least_19 : decode cX9_least 19 = .ok (.bipush (-2), 2) := by decide +kernel
theorem dX9_least_21 : decode cX9_least 21 = .ok (.ireturn, 1) := by decide +kernel
theorem dX9_least_22 : decode cX9_least 22 = .ok (.aload_n 0, 1) := by decide +kernel
theorem dX9_least_23 : decode cX9_least 23 = .ok (.invokevirtual 107, 3) := by decide +kernel
theorem dX9_least_26 : decode cX9_least 26 = .ok (.aload_n 0, 1) := by decide +kernel
theorem dX9_least_27 : decode cX9_least 27 = .ok (.getfield 14, 3) := by decide +kernel
theorem dX9_least_30 : decode cX9_least 30 = .ok (.getfield 119, 3) := by decide +kernel
theorem dX9_least_33 : decode cX9_least 33 = .ok (.invokevirtual 208, 3) := by decide +kernel
theorem dX9_least_36 : decode cX9_least 36 = .ok (.istore_n 3, 1) := by decide +kernel
theorem dX9_least_37 : decode cX9_least 37 = .ok (.iconst 0, 1) := by decide +kernel
theorem dX9_least_38 : decode cX9_least 38 = .ok (.istore 4, 2) := by decide +kernel
theorem dX9_least_40 : decode cX9_least 40 = .ok (.iload 4, 2) := by decide +kernel
theorem dX9_least_42 : decode cX9_least 42 = .ok (.aload_n 0, 1) := by decide +kernel
theorem dX9_least_43 : decode cX9_least 43 = .ok (.getfield 14, 3) := by decide +kernel
theorem dX9_least_46 : decode cX9_least 46 = .ok (.getfield 119, 3) := by decide +kernel
theorem dX9_least_49 : decode cX9_least 49 = .ok (.getfield 123, 3) := by decide +kernel
theorem dX9_least_52 : decode cX9_least 52 = .ok (.if_icmp .ge 23, 3) := by decide +kernel
theorem dX9_least_55 : decode cX9_least 55 = .ok (.aload_n 0, 1) := by decide +kernel
theorem dX9_least_56 : decode cX9_least 56 = .ok (.getfield 49, 3) := by decide +kernel
theorem dX9_least_59 : decode cX9_least 59 = .ok (.iload 4, 2) := by decide +kernel
theorem dX9_least_61 : decode cX9_least 61 = .ok (.aload_n 0, 1) := by decide +kernel
theorem dX9_least_62 : decode cX9_least 62 = .ok (.iload 4, 2) := by decide +kernel
theorem dX9_least_64 : decode cX9_least 64 = .ok (.iload_n 1, 1) := by decide +kernel
theorem dX9_least_65 : decode cX9_least 65 = .ok (.invokevirtual 211, 3) := by decide +kernel
theorem dX9_least_68 : decode cX9_least 68 = .ok (.iastore, 1) := by decide +kernel
theorem dX9_least_69 : decode cX9_least 69 = .ok (.iinc 4 1, 3) := by decide +kernel
theorem dX9_least_72 : decode cX9_least 72 = .ok (.goto (-32), 3) := by decide +kernel
theorem dX9_least_75 : decode cX9_least 75 = .ok (.iload_n 3, 1) := by decide +kernel
theorem dX9_least_76 : decode cX9_least 76 = .ok (.istore 4, 2) := by decide +kernel
theorem dX9_least_78 : decode cX9_least 78 = .ok (.iconst 0, 1) := by decide +kernel
theorem dX9_least_79 : decode cX9_least 79 = .ok (.istore 5, 2) := by decide +kernel
theorem dX9_least_81 : decode cX9_least 81 = .ok (.iload 5, 2) := by decide +kernel
theorem dX9_least_83 : decode cX9_least 83 = .ok (.iconst 1, 1) := by decide +kernel
theorem dX9_least_84 : decode cX9_least 84 = .ok (.aload_n 0, 1) := by decide +kernel
theorem dX9_least_85 : decode cX9_least 85 = .ok (.getfield 14, 3) := by decide +kernel
theorem dX9_least_88 : decode cX9_least 88 = .ok (.getfield 119, 3) := by decide +kernel
theorem dX9_least_91 : decode cX9_least 91 = .ok (.getfield 123, 3) := by decide +kernel
theorem dX9_least_94 : decode cX9_least 94 = .ok (.ishl, 1) := by decide +kernel
theorem dX9_least_95 : decode cX9_least 95 = .ok (.if_icmp .ge 62, 3) := by decide +kernel
theorem dX9_least_98 : decode cX9_least 98 = .ok (.iload 5, 2) := by decide +kernel
theorem dX9_least_100 : decode cX9_least 100 = .ok (.iload_n 3, 1) := by decide +kernel
theorem dX9_least_101 : decode cX9_least 101 = .ok (.iconst (-1), 1) := by decide +kernel
theorem dX9_least_102 : decode cX9_least 102 = .ok (.ixor, 1) := by decide +kernel
theorem dX9_least_103 : decode cX9_least 103 = .ok (.iand, 1) := by decide +kernel
theorem dX9_least_104 : decode cX9_least 104 = .ok (.ifCond .ne 20, 3) := by decide +kernel
theorem dX9_least_107 : decode cX9_least 107 = .ok (.iload 5, 2) := by decide +kernel
theorem dX9_least_109 : decode cX9_least 109 = .ok (.invokestatic 188, 3) := by decide +kernel
theorem dX9_least_112 : decode cX9_least 112 = .ok (.iload 4, 2) := by decide +kernel
theorem dX9_least_114 : decode cX9_least 114 = .ok (.invokestatic 188, 3) := by decide +kernel
theorem dX9_least_117 : decode cX9_least 117 = .ok (.if_icmp .ge 7, 3) := by decide +kernel
theorem dX9_least_120 : decode cX9_least 120 = .ok (.iconst 1, 1) := by decide +kernel
theorem dX9_least_121 : decode cX9_least 121 = .ok (.goto 4, 3) := by decide +kernel
theorem dX9_least_124 : decode cX9_least 124 = .ok (.iconst 0, 1) := by decide +kernel
theorem dX9_least_125 : decode cX9_least 125 = .ok (.istore 6, 2) := by decide +kernel
theorem dX9_least_127 : decode cX9_least 127 = .ok (.iload 6, 2) := by decide +kernel
theorem dX9_least_129 : decode cX9_least 129 = .ok (.ifCond .eq 22, 3) := by decide +kernel
theorem dX9_least_132 : decode cX9_least 132 = .ok (.aload_n 0, 1) := by decide +kernel
theorem dX9_least_133 : decode cX9_least 133 = .ok (.iconst 0, 1) := by decide +kernel
theorem dX9_least_134 : decode cX9_least 134 = .ok (.iload_n 3, 1) := by decide +kernel
theorem dX9_least_135 : decode cX9_least 135 = .ok (.iload 5, 2) := by decide +kernel
theorem dX9_least_137 : decode cX9_least 137 = .ok (.iconst (-1), 1) := by decide +kernel
theorem dX9_least_138 : decode cX9_least 138 = .ok (.ixor, 1) := by decide +kernel
theorem dX9_least_139 : decode cX9_least 139 = .ok (.iand, 1) := by decide +kernel
theorem dX9_least_140 : decode cX9_least 140 = .ok (.invokevirtual 214, 3) := by decide +kernel
theorem dX9_least_143 : decode cX9_least 143 = .ok (.iload_n 2, 1) := by decide +kernel
theorem dX9_least_144 : decode cX9_least 144 = .ok (.if_icmp .gt 7, 3) := by decide +kernel
theorem dX9_least_147 : decode cX9_least 147 = .ok (.iload 5, 2) := by decide +kernel
theorem dX9_least_149 : decode cX9_least 149 = .ok (.istore 4, 2) := by decide +kernel
theorem dX9_least_151 : decode cX9_least 151 = .ok (.iinc 5 1, 3) := by decide +kernel
theorem dX9_least_154 : decode cX9_least 154 = .ok (.goto (-73), 3) := by decide +kernel
theorem dX9_least_157 : decode cX9_least 157 = .ok (.iload 4, 2) := by decide +kernel
theorem dX9_least_159 : decode cX9_least 159 = .ok (.ireturn, 1) := by decide +kernel
theorem dX9_eased_0 : decode cX9_eased 0 = .ok (.iload_n 1, 1) := by decide +kernel
theorem dX9_eased_1 : decode cX9_eased 1 = .ok (.invokestatic 116, 3) := by decide +kernel
theorem dX9_eased_4 : decode cX9_eased 4 = .ok (.ifCond .ne 5, 3) := by decide +kernel
theorem dX9_eased_7 : decode cX9_eased 7 = .ok (.iconst (-1), 1) := by decide +kernel
theorem dX9_eased_8 : decode cX9_eased 8 = .ok (.ireturn, 1) := by decide +kernel
theorem dX9_eased_9 : decode cX9_eased 9 = .ok (.iload_n 2, 1) := by decide +kernel
theorem dX9_eased_10 : decode cX9_eased 10 = .ok (.ifCond .lt 9, 3) := by decide +kernel
theorem dX9_eased_13 : decode cX9_eased 13 = .ok (.iload_n 2, 1) := by decide +kernel
theorem dX9_eased_14 : decode cX9_eased 14 = .ok (.bipush 40, 2) := by decide +kernel
theorem dX9_eased_16 : decode cX9_eased 16 = .ok (.if_icmp .le 6, 3) := by decide +kernel
theorem dX9_eased_19 : decode cX9_eased 19 = .ok (.bipush (-2), 2) := by decide +kernel
theorem dX9_eased_21 : decode cX9_eased 21 = .ok (.ireturn, 1) := by decide +kernel
theorem dX9_eased_22 : decode cX9_eased 22 = .ok (.aload_n 0, 1) := by decide +kernel
theorem dX9_eased_23 : decode cX9_eased 23 = .ok (.invokevirtual 107, 3) := by decide +kernel
theorem dX9_eased_26 : decode cX9_eased 26 = .ok (.iconst 0, 1) := by decide +kernel
theorem dX9_eased_27 : decode cX9_eased 27 = .ok (.istore_n 3, 1) := by decide +kernel
theorem dX9_eased_28 : decode cX9_eased 28 = .ok (.iconst 0, 1) := by decide +kernel
theorem dX9_eased_29 : decode cX9_eased 29 = .ok (.istore 4, 2) := by decide +kernel
theorem dX9_eased_31 : decode cX9_eased 31 = .ok (.iload 4, 2) := by decide +kernel
theorem dX9_eased_33 : decode cX9_eased 33 = .ok (.aload_n 0, 1) := by decide +kernel
theorem dX9_eased_34 : decode cX9_eased 34 = .ok (.getfield 14, 3) := by decide +kernel
theorem dX9_eased_37 : decode cX9_eased 37 = .ok (.getfield 119, 3) := by decide +kernel
theorem dX9_eased_40 : decode cX9_eased 40 = .ok (.getfield 123, 3) := by decide +kernel
theorem dX9_eased_43 : decode cX9_eased 43 = .ok (.if_icmp .ge 118, 3) := by decide +kernel
theorem dX9_eased_46 : decode cX9_eased 46 = .ok (.aload_n 0, 1) := by decide +kernel
theorem dX9_eased_47 : decode cX9_eased 47 = .ok (.getfield 14, 3) := by decide +kernel
theorem dX9_eased_50 : decode cX9_eased 50 = .ok (.getfield 119, 3) := by decide +kernel
theorem dX9_eased_53 : decode cX9_eased 53 = .ok (.iload 4, 2) := by decide +kernel
theorem dX9_eased_55 : decode cX9_eased 55 = .ok (.invokevirtual 156, 3) := by decide +kernel
theorem dX9_eased_58 : decode cX9_eased 58 = .ok (.ifCond .eq 97, 3) := by decide +kernel
theorem dX9_eased_61 : decode cX9_eased 61 = .ok (.aload_n 0, 1) := by decide +kernel
theorem dX9_eased_62 : decode cX9_eased 62 = .ok (.getfield 14, 3) := by decide +kernel
theorem dX9_eased_65 : decode cX9_eased 65 = .ok (.getfield 119, 3) := by decide +kernel
theorem dX9_eased_68 : decode cX9_eased 68 = .ok (.getfield 134, 3) := by decide +kernel
theorem dX9_eased_71 : decode cX9_eased 71 = .ok (.iload 4, 2) := by decide +kernel
theorem dX9_eased_73 : decode cX9_eased 73 = .ok (.iaload, 1) := by decide +kernel
theorem dX9_eased_74 : decode cX9_eased 74 = .ok (.iconst 2, 1) := by decide +kernel
theorem dX9_eased_75 : decode cX9_eased 75 = .ok (.invokestatic 217, 3) := by decide +kernel
theorem dX9_eased_78 : decode cX9_eased 78 = .ok (.ifCond .ne 6, 3) := by decide +kernel
theorem dX9_eased_81 : decode cX9_eased 81 = .ok (.goto 74, 3) := by decide +kernel
theorem dX9_eased_84 : decode cX9_eased 84 = .ok (.aload_n 0, 1) := by decide +kernel
theorem dX9_eased_85 : decode cX9_eased 85 = .ok (.getfield 14, 3) := by decide +kernel
theorem dX9_eased_88 : decode cX9_eased 88 = .ok (.getfield 119, 3) := by decide +kernel
theorem dX9_eased_91 : decode cX9_eased 91 = .ok (.getfield 143, 3) := by decide +kernel
theorem dX9_eased_94 : decode cX9_eased 94 = .ok (.iload 4, 2) := by decide +kernel
theorem dX9_eased_96 : decode cX9_eased 96 = .ok (.iaload, 1) := by decide +kernel
theorem dX9_eased_97 : decode cX9_eased 97 = .ok (.istore 5, 2) := by decide +kernel
theorem dX9_eased_99 : decode cX9_eased 99 = .ok (.iload_n 3, 1) := by decide +kernel
theorem dX9_eased_100 : decode cX9_eased 100 = .ok (.aload_n 0, 1) := by decide +kernel
theorem dX9_eased_101 : decode cX9_eased 101 = .ok (.iload 4, 2) := by decide +kernel
theorem dX9_eased_103 : decode cX9_eased 103 = .ok (.iload_n 1, 1) := by decide +kernel
theorem dX9_eased_104 : decode cX9_eased 104 = .ok (.invokevirtual 211, 3) := by decide +kernel
theorem dX9_eased_107 : decode cX9_eased 107 = .ok (.iadd, 1) := by decide +kernel
theorem dX9_eased_108 : decode cX9_eased 108 = .ok (.istore_n 3, 1) := by decide +kernel
theorem dX9_eased_109 : decode cX9_eased 109 = .ok (.aload_n 0, 1) := by decide +kernel
theorem dX9_eased_110 : decode cX9_eased 110 = .ok (.getfield 14, 3) := by decide +kernel
theorem dX9_eased_113 : decode cX9_eased 113 = .ok (.getfield 119, 3) := by decide +kernel
theorem dX9_eased_116 : decode cX9_eased 116 = .ok (.getfield 143, 3) := by decide +kernel
theorem dX9_eased_119 : decode cX9_eased 119 = .ok (.iload 4, 2) := by decide +kernel
theorem dX9_eased_121 : decode cX9_eased 121 = .ok (.iconst 1, 1) := by decide +kernel
theorem dX9_eased_122 : decode cX9_eased 122 = .ok (.iload 5, 2) := by decide +kernel
theorem dX9_eased_124 : decode cX9_eased 124 = .ok (.iload_n 2, 1) := by decide +kernel
theorem dX9_eased_125 : decode cX9_eased 125 = .ok (.isub, 1) := by decide +kernel
theorem dX9_eased_126 : decode cX9_eased 126 = .ok (.invokestatic 221, 3) := by decide +kernel
theorem dX9_eased_129 : decode cX9_eased 129 = .ok (.iastore, 1) := by decide +kernel
theorem dX9_eased_130 : decode cX9_eased 130 = .ok (.iload_n 3, 1) := by decide +kernel
theorem dX9_eased_131 : decode cX9_eased 131 = .ok (.aload_n 0, 1) := by decide +kernel
theorem dX9_eased_132 : decode cX9_eased 132 = .ok (.iload 4, 2) := by decide +kernel
theorem dX9_eased_134 : decode cX9_eased 134 = .ok (.iload_n 1, 1) := by decide +kernel
theorem dX9_eased_135 : decode cX9_eased 135 = .ok (.invokevirtual 211, 3) := by decide +kernel
theorem dX9_eased_138 : decode cX9_eased 138 = .ok (.isub, 1) := by decide +kernel
theorem dX9_eased_139 : decode cX9_eased 139 = .ok (.istore_n 3, 1) := by decide +kernel
theorem dX9_eased_140 : decode cX9_eased 140 = .ok (.aload_n 0, 1) := by decide +kernel
theorem dX9_eased_141 : decode cX9_eased 141 = .ok (.getfield 14, 3) := by decide +kernel
theorem dX9_eased_144 : decode cX9_eased 144 = .ok (.getfield 119, 3) := by decide +kernel
theorem dX9_eased_147 : decode cX9_eased 147 = .ok (.getfield 143, 3) := by decide +kernel
theorem dX9_eased_150 : decode cX9_eased 150 = .ok (.iload 4, 2) := by decide +kernel
theorem dX9_eased_152 : decode cX9_eased 152 = .ok (.iload 5, 2) := by decide +kernel
theorem dX9_eased_154 : decode cX9_eased 154 = .ok (.iastore, 1) := by decide +kernel
theorem dX9_eased_155 : decode cX9_eased 155 = .ok (.iinc 4 1, 3) := by decide +kernel
theorem dX9_eased_158 : decode cX9_eased 158 = .ok (.goto (-127), 3) := by decide +kernel
theorem dX9_eased_161 : decode cX9_eased 161 = .ok (.iload_n 3, 1) := by decide +kernel
theorem dX9_eased_162 : decode cX9_eased 162 = .ok (.ireturn, 1) := by decide +kernel
theorem dX9_parted_0 : decode cX9_parted 0 = .ok (.aload_n 0, 1) := by decide +kernel
theorem dX9_parted_1 : decode cX9_parted 1 = .ok (.getfield 14, 3) := by decide +kernel
theorem dX9_parted_4 : decode cX9_parted 4 = .ok (.getfield 119, 3) := by decide +kernel
theorem dX9_parted_7 : decode cX9_parted 7 = .ok (.iload_n 1, 1) := by decide +kernel
theorem dX9_parted_8 : decode cX9_parted 8 = .ok (.invokevirtual 131, 3) := by decide +kernel
theorem dX9_parted_11 : decode cX9_parted 11 = .ok (.ifCond .eq 22, 3) := by decide +kernel
theorem dX9_parted_14 : decode cX9_parted 14 = .ok (.aload_n 0, 1) := by decide +kernel
theorem dX9_parted_15 : decode cX9_parted 15 = .ok (.getfield 14, 3) := by decide +kernel
theorem dX9_parted_18 : decode cX9_parted 18 = .ok (.getfield 119, 3) := by decide +kernel
theorem dX9_parted_21 : decode cX9_parted 21 = .ok (.iload_n 2, 1) := by decide +kernel
theorem dX9_parted_22 : decode cX9_parted 22 = .ok (.invokevirtual 131, 3) := by decide +kernel
theorem dX9_parted_25 : decode cX9_parted 25 = .ok (.ifCond .eq 8, 3) := by decide +kernel
theorem dX9_parted_28 : decode cX9_parted 28 = .ok (.iload_n 1, 1) := by decide +kernel
theorem dX9_parted_29 : decode cX9_parted 29 = .ok (.iload_n 2, 1) := by decide +kernel
theorem dX9_parted_30 : decode cX9_parted 30 = .ok (.if_icmp .ne 7, 3) := by decide +kernel
theorem dX9_parted_33 : decode cX9_parted 33 = .ok (.ldc2_w 226, 3) := by decide +kernel
theorem dX9_parted_36 : decode cX9_parted 36 = .ok (.lreturn, 1) := by decide +kernel
theorem dX9_parted_37 : decode cX9_parted 37 = .ok (.aload_n 0, 1) := by decide +kernel
theorem dX9_parted_38 : decode cX9_parted 38 = .ok (.invokevirtual 107, 3) := by decide +kernel
theorem dX9_parted_41 : decode cX9_parted 41 = .ok (.aload_n 0, 1) := by decide +kernel
theorem dX9_parted_42 : decode cX9_parted 42 = .ok (.getfield 35, 3) := by decide +kernel
theorem dX9_parted_45 : decode cX9_parted 45 = .ok (.iload_n 1, 1) := by decide +kernel
theorem dX9_parted_46 : decode cX9_parted 46 = .ok (.invokevirtual 228, 3) := by decide +kernel
theorem dX9_parted_49 : decode cX9_parted 49 = .ok (.aload_n 0, 1) := by decide +kernel
theorem dX9_parted_50 : decode cX9_parted 50 = .ok (.getfield 35, 3) := by decide +kernel
theorem dX9_parted_53 : decode cX9_parted 53 = .ok (.iload_n 2, 1) := by decide +kernel
theorem dX9_parted_54 : decode cX9_parted 54 = .ok (.invokevirtual 228, 3) := by decide +kernel
theorem dX9_parted_57 : decode cX9_parted 57 = .ok (.lxor, 1) := by decide +kernel
theorem dX9_parted_58 : decode cX9_parted 58 = .ok (.lreturn, 1) := by decide +kernel
theorem dX9_quiet_0 : decode cX9_quiet 0 = .ok (.iload_n 1, 1) := by decide +kernel
theorem dX9_quiet_1 : decode cX9_quiet 1 = .ok (.ifCond .lt 8, 3) := by decide +kernel
theorem dX9_quiet_4 : decode cX9_quiet 4 = .ok (.iload_n 1, 1) := by decide +kernel
theorem dX9_quiet_5 : decode cX9_quiet 5 = .ok (.iconst 1, 1) := by decide +kernel
theorem dX9_quiet_6 : decode cX9_quiet 6 = .ok (.if_icmp .le 5, 3) := by decide +kernel
theorem dX9_quiet_9 : decode cX9_quiet 9 = .ok (.iconst (-1), 1) := by decide +kernel
theorem dX9_quiet_10 : decode cX9_quiet 10 = .ok (.ireturn, 1) := by decide +kernel
theorem dX9_quiet_11 : decode cX9_quiet 11 = .ok (.aload_n 0, 1) := by decide +kernel
theorem dX9_quiet_12 : decode cX9_quiet 12 = .ok (.invokevirtual 107, 3) := by decide +kernel
theorem dX9_quiet_15 : decode cX9_quiet 15 = .ok (.aload_n 0, 1) := by decide +kernel
theorem dX9_quiet_16 : decode cX9_quiet 16 = .ok (.lconst 0, 1) := by decide +kernel
theorem dX9_quiet_17 : decode cX9_quiet 17 = .ok (.lconst 0, 1) := by decide +kernel
theorem dX9_quiet_18 : decode cX9_quiet 18 = .ok (.lconst 0, 1) := by decide +kernel
theorem dX9_quiet_19 : decode cX9_quiet 19 = .ok (.invokevirtual 232, 3) := by decide +kernel
theorem dX9_quiet_22 : decode cX9_quiet 22 = .ok (.iconst 0, 1) := by decide +kernel
theorem dX9_quiet_23 : decode cX9_quiet 23 = .ok (.istore_n 2, 1) := by decide +kernel
theorem dX9_quiet_24 : decode cX9_quiet 24 = .ok (.iconst 0, 1) := by decide +kernel
theorem dX9_quiet_25 : decode cX9_quiet 25 = .ok (.istore_n 3, 1) := by decide +kernel
theorem dX9_quiet_26 : decode cX9_quiet 26 = .ok (.iload_n 3, 1) := by decide +kernel
theorem dX9_quiet_27 : decode cX9_quiet 27 = .ok (.aload_n 0, 1) := by decide +kernel
theorem dX9_quiet_28 : decode cX9_quiet 28 = .ok (.getfield 14, 3) := by decide +kernel
theorem dX9_quiet_31 : decode cX9_quiet 31 = .ok (.getfield 119, 3) := by decide +kernel
theorem dX9_quiet_34 : decode cX9_quiet 34 = .ok (.getfield 123, 3) := by decide +kernel
theorem dX9_quiet_37 : decode cX9_quiet 37 = .ok (.if_icmp .ge 42, 3) := by decide +kernel
theorem dX9_quiet_40 : decode cX9_quiet 40 = .ok (.aload_n 0, 1) := by decide +kernel
theorem dX9_quiet_41 : decode cX9_quiet 41 = .ok (.getfield 14, 3) := by decide +kernel
theorem dX9_quiet_44 : decode cX9_quiet 44 = .ok (.getfield 119, 3) := by decide +kernel
theorem dX9_quiet_47 : decode cX9_quiet 47 = .ok (.iload_n 3, 1) := by decide +kernel
theorem dX9_quiet_48 : decode cX9_quiet 48 = .ok (.invokevirtual 156, 3) := by decide +kernel
theorem dX9_quiet_51 : decode cX9_quiet 51 = .ok (.ifCond .eq 22, 3) := by decide +kernel
theorem dX9_quiet_54 : decode cX9_quiet 54 = .ok (.aload_n 0, 1) := by decide +kernel
theorem dX9_quiet_55 : decode cX9_quiet 55 = .ok (.getfield 35, 3) := by decide +kernel
theorem dX9_quiet_58 : decode cX9_quiet 58 = .ok (.iload_n 3, 1) := by decide +kernel
theorem dX9_quiet_59 : decode cX9_quiet 59 = .ok (.invokevirtual 228, 3) := by decide +kernel
theorem dX9_quiet_62 : decode cX9_quiet 62 = .ok (.lconst 0, 1) := by decide +kernel
theorem dX9_quiet_63 : decode cX9_quiet 63 = .ok (.lcmp, 1) := by decide +kernel
theorem dX9_quiet_64 : decode cX9_quiet 64 = .ok (.ifCond .eq 9, 3) := by decide +kernel
theorem dX9_quiet_67 : decode cX9_quiet 67 = .ok (.iload_n 2, 1) := by decide +kernel
theorem dX9_quiet_68 : decode cX9_quiet 68 = .ok (.iconst 1, 1) := by decide +kernel
theorem dX9_quiet_69 : decode cX9_quiet 69 = .ok (.iload_n 3, 1) := by decide +kernel
theorem dX9_quiet_70 : decode cX9_quiet 70 = .ok (.ishl, 1) := by decide +kernel
theorem dX9_quiet_71 : decode cX9_quiet 71 = .ok (.ior, 1) := by decide +kernel
theorem dX9_quiet_72 : decode cX9_quiet 72 = .ok (.istore_n 2, 1) := by decide +kernel
theorem dX9_quiet_73 : decode cX9_quiet 73 = .ok (.iinc 3 1, 3) := by decide +kernel
theorem dX9_quiet_76 : decode cX9_quiet 76 = .ok (.goto (-50), 3) := by decide +kernel
theorem dX9_quiet_79 : decode cX9_quiet 79 = .ok (.aload_n 0, 1) := by decide +kernel
theorem dX9_quiet_80 : decode cX9_quiet 80 = .ok (.iconst 0, 1) := by decide +kernel
theorem dX9_quiet_81 : decode cX9_quiet 81 = .ok (.putfield 46, 3) := by decide +kernel
theorem dX9_quiet_84 : decode cX9_quiet 84 = .ok (.iload_n 1, 1) := by decide +kernel
theorem dX9_quiet_85 : decode cX9_quiet 85 = .ok (.iconst 1, 1) := by decide +kernel
theorem dX9_quiet_86 : decode cX9_quiet 86 = .ok (.if_icmp .ne 5, 3) := by decide +kernel
theorem dX9_quiet_89 : decode cX9_quiet 89 = .ok (.iload_n 2, 1) := by decide +kernel
theorem dX9_quiet_90 : decode cX9_quiet 90 = .ok (.ireturn, 1) := by decide +kernel
theorem dX9_quiet_91 : decode cX9_quiet 91 = .ok (.iload_n 2, 1) := by decide +kernel
theorem dX9_quiet_92 : decode cX9_quiet 92 = .ok (.ifCond .ne 7, 3) := by decide +kernel
theorem dX9_quiet_95 : decode cX9_quiet 95 = .ok (.iconst 1, 1) := by decide +kernel
theorem dX9_quiet_96 : decode cX9_quiet 96 = .ok (.goto 4, 3) := by decide +kernel
theorem dX9_quiet_99 : decode cX9_quiet 99 = .ok (.iconst 0, 1) := by decide +kernel
theorem dX9_quiet_100 : decode cX9_quiet 100 = .ok (.ireturn, 1) := by decide +kernel
theorem dX9_moved_0 : decode cX9_moved 0 = .ok (.aload_n 0, 1) := by decide +kernel
theorem dX9_moved_1 : decode cX9_moved 1 = .ok (.getfield 14, 3) := by decide +kernel
theorem dX9_moved_4 : decode cX9_moved 4 = .ok (.getfield 119, 3) := by decide +kernel
theorem dX9_moved_7 : decode cX9_moved 7 = .ok (.iload_n 1, 1) := by decide +kernel
theorem dX9_moved_8 : decode cX9_moved 8 = .ok (.invokevirtual 131, 3) := by decide +kernel
theorem dX9_moved_11 : decode cX9_moved 11 = .ok (.ifCond .eq 10, 3) := by decide +kernel
theorem dX9_moved_14 : decode cX9_moved 14 = .ok (.iload_n 2, 1) := by decide +kernel
theorem dX9_moved_15 : decode cX9_moved 15 = .ok (.invokestatic 116, 3) := by decide +kernel
theorem dX9_moved_18 : decode cX9_moved 18 = .ok (.ifCond .ne 5, 3) := by decide +kernel
theorem dX9_moved_21 : decode cX9_moved 21 = .ok (.iconst (-1), 1) := by decide +kernel
theorem dX9_moved_22 : decode cX9_moved 22 = .ok (.ireturn, 1) := by decide +kernel
theorem dX9_moved_23 : decode cX9_moved 23 = .ok (.aload_n 0, 1) := by decide +kernel
theorem dX9_moved_24 : decode cX9_moved 24 = .ok (.getfield 14, 3) := by decide +kernel
theorem dX9_moved_27 : decode cX9_moved 27 = .ok (.getfield 119, 3) := by decide +kernel
theorem dX9_moved_30 : decode cX9_moved 30 = .ok (.iload_n 1, 1) := by decide +kernel
theorem dX9_moved_31 : decode cX9_moved 31 = .ok (.invokevirtual 156, 3) := by decide +kernel
theorem dX9_moved_34 : decode cX9_moved 34 = .ok (.ifCond .ne 5, 3) := by decide +kernel
theorem dX9_moved_37 : decode cX9_moved 37 = .ok (.iconst 0, 1) := by decide +kernel
theorem dX9_moved_38 : decode cX9_moved 38 = .ok (.ireturn, 1) := by decide +kernel
theorem dX9_moved_39 : decode cX9_moved 39 = .ok (.aload_n 0, 1) := by decide +kernel
theorem dX9_moved_40 : decode cX9_moved 40 = .ok (.invokevirtual 107, 3) := by decide +kernel
theorem dX9_moved_43 : decode cX9_moved 43 = .ok (.aload_n 0, 1) := by decide +kernel
theorem dX9_moved_44 : decode cX9_moved 44 = .ok (.getfield 14, 3) := by decide +kernel
theorem dX9_moved_47 : decode cX9_moved 47 = .ok (.getfield 119, 3) := by decide +kernel
theorem dX9_moved_50 : decode cX9_moved 50 = .ok (.getfield 137, 3) := by decide +kernel
theorem dX9_moved_53 : decode cX9_moved 53 = .ok (.iload_n 1, 1) := by decide +kernel
theorem dX9_moved_54 : decode cX9_moved 54 = .ok (.iaload, 1) := by decide +kernel
theorem dX9_moved_55 : decode cX9_moved 55 = .ok (.istore_n 3, 1) := by decide +kernel
theorem dX9_moved_56 : decode cX9_moved 56 = .ok (.iconst 0, 1) := by decide +kernel
theorem dX9_moved_57 : decode cX9_moved 57 = .ok (.istore 4, 2) := by decide +kernel
theorem dX9_moved_59 : decode cX9_moved 59 = .ok (.iconst 0, 1) := by decide +kernel
theorem dX9_moved_60 : decode cX9_moved 60 = .ok (.istore 5, 2) := by decide +kernel
theorem dX9_moved_62 : decode cX9_moved 62 = .ok (.iconst 0, 1) := by decide +kernel
theorem dX9_moved_63 : decode cX9_moved 63 = .ok (.istore 6, 2) := by decide +kernel
theorem dX9_moved_65 : decode cX9_moved 65 = .ok (.iload 6, 2) := by decide +kernel
theorem dX9_moved_67 : decode cX9_moved 67 = .ok (.bipush 10, 2) := by decide +kernel
theorem dX9_moved_69 : decode cX9_moved 69 = .ok (.if_icmp .ge 106, 3) := by decide +kernel
theorem dX9_moved_72 : decode cX9_moved 72 = .ok (.aload_n 0, 1) := by decide +kernel
theorem dX9_moved_73 : decode cX9_moved 73 = .ok (.getfield 14, 3) := by decide +kernel
theorem dX9_moved_76 : decode cX9_moved 76 = .ok (.getfield 119, 3) := by decide +kernel
theorem dX9_moved_79 : decode cX9_moved 79 = .ok (.getfield 137, 3) := by decide +kernel
theorem dX9_moved_82 : decode cX9_moved 82 = .ok (.iload_n 1, 1) := by decide +kernel
theorem dX9_moved_83 : decode cX9_moved 83 = .ok (.iload 6, 2) := by decide +kernel
theorem dX9_moved_85 : decode cX9_moved 85 = .ok (.iastore, 1) := by decide +kernel
theorem dX9_moved_86 : decode cX9_moved 86 = .ok (.aload_n 0, 1) := by decide +kernel
theorem dX9_moved_87 : decode cX9_moved 87 = .ok (.getfield 35, 3) := by decide +kernel
theorem dX9_moved_90 : decode cX9_moved 90 = .ok (.aload_n 0, 1) := by decide +kernel
theorem dX9_moved_91 : decode cX9_moved 91 = .ok (.getfield 14, 3) := by decide +kernel
theorem dX9_moved_94 : decode cX9_moved 94 = .ok (.getfield 87, 3) := by decide +kernel
theorem dX9_moved_97 : decode cX9_moved 97 = .ok (.aload_n 0, 1) := by decide +kernel
theorem dX9_moved_98 : decode cX9_moved 98 = .ok (.getfield 14, 3) := by decide +kernel
theorem dX9_moved_101 : decode cX9_moved 101 = .ok (.getfield 119, 3) := by decide +kernel
theorem dX9_moved_104 : decode cX9_moved 104 = .ok (.iload_n 1, 1) := by decide +kernel
theorem dX9_moved_105 : decode cX9_moved 105 = .ok (.invokevirtual 236, 3) := by decide +kernel
theorem dX9_moved_108 : decode cX9_moved 108 = .ok (.aload_n 0, 1) := by decide +kernel
theorem dX9_moved_109 : decode cX9_moved 109 = .ok (.getfield 35, 3) := by decide +kernel
theorem dX9_moved_112 : decode cX9_moved 112 = .ok (.aload_n 0, 1) := by decide +kernel
theorem dX9_moved_113 : decode cX9_moved 113 = .ok (.getfield 14, 3) := by decide +kernel
theorem dX9_moved_116 : decode cX9_moved 116 = .ok (.getfield 119, 3) := by decide +kernel
theorem dX9_moved_119 : decode cX9_moved 119 = .ok (.iload_n 1, 1) := by decide +kernel
theorem dX9_moved_120 : decode cX9_moved 120 = .ok (.aload_n 0, 1) := by decide +kernel
theorem dX9_moved_121 : decode cX9_moved 121 = .ok (.getfield 14, 3) := by decide +kernel
theorem dX9_moved_124 : decode cX9_moved 124 = .ok (.getfield 55, 3) := by decide +kernel
theorem dX9_moved_127 : decode cX9_moved 127 = .ok (.iconst 1, 1) := by decide +kernel
theorem dX9_moved_128 : decode cX9_moved 128 = .ok (.laload, 1) := by decide +kernel
theorem dX9_moved_129 : decode cX9_moved 129 = .ok (.aload_n 0, 1) := by decide +kernel
theorem dX9_moved_130 : decode cX9_moved 130 = .ok (.getfield 14, 3) := by decide +kernel
theorem dX9_moved_133 : decode cX9_moved 133 = .ok (.getfield 55, 3) := by decide +kernel
theorem dX9_moved_136 : decode cX9_moved 136 = .ok (.iconst 2, 1) := by decide +kernel
theorem dX9_moved_137 : decode cX9_moved 137 = .ok (.laload, 1) := by decide +kernel
theorem dX9_moved_138 : decode cX9_moved 138 = .ok (.invokevirtual 240, 3) := by decide +kernel
theorem dX9_moved_141 : decode cX9_moved 141 = .ok (.aload_n 0, 1) := by decide +kernel
theorem dX9_moved_142 : decode cX9_moved 142 = .ok (.iload_n 1, 1) := by decide +kernel
theorem dX9_moved_143 : decode cX9_moved 143 = .ok (.iload_n 2, 1) := by decide +kernel
theorem dX9_moved_144 : decode cX9_moved 144 = .ok (.invokevirtual 211, 3) := by decide +kernel
theorem dX9_moved_147 : decode cX9_moved 147 = .ok (.istore 7, 2) := by decide +kernel
theorem dX9_moved_149 : decode cX9_moved 149 = .ok (.iload 6, 2) := by decide +kernel
theorem dX9_moved_151 : decode cX9_moved 151 = .ok (.ifCond .eq 10, 3) := by decide +kernel
theorem dX9_moved_154 : decode cX9_moved 154 = .ok (.iload 7, 2) := by decide +kernel
theorem dX9_moved_156 : decode cX9_moved 156 = .ok (.iload 5, 2) := by decide +kernel
theorem dX9_moved_158 : decode cX9_moved 158 = .ok (.if_icmp .ge 11, 3) := by decide +kernel
theorem dX9_moved_161 : decode cX9_moved 161 = .ok (.iload 7, 2) := by decide +kernel
theorem dX9_moved_163 : decode cX9_moved 163 = .ok (.istore 5, 2) := by decide +kernel
theorem dX9_moved_165 : decode cX9_moved 165 = .ok (.iload 6, 2) := by decide +kernel
theorem dX9_moved_167 : decode cX9_moved 167 = .ok (.istore 4, 2) := by decide +kernel
theorem dX9_moved_169 : decode cX9_moved 169 = .ok (.iinc 6 1, 3) := by decide +kernel
theorem dX9_moved_172 : decode cX9_moved 172 = .ok (.goto (-107), 3) := by decide +kernel
theorem dX9_moved_175 : decode cX9_moved 175 = .ok (.aload_n 0, 1) := by decide +kernel
theorem dX9_moved_176 : decode cX9_moved 176 = .ok (.getfield 14, 3) := by decide +kernel
theorem dX9_moved_179 : decode cX9_moved 179 = .ok (.getfield 119, 3) := by decide +kernel
theorem dX9_moved_182 : decode cX9_moved 182 = .ok (.getfield 137, 3) := by decide +kernel
theorem dX9_moved_185 : decode cX9_moved 185 = .ok (.iload_n 1, 1) := by decide +kernel
theorem dX9_moved_186 : decode cX9_moved 186 = .ok (.iload_n 3, 1) := by decide +kernel
theorem dX9_moved_187 : decode cX9_moved 187 = .ok (.iastore, 1) := by decide +kernel
theorem dX9_moved_188 : decode cX9_moved 188 = .ok (.aload_n 0, 1) := by decide +kernel
theorem dX9_moved_189 : decode cX9_moved 189 = .ok (.iconst 0, 1) := by decide +kernel
theorem dX9_moved_190 : decode cX9_moved 190 = .ok (.putfield 46, 3) := by decide +kernel
theorem dX9_moved_193 : decode cX9_moved 193 = .ok (.iload 4, 2) := by decide +kernel
theorem dX9_moved_195 : decode cX9_moved 195 = .ok (.ireturn, 1) := by decide +kernel
theorem dX9_older_0 : decode cX9_older 0 = .ok (.aload_n 0, 1) := by decide +kernel
theorem dX9_older_1 : decode cX9_older 1 = .ok (.invokevirtual 107, 3) := by decide +kernel
theorem dX9_older_4 : decode cX9_older 4 = .ok (.aload_n 0, 1) := by decide +kernel
theorem dX9_older_5 : decode cX9_older 5 = .ok (.invokevirtual 244, 3) := by decide +kernel
theorem dX9_older_8 : decode cX9_older 8 = .ok (.istore_n 1, 1) := by decide +kernel
theorem dX9_older_9 : decode cX9_older 9 = .ok (.bipush 40, 2) := by decide +kernel
theorem dX9_older_11 : decode cX9_older 11 = .ok (.istore_n 2, 1) := by decide +kernel
theorem dX9_older_12 : decode cX9_older 12 = .ok (.iload_n 2, 1) := by decide +kernel
theorem dX9_older_13 : decode cX9_older 13 = .ok (.ifCond .le 57, 3) := by decide +kernel
theorem dX9_older_16 : decode cX9_older 16 = .ok (.aload_n 0, 1) := by decide +kernel
theorem dX9_older_17 : decode cX9_older 17 = .ok (.aload_n 0, 1) := by decide +kernel
theorem dX9_older_18 : decode cX9_older 18 = .ok (.getfield 14, 3) := by decide +kernel
theorem dX9_older_21 : decode cX9_older 21 = .ok (.getfield 55, 3) := by decide +kernel
theorem dX9_older_24 : decode cX9_older 24 = .ok (.iconst 0, 1) := by decide +kernel
theorem dX9_older_25 : decode cX9_older 25 = .ok (.laload, 1) := by decide +kernel
theorem dX9_older_26 : decode cX9_older 26 = .ok (.iload_n 2, 1) := by decide +kernel
theorem dX9_older_27 : decode cX9_older 27 = .ok (.lshl, 1) := by decide +kernel
theorem dX9_older_28 : decode cX9_older 28 = .ok (.ldc2_w 53, 3) := by decide +kernel
theorem dX9_older_31 : decode cX9_older 31 = .ok (.land, 1) := by decide +kernel
theorem dX9_older_32 : decode cX9_older 32 = .ok (.aload_n 0, 1) := by decide +kernel
theorem dX9_older_33 : decode cX9_older 33 = .ok (.getfield 14, 3) := by decide +kernel
theorem dX9_older_36 : decode cX9_older 36 = .ok (.getfield 55, 3) := by decide +kernel
theorem dX9_older_39 : decode cX9_older 39 = .ok (.iconst 1, 1) := by decide +kernel
theorem dX9_older_40 : decode cX9_older 40 = .ok (.laload, 1) := by decide +kernel
theorem dX9_older_41 : decode cX9_older 41 = .ok (.aload_n 0, 1) := by decide +kernel
theorem dX9_older_42 : decode cX9_older 42 = .ok (.getfield 14, 3) := by decide +kernel
theorem dX9_older_45 : decode cX9_older 45 = .ok (.getfield 55, 3) := by decide +kernel
theorem dX9_older_48 : decode cX9_older 48 = .ok (.iconst 2, 1) := by decide +kernel
theorem dX9_older_49 : decode cX9_older 49 = .ok (.laload, 1) := by decide +kernel
theorem dX9_older_50 : decode cX9_older 50 = .ok (.invokevirtual 232, 3) := by decide +kernel
theorem dX9_older_53 : decode cX9_older 53 = .ok (.aload_n 0, 1) := by decide +kernel
theorem dX9_older_54 : decode cX9_older 54 = .ok (.invokevirtual 244, 3) := by decide +kernel
theorem dX9_older_57 : decode cX9_older 57 = .ok (.iload_n 1, 1) := by decide +kernel
theorem dX9_older_58 : decode cX9_older 58 = .ok (.if_icmp .lt 6, 3) := by decide +kernel
theorem dX9_older_61 : decode cX9_older 61 = .ok (.goto 9, 3) := by decide +kernel
theorem dX9_older_64 : decode cX9_older 64 = .ok (.iinc 2 (-1), 3) := by decide +kernel
theorem dX9_older_67 : decode cX9_older 67 = .ok (.goto (-55), 3) := by decide +kernel
theorem dX9_older_70 : decode cX9_older 70 = .ok (.aload_n 0, 1) := by decide +kernel
theorem dX9_older_71 : decode cX9_older 71 = .ok (.iconst 0, 1) := by decide +kernel
theorem dX9_older_72 : decode cX9_older 72 = .ok (.putfield 46, 3) := by decide +kernel
theorem dX9_older_75 : decode cX9_older 75 = .ok (.iload_n 2, 1) := by decide +kernel
theorem dX9_older_76 : decode cX9_older 76 = .ok (.ireturn, 1) := by decide +kernel
theorem dX9_harm_0 : decode cX9_harm 0 = .ok (.aload_n 0, 1) := by decide +kernel
theorem dX9_harm_1 : decode cX9_harm 1 = .ok (.getfield 14, 3) := by decide +kernel
theorem dX9_harm_4 : decode cX9_harm 4 = .ok (.getfield 119, 3) := by decide +kernel
theorem dX9_harm_7 : decode cX9_harm 7 = .ok (.iload_n 1, 1) := by decide +kernel
theorem dX9_harm_8 : decode cX9_harm 8 = .ok (.invokevirtual 131, 3) := by decide +kernel
theorem dX9_harm_11 : decode cX9_harm 11 = .ok (.ifCond .ne 5, 3) := by decide +kernel
theorem dX9_harm_14 : decode cX9_harm 14 = .ok (.iconst (-1), 1) := by decide +kernel
theorem dX9_harm_15 : decode cX9_harm 15 = .ok (.ireturn, 1) := by decide +kernel
theorem dX9_harm_16 : decode cX9_harm 16 = .ok (.aload_n 0, 1) := by decide +kernel
theorem dX9_harm_17 : decode cX9_harm 17 = .ok (.invokevirtual 107, 3) := by decide +kernel
theorem dX9_harm_20 : decode cX9_harm 20 = .ok (.aload_n 0, 1) := by decide +kernel
theorem dX9_harm_21 : decode cX9_harm 21 = .ok (.iload_n 1, 1) := by decide +kernel
theorem dX9_harm_22 : decode cX9_harm 22 = .ok (.invokevirtual 247, 3) := by decide +kernel
theorem dX9_harm_25 : decode cX9_harm 25 = .ok (.ireturn, 1) := by decide +kernel
theorem dX9_act_0 : decode cX9_act 0 = .ok (.aload_n 0, 1) := by decide +kernel
theorem dX9_act_1 : decode cX9_act 1 = .ok (.getfield 42, 3) := by decide +kernel
theorem dX9_act_4 : decode cX9_act 4 = .ok (.iconst 0, 1) := by decide +kernel
theorem dX9_act_5 : decode cX9_act 5 = .ok (.putfield 250, 3) := by decide +kernel
theorem dX9_act_8 : decode cX9_act 8 = .ok (.aload_n 0, 1) := by decide +kernel
theorem dX9_act_9 : decode cX9_act 9 = .ok (.getfield 14, 3) := by decide +kernel
theorem dX9_act_12 : decode cX9_act 12 = .ok (.getfield 119, 3) := by decide +kernel
theorem dX9_act_15 : decode cX9_act 15 = .ok (.iload_n 1, 1) := by decide +kernel
theorem dX9_act_16 : decode cX9_act 16 = .ok (.invokevirtual 131, 3) := by decide +kernel
theorem dX9_act_19 : decode cX9_act 19 = .ok (.ifCond .eq 12, 3) := by decide +kernel
theorem dX9_act_22 : decode cX9_act 22 = .ok (.iload_n 2, 1) := by decide +kernel
theorem dX9_act_23 : decode cX9_act 23 = .ok (.ifCond .lt 8, 3) := by decide +kernel
theorem dX9_act_26 : decode cX9_act 26 = .ok (.iload_n 2, 1) := by decide +kernel
theorem dX9_act_27 : decode cX9_act 27 = .ok (.iconst 3, 1) := by decide +kernel
theorem dX9_act_28 : decode cX9_act 28 = .ok (.if_icmp .lt 5, 3) := by decide +kernel
theorem dX9_act_31 : decode cX9_act 31 = .ok (.iconst 0, 1) := by decide +kernel
theorem dX9_act_32 : decode cX9_act 32 = .ok (.ireturn, 1) := by decide +kernel
theorem dX9_act_33 : decode cX9_act 33 = .ok (.aload_n 0, 1) := by decide +kernel
theorem dX9_act_34 : decode cX9_act 34 = .ok (.getfield 42, 3) := by decide +kernel
theorem dX9_act_37 : decode cX9_act 37 = .ok (.aload_n 0, 1) := by decide +kernel
theorem dX9_act_38 : decode cX9_act 38 = .ok (.getfield 14, 3) := by decide +kernel
theorem dX9_act_41 : decode cX9_act 41 = .ok (.getfield 119, 3) := by decide +kernel
theorem dX9_act_44 : decode cX9_act 44 = .ok (.iload_n 1, 1) := by decide +kernel
theorem dX9_act_45 : decode cX9_act 45 = .ok (.iload_n 2, 1) := by decide +kernel
theorem dX9_act_46 : decode cX9_act 46 = .ok (.iload_n 3, 1) := by decide +kernel
theorem dX9_act_47 : decode cX9_act 47 = .ok (.invokevirtual 253, 3) := by decide +kernel
theorem dX9_act_50 : decode cX9_act 50 = .ok (.ireturn, 1) := by decide +kernel
theorem dX9_trace_0 : decode cX9_trace 0 = .ok (.iload_n 1, 1) := by decide +kernel
theorem dX9_trace_1 : decode cX9_trace 1 = .ok (.ifCond .lt 26, 3) := by decide +kernel
theorem dX9_trace_4 : decode cX9_trace 4 = .ok (.iload_n 1, 1) := by decide +kernel
theorem dX9_trace_5 : decode cX9_trace 5 = .ok (.aload_n 0, 1) := by decide +kernel
theorem dX9_trace_6 : decode cX9_trace 6 = .ok (.getfield 42, 3) := by decide +kernel
theorem dX9_trace_9 : decode cX9_trace 9 = .ok (.getfield 250, 3) := by decide +kernel
theorem dX9_trace_12 : decode cX9_trace 12 = .ok (.if_icmp .ge 15, 3) := by decide +kernel
theorem dX9_trace_15 : decode cX9_trace 15 = .ok (.iload_n 1, 1) := by decide +kernel
theorem dX9_trace_16 : decode cX9_trace 16 = .ok (.aload_n 0, 1) := by decide +kernel
theorem dX9_trace_17 : decode cX9_trace 17 = .ok (.getfield 42, 3) := by decide +kernel
theorem dX9_trace_20 : decode cX9_trace 20 = .ok (.getfield 257, 3) := by decide +kernel
theorem dX9_trace_23 : decode cX9_trace 23 = .ok (.arraylength, 1) := by decide +kernel
theorem dX9_trace_24 : decode cX9_trace 24 = .ok (.if_icmp .lt 5, 3) := by decide +kernel
theorem dX9_trace_27 : decode cX9_trace 27 = .ok (.iconst (-1), 1) := by decide +kernel
theorem dX9_trace_28 : decode cX9_trace 28 = .ok (.ireturn, 1) := by decide +kernel
theorem dX9_trace_29 : decode cX9_trace 29 = .ok (.aload_n 0, 1) := by decide +kernel
theorem dX9_trace_30 : decode cX9_trace 30 = .ok (.getfield 42, 3) := by decide +kernel
theorem dX9_trace_33 : decode cX9_trace 33 = .ok (.getfield 257, 3) := by decide +kernel
theorem dX9_trace_36 : decode cX9_trace 36 = .ok (.iload_n 1, 1) := by decide +kernel
theorem dX9_trace_37 : decode cX9_trace 37 = .ok (.iaload, 1) := by decide +kernel
theorem dX9_trace_38 : decode cX9_trace 38 = .ok (.ireturn, 1) := by decide +kernel
theorem dX9_as_0 : decode cX9_as 0 = .ok (.aload_n 0, 1) := by decide +kernel
theorem dX9_as_1 : decode cX9_as 1 = .ok (.getfield 14, 3) := by decide +kernel
theorem dX9_as_4 : decode cX9_as 4 = .ok (.getfield 119, 3) := by decide +kernel
theorem dX9_as_7 : decode cX9_as 7 = .ok (.iload_n 1, 1) := by decide +kernel
theorem dX9_as_8 : decode cX9_as 8 = .ok (.invokevirtual 131, 3) := by decide +kernel
theorem dX9_as_11 : decode cX9_as 11 = .ok (.ifCond .eq 10, 3) := by decide +kernel
theorem dX9_as_14 : decode cX9_as 14 = .ok (.iload_n 2, 1) := by decide +kernel
theorem dX9_as_15 : decode cX9_as 15 = .ok (.invokestatic 113, 3) := by decide +kernel
theorem dX9_as_18 : decode cX9_as 18 = .ok (.ifCond .ne 5, 3) := by decide +kernel
theorem dX9_as_21 : decode cX9_as 21 = .ok (.iconst (-1), 1) := by decide +kernel
theorem dX9_as_22 : decode cX9_as 22 = .ok (.ireturn, 1) := by decide +kernel
theorem dX9_as_23 : decode cX9_as 23 = .ok (.aload_n 0, 1) := by decide +kernel
theorem dX9_as_24 : decode cX9_as 24 = .ok (.getfield 14, 3) := by decide +kernel
theorem dX9_as_27 : decode cX9_as 27 = .ok (.getfield 119, 3) := by decide +kernel
theorem dX9_as_30 : decode cX9_as 30 = .ok (.getfield 134, 3) := by decide +kernel
theorem dX9_as_33 : decode cX9_as 33 = .ok (.iload_n 1, 1) := by decide +kernel
theorem dX9_as_34 : decode cX9_as 34 = .ok (.iaload, 1) := by decide +kernel
theorem dX9_as_35 : decode cX9_as 35 = .ok (.iload_n 2, 1) := by decide +kernel
theorem dX9_as_36 : decode cX9_as 36 = .ok (.invokestatic 217, 3) := by decide +kernel
theorem dX9_as_39 : decode cX9_as 39 = .ok (.ifCond .eq 18, 3) := by decide +kernel
theorem dX9_as_42 : decode cX9_as 42 = .ok (.aload_n 0, 1) := by decide +kernel
theorem dX9_as_43 : decode cX9_as 43 = .ok (.getfield 14, 3) := by decide +kernel
theorem dX9_as_46 : decode cX9_as 46 = .ok (.getfield 119, 3) := by decide +kernel
theorem dX9_as_49 : decode cX9_as 49 = .ok (.getfield 140, 3) := by decide +kernel
theorem dX9_as_52 : decode cX9_as 52 = .ok (.iload_n 1, 1) := by decide +kernel
theorem dX9_as_53 : decode cX9_as 53 = .ok (.iaload, 1) := by decide +kernel
theorem dX9_as_54 : decode cX9_as 54 = .ok (.goto 5, 3) := by decide +kernel
theorem dX9_as_57 : decode cX9_as 57 = .ok (.bipush (-6), 2) := by decide +kernel
theorem dX9_as_59 : decode cX9_as 59 = .ok (.ireturn, 1) := by decide +kernel
theorem dX9_image_0 : decode cX9_image 0 = .ok (.aload_n 0, 1) := by decide +kernel
theorem dX9_image_1 : decode cX9_image 1 = .ok (.getfield 18, 3) := by decide +kernel
theorem dX9_image_4 : decode cX9_image 4 = .ok (.aload_n 0, 1) := by decide +kernel
theorem dX9_image_5 : decode cX9_image 5 = .ok (.getfield 14, 3) := by decide +kernel
theorem dX9_image_8 : decode cX9_image 8 = .ok (.invokevirtual 260, 3) := by decide +kernel
theorem dX9_image_11 : decode cX9_image 11 = .ok (.aload_n 0, 1) := by decide +kernel
theorem dX9_image_12 : decode cX9_image 12 = .ok (.iconst 1, 1) := by decide +kernel
theorem dX9_image_13 : decode cX9_image 13 = .ok (.putfield 21, 3) := by decide +kernel
theorem dX9_image_16 : decode cX9_image 16 = .ok (.aload_n 0, 1) := by decide +kernel
theorem dX9_image_17 : decode cX9_image 17 = .ok (.getfield 14, 3) := by decide +kernel
theorem dX9_image_20 : decode cX9_image 20 = .ok (.getfield 119, 3) := by decide +kernel
theorem dX9_image_23 : decode cX9_image 23 = .ok (.getfield 123, 3) := by decide +kernel
theorem dX9_image_26 : decode cX9_image 26 = .ok (.ireturn, 1) := by decide +kernel
theorem dX9_undo_0 : decode cX9_undo 0 = .ok (.aload_n 0, 1) := by decide +kernel
theorem dX9_undo_1 : decode cX9_undo 1 = .ok (.getfield 21, 3) := by decide +kernel
theorem dX9_undo_4 : decode cX9_undo 4 = .ok (.ifCond .ne 6, 3) := by decide +kernel
theorem dX9_undo_7 : decode cX9_undo 7 = .ok (.bipush (-3), 2) := by decide +kernel
theorem dX9_undo_9 : decode cX9_undo 9 = .ok (.ireturn, 1) := by decide +kernel
theorem dX9_undo_10 : decode cX9_undo 10 = .ok (.aload_n 0, 1) := by decide +kernel
theorem dX9_undo_11 : decode cX9_undo 11 = .ok (.getfield 14, 3) := by decide +kernel
theorem dX9_undo_14 : decode cX9_undo 14 = .ok (.aload_n 0, 1) := by decide +kernel
theorem dX9_undo_15 : decode cX9_undo 15 = .ok (.getfield 18, 3) := by decide +kernel
theorem dX9_undo_18 : decode cX9_undo 18 = .ok (.invokevirtual 260, 3) := by decide +kernel
theorem dX9_undo_21 : decode cX9_undo 21 = .ok (.aload_n 0, 1) := by decide +kernel
theorem dX9_undo_22 : decode cX9_undo 22 = .ok (.iconst 0, 1) := by decide +kernel
theorem dX9_undo_23 : decode cX9_undo 23 = .ok (.putfield 46, 3) := by decide +kernel
theorem dX9_undo_26 : decode cX9_undo 26 = .ok (.aload_n 0, 1) := by decide +kernel
theorem dX9_undo_27 : decode cX9_undo 27 = .ok (.getfield 14, 3) := by decide +kernel
theorem dX9_undo_30 : decode cX9_undo 30 = .ok (.getfield 119, 3) := by decide +kernel
theorem dX9_undo_33 : decode cX9_undo 33 = .ok (.getfield 123, 3) := by decide +kernel
theorem dX9_undo_36 : decode cX9_undo 36 = .ok (.ireturn, 1) := by decide +kernel
theorem dX9_count_0 : decode cX9_count 0 = .ok (.iload_n 1, 1) := by decide +kernel
theorem dX9_count_1 : decode cX9_count 1 = .ok (.tableswitch 84 0 4 #[35, 46, 54, 65, 76], 35) := by decide +kernel
theorem dX9_count_36 : decode cX9_count 36 = .ok (.aload_n 0, 1) := by decide +kernel
theorem dX9_count_37 : decode cX9_count 37 = .ok (.getfield 14, 3) := by decide +kernel
theorem dX9_count_40 : decode cX9_count 40 = .ok (.getfield 119, 3) := by decide +kernel
theorem dX9_count_43 : decode cX9_count 43 = .ok (.getfield 123, 3) := by decide +kernel
theorem dX9_count_46 : decode cX9_count 46 = .ok (.ireturn, 1) := by decide +kernel
theorem dX9_count_47 : decode cX9_count 47 = .ok (.aload_n 0, 1) := by decide +kernel
theorem dX9_count_48 : decode cX9_count 48 = .ok (.getfield 14, 3) := by decide +kernel
theorem dX9_count_51 : decode cX9_count 51 = .ok (.getfield 77, 3) := by decide +kernel
theorem dX9_count_54 : decode cX9_count 54 = .ok (.ireturn, 1) := by decide +kernel
theorem dX9_count_55 : decode cX9_count 55 = .ok (.aload_n 0, 1) := by decide +kernel
theorem dX9_count_56 : decode cX9_count 56 = .ok (.getfield 14, 3) := by decide +kernel
theorem dX9_count_59 : decode cX9_count 59 = .ok (.getfield 176, 3) := by decide +kernel
theorem dX9_count_62 : decode cX9_count 62 = .ok (.getfield 180, 3) := by decide +kernel
theorem dX9_count_65 : decode cX9_count 65 = .ok (.ireturn, 1) := by decide +kernel
theorem dX9_count_66 : decode cX9_count 66 = .ok (.aload_n 0, 1) := by decide +kernel
theorem dX9_count_67 : decode cX9_count 67 = .ok (.getfield 14, 3) := by decide +kernel
theorem dX9_count_70 : decode cX9_count 70 = .ok (.getfield 63, 3) := by decide +kernel
theorem dX9_count_73 : decode cX9_count 73 = .ok (.getfield 67, 3) := by decide +kernel
theorem dX9_count_76 : decode cX9_count 76 = .ok (.ireturn, 1) := by decide +kernel
theorem dX9_count_77 : decode cX9_count 77 = .ok (.aload_n 0, 1) := by decide +kernel
theorem dX9_count_78 : decode cX9_count 78 = .ok (.getfield 42, 3) := by decide +kernel
theorem dX9_count_81 : decode cX9_count 81 = .ok (.getfield 250, 3) := by decide +kernel
theorem dX9_count_84 : decode cX9_count 84 = .ok (.ireturn, 1) := by decide +kernel
theorem dX9_count_85 : decode cX9_count 85 = .ok (.iconst (-1), 1) := by decide +kernel
theorem dX9_count_86 : decode cX9_count 86 = .ok (.ireturn, 1) := by decide +kernel
theorem dX9_isMinute_0 : decode cX9_isMinute 0 = .ok (.iload_n 0, 1) := by decide +kernel
theorem dX9_isMinute_1 : decode cX9_isMinute 1 = .ok (.ifCond .lt 13, 3) := by decide +kernel
theorem dX9_isMinute_4 : decode cX9_isMinute 4 = .ok (.iload_n 0, 1) := by decide +kernel
theorem dX9_isMinute_5 : decode cX9_isMinute 5 = .ok (.bipush 40, 2) := by decide +kernel
theorem dX9_isMinute_7 : decode cX9_isMinute 7 = .ok (.if_icmp .ge 7, 3) := by decide +kernel
theorem dX9_isMinute_10 : decode cX9_isMinute 10 = .ok (.iconst 1, 1) := by decide +kernel
theorem dX9_isMinute_11 : decode cX9_isMinute 11 = .ok (.goto 4, 3) := by decide +kernel
theorem dX9_isMinute_14 : decode cX9_isMinute 14 = .ok (.iconst 0, 1) := by decide +kernel
theorem dX9_isMinute_15 : decode cX9_isMinute 15 = .ok (.ireturn, 1) := by decide +kernel
theorem dX9_isPlace_0 : decode cX9_isPlace 0 = .ok (.iload_n 0, 1) := by decide +kernel
theorem dX9_isPlace_1 : decode cX9_isPlace 1 = .ok (.ifCond .lt 13, 3) := by decide +kernel
theorem dX9_isPlace_4 : decode cX9_isPlace 4 = .ok (.iload_n 0, 1) := by decide +kernel
theorem dX9_isPlace_5 : decode cX9_isPlace 5 = .ok (.bipush 10, 2) := by decide +kernel
theorem dX9_isPlace_7 : decode cX9_isPlace 7 = .ok (.if_icmp .ge 7, 3) := by decide +kernel
theorem dX9_isPlace_10 : decode cX9_isPlace 10 = .ok (.iconst 1, 1) := by decide +kernel
theorem dX9_isPlace_11 : decode cX9_isPlace 11 = .ok (.goto 4, 3) := by decide +kernel
theorem dX9_isPlace_14 : decode cX9_isPlace 14 = .ok (.iconst 0, 1) := by decide +kernel
theorem dX9_isPlace_15 : decode cX9_isPlace 15 = .ok (.ireturn, 1) := by decide +kernel
theorem dX9_isKind_0 : decode cX9_isKind 0 = .ok (.iload_n 0, 1) := by decide +kernel
theorem dX9_isKind_1 : decode cX9_isKind 1 = .ok (.ifCond .lt 13, 3) := by decide +kernel
theorem dX9_isKind_4 : decode cX9_isKind 4 = .ok (.iload_n 0, 1) := by decide +kernel
theorem dX9_isKind_5 : decode cX9_isKind 5 = .ok (.bipush 7, 2) := by decide +kernel
theorem dX9_isKind_7 : decode cX9_isKind 7 = .ok (.if_icmp .ge 7, 3) := by decide +kernel
theorem dX9_isKind_10 : decode cX9_isKind 10 = .ok (.iconst 1, 1) := by decide +kernel
theorem dX9_isKind_11 : decode cX9_isKind 11 = .ok (.goto 4, 3) := by decide +kernel
theorem dX9_isKind_14 : decode cX9_isKind 14 = .ok (.iconst 0, 1) := by decide +kernel
theorem dX9_isKind_15 : decode cX9_isKind 15 = .ok (.ireturn, 1) := by decide +kernel
theorem dX9_above_0 : decode cX9_above 0 = .ok (.iload_n 0, 1) := by decide +kernel
theorem dX9_above_1 : decode cX9_above 1 = .ok (.tableswitch 47 1 6 #[39, 39, 39, 41, 43, 45], 39) := by decide +kernel
theorem dX9_above_40 : decode cX9_above 40 = .ok (.iconst 0, 1) := by decide +kernel
theorem dX9_above_41 : decode cX9_above 41 = .ok (.ireturn, 1) := by decide +kernel
theorem dX9_above_42 : decode cX9_above 42 = .ok (.iconst 1, 1) := by decide +kernel
theorem dX9_above_43 : decode cX9_above 43 = .ok (.ireturn, 1) := by decide +kernel
theorem dX9_above_44 : decode cX9_above 44 = .ok (.iconst 2, 1) := by decide +kernel
theorem dX9_above_45 : decode cX9_above 45 = .ok (.ireturn, 1) := by decide +kernel
theorem dX9_above_46 : decode cX9_above 46 = .ok (.iconst 3, 1) := by decide +kernel
theorem dX9_above_47 : decode cX9_above 47 = .ok (.ireturn, 1) := by decide +kernel
theorem dX9_above_48 : decode cX9_above 48 = .ok (.iconst (-1), 1) := by decide +kernel
theorem dX9_above_49 : decode cX9_above 49 = .ok (.ireturn, 1) := by decide +kernel
theorem dX9_isUnder_0 : decode cX9_isUnder 0 = .ok (.iload_n 0, 1) := by decide +kernel
theorem dX9_isUnder_1 : decode cX9_isUnder 1 = .ok (.iload_n 1, 1) := by decide +kernel
theorem dX9_isUnder_2 : decode cX9_isUnder 2 = .ok (.if_icmp .eq 22, 3) := by decide +kernel
theorem dX9_isUnder_5 : decode cX9_isUnder 5 = .ok (.iload_n 0, 1) := by decide +kernel
theorem dX9_isUnder_6 : decode cX9_isUnder 6 = .ok (.invokestatic 263, 3) := by decide +kernel
theorem dX9_isUnder_9 : decode cX9_isUnder 9 = .ok (.iload_n 1, 1) := by decide +kernel
theorem dX9_isUnder_10 : decode cX9_isUnder 10 = .ok (.if_icmp .eq 14, 3) := by decide +kernel
theorem dX9_isUnder_13 : decode cX9_isUnder 13 = .ok (.iload_n 0, 1) := by decide +kernel
theorem dX9_isUnder_14 : decode cX9_isUnder 14 = .ok (.invokestatic 263, 3) := by decide +kernel
theorem dX9_isUnder_17 : decode cX9_isUnder 17 = .ok (.invokestatic 263, 3) := by decide +kernel
theorem dX9_isUnder_20 : decode cX9_isUnder 20 = .ok (.iload_n 1, 1) := by decide +kernel
theorem dX9_isUnder_21 : decode cX9_isUnder 21 = .ok (.if_icmp .ne 7, 3) := by decide +kernel
theorem dX9_isUnder_24 : decode cX9_isUnder 24 = .ok (.iconst 1, 1) := by decide +kernel
theorem dX9_isUnder_25 : decode cX9_isUnder 25 = .ok (.goto 4, 3) := by decide +kernel
theorem dX9_isUnder_28 : decode cX9_isUnder 28 = .ok (.iconst 0, 1) := by decide +kernel
theorem dX9_isUnder_29 : decode cX9_isUnder 29 = .ok (.ireturn, 1) := by decide +kernel
theorem dX9_greatestShared_0 : decode cX9_greatestShared 0 = .ok (.iload_n 0, 1) := by decide +kernel
theorem dX9_greatestShared_1 : decode cX9_greatestShared 1 = .ok (.istore_n 2, 1) := by decide +kernel
theorem dX9_greatestShared_2 : decode cX9_greatestShared 2 = .ok (.iload_n 1, 1) := by decide +kernel
theorem dX9_greatestShared_3 : decode cX9_greatestShared 3 = .ok (.istore_n 3, 1) := by decide +kernel
theorem dX9_greatestShared_4 : decode cX9_greatestShared 4 = .ok (.iconst 0, 1) := by decide +kernel
theorem dX9_greatestShared_5 : decode cX9_greatestShared 5 = .ok (.istore 4, 2) := by decide +kernel
theorem dX9_greatestShared_7 : decode cX9_greatestShared 7 = .ok (.iload 4, 2) := by decide +kernel
theorem dX9_greatestShared_9 : decode cX9_greatestShared 9 = .ok (.bipush 100, 2) := by decide +kernel
theorem dX9_greatestShared_11 : decode cX9_greatestShared 11 = .ok (.if_icmp .ge 23, 3) := by decide +kernel
theorem dX9_greatestShared_14 : decode cX9_greatestShared 14 = .ok (.iload_n 3, 1) := by decide +kernel
theorem dX9_greatestShared_15 : decode cX9_greatestShared 15 = .ok (.ifCond .eq 19, 3) := by decide +kernel
theorem dX9_greatestShared_18 : decode cX9_greatestShared 18 = .ok (.iload_n 2, 1) := by decide +kernel
theorem dX9_greatestShared_19 : decode cX9_greatestShared 19 = .ok (.iload_n 3, 1) := by decide +kernel
theorem dX9_greatestShared_20 : decode cX9_greatestShared 20 = .ok (.irem, 1) := by decide +kernel
theorem dX9_greatestShared_21 : decode cX9_greatestShared 21 = .ok (.istore 5, 2) := by decide +kernel
theorem dX9_greatestShared_23 : decode cX9_greatestShared 23 = .ok (.iload_n 3, 1) := by decide +kernel
theorem dX9_greatestShared_24 : decode cX9_greatestShared 24 = .ok (.istore_n 2, 1) := by decide +kernel
theorem dX9_greatestShared_25 : decode cX9_greatestShared 25 = .ok (.iload 5, 2) := by decide +kernel
theorem dX9_greatestShared_27 : decode cX9_greatestShared 27 = .ok (.istore_n 3, 1) := by decide +kernel
theorem dX9_greatestShared_28 : decode cX9_greatestShared 28 = .ok (.iinc 4 1, 3) := by decide +kernel
theorem dX9_greatestShared_31 : decode cX9_greatestShared 31 = .ok (.goto (-24), 3) := by decide +kernel
theorem dX9_greatestShared_34 : decode cX9_greatestShared 34 = .ok (.iload_n 2, 1) := by decide +kernel
theorem dX9_greatestShared_35 : decode cX9_greatestShared 35 = .ok (.ireturn, 1) := by decide +kernel
theorem dX9_settle_0 : decode cX9_settle 0 = .ok (.aload_n 0, 1) := by decide +kernel
theorem dX9_settle_1 : decode cX9_settle 1 = .ok (.getfield 46, 3) := by decide +kernel
theorem dX9_settle_4 : decode cX9_settle 4 = .ok (.ifCond .eq 4, 3) := by decide +kernel
theorem dX9_settle_7 : decode cX9_settle 7 = .ok (.return_, 1) := by decide +kernel
theorem dX9_settle_8 : decode cX9_settle 8 = .ok (.iconst 0, 1) := by decide +kernel
theorem dX9_settle_9 : decode cX9_settle 9 = .ok (.istore_n 1, 1) := by decide +kernel
theorem dX9_settle_10 : decode cX9_settle 10 = .ok (.iload_n 1, 1) := by decide +kernel
theorem dX9_settle_11 : decode cX9_settle 11 = .ok (.aload_n 0, 1) := by decide +kernel
theorem dX9_settle_12 : decode cX9_settle 12 = .ok (.getfield 14, 3) := by decide +kernel
theorem dX9_settle_15 : decode cX9_settle 15 = .ok (.getfield 119, 3) := by decide +kernel
theorem dX9_settle_18 : decode cX9_settle 18 = .ok (.getfield 123, 3) := by decide +kernel
theorem dX9_settle_21 : decode cX9_settle 21 = .ok (.if_icmp .ge 31, 3) := by decide +kernel
theorem dX9_settle_24 : decode cX9_settle 24 = .ok (.aload_n 0, 1) := by decide +kernel
theorem dX9_settle_25 : decode cX9_settle 25 = .ok (.getfield 35, 3) := by decide +kernel
theorem dX9_settle_28 : decode cX9_settle 28 = .ok (.aload_n 0, 1) := by decide +kernel
theorem dX9_settle_29 : decode cX9_settle 29 = .ok (.getfield 14, 3) := by decide +kernel
theorem dX9_settle_32 : decode cX9_settle 32 = .ok (.getfield 87, 3) := by decide +kernel
theorem dX9_settle_35 : decode cX9_settle 35 = .ok (.aload_n 0, 1) := by decide +kernel
theorem dX9_settle_36 : decode cX9_settle 36 = .ok (.getfield 14, 3) := by decide +kernel
theorem dX9_settle_39 : decode cX9_settle 39 = .ok (.getfield 119, 3) := by decide +kernel
theorem dX9_settle_42 : decode cX9_settle 42 = .ok (.iload_n 1, 1) := by decide +kernel
theorem dX9_settle_43 : decode cX9_settle 43 = .ok (.invokevirtual 236, 3) := by decide +kernel
theorem dX9_settle_46 : decode cX9_settle 46 = .ok (.iinc 1 1, 3) := by decide +kernel
theorem dX9_settle_49 : decode cX9_settle 49 = .ok (.goto (-39), 3) := by decide +kernel
theorem dX9_settle_52 : decode cX9_settle 52 = .ok (.aload_n 0, 1) := by decide +kernel
theorem dX9_settle_53 : decode cX9_settle 53 = .ok (.aload_n 0, 1) := by decide +kernel
theorem dX9_settle_54 : decode cX9_settle 54 = .ok (.getfield 14, 3) := by decide +kernel
theorem dX9_settle_57 : decode cX9_settle 57 = .ok (.getfield 55, 3) := by decide +kernel
theorem dX9_settle_60 : decode cX9_settle 60 = .ok (.iconst 0, 1) := by decide +kernel
theorem dX9_settle_61 : decode cX9_settle 61 = .ok (.laload, 1) := by decide +kernel
theorem dX9_settle_62 : decode cX9_settle 62 = .ok (.aload_n 0, 1) := by decide +kernel
theorem dX9_settle_63 : decode cX9_settle 63 = .ok (.getfield 14, 3) := by decide +kernel
theorem dX9_settle_66 : decode cX9_settle 66 = .ok (.getfield 55, 3) := by decide +kernel
theorem dX9_settle_69 : decode cX9_settle 69 = .ok (.iconst 1, 1) := by decide +kernel
theorem dX9_settle_70 : decode cX9_settle 70 = .ok (.laload, 1) := by decide +kernel
theorem dX9_settle_71 : decode cX9_settle 71 = .ok (.aload_n 0, 1) := by decide +kernel
theorem dX9_settle_72 : decode cX9_settle 72 = .ok (.getfield 14, 3) := by decide +kernel
theorem dX9_settle_75 : decode cX9_settle 75 = .ok (.getfield 55, 3) := by decide +kernel
theorem dX9_settle_78 : decode cX9_settle 78 = .ok (.iconst 2, 1) := by decide +kernel
theorem dX9_settle_79 : decode cX9_settle 79 = .ok (.laload, 1) := by decide +kernel
theorem dX9_settle_80 : decode cX9_settle 80 = .ok (.invokevirtual 232, 3) := by decide +kernel
theorem dX9_settle_83 : decode cX9_settle 83 = .ok (.aload_n 0, 1) := by decide +kernel
theorem dX9_settle_84 : decode cX9_settle 84 = .ok (.iconst 1, 1) := by decide +kernel
theorem dX9_settle_85 : decode cX9_settle 85 = .ok (.putfield 46, 3) := by decide +kernel
theorem dX9_settle_88 : decode cX9_settle 88 = .ok (.return_, 1) := by decide +kernel
theorem dX9_ring_0 : decode cX9_ring 0 = .ok (.aload_n 0, 1) := by decide +kernel
theorem dX9_ring_1 : decode cX9_ring 1 = .ok (.getfield 35, 3) := by decide +kernel
theorem dX9_ring_4 : decode cX9_ring 4 = .ok (.aload_n 0, 1) := by decide +kernel
theorem dX9_ring_5 : decode cX9_ring 5 = .ok (.getfield 14, 3) := by decide +kernel
theorem dX9_ring_8 : decode cX9_ring 8 = .ok (.getfield 87, 3) := by decide +kernel
theorem dX9_ring_11 : decode cX9_ring 11 = .ok (.lload_n 1, 1) := by decide +kernel
theorem dX9_ring_12 : decode cX9_ring 12 = .ok (.invokevirtual 266, 3) := by decide +kernel
theorem dX9_ring_15 : decode cX9_ring 15 = .ok (.iconst 0, 1) := by decide +kernel
theorem dX9_ring_16 : decode cX9_ring 16 = .ok (.istore 7, 2) := by decide +kernel
theorem dX9_ring_18 : decode cX9_ring 18 = .ok (.iload 7, 2) := by decide +kernel
theorem dX9_ring_20 : decode cX9_ring 20 = .ok (.aload_n 0, 1) := by decide +kernel
theorem dX9_ring_21 : decode cX9_ring 21 = .ok (.getfield 14, 3) := by decide +kernel
theorem dX9_ring_24 : decode cX9_ring 24 = .ok (.getfield 119, 3) := by decide +kernel
theorem dX9_ring_27 : decode cX9_ring 27 = .ok (.getfield 123, 3) := by decide +kernel
theorem dX9_ring_30 : decode cX9_ring 30 = .ok (.if_icmp .ge 28, 3) := by decide +kernel
theorem dX9_ring_33 : decode cX9_ring 33 = .ok (.aload_n 0, 1) := by decide +kernel
theorem dX9_ring_34 : decode cX9_ring 34 = .ok (.getfield 35, 3) := by decide +kernel
theorem dX9_ring_37 : decode cX9_ring 37 = .ok (.aload_n 0, 1) := by decide +kernel
theorem dX9_ring_38 : decode cX9_ring 38 = .ok (.getfield 14, 3) := by decide +kernel
theorem dX9_ring_41 : decode cX9_ring 41 = .ok (.getfield 119, 3) := by decide +kernel
theorem dX9_ring_44 : decode cX9_ring 44 = .ok (.iload 7, 2) := by decide +kernel
theorem dX9_ring_46 : decode cX9_ring 46 = .ok (.lload_n 3, 1) := by decide +kernel
theorem dX9_ring_47 : decode cX9_ring 47 = .ok (.lload 5, 2) := by decide +kernel
theorem dX9_ring_49 : decode cX9_ring 49 = .ok (.invokevirtual 240, 3) := by decide +kernel
theorem dX9_ring_52 : decode cX9_ring 52 = .ok (.iinc 7 1, 3) := by decide +kernel
theorem dX9_ring_55 : decode cX9_ring 55 = .ok (.goto (-37), 3) := by decide +kernel
theorem dX9_ring_58 : decode cX9_ring 58 = .ok (.return_, 1) := by decide +kernel
theorem dX9_loudOf_0 : decode cX9_loudOf 0 = .ok (.aload_n 0, 1) := by decide +kernel
theorem dX9_loudOf_1 : decode cX9_loudOf 1 = .ok (.getfield 14, 3) := by decide +kernel
theorem dX9_loudOf_4 : decode cX9_loudOf 4 = .ok (.getfield 119, 3) := by decide +kernel
theorem dX9_loudOf_7 : decode cX9_loudOf 7 = .ok (.getfield 143, 3) := by decide +kernel
theorem dX9_loudOf_10 : decode cX9_loudOf 10 = .ok (.iload_n 1, 1) := by decide +kernel
theorem dX9_loudOf_11 : decode cX9_loudOf 11 = .ok (.iaload, 1) := by decide +kernel
theorem dX9_loudOf_12 : decode cX9_loudOf 12 = .ok (.istore 4, 2) := by decide +kernel
theorem dX9_loudOf_14 : decode cX9_loudOf 14 = .ok (.aload_n 0, 1) := by decide +kernel
theorem dX9_loudOf_15 : decode cX9_loudOf 15 = .ok (.getfield 14, 3) := by decide +kernel
theorem dX9_loudOf_18 : decode cX9_loudOf 18 = .ok (.getfield 119, 3) := by decide +kernel
theorem dX9_loudOf_21 : decode cX9_loudOf 21 = .ok (.getfield 137, 3) := by decide +kernel
theorem dX9_loudOf_24 : decode cX9_loudOf 24 = .ok (.iload_n 1, 1) := by decide +kernel
theorem dX9_loudOf_25 : decode cX9_loudOf 25 = .ok (.iaload, 1) := by decide +kernel
theorem dX9_loudOf_26 : decode cX9_loudOf 26 = .ok (.iload_n 2, 1) := by decide +kernel
theorem dX9_loudOf_27 : decode cX9_loudOf 27 = .ok (.isub, 1) := by decide +kernel
theorem dX9_loudOf_28 : decode cX9_loudOf 28 = .ok (.invokestatic 270, 3) := by decide +kernel
theorem dX9_loudOf_31 : decode cX9_loudOf 31 = .ok (.istore 5, 2) := by decide +kernel
theorem dX9_loudOf_33 : decode cX9_loudOf 33 = .ok (.iconst 0, 1) := by decide +kernel
theorem dX9_loudOf_34 : decode cX9_loudOf 34 = .ok (.iload 4, 2) := by decide +kernel
theorem dX9_loudOf_36 : decode cX9_loudOf 36 = .ok (.aload_n 0, 1) := by decide +kernel
theorem dX9_loudOf_37 : decode cX9_loudOf 37 = .ok (.getfield 14, 3) := by decide +kernel
theorem dX9_loudOf_40 : decode cX9_loudOf 40 = .ok (.getfield 87, 3) := by decide +kernel
theorem dX9_loudOf_43 : decode cX9_loudOf 43 = .ok (.getfield 100, 3) := by decide +kernel
theorem dX9_loudOf_46 : decode cX9_loudOf 46 = .ok (.iconst 3, 1) := by decide +kernel
theorem dX9_loudOf_47 : decode cX9_loudOf 47 = .ok (.iaload, 1) := by decide +kernel
theorem dX9_loudOf_48 : decode cX9_loudOf 48 = .ok (.iload 5, 2) := by decide +kernel
theorem dX9_loudOf_50 : decode cX9_loudOf 50 = .ok (.imul, 1) := by decide +kernel
theorem dX9_loudOf_51 : decode cX9_loudOf 51 = .ok (.isub, 1) := by decide +kernel
theorem dX9_loudOf_52 : decode cX9_loudOf 52 = .ok (.invokestatic 221, 3) := by decide +kernel
theorem dX9_loudOf_55 : decode cX9_loudOf 55 = .ok (.istore 6, 2) := by decide +kernel
theorem dX9_loudOf_57 : decode cX9_loudOf 57 = .ok (.aload_n 0, 1) := by decide +kernel
theorem dX9_loudOf_58 : decode cX9_loudOf 58 = .ok (.getfield 35, 3) := by decide +kernel
theorem dX9_loudOf_61 : decode cX9_loudOf 61 = .ok (.getfield 110, 3) := by decide +kernel
theorem dX9_loudOf_64 : decode cX9_loudOf 64 = .ok (.iload_n 3, 1) := by decide +kernel
theorem dX9_loudOf_65 : decode cX9_loudOf 65 = .ok (.iaload, 1) := by decide +kernel
theorem dX9_loudOf_66 : decode cX9_loudOf 66 = .ok (.ifCond .gt 22, 3) := by decide +kernel
theorem dX9_loudOf_69 : decode cX9_loudOf 69 = .ok (.aload_n 0, 1) := by decide +kernel
theorem dX9_loudOf_70 : decode cX9_loudOf 70 = .ok (.getfield 14, 3) := by decide +kernel
theorem dX9_loudOf_73 : decode cX9_loudOf 73 = .ok (.getfield 119, 3) := by decide +kernel
theorem dX9_loudOf_76 : decode cX9_loudOf 76 = .ok (.getfield 134, 3) := by decide +kernel
theorem dX9_loudOf_79 : decode cX9_loudOf 79 = .ok (.iload_n 1, 1) := by decide +kernel
theorem dX9_loudOf_80 : decode cX9_loudOf 80 = .ok (.iaload, 1) := by decide +kernel
theorem dX9_loudOf_81 : decode cX9_loudOf 81 = .ok (.iconst 2, 1) := by decide +kernel
theorem dX9_loudOf_82 : decode cX9_loudOf 82 = .ok (.invokestatic 217, 3) := by decide +kernel
theorem dX9_loudOf_85 : decode cX9_loudOf 85 = .ok (.ifCond .eq 30, 3) := by decide +kernel
theorem dX9_loudOf_88 : decode cX9_loudOf 88 = .ok (.iload 6, 2) := by decide +kernel
theorem dX9_loudOf_90 : decode cX9_loudOf 90 = .ok (.iload 4, 2) := by decide +kernel
theorem dX9_loudOf_92 : decode cX9_loudOf 92 = .ok (.iconst 5, 1) := by decide +kernel
theorem dX9_loudOf_93 : decode cX9_loudOf 93 = .ok (.isub, 1) := by decide +kernel
theorem dX9_loudOf_94 : decode cX9_loudOf 94 = .ok (.aload_n 0, 1) := by decide +kernel
theorem dX9_loudOf_95 : decode cX9_loudOf 95 = .ok (.getfield 14, 3) := by decide +kernel
theorem dX9_loudOf_98 : decode cX9_loudOf 98 = .ok (.getfield 87, 3) := by decide +kernel
theorem dX9_loudOf_101 : decode cX9_loudOf 101 = .ok (.getfield 100, 3) := by decide +kernel
theorem dX9_loudOf_104 : decode cX9_loudOf 104 = .ok (.iconst 2, 1) := by decide +kernel
theorem dX9_loudOf_105 : decode cX9_loudOf 105 = .ok (.iaload, 1) := by decide +kernel
theorem dX9_loudOf_106 : decode cX9_loudOf 106 = .ok (.iload 5, 2) := by decide +kernel
theorem dX9_loudOf_108 : decode cX9_loudOf 108 = .ok (.imul, 1) := by decide +kernel
theorem dX9_loudOf_109 : decode cX9_loudOf 109 = .ok (.isub, 1) := by decide +kernel
theorem dX9_loudOf_110 : decode cX9_loudOf 110 = .ok (.invokestatic 221, 3) := by decide +kernel
theorem dX9_loudOf_113 : decode cX9_loudOf 113 = .ok (.istore 6, 2) := by decide +kernel
theorem dX9_loudOf_115 : decode cX9_loudOf 115 = .ok (.iload 6, 2) := by decide +kernel
theorem dX9_loudOf_117 : decode cX9_loudOf 117 = .ok (.ireturn, 1) := by decide +kernel
theorem dX9_heardAlone_0 : decode cX9_heardAlone 0 = .ok (.aload_n 0, 1) := by decide +kernel
theorem dX9_heardAlone_1 : decode cX9_heardAlone 1 = .ok (.iload_n 1, 1) := by decide +kernel
theorem dX9_heardAlone_2 : decode cX9_heardAlone 2 = .ok (.iload_n 2, 1) := by decide +kernel
theorem dX9_heardAlone_3 : decode cX9_heardAlone 3 = .ok (.iload_n 3, 1) := by decide +kernel
theorem dX9_heardAlone_4 : decode cX9_heardAlone 4 = .ok (.invokevirtual 162, 3) := by decide +kernel
theorem dX9_heardAlone_7 : decode cX9_heardAlone 7 = .ok (.aload_n 0, 1) := by decide +kernel
theorem dX9_heardAlone_8 : decode cX9_heardAlone 8 = .ok (.getfield 14, 3) := by decide +kernel
theorem dX9_heardAlone_11 : decode cX9_heardAlone 11 = .ok (.getfield 87, 3) := by decide +kernel
theorem dX9_heardAlone_14 : decode cX9_heardAlone 14 = .ok (.getfield 100, 3) := by decide +kernel
theorem dX9_heardAlone_17 : decode cX9_heardAlone 17 = .ok (.iconst 4, 1) := by decide +kernel
theorem dX9_heardAlone_18 : decode cX9_heardAlone 18 = .ok (.iaload, 1) := by decide +kernel
theorem dX9_heardAlone_19 : decode cX9_heardAlone 19 = .ok (.if_icmp .ge 5, 3) := by decide +kernel
theorem dX9_heardAlone_22 : decode cX9_heardAlone 22 = .ok (.iconst 0, 1) := by decide +kernel
theorem dX9_heardAlone_23 : decode cX9_heardAlone 23 = .ok (.ireturn, 1) := by decide +kernel
theorem dX9_heardAlone_24 : decode cX9_heardAlone 24 = .ok (.aload_n 0, 1) := by decide +kernel
theorem dX9_heardAlone_25 : decode cX9_heardAlone 25 = .ok (.getfield 35, 3) := by decide +kernel
theorem dX9_heardAlone_28 : decode cX9_heardAlone 28 = .ok (.iload_n 1, 1) := by decide +kernel
theorem dX9_heardAlone_29 : decode cX9_heardAlone 29 = .ok (.iload_n 3, 1) := by decide +kernel
theorem dX9_heardAlone_30 : decode cX9_heardAlone 30 = .ok (.invokevirtual 159, 3) := by decide +kernel
theorem dX9_heardAlone_33 : decode cX9_heardAlone 33 = .ok (.ireturn, 1) := by decide +kernel
theorem dX9_heardInDayOf_0 : decode cX9_heardInDayOf 0 = .ok (.iconst 0, 1) := by decide +kernel
theorem dX9_heardInDayOf_1 : decode cX9_heardInDayOf 1 = .ok (.istore_n 3, 1) := by decide +kernel
theorem dX9_heardInDayOf_2 : decode cX9_heardInDayOf 2 = .ok (.iconst 0, 1) := by decide +kernel
theorem dX9_heardInDayOf_3 : decode cX9_heardInDayOf 3 = .ok (.istore 4, 2) := by decide +kernel
theorem dX9_heardInDayOf_5 : decode cX9_heardInDayOf 5 = .ok (.iload 4, 2) := by decide +kernel
theorem dX9_heardInDayOf_7 : decode cX9_heardInDayOf 7 = .ok (.bipush 40, 2) := by decide +kernel
theorem dX9_heardInDayOf_9 : decode cX9_heardInDayOf 9 = .ok (.if_icmp .ge 20, 3) := by decide +kernel
theorem dX9_heardInDayOf_12 : decode cX9_heardInDayOf 12 = .ok (.iload_n 3, 1) := by decide +kernel
theorem dX9_heardInDayOf_13 : decode cX9_heardInDayOf 13 = .ok (.aload_n 0, 1) := by decide +kernel
theorem dX9_heardInDayOf_14 : decode cX9_heardInDayOf 14 = .ok (.iload_n 1, 1) := by decide +kernel
theorem dX9_heardInDayOf_15 : decode cX9_heardInDayOf 15 = .ok (.iload_n 2, 1) := by decide +kernel
theorem dX9_heardInDayOf_16 : decode cX9_heardInDayOf 16 = .ok (.iload 4, 2) := by decide +kernel
theorem dX9_heardInDayOf_18 : decode cX9_heardInDayOf 18 = .ok (.invokevirtual 273, 3) := by decide +kernel
theorem dX9_heardInDayOf_21 : decode cX9_heardInDayOf 21 = .ok (.iadd, 1) := by decide +kernel
theorem dX9_heardInDayOf_22 : decode cX9_heardInDayOf 22 = .ok (.istore_n 3, 1) := by decide +kernel
theorem dX9_heardInDayOf_23 : decode cX9_heardInDayOf 23 = .ok (.iinc 4 1, 3) := by decide +kernel
theorem dX9_heardInDayOf_26 : decode cX9_heardInDayOf 26 = .ok (.goto (-21), 3) := by decide +kernel
theorem dX9_heardInDayOf_29 : decode cX9_heardInDayOf 29 = .ok (.iload_n 3, 1) := by decide +kernel
theorem dX9_heardInDayOf_30 : decode cX9_heardInDayOf 30 = .ok (.ireturn, 1) := by decide +kernel
theorem dX9_heardAt_0 : decode cX9_heardAt 0 = .ok (.iconst 0, 1) := by decide +kernel
theorem dX9_heardAt_1 : decode cX9_heardAt 1 = .ok (.istore_n 3, 1) := by decide +kernel
theorem dX9_heardAt_2 : decode cX9_heardAt 2 = .ok (.iconst 0, 1) := by decide +kernel
theorem dX9_heardAt_3 : decode cX9_heardAt 3 = .ok (.istore 4, 2) := by decide +kernel
theorem dX9_heardAt_5 : decode cX9_heardAt 5 = .ok (.iload 4, 2) := by decide +kernel
theorem dX9_heardAt_7 : decode cX9_heardAt 7 = .ok (.aload_n 0, 1) := by decide +kernel
theorem dX9_heardAt_8 : decode cX9_heardAt 8 = .ok (.getfield 14, 3) := by decide +kernel
theorem dX9_heardAt_11 : decode cX9_heardAt 11 = .ok (.getfield 119, 3) := by decide +kernel
theorem dX9_heardAt_14 : decode cX9_heardAt 14 = .ok (.getfield 123, 3) := by decide +kernel
theorem dX9_heardAt_17 : decode cX9_heardAt 17 = .ok (.if_icmp .ge 35, 3) := by decide +kernel
theorem dX9_heardAt_20 : decode cX9_heardAt 20 = .ok (.aload_n 0, 1) := by decide +kernel
theorem dX9_heardAt_21 : decode cX9_heardAt 21 = .ok (.getfield 14, 3) := by decide +kernel
theorem dX9_heardAt_24 : decode cX9_heardAt 24 = .ok (.getfield 119, 3) := by decide +kernel
theorem dX9_heardAt_27 : decode cX9_heardAt 27 = .ok (.iload 4, 2) := by decide +kernel
theorem dX9_heardAt_29 : decode cX9_heardAt 29 = .ok (.invokevirtual 156, 3) := by decide +kernel
theorem dX9_heardAt_32 : decode cX9_heardAt 32 = .ok (.ifCond .eq 14, 3) := by decide +kernel
theorem dX9_heardAt_35 : decode cX9_heardAt 35 = .ok (.iload_n 3, 1) := by decide +kernel
theorem dX9_heardAt_36 : decode cX9_heardAt 36 = .ok (.aload_n 0, 1) := by decide +kernel
theorem dX9_heardAt_37 : decode cX9_heardAt 37 = .ok (.iload 4, 2) := by decide +kernel
theorem dX9_heardAt_39 : decode cX9_heardAt 39 = .ok (.iload_n 1, 1) := by decide +kernel
theorem dX9_heardAt_40 : decode cX9_heardAt 40 = .ok (.iload_n 2, 1) := by decide +kernel
theorem dX9_heardAt_41 : decode cX9_heardAt 41 = .ok (.invokevirtual 273, 3) := by decide +kernel
theorem dX9_heardAt_44 : decode cX9_heardAt 44 = .ok (.iadd, 1) := by decide +kernel
theorem dX9_heardAt_45 : decode cX9_heardAt 45 = .ok (.istore_n 3, 1) := by decide +kernel
theorem dX9_heardAt_46 : decode cX9_heardAt 46 = .ok (.iinc 4 1, 3) := by decide +kernel
theorem dX9_heardAt_49 : decode cX9_heardAt 49 = .ok (.goto (-44), 3) := by decide +kernel
theorem dX9_heardAt_52 : decode cX9_heardAt 52 = .ok (.iload_n 3, 1) := by decide +kernel
theorem dX9_heardAt_53 : decode cX9_heardAt 53 = .ok (.ireturn, 1) := by decide +kernel
theorem dX9_heardInDay_0 : decode cX9_heardInDay 0 = .ok (.iconst 0, 1) := by decide +kernel
theorem dX9_heardInDay_1 : decode cX9_heardInDay 1 = .ok (.istore_n 2, 1) := by decide +kernel
theorem dX9_heardInDay_2 : decode cX9_heardInDay 2 = .ok (.iconst 0, 1) := by decide +kernel
theorem dX9_heardInDay_3 : decode cX9_heardInDay 3 = .ok (.istore_n 3, 1) := by decide +kernel
theorem dX9_heardInDay_4 : decode cX9_heardInDay 4 = .ok (.iload_n 3, 1) := by decide +kernel
theorem dX9_heardInDay_5 : decode cX9_heardInDay 5 = .ok (.bipush 40, 2) := by decide +kernel
theorem dX9_heardInDay_7 : decode cX9_heardInDay 7 = .ok (.if_icmp .ge 18, 3) := by decide +kernel
theorem dX9_heardInDay_10 : decode cX9_heardInDay 10 = .ok (.iload_n 2, 1) := by decide +kernel
theorem dX9_heardInDay_11 : decode cX9_heardInDay 11 = .ok (.aload_n 0, 1) := by decide +kernel
theorem dX9_heardInDay_12 : decode cX9_heardInDay 12 = .ok (.iload_n 1, 1) := by decide +kernel
theorem dX9_heardInDay_13 : decode cX9_heardInDay 13 = .ok (.iload_n 3, 1) := by decide +kernel
theorem dX9_heardInDay_14 : decode cX9_heardInDay 14 = .ok (.invokevirtual 170, 3) := by decide +kernel
theorem dX9_heardInDay_17 : decode cX9_heardInDay 17 = .ok (.iadd, 1) := by decide +kernel
theorem dX9_heardInDay_18 : decode cX9_heardInDay 18 = .ok (.istore_n 2, 1) := by decide +kernel
theorem dX9_heardInDay_19 : decode cX9_heardInDay 19 = .ok (.iinc 3 1, 3) := by decide +kernel
theorem dX9_heardInDay_22 : decode cX9_heardInDay 22 = .ok (.goto (-18), 3) := by decide +kernel
theorem dX9_heardInDay_25 : decode cX9_heardInDay 25 = .ok (.iload_n 2, 1) := by decide +kernel
theorem dX9_heardInDay_26 : decode cX9_heardInDay 26 = .ok (.ireturn, 1) := by decide +kernel
theorem dX9_loudOfAll_0 : decode cX9_loudOfAll 0 = .ok (.iconst 0, 1) := by decide +kernel
theorem dX9_loudOfAll_1 : decode cX9_loudOfAll 1 = .ok (.istore_n 3, 1) := by decide +kernel
theorem dX9_loudOfAll_2 : decode cX9_loudOfAll 2 = .ok (.iconst 0, 1) := by decide +kernel
theorem dX9_loudOfAll_3 : decode cX9_loudOfAll 3 = .ok (.istore 4, 2) := by decide +kernel
theorem dX9_loudOfAll_5 : decode cX9_loudOfAll 5 = .ok (.iload 4, 2) := by decide +kernel
theorem dX9_loudOfAll_7 : decode cX9_loudOfAll 7 = .ok (.aload_n 0, 1) := by decide +kernel
theorem dX9_loudOfAll_8 : decode cX9_loudOfAll 8 = .ok (.getfield 14, 3) := by decide +kernel
theorem dX9_loudOfAll_11 : decode cX9_loudOfAll 11 = .ok (.getfield 119, 3) := by decide +kernel
theorem dX9_loudOfAll_14 : decode cX9_loudOfAll 14 = .ok (.getfield 123, 3) := by decide +kernel
theorem dX9_loudOfAll_17 : decode cX9_loudOfAll 17 = .ok (.if_icmp .ge 60, 3) := by decide +kernel
theorem dX9_loudOfAll_20 : decode cX9_loudOfAll 20 = .ok (.aload_n 0, 1) := by decide +kernel
theorem dX9_loudOfAll_21 : decode cX9_loudOfAll 21 = .ok (.getfield 14, 3) := by decide +kernel
theorem dX9_loudOfAll_24 : decode cX9_loudOfAll 24 = .ok (.getfield 119, 3) := by decide +kernel
theorem dX9_loudOfAll_27 : decode cX9_loudOfAll 27 = .ok (.iload 4, 2) := by decide +kernel
theorem dX9_loudOfAll_29 : decode cX9_loudOfAll 29 = .ok (.invokevirtual 156, 3) := by decide +kernel
theorem dX9_loudOfAll_32 : decode cX9_loudOfAll 32 = .ok (.ifCond .eq 20, 3) := by decide +kernel
theorem dX9_loudOfAll_35 : decode cX9_loudOfAll 35 = .ok (.aload_n 0, 1) := by decide +kernel
theorem dX9_loudOfAll_36 : decode cX9_loudOfAll 36 = .ok (.getfield 35, 3) := by decide +kernel
theorem dX9_loudOfAll_39 : decode cX9_loudOfAll 39 = .ok (.iload 4, 2) := by decide +kernel
theorem dX9_loudOfAll_41 : decode cX9_loudOfAll 41 = .ok (.iload_n 2, 1) := by decide +kernel
theorem dX9_loudOfAll_42 : decode cX9_loudOfAll 42 = .ok (.invokevirtual 159, 3) := by decide +kernel
theorem dX9_loudOfAll_45 : decode cX9_loudOfAll 45 = .ok (.ifCond .le 7, 3) := by decide +kernel
theorem dX9_loudOfAll_48 : decode cX9_loudOfAll 48 = .ok (.iconst 1, 1) := by decide +kernel
theorem dX9_loudOfAll_49 : decode cX9_loudOfAll 49 = .ok (.goto 4, 3) := by decide +kernel
theorem dX9_loudOfAll_52 : decode cX9_loudOfAll 52 = .ok (.iconst 0, 1) := by decide +kernel
theorem dX9_loudOfAll_53 : decode cX9_loudOfAll 53 = .ok (.istore 5, 2) := by decide +kernel
theorem dX9_loudOfAll_55 : decode cX9_loudOfAll 55 = .ok (.iload 5, 2) := by decide +kernel
theorem dX9_loudOfAll_57 : decode cX9_loudOfAll 57 = .ok (.ifCond .eq 14, 3) := by decide +kernel
theorem dX9_loudOfAll_60 : decode cX9_loudOfAll 60 = .ok (.iload_n 3, 1) := by decide +kernel
theorem dX9_loudOfAll_61 : decode cX9_loudOfAll 61 = .ok (.aload_n 0, 1) := by decide +kernel
theorem dX9_loudOfAll_62 : decode cX9_loudOfAll 62 = .ok (.iload 4, 2) := by decide +kernel
theorem dX9_loudOfAll_64 : decode cX9_loudOfAll 64 = .ok (.iload_n 1, 1) := by decide +kernel
theorem dX9_loudOfAll_65 : decode cX9_loudOfAll 65 = .ok (.iload_n 2, 1) := by decide +kernel
theorem dX9_loudOfAll_66 : decode cX9_loudOfAll 66 = .ok (.invokevirtual 162, 3) := by decide +kernel
theorem dX9_loudOfAll_69 : decode cX9_loudOfAll 69 = .ok (.iadd, 1) := by decide +kernel
theorem dX9_loudOfAll_70 : decode cX9_loudOfAll 70 = .ok (.istore_n 3, 1) := by decide +kernel
theorem dX9_loudOfAll_71 : decode cX9_loudOfAll 71 = .ok (.iinc 4 1, 3) := by decide +kernel
theorem dX9_loudOfAll_74 : decode cX9_loudOfAll 74 = .ok (.goto (-69), 3) := by decide +kernel
theorem dX9_loudOfAll_77 : decode cX9_loudOfAll 77 = .ok (.iload_n 3, 1) := by decide +kernel
theorem dX9_loudOfAll_78 : decode cX9_loudOfAll 78 = .ok (.ireturn, 1) := by decide +kernel
theorem dX9_fittingRows_0 : decode cX9_fittingRows 0 = .ok (.iconst 0, 1) := by decide +kernel
theorem dX9_fittingRows_1 : decode cX9_fittingRows 1 = .ok (.istore_n 2, 1) := by decide +kernel
theorem dX9_fittingRows_2 : decode cX9_fittingRows 2 = .ok (.iconst 0, 1) := by decide +kernel
theorem dX9_fittingRows_3 : decode cX9_fittingRows 3 = .ok (.istore_n 3, 1) := by decide +kernel
theorem dX9_fittingRows_4 : decode cX9_fittingRows 4 = .ok (.iload_n 3, 1) := by decide +kernel
theorem dX9_fittingRows_5 : decode cX9_fittingRows 5 = .ok (.aload_n 0, 1) := by decide +kernel
theorem dX9_fittingRows_6 : decode cX9_fittingRows 6 = .ok (.getfield 14, 3) := by decide +kernel
theorem dX9_fittingRows_9 : decode cX9_fittingRows 9 = .ok (.getfield 176, 3) := by decide +kernel
theorem dX9_fittingRows_12 : decode cX9_fittingRows 12 = .ok (.getfield 180, 3) := by decide +kernel
theorem dX9_fittingRows_15 : decode cX9_fittingRows 15 = .ok (.if_icmp .ge 59, 3) := by decide +kernel
theorem dX9_fittingRows_18 : decode cX9_fittingRows 18 = .ok (.aload_n 0, 1) := by decide +kernel
theorem dX9_fittingRows_19 : decode cX9_fittingRows 19 = .ok (.iload_n 1, 1) := by decide +kernel
theorem dX9_fittingRows_20 : decode cX9_fittingRows 20 = .ok (.aload_n 0, 1) := by decide +kernel
theorem dX9_fittingRows_21 : decode cX9_fittingRows 21 = .ok (.getfield 14, 3) := by decide +kernel
theorem dX9_fittingRows_24 : decode cX9_fittingRows 24 = .ok (.getfield 176, 3) := by decide +kernel
theorem dX9_fittingRows_27 : decode cX9_fittingRows 27 = .ok (.getfield 276, 3) := by decide +kernel
theorem dX9_fittingRows_30 : decode cX9_fittingRows 30 = .ok (.iload_n 3, 1) := by decide +kernel
theorem dX9_fittingRows_31 : decode cX9_fittingRows 31 = .ok (.iaload, 1) := by decide +kernel
theorem dX9_fittingRows_32 : decode cX9_fittingRows 32 = .ok (.aload_n 0, 1) := by decide +kernel
theorem dX9_fittingRows_33 : decode cX9_fittingRows 33 = .ok (.getfield 14, 3) := by decide +kernel
theorem dX9_fittingRows_36 : decode cX9_fittingRows 36 = .ok (.getfield 176, 3) := by decide +kernel
theorem dX9_fittingRows_39 : decode cX9_fittingRows 39 = .ok (.getfield 277, 3) := by decide +kernel
theorem dX9_fittingRows_42 : decode cX9_fittingRows 42 = .ok (.iload_n 3, 1) := by decide +kernel
theorem dX9_fittingRows_43 : decode cX9_fittingRows 43 = .ok (.iaload, 1) := by decide +kernel
theorem dX9_fittingRows_44 : decode cX9_fittingRows 44 = .ok (.invokevirtual 273, 3) := by decide +kernel
theorem dX9_fittingRows_47 : decode cX9_fittingRows 47 = .ok (.aload_n 0, 1) := by decide +kernel
theorem dX9_fittingRows_48 : decode cX9_fittingRows 48 = .ok (.getfield 14, 3) := by decide +kernel
theorem dX9_fittingRows_51 : decode cX9_fittingRows 51 = .ok (.getfield 176, 3) := by decide +kernel
theorem dX9_fittingRows_54 : decode cX9_fittingRows 54 = .ok (.getfield 280, 3) := by decide +kernel
theorem dX9_fittingRows_57 : decode cX9_fittingRows 57 = .ok (.iload_n 3, 1) := by decide +kernel
theorem dX9_fittingRows_58 : decode cX9_fittingRows 58 = .ok (.iaload, 1) := by decide +kernel
theorem dX9_fittingRows_59 : decode cX9_fittingRows 59 = .ok (.if_icmp .ne 9, 3) := by decide +kernel
theorem dX9_fittingRows_62 : decode cX9_fittingRows 62 = .ok (.iload_n 2, 1) := by decide +kernel
theorem dX9_fittingRows_63 : decode cX9_fittingRows 63 = .ok (.iconst 1, 1) := by decide +kernel
theorem dX9_fittingRows_64 : decode cX9_fittingRows 64 = .ok (.iload_n 3, 1) := by decide +kernel
theorem dX9_fittingRows_65 : decode cX9_fittingRows 65 = .ok (.ishl, 1) := by decide +kernel
theorem dX9_fittingRows_66 : decode cX9_fittingRows 66 = .ok (.ior, 1) := by decide +kernel
theorem dX9_fittingRows_67 : decode cX9_fittingRows 67 = .ok (.istore_n 2, 1) := by decide +kernel
theorem dX9_fittingRows_68 : decode cX9_fittingRows 68 = .ok (.iinc 3 1, 3) := by decide +kernel
theorem dX9_fittingRows_71 : decode cX9_fittingRows 71 = .ok (.goto (-67), 3) := by decide +kernel
theorem dX9_fittingRows_74 : decode cX9_fittingRows 74 = .ok (.iload_n 2, 1) := by decide +kernel
theorem dX9_fittingRows_75 : decode cX9_fittingRows 75 = .ok (.ireturn, 1) := by decide +kernel
theorem dX9_mostFitting_0 : decode cX9_mostFitting 0 = .ok (.bipush (-5), 2) := by decide +kernel
theorem dX9_mostFitting_2 : decode cX9_mostFitting 2 = .ok (.istore_n 1, 1) := by decide +kernel
theorem dX9_mostFitting_3 : decode cX9_mostFitting 3 = .ok (.iconst (-1), 1) := by decide +kernel
theorem dX9_mostFitting_4 : decode cX9_mostFitting 4 = .ok (.istore_n 2, 1) := by decide +kernel
theorem dX9_mostFitting_5 : decode cX9_mostFitting 5 = .ok (.iconst 0, 1) := by decide +kernel
theorem dX9_mostFitting_6 : decode cX9_mostFitting 6 = .ok (.istore_n 3, 1) := by decide +kernel
theorem dX9_mostFitting_7 : decode cX9_mostFitting 7 = .ok (.iload_n 3, 1) := by decide +kernel
theorem dX9_mostFitting_8 : decode cX9_mostFitting 8 = .ok (.aload_n 0, 1) := by decide +kernel
theorem dX9_mostFitting_9 : decode cX9_mostFitting 9 = .ok (.getfield 14, 3) := by decide +kernel
theorem dX9_mostFitting_12 : decode cX9_mostFitting 12 = .ok (.getfield 119, 3) := by decide +kernel
theorem dX9_mostFitting_15 : decode cX9_mostFitting 15 = .ok (.getfield 123, 3) := by decide +kernel
theorem dX9_mostFitting_18 : decode cX9_mostFitting 18 = .ok (.if_icmp .ge 30, 3) := by decide +kernel
theorem dX9_mostFitting_21 : decode cX9_mostFitting 21 = .ok (.aload_n 0, 1) := by decide +kernel
theorem dX9_mostFitting_22 : decode cX9_mostFitting 22 = .ok (.iload_n 3, 1) := by decide +kernel
theorem dX9_mostFitting_23 : decode cX9_mostFitting 23 = .ok (.invokevirtual 185, 3) := by decide +kernel
theorem dX9_mostFitting_26 : decode cX9_mostFitting 26 = .ok (.invokestatic 188, 3) := by decide +kernel
theorem dX9_mostFitting_29 : decode cX9_mostFitting 29 = .ok (.istore 4, 2) := by decide +kernel
theorem dX9_mostFitting_31 : decode cX9_mostFitting 31 = .ok (.iload 4, 2) := by decide +kernel
theorem dX9_mostFitting_33 : decode cX9_mostFitting 33 = .ok (.iload_n 2, 1) := by decide +kernel
theorem dX9_mostFitting_34 : decode cX9_mostFitting 34 = .ok (.if_icmp .le 8, 3) := by decide +kernel
theorem dX9_mostFitting_37 : decode cX9_mostFitting 37 = .ok (.iload 4, 2) := by decide +kernel
theorem dX9_mostFitting_39 : decode cX9_mostFitting 39 = .ok (.istore_n 2, 1) := by decide +kernel
theorem dX9_mostFitting_40 : decode cX9_mostFitting 40 = .ok (.iload_n 3, 1) := by decide +kernel
theorem dX9_mostFitting_41 : decode cX9_mostFitting 41 = .ok (.istore_n 1, 1) := by decide +kernel
theorem dX9_mostFitting_42 : decode cX9_mostFitting 42 = .ok (.iinc 3 1, 3) := by decide +kernel
theorem dX9_mostFitting_45 : decode cX9_mostFitting 45 = .ok (.goto (-38), 3) := by decide +kernel
theorem dX9_mostFitting_48 : decode cX9_mostFitting 48 = .ok (.iload_n 1, 1) := by decide +kernel
theorem dX9_mostFitting_49 : decode cX9_mostFitting 49 = .ok (.ireturn, 1) := by decide +kernel
theorem dX9_allFitting_0 : decode cX9_allFitting 0 = .ok (.iconst 0, 1) := by decide +kernel
theorem dX9_allFitting_1 : decode cX9_allFitting 1 = .ok (.istore_n 1, 1) := by decide +kernel
theorem dX9_allFitting_2 : decode cX9_allFitting 2 = .ok (.iload_n 1, 1) := by decide +kernel
theorem dX9_allFitting_3 : decode cX9_allFitting 3 = .ok (.aload_n 0, 1) := by decide +kernel
theorem dX9_allFitting_4 : decode cX9_allFitting 4 = .ok (.getfield 14, 3) := by decide +kernel
theorem dX9_allFitting_7 : decode cX9_allFitting 7 = .ok (.getfield 176, 3) := by decide +kernel
theorem dX9_allFitting_10 : decode cX9_allFitting 10 = .ok (.getfield 180, 3) := by decide +kernel
theorem dX9_allFitting_13 : decode cX9_allFitting 13 = .ok (.if_icmp .ge 71, 3) := by decide +kernel
theorem dX9_allFitting_16 : decode cX9_allFitting 16 = .ok (.iconst 0, 1) := by decide +kernel
theorem dX9_allFitting_17 : decode cX9_allFitting 17 = .ok (.istore_n 2, 1) := by decide +kernel
theorem dX9_allFitting_18 : decode cX9_allFitting 18 = .ok (.iload_n 2, 1) := by decide +kernel
theorem dX9_allFitting_19 : decode cX9_allFitting 19 = .ok (.aload_n 0, 1) := by decide +kernel
theorem dX9_allFitting_20 : decode cX9_allFitting 20 = .ok (.getfield 14, 3) := by decide +kernel
theorem dX9_allFitting_23 : decode cX9_allFitting 23 = .ok (.getfield 119, 3) := by decide +kernel
theorem dX9_allFitting_26 : decode cX9_allFitting 26 = .ok (.getfield 123, 3) := by decide +kernel
theorem dX9_allFitting_29 : decode cX9_allFitting 29 = .ok (.if_icmp .ge 49, 3) := by decide +kernel
theorem dX9_allFitting_32 : decode cX9_allFitting 32 = .ok (.aload_n 0, 1) := by decide +kernel
theorem dX9_allFitting_33 : decode cX9_allFitting 33 = .ok (.getfield 49, 3) := by decide +kernel
theorem dX9_allFitting_36 : decode cX9_allFitting 36 = .ok (.iload_n 1, 1) := by decide +kernel
theorem dX9_allFitting_37 : decode cX9_allFitting 37 = .ok (.bipush 10, 2) := by decide +kernel
theorem dX9_allFitting_39 : decode cX9_allFitting 39 = .ok (.imul, 1) := by decide +kernel
theorem dX9_allFitting_40 : decode cX9_allFitting 40 = .ok (.iload_n 2, 1) := by decide +kernel
theorem dX9_allFitting_41 : decode cX9_allFitting 41 = .ok (.iadd, 1) := by decide +kernel
theorem dX9_allFitting_42 : decode cX9_allFitting 42 = .ok (.aload_n 0, 1) := by decide +kernel
theorem dX9_allFitting_43 : decode cX9_allFitting 43 = .ok (.iload_n 2, 1) := by decide +kernel
theorem dX9_allFitting_44 : decode cX9_allFitting 44 = .ok (.aload_n 0, 1) := by decide +kernel
theorem dX9_allFitting_45 : decode cX9_allFitting 45 = .ok (.getfield 14, 3) := by decide +kernel
theorem dX9_allFitting_48 : decode cX9_allFitting 48 = .ok (.getfield 176, 3) := by decide +kernel
theorem dX9_allFitting_51 : decode cX9_allFitting 51 = .ok (.getfield 276, 3) := by decide +kernel
theorem dX9_allFitting_54 : decode cX9_allFitting 54 = .ok (.iload_n 1, 1) := by decide +kernel
theorem dX9_allFitting_55 : decode cX9_allFitting 55 = .ok (.iaload, 1) := by decide +kernel
theorem dX9_allFitting_56 : decode cX9_allFitting 56 = .ok (.aload_n 0, 1) := by decide +kernel
theorem dX9_allFitting_57 : decode cX9_allFitting 57 = .ok (.getfield 14, 3) := by decide +kernel
theorem dX9_allFitting_60 : decode cX9_allFitting 60 = .ok (.getfield 176, 3) := by decide +kernel
theorem dX9_allFitting_63 : decode cX9_allFitting 63 = .ok (.getfield 277, 3) := by decide +kernel
theorem dX9_allFitting_66 : decode cX9_allFitting 66 = .ok (.iload_n 1, 1) := by decide +kernel
theorem dX9_allFitting_67 : decode cX9_allFitting 67 = .ok (.iaload, 1) := by decide +kernel
theorem dX9_allFitting_68 : decode cX9_allFitting 68 = .ok (.invokevirtual 273, 3) := by decide +kernel
theorem dX9_allFitting_71 : decode cX9_allFitting 71 = .ok (.iastore, 1) := by decide +kernel
theorem dX9_allFitting_72 : decode cX9_allFitting 72 = .ok (.iinc 2 1, 3) := by decide +kernel
theorem dX9_allFitting_75 : decode cX9_allFitting 75 = .ok (.goto (-57), 3) := by decide +kernel
theorem dX9_allFitting_78 : decode cX9_allFitting 78 = .ok (.iinc 1 1, 3) := by decide +kernel
theorem dX9_allFitting_81 : decode cX9_allFitting 81 = .ok (.goto (-79), 3) := by decide +kernel
theorem dX9_allFitting_84 : decode cX9_allFitting 84 = .ok (.bipush (-5), 2) := by decide +kernel
theorem dX9_allFitting_86 : decode cX9_allFitting 86 = .ok (.istore_n 1, 1) := by decide +kernel
theorem dX9_allFitting_87 : decode cX9_allFitting 87 = .ok (.bipush 11, 2) := by decide +kernel
theorem dX9_allFitting_89 : decode cX9_allFitting 89 = .ok (.istore_n 2, 1) := by decide +kernel
theorem dX9_allFitting_90 : decode cX9_allFitting 90 = .ok (.iconst 0, 1) := by decide +kernel
theorem dX9_allFitting_91 : decode cX9_allFitting 91 = .ok (.istore_n 3, 1) := by decide +kernel
theorem dX9_allFitting_92 : decode cX9_allFitting 92 = .ok (.iload_n 3, 1) := by decide +kernel
theorem dX9_allFitting_93 : decode cX9_allFitting 93 = .ok (.iconst 1, 1) := by decide +kernel
theorem dX9_allFitting_94 : decode cX9_allFitting 94 = .ok (.aload_n 0, 1) := by decide +kernel
theorem dX9_allFitting_95 : decode cX9_allFitting 95 = .ok (.getfield 14, 3) := by decide +kernel
theorem dX9_allFitting_98 : decode cX9_allFitting 98 = .ok (.getfield 119, 3) := by decide +kernel
theorem dX9_allFitting_101 : decode cX9_allFitting 101 = .ok (.getfield 123, 3) := by decide +kernel
theorem dX9_allFitting_104 : decode cX9_allFitting 104 = .ok (.ishl, 1) := by decide +kernel
theorem dX9_allFitting_105 : decode cX9_allFitting 105 = .ok (.if_icmp .ge 32, 3) := by decide +kernel
theorem dX9_allFitting_108 : decode cX9_allFitting 108 = .ok (.iload_n 3, 1) := by decide +kernel
theorem dX9_allFitting_109 : decode cX9_allFitting 109 = .ok (.invokestatic 188, 3) := by decide +kernel
theorem dX9_allFitting_112 : decode cX9_allFitting 112 = .ok (.iload_n 2, 1) := by decide +kernel
theorem dX9_allFitting_113 : decode cX9_allFitting 113 = .ok (.if_icmp .ge 18, 3) := by decide +kernel
theorem dX9_allFitting_116 : decode cX9_allFitting 116 = .ok (.aload_n 0, 1) := by decide +kernel
theorem dX9_allFitting_117 : decode cX9_allFitting 117 = .ok (.iload_n 3, 1) := by decide +kernel
theorem dX9_allFitting_118 : decode cX9_allFitting 118 = .ok (.invokevirtual 283, 3) := by decide +kernel
theorem dX9_allFitting_121 : decode cX9_allFitting 121 = .ok (.ifCond .eq 10, 3) := by decide +kernel
theorem dX9_allFitting_124 : decode cX9_allFitting 124 = .ok (.iload_n 3, 1) := by decide +kernel
theorem dX9_allFitting_125 : decode cX9_allFitting 125 = .ok (.invokestatic 188, 3) := by decide +kernel
theorem dX9_allFitting_128 : decode cX9_allFitting 128 = .ok (.istore_n 2, 1) := by decide +kernel
theorem dX9_allFitting_129 : decode cX9_allFitting 129 = .ok (.iload_n 3, 1) := by decide +kernel
theorem dX9_allFitting_130 : decode cX9_allFitting 130 = .ok (.istore_n 1, 1) := by decide +kernel
theorem dX9_allFitting_131 : decode cX9_allFitting 131 = .ok (.iinc 3 1, 3) := by decide +kernel
theorem dX9_allFitting_134 : decode cX9_allFitting 134 = .ok (.goto (-42), 3) := by decide +kernel
theorem dX9_allFitting_137 : decode cX9_allFitting 137 = .ok (.iload_n 1, 1) := by decide +kernel
theorem dX9_allFitting_138 : decode cX9_allFitting 138 = .ok (.ireturn, 1) := by decide +kernel
theorem dX9_fitsAllRows_0 : decode cX9_fitsAllRows 0 = .ok (.iconst 0, 1) := by decide +kernel
theorem dX9_fitsAllRows_1 : decode cX9_fitsAllRows 1 = .ok (.istore_n 2, 1) := by decide +kernel
theorem dX9_fitsAllRows_2 : decode cX9_fitsAllRows 2 = .ok (.iload_n 2, 1) := by decide +kernel
theorem dX9_fitsAllRows_3 : decode cX9_fitsAllRows 3 = .ok (.aload_n 0, 1) := by decide +kernel
theorem dX9_fitsAllRows_4 : decode cX9_fitsAllRows 4 = .ok (.getfield 14, 3) := by decide +kernel
theorem dX9_fitsAllRows_7 : decode cX9_fitsAllRows 7 = .ok (.getfield 176, 3) := by decide +kernel
theorem dX9_fitsAllRows_10 : decode cX9_fitsAllRows 10 = .ok (.getfield 180, 3) := by decide +kernel
theorem dX9_fitsAllRows_13 : decode cX9_fitsAllRows 13 = .ok (.if_icmp .ge 32, 3) := by decide +kernel
theorem dX9_fitsAllRows_16 : decode cX9_fitsAllRows 16 = .ok (.aload_n 0, 1) := by decide +kernel
theorem dX9_fitsAllRows_17 : decode cX9_fitsAllRows 17 = .ok (.iload_n 2, 1) := by decide +kernel
theorem dX9_fitsAllRows_18 : decode cX9_fitsAllRows 18 = .ok (.iload_n 1, 1) := by decide +kernel
theorem dX9_fitsAllRows_19 : decode cX9_fitsAllRows 19 = .ok (.invokevirtual 214, 3) := by decide +kernel
theorem dX9_fitsAllRows_22 : decode cX9_fitsAllRows 22 = .ok (.aload_n 0, 1) := by decide +kernel
theorem dX9_fitsAllRows_23 : decode cX9_fitsAllRows 23 = .ok (.getfield 14, 3) := by decide +kernel
theorem dX9_fitsAllRows_26 : decode cX9_fitsAllRows 26 = .ok (.getfield 176, 3) := by decide +kernel
theorem dX9_fitsAllRows_29 : decode cX9_fitsAllRows 29 = .ok (.getfield 280, 3) := by decide +kernel
theorem dX9_fitsAllRows_32 : decode cX9_fitsAllRows 32 = .ok (.iload_n 2, 1) := by decide +kernel
theorem dX9_fitsAllRows_33 : decode cX9_fitsAllRows 33 = .ok (.iaload, 1) := by decide +kernel
theorem dX9_fitsAllRows_34 : decode cX9_fitsAllRows 34 = .ok (.if_icmp .eq 5, 3) := by decide +kernel
theorem dX9_fitsAllRows_37 : decode cX9_fitsAllRows 37 = .ok (.iconst 0, 1) := by decide +kernel
theorem dX9_fitsAllRows_38 : decode cX9_fitsAllRows 38 = .ok (.ireturn, 1) := by decide +kernel
theorem dX9_fitsAllRows_39 : decode cX9_fitsAllRows 39 = .ok (.iinc 2 1, 3) := by decide +kernel
theorem dX9_fitsAllRows_42 : decode cX9_fitsAllRows 42 = .ok (.goto (-40), 3) := by decide +kernel
theorem dX9_fitsAllRows_45 : decode cX9_fitsAllRows 45 = .ok (.iconst 1, 1) := by decide +kernel
theorem dX9_fitsAllRows_46 : decode cX9_fitsAllRows 46 = .ok (.ireturn, 1) := by decide +kernel
theorem dX9_shareOf_0 : decode cX9_shareOf 0 = .ok (.iconst 0, 1) := by decide +kernel
theorem dX9_shareOf_1 : decode cX9_shareOf 1 = .ok (.istore_n 3, 1) := by decide +kernel
theorem dX9_shareOf_2 : decode cX9_shareOf 2 = .ok (.iconst 0, 1) := by decide +kernel
theorem dX9_shareOf_3 : decode cX9_shareOf 3 = .ok (.istore 4, 2) := by decide +kernel
theorem dX9_shareOf_5 : decode cX9_shareOf 5 = .ok (.iload 4, 2) := by decide +kernel
theorem dX9_shareOf_7 : decode cX9_shareOf 7 = .ok (.aload_n 0, 1) := by decide +kernel
theorem dX9_shareOf_8 : decode cX9_shareOf 8 = .ok (.getfield 14, 3) := by decide +kernel
theorem dX9_shareOf_11 : decode cX9_shareOf 11 = .ok (.getfield 119, 3) := by decide +kernel
theorem dX9_shareOf_14 : decode cX9_shareOf 14 = .ok (.getfield 123, 3) := by decide +kernel
theorem dX9_shareOf_17 : decode cX9_shareOf 17 = .ok (.if_icmp .ge 33, 3) := by decide +kernel
theorem dX9_shareOf_20 : decode cX9_shareOf 20 = .ok (.iload_n 2, 1) := by decide +kernel
theorem dX9_shareOf_21 : decode cX9_shareOf 21 = .ok (.iload 4, 2) := by decide +kernel
theorem dX9_shareOf_23 : decode cX9_shareOf 23 = .ok (.ishr, 1) := by decide +kernel
theorem dX9_shareOf_24 : decode cX9_shareOf 24 = .ok (.iconst 1, 1) := by decide +kernel
theorem dX9_shareOf_25 : decode cX9_shareOf 25 = .ok (.iand, 1) := by decide +kernel
theorem dX9_shareOf_26 : decode cX9_shareOf 26 = .ok (.ifCond .eq 18, 3) := by decide +kernel
theorem dX9_shareOf_29 : decode cX9_shareOf 29 = .ok (.iload_n 3, 1) := by decide +kernel
theorem dX9_shareOf_30 : decode cX9_shareOf 30 = .ok (.aload_n 0, 1) := by decide +kernel
theorem dX9_shareOf_31 : decode cX9_shareOf 31 = .ok (.getfield 49, 3) := by decide +kernel
theorem dX9_shareOf_34 : decode cX9_shareOf 34 = .ok (.iload_n 1, 1) := by decide +kernel
theorem dX9_shareOf_35 : decode cX9_shareOf 35 = .ok (.bipush 10, 2) := by decide +kernel
theorem dX9_shareOf_37 : decode cX9_shareOf 37 = .ok (.imul, 1) := by decide +kernel
theorem dX9_shareOf_38 : decode cX9_shareOf 38 = .ok (.iload 4, 2) := by decide +kernel
theorem dX9_shareOf_40 : decode cX9_shareOf 40 = .ok (.iadd, 1) := by decide +kernel
theorem dX9_shareOf_41 : decode cX9_shareOf 41 = .ok (.iaload, 1) := by decide +kernel
theorem dX9_shareOf_42 : decode cX9_shareOf 42 = .ok (.iadd, 1) := by decide +kernel
theorem dX9_shareOf_43 : decode cX9_shareOf 43 = .ok (.istore_n 3, 1) := by decide +kernel
theorem dX9_shareOf_44 : decode cX9_shareOf 44 = .ok (.iinc 4 1, 3) := by decide +kernel
theorem dX9_shareOf_47 : decode cX9_shareOf 47 = .ok (.goto (-42), 3) := by decide +kernel
theorem dX9_shareOf_50 : decode cX9_shareOf 50 = .ok (.iload_n 3, 1) := by decide +kernel
theorem dX9_shareOf_51 : decode cX9_shareOf 51 = .ok (.ireturn, 1) := by decide +kernel
theorem dX9_worst_0 : decode cX9_worst 0 = .ok (.bipush (-5), 2) := by decide +kernel
theorem dX9_worst_2 : decode cX9_worst 2 = .ok (.istore_n 1, 1) := by decide +kernel
theorem dX9_worst_3 : decode cX9_worst 3 = .ok (.iconst (-1), 1) := by decide +kernel
theorem dX9_worst_4 : decode cX9_worst 4 = .ok (.istore_n 2, 1) := by decide +kernel
theorem dX9_worst_5 : decode cX9_worst 5 = .ok (.iconst 0, 1) := by decide +kernel
theorem dX9_worst_6 : decode cX9_worst 6 = .ok (.istore_n 3, 1) := by decide +kernel
theorem dX9_worst_7 : decode cX9_worst 7 = .ok (.iload_n 3, 1) := by decide +kernel
theorem dX9_worst_8 : decode cX9_worst 8 = .ok (.aload_n 0, 1) := by decide +kernel
theorem dX9_worst_9 : decode cX9_worst 9 = .ok (.getfield 14, 3) := by decide +kernel
theorem dX9_worst_12 : decode cX9_worst 12 = .ok (.getfield 119, 3) := by decide +kernel
theorem dX9_worst_15 : decode cX9_worst 15 = .ok (.getfield 123, 3) := by decide +kernel
theorem dX9_worst_18 : decode cX9_worst 18 = .ok (.if_icmp .ge 27, 3) := by decide +kernel
theorem dX9_worst_21 : decode cX9_worst 21 = .ok (.aload_n 0, 1) := by decide +kernel
theorem dX9_worst_22 : decode cX9_worst 22 = .ok (.iload_n 3, 1) := by decide +kernel
theorem dX9_worst_23 : decode cX9_worst 23 = .ok (.invokevirtual 247, 3) := by decide +kernel
theorem dX9_worst_26 : decode cX9_worst 26 = .ok (.istore 4, 2) := by decide +kernel
theorem dX9_worst_28 : decode cX9_worst 28 = .ok (.iload 4, 2) := by decide +kernel
theorem dX9_worst_30 : decode cX9_worst 30 = .ok (.iload_n 2, 1) := by decide +kernel
theorem dX9_worst_31 : decode cX9_worst 31 = .ok (.if_icmp .le 8, 3) := by decide +kernel
theorem dX9_worst_34 : decode cX9_worst 34 = .ok (.iload 4, 2) := by decide +kernel
theorem dX9_worst_36 : decode cX9_worst 36 = .ok (.istore_n 2, 1) := by decide +kernel
theorem dX9_worst_37 : decode cX9_worst 37 = .ok (.iload_n 3, 1) := by decide +kernel
theorem dX9_worst_38 : decode cX9_worst 38 = .ok (.istore_n 1, 1) := by decide +kernel
theorem dX9_worst_39 : decode cX9_worst 39 = .ok (.iinc 3 1, 3) := by decide +kernel
theorem dX9_worst_42 : decode cX9_worst 42 = .ok (.goto (-35), 3) := by decide +kernel
theorem dX9_worst_45 : decode cX9_worst 45 = .ok (.iload_n 1, 1) := by decide +kernel
theorem dX9_worst_46 : decode cX9_worst 46 = .ok (.ireturn, 1) := by decide +kernel
theorem dX9_harmOf_0 : decode cX9_harmOf 0 = .ok (.aload_n 0, 1) := by decide +kernel
theorem dX9_harmOf_1 : decode cX9_harmOf 1 = .ok (.getfield 14, 3) := by decide +kernel
theorem dX9_harmOf_4 : decode cX9_harmOf 4 = .ok (.getfield 119, 3) := by decide +kernel
theorem dX9_harmOf_7 : decode cX9_harmOf 7 = .ok (.iload_n 1, 1) := by decide +kernel
theorem dX9_harmOf_8 : decode cX9_harmOf 8 = .ok (.invokevirtual 156, 3) := by decide +kernel
theorem dX9_harmOf_11 : decode cX9_harmOf 11 = .ok (.ifCond .ne 5, 3) := by decide +kernel
theorem dX9_harmOf_14 : decode cX9_harmOf 14 = .ok (.iconst 0, 1) := by decide +kernel
theorem dX9_harmOf_15 : decode cX9_harmOf 15 = .ok (.ireturn, 1) := by decide +kernel
theorem dX9_harmOf_16 : decode cX9_harmOf 16 = .ok (.iconst 0, 1) := by decide +kernel
theorem dX9_harmOf_17 : decode cX9_harmOf 17 = .ok (.istore_n 2, 1) := by decide +kernel
theorem dX9_harmOf_18 : decode cX9_harmOf 18 = .ok (.iconst 0, 1) := by decide +kernel
theorem dX9_harmOf_19 : decode cX9_harmOf 19 = .ok (.istore_n 3, 1) := by decide +kernel
theorem dX9_harmOf_20 : decode cX9_harmOf 20 = .ok (.iload_n 3, 1) := by decide +kernel
theorem dX9_harmOf_21 : decode cX9_harmOf 21 = .ok (.bipush 40, 2) := by decide +kernel
theorem dX9_harmOf_23 : decode cX9_harmOf 23 = .ok (.if_icmp .ge 21, 3) := by decide +kernel
theorem dX9_harmOf_26 : decode cX9_harmOf 26 = .ok (.iload_n 2, 1) := by decide +kernel
theorem dX9_harmOf_27 : decode cX9_harmOf 27 = .ok (.aload_n 0, 1) := by decide +kernel
theorem dX9_harmOf_28 : decode cX9_harmOf 28 = .ok (.getfield 35, 3) := by decide +kernel
theorem dX9_harmOf_31 : decode cX9_harmOf 31 = .ok (.iload_n 1, 1) := by decide +kernel
theorem dX9_harmOf_32 : decode cX9_harmOf 32 = .ok (.iload_n 3, 1) := by decide +kernel
theorem dX9_harmOf_33 : decode cX9_harmOf 33 = .ok (.invokevirtual 159, 3) := by decide +kernel
theorem dX9_harmOf_36 : decode cX9_harmOf 36 = .ok (.iadd, 1) := by decide +kernel
theorem dX9_harmOf_37 : decode cX9_harmOf 37 = .ok (.istore_n 2, 1) := by decide +kernel
theorem dX9_harmOf_38 : decode cX9_harmOf 38 = .ok (.iinc 3 1, 3) := by decide +kernel
theorem dX9_harmOf_41 : decode cX9_harmOf 41 = .ok (.goto (-21), 3) := by decide +kernel
theorem dX9_harmOf_44 : decode cX9_harmOf 44 = .ok (.iload_n 2, 1) := by decide +kernel
theorem dX9_harmOf_45 : decode cX9_harmOf 45 = .ok (.aload_n 0, 1) := by decide +kernel
theorem dX9_harmOf_46 : decode cX9_harmOf 46 = .ok (.getfield 14, 3) := by decide +kernel
theorem dX9_harmOf_49 : decode cX9_harmOf 49 = .ok (.getfield 119, 3) := by decide +kernel
theorem dX9_harmOf_52 : decode cX9_harmOf 52 = .ok (.getfield 143, 3) := by decide +kernel
theorem dX9_harmOf_55 : decode cX9_harmOf 55 = .ok (.iload_n 1, 1) := by decide +kernel
theorem dX9_harmOf_56 : decode cX9_harmOf 56 = .ok (.iaload, 1) := by decide +kernel
theorem dX9_harmOf_57 : decode cX9_harmOf 57 = .ok (.imul, 1) := by decide +kernel
theorem dX9_harmOf_58 : decode cX9_harmOf 58 = .ok (.ireturn, 1) := by decide +kernel
theorem dX9_mostAlike_0 : decode cX9_mostAlike 0 = .ok (.iconst 0, 1) := by decide +kernel
theorem dX9_mostAlike_1 : decode cX9_mostAlike 1 = .ok (.istore_n 3, 1) := by decide +kernel
theorem dX9_mostAlike_2 : decode cX9_mostAlike 2 = .ok (.iload_n 3, 1) := by decide +kernel
theorem dX9_mostAlike_3 : decode cX9_mostAlike 3 = .ok (.aload_n 0, 1) := by decide +kernel
theorem dX9_mostAlike_4 : decode cX9_mostAlike 4 = .ok (.getfield 14, 3) := by decide +kernel
theorem dX9_mostAlike_7 : decode cX9_mostAlike 7 = .ok (.getfield 119, 3) := by decide +kernel
theorem dX9_mostAlike_10 : decode cX9_mostAlike 10 = .ok (.getfield 123, 3) := by decide +kernel
theorem dX9_mostAlike_13 : decode cX9_mostAlike 13 = .ok (.if_icmp .ge 22, 3) := by decide +kernel
theorem dX9_mostAlike_16 : decode cX9_mostAlike 16 = .ok (.aload_n 0, 1) := by decide +kernel
theorem dX9_mostAlike_17 : decode cX9_mostAlike 17 = .ok (.getfield 49, 3) := by decide +kernel
theorem dX9_mostAlike_20 : decode cX9_mostAlike 20 = .ok (.iload_n 3, 1) := by decide +kernel
theorem dX9_mostAlike_21 : decode cX9_mostAlike 21 = .ok (.aload_n 0, 1) := by decide +kernel
theorem dX9_mostAlike_22 : decode cX9_mostAlike 22 = .ok (.iload_n 3, 1) := by decide +kernel
theorem dX9_mostAlike_23 : decode cX9_mostAlike 23 = .ok (.iload_n 1, 1) := by decide +kernel
theorem dX9_mostAlike_24 : decode cX9_mostAlike 24 = .ok (.iload_n 2, 1) := by decide +kernel
theorem dX9_mostAlike_25 : decode cX9_mostAlike 25 = .ok (.invokevirtual 273, 3) := by decide +kernel
theorem dX9_mostAlike_28 : decode cX9_mostAlike 28 = .ok (.iastore, 1) := by decide +kernel
theorem dX9_mostAlike_29 : decode cX9_mostAlike 29 = .ok (.iinc 3 1, 3) := by decide +kernel
theorem dX9_mostAlike_32 : decode cX9_mostAlike 32 = .ok (.goto (-30), 3) := by decide +kernel
theorem dX9_mostAlike_35 : decode cX9_mostAlike 35 = .ok (.iconst 0, 1) := by decide +kernel
theorem dX9_mostAlike_36 : decode cX9_mostAlike 36 = .ok (.istore_n 3, 1) := by decide +kernel
theorem dX9_mostAlike_37 : decode cX9_mostAlike 37 = .ok (.iconst 0, 1) := by decide +kernel
theorem dX9_mostAlike_38 : decode cX9_mostAlike 38 = .ok (.istore 4, 2) := by decide +kernel
theorem dX9_mostAlike_40 : decode cX9_mostAlike 40 = .ok (.iload 4, 2) := by decide +kernel
theorem dX9_mostAlike_42 : decode cX9_mostAlike 42 = .ok (.aload_n 0, 1) := by decide +kernel
theorem dX9_mostAlike_43 : decode cX9_mostAlike 43 = .ok (.getfield 14, 3) := by decide +kernel
theorem dX9_mostAlike_46 : decode cX9_mostAlike 46 = .ok (.getfield 119, 3) := by decide +kernel
theorem dX9_mostAlike_49 : decode cX9_mostAlike 49 = .ok (.getfield 123, 3) := by decide +kernel
theorem dX9_mostAlike_52 : decode cX9_mostAlike 52 = .ok (.if_icmp .ge 64, 3) := by decide +kernel
theorem dX9_mostAlike_55 : decode cX9_mostAlike 55 = .ok (.iconst 0, 1) := by decide +kernel
theorem dX9_mostAlike_56 : decode cX9_mostAlike 56 = .ok (.istore 5, 2) := by decide +kernel
theorem dX9_mostAlike_58 : decode cX9_mostAlike 58 = .ok (.iload 4, 2) := by decide +kernel
theorem dX9_mostAlike_60 : decode cX9_mostAlike 60 = .ok (.istore 6, 2) := by decide +kernel
theorem dX9_mostAlike_62 : decode cX9_mostAlike 62 = .ok (.iload 6, 2) := by decide +kernel
theorem dX9_mostAlike_64 : decode cX9_mostAlike 64 = .ok (.aload_n 0, 1) := by decide +kernel
theorem dX9_mostAlike_65 : decode cX9_mostAlike 65 = .ok (.getfield 14, 3) := by decide +kernel
theorem dX9_mostAlike_68 : decode cX9_mostAlike 68 = .ok (.getfield 119, 3) := by decide +kernel
theorem dX9_mostAlike_71 : decode cX9_mostAlike 71 = .ok (.getfield 123, 3) := by decide +kernel
theorem dX9_mostAlike_74 : decode cX9_mostAlike 74 = .ok (.if_icmp .ge 29, 3) := by decide +kernel
theorem dX9_mostAlike_77 : decode cX9_mostAlike 77 = .ok (.aload_n 0, 1) := by decide +kernel
theorem dX9_mostAlike_78 : decode cX9_mostAlike 78 = .ok (.getfield 49, 3) := by decide +kernel
theorem dX9_mostAlike_81 : decode cX9_mostAlike 81 = .ok (.iload 4, 2) := by decide +kernel
theorem dX9_mostAlike_83 : decode cX9_mostAlike 83 = .ok (.iaload, 1) := by decide +kernel
theorem dX9_mostAlike_84 : decode cX9_mostAlike 84 = .ok (.aload_n 0, 1) := by decide +kernel
theorem dX9_mostAlike_85 : decode cX9_mostAlike 85 = .ok (.getfield 49, 3) := by decide +kernel
theorem dX9_mostAlike_88 : decode cX9_mostAlike 88 = .ok (.iload 6, 2) := by decide +kernel
theorem dX9_mostAlike_90 : decode cX9_mostAlike 90 = .ok (.iaload, 1) := by decide +kernel
theorem dX9_mostAlike_91 : decode cX9_mostAlike 91 = .ok (.if_icmp .ne 6, 3) := by decide +kernel
theorem dX9_mostAlike_94 : decode cX9_mostAlike 94 = .ok (.iinc 5 1, 3) := by decide +kernel
theorem dX9_mostAlike_97 : decode cX9_mostAlike 97 = .ok (.iinc 6 1, 3) := by decide +kernel
theorem dX9_mostAlike_100 : decode cX9_mostAlike 100 = .ok (.goto (-38), 3) := by decide +kernel
theorem dX9_mostAlike_103 : decode cX9_mostAlike 103 = .ok (.iload_n 3, 1) := by decide +kernel
theorem dX9_mostAlike_104 : decode cX9_mostAlike 104 = .ok (.iload 5, 2) := by decide +kernel
theorem dX9_mostAlike_106 : decode cX9_mostAlike 106 = .ok (.invokestatic 221, 3) := by decide +kernel
theorem dX9_mostAlike_109 : decode cX9_mostAlike 109 = .ok (.istore_n 3, 1) := by decide +kernel
theorem dX9_mostAlike_110 : decode cX9_mostAlike 110 = .ok (.iinc 4 1, 3) := by decide +kernel
theorem dX9_mostAlike_113 : decode cX9_mostAlike 113 = .ok (.goto (-73), 3) := by decide +kernel
theorem dX9_mostAlike_116 : decode cX9_mostAlike 116 = .ok (.iload_n 3, 1) := by decide +kernel
theorem dX9_mostAlike_117 : decode cX9_mostAlike 117 = .ok (.ireturn, 1) := by decide +kernel
theorem dX9_rowsHeard_0 : decode cX9_rowsHeard 0 = .ok (.iconst 0, 1) := by decide +kernel
theorem dX9_rowsHeard_1 : decode cX9_rowsHeard 1 = .ok (.istore_n 1, 1) := by decide +kernel
theorem dX9_rowsHeard_2 : decode cX9_rowsHeard 2 = .ok (.iconst 0, 1) := by decide +kernel
theorem dX9_rowsHeard_3 : decode cX9_rowsHeard 3 = .ok (.istore_n 2, 1) := by decide +kernel
theorem dX9_rowsHeard_4 : decode cX9_rowsHeard 4 = .ok (.iload_n 2, 1) := by decide +kernel
theorem dX9_rowsHeard_5 : decode cX9_rowsHeard 5 = .ok (.aload_n 0, 1) := by decide +kernel
theorem dX9_rowsHeard_6 : decode cX9_rowsHeard 6 = .ok (.getfield 14, 3) := by decide +kernel
theorem dX9_rowsHeard_9 : decode cX9_rowsHeard 9 = .ok (.getfield 176, 3) := by decide +kernel
theorem dX9_rowsHeard_12 : decode cX9_rowsHeard 12 = .ok (.getfield 180, 3) := by decide +kernel
theorem dX9_rowsHeard_15 : decode cX9_rowsHeard 15 = .ok (.if_icmp .ge 55, 3) := by decide +kernel
theorem dX9_rowsHeard_18 : decode cX9_rowsHeard 18 = .ok (.aload_n 0, 1) := by decide +kernel
theorem dX9_rowsHeard_19 : decode cX9_rowsHeard 19 = .ok (.aload_n 0, 1) := by decide +kernel
theorem dX9_rowsHeard_20 : decode cX9_rowsHeard 20 = .ok (.getfield 14, 3) := by decide +kernel
theorem dX9_rowsHeard_23 : decode cX9_rowsHeard 23 = .ok (.getfield 176, 3) := by decide +kernel
theorem dX9_rowsHeard_26 : decode cX9_rowsHeard 26 = .ok (.getfield 276, 3) := by decide +kernel
theorem dX9_rowsHeard_29 : decode cX9_rowsHeard 29 = .ok (.iload_n 2, 1) := by decide +kernel
theorem dX9_rowsHeard_30 : decode cX9_rowsHeard 30 = .ok (.iaload, 1) := by decide +kernel
theorem dX9_rowsHeard_31 : decode cX9_rowsHeard 31 = .ok (.aload_n 0, 1) := by decide +kernel
theorem dX9_rowsHeard_32 : decode cX9_rowsHeard 32 = .ok (.getfield 14, 3) := by decide +kernel
theorem dX9_rowsHeard_35 : decode cX9_rowsHeard 35 = .ok (.getfield 176, 3) := by decide +kernel
theorem dX9_rowsHeard_38 : decode cX9_rowsHeard 38 = .ok (.getfield 277, 3) := by decide +kernel
theorem dX9_rowsHeard_41 : decode cX9_rowsHeard 41 = .ok (.iload_n 2, 1) := by decide +kernel
theorem dX9_rowsHeard_42 : decode cX9_rowsHeard 42 = .ok (.iaload, 1) := by decide +kernel
theorem dX9_rowsHeard_43 : decode cX9_rowsHeard 43 = .ok (.invokevirtual 170, 3) := by decide +kernel
theorem dX9_rowsHeard_46 : decode cX9_rowsHeard 46 = .ok (.aload_n 0, 1) := by decide +kernel
theorem dX9_rowsHeard_47 : decode cX9_rowsHeard 47 = .ok (.getfield 14, 3) := by decide +kernel
theorem dX9_rowsHeard_50 : decode cX9_rowsHeard 50 = .ok (.getfield 176, 3) := by decide +kernel
theorem dX9_rowsHeard_53 : decode cX9_rowsHeard 53 = .ok (.getfield 280, 3) := by decide +kernel
theorem dX9_rowsHeard_56 : decode cX9_rowsHeard 56 = .ok (.iload_n 2, 1) := by decide +kernel
theorem dX9_rowsHeard_57 : decode cX9_rowsHeard 57 = .ok (.iaload, 1) := by decide +kernel
theorem dX9_rowsHeard_58 : decode cX9_rowsHeard 58 = .ok (.if_icmp .ne 6, 3) := by decide +kernel
theorem dX9_rowsHeard_61 : decode cX9_rowsHeard 61 = .ok (.iinc 1 1, 3) := by decide +kernel
theorem dX9_rowsHeard_64 : decode cX9_rowsHeard 64 = .ok (.iinc 2 1, 3) := by decide +kernel
theorem dX9_rowsHeard_67 : decode cX9_rowsHeard 67 = .ok (.goto (-63), 3) := by decide +kernel
theorem dX9_rowsHeard_70 : decode cX9_rowsHeard 70 = .ok (.iload_n 1, 1) := by decide +kernel
theorem dX9_rowsHeard_71 : decode cX9_rowsHeard 71 = .ok (.ireturn, 1) := by decide +kernel
theorem dX10_init_0 : decode cX10_init 0 = .ok (.aload_n 0, 1) := by decide +kernel
theorem dX10_init_1 : decode cX10_init 1 = .ok (.invokespecial 3, 3) := by decide +kernel
theorem dX10_init_4 : decode cX10_init 4 = .ok (.aload_n 0, 1) := by decide +kernel
theorem dX10_init_5 : decode cX10_init 5 = .ok (.sipush 1066, 3) := by decide +kernel
theorem dX10_init_8 : decode cX10_init 8 = .ok (.newarray .int, 2) := by decide +kernel
theorem dX10_init_10 : decode cX10_init 10 = .ok (.putfield 9, 3) := by decide +kernel
theorem dX10_init_13 : decode cX10_init 13 = .ok (.aload_n 0, 1) := by decide +kernel
theorem dX10_init_14 : decode cX10_init 14 = .ok (.sipush 1066, 3) := by decide +kernel
theorem dX10_init_17 : decode cX10_init 17 = .ok (.newarray .int, 2) := by decide +kernel
theorem dX10_init_19 : decode cX10_init 19 = .ok (.putfield 15, 3) := by decide +kernel
theorem dX10_init_22 : decode cX10_init 22 = .ok (.aload_n 0, 1) := by decide +kernel
theorem dX10_init_23 : decode cX10_init 23 = .ok (.iconst 5, 1) := by decide +kernel
theorem dX10_init_24 : decode cX10_init 24 = .ok (.newarray .int, 2) := by decide +kernel
theorem dX10_init_26 : decode cX10_init 26 = .ok (.putfield 18, 3) := by decide +kernel
theorem dX10_init_29 : decode cX10_init 29 = .ok (.aload_n 0, 1) := by decide +kernel
theorem dX10_init_30 : decode cX10_init 30 = .ok (.bipush 64, 2) := by decide +kernel
theorem dX10_init_32 : decode cX10_init 32 = .ok (.newarray .boolean, 2) := by decide +kernel
theorem dX10_init_34 : decode cX10_init 34 = .ok (.putfield 21, 3) := by decide +kernel
theorem dX10_init_37 : decode cX10_init 37 = .ok (.aload_n 0, 1) := by decide +kernel
theorem dX10_init_38 : decode cX10_init 38 = .ok (.bipush 40, 2) := by decide +kernel
theorem dX10_init_40 : decode cX10_init 40 = .ok (.newarray .int, 2) := by decide +kernel
theorem dX10_init_42 : decode cX10_init 42 = .ok (.putfield 25, 3) := by decide +kernel
theorem dX10_init_45 : decode cX10_init 45 = .ok (.aload_n 0, 1) := by decide +kernel
theorem dX10_init_46 : decode cX10_init 46 = .ok (.sipush 400, 3) := by decide +kernel
theorem dX10_init_49 : decode cX10_init 49 = .ok (.newarray .int, 2) := by decide +kernel
theorem dX10_init_51 : decode cX10_init 51 = .ok (.putfield 28, 3) := by decide +kernel
theorem dX10_init_54 : decode cX10_init 54 = .ok (.aload_n 0, 1) := by decide +kernel
theorem dX10_init_55 : decode cX10_init 55 = .ok (.bipush 10, 2) := by decide +kernel
theorem dX10_init_57 : decode cX10_init 57 = .ok (.newarray .int, 2) := by decide +kernel
theorem dX10_init_59 : decode cX10_init 59 = .ok (.putfield 31, 3) := by decide +kernel
theorem dX10_init_62 : decode cX10_init 62 = .ok (.aload_n 0, 1) := by decide +kernel
theorem dX10_init_63 : decode cX10_init 63 = .ok (.bipush 10, 2) := by decide +kernel
theorem dX10_init_65 : decode cX10_init 65 = .ok (.newarray .int, 2) := by decide +kernel
theorem dX10_init_67 : decode cX10_init 67 = .ok (.putfield 34, 3) := by decide +kernel
theorem dX10_init_70 : decode cX10_init 70 = .ok (.aload_n 0, 1) := by decide +kernel
theorem dX10_init_71 : decode cX10_init 71 = .ok (.bipush 20, 2) := by decide +kernel
theorem dX10_init_73 : decode cX10_init 73 = .ok (.newarray .int, 2) := by decide +kernel
theorem dX10_init_75 : decode cX10_init 75 = .ok (.putfield 37, 3) := by decide +kernel
theorem dX10_init_78 : decode cX10_init 78 = .ok (.aload_n 0, 1) := by decide +kernel
theorem dX10_init_79 : decode cX10_init 79 = .ok (.getfield 9, 3) := by decide +kernel
theorem dX10_init_82 : decode cX10_init 82 = .ok (.iconst 4, 1) := by decide +kernel
theorem dX10_init_83 : decode cX10_init 83 = .ok (.iconst (-1), 1) := by decide +kernel
theorem dX10_init_84 : decode cX10_init 84 = .ok (.iastore, 1) := by decide +kernel
theorem dX10_init_85 : decode cX10_init 85 = .ok (.return_, 1) := by decide +kernel
theorem dX10_in_0 : decode cX10_in 0 = .ok (.iload_n 0, 1) := by decide +kernel
theorem dX10_in_1 : decode cX10_in 1 = .ok (.iload_n 1, 1) := by decide +kernel
theorem dX10_in_2 : decode cX10_in 2 = .ok (.if_icmp .lt 12, 3) := by decide +kernel
theorem dX10_in_5 : decode cX10_in 5 = .ok (.iload_n 0, 1) := by decide +kernel
theorem dX10_in_6 : decode cX10_in 6 = .ok (.iload_n 2, 1) := by decide +kernel
theorem dX10_in_7 : decode cX10_in 7 = .ok (.if_icmp .gt 7, 3) := by decide +kernel
theorem dX10_in_10 : decode cX10_in 10 = .ok (.iconst 1, 1) := by decide +kernel
theorem dX10_in_11 : decode cX10_in 11 = .ok (.goto 4, 3) := by decide +kernel
theorem dX10_in_14 : decode cX10_in 14 = .ok (.iconst 0, 1) := by decide +kernel
theorem dX10_in_15 : decode cX10_in 15 = .ok (.ireturn, 1) := by decide +kernel
theorem dX10_size_0 : decode cX10_size 0 = .ok (.iload_n 0, 1) := by decide +kernel
theorem dX10_size_1 : decode cX10_size 1 = .ok (.ifCond .ge 8, 3) := by decide +kernel
theorem dX10_size_4 : decode cX10_size 4 = .ok (.iload_n 0, 1) := by decide +kernel
theorem dX10_size_5 : decode cX10_size 5 = .ok (.ineg, 1) := by decide +kernel
theorem dX10_size_6 : decode cX10_size 6 = .ok (.goto 4, 3) := by decide +kernel
theorem dX10_size_9 : decode cX10_size 9 = .ok (.iload_n 0, 1) := by decide +kernel
theorem dX10_size_10 : decode cX10_size 10 = .ok (.ireturn, 1) := by decide +kernel
theorem dX10_isNoise_0 : decode cX10_isNoise 0 = .ok (.iload_n 1, 1) := by decide +kernel
theorem dX10_isNoise_1 : decode cX10_isNoise 1 = .ok (.iconst 0, 1) := by decide +kernel
theorem dX10_isNoise_2 : decode cX10_isNoise 2 = .ok (.aload_n 0, 1) := by decide +kernel
theorem dX10_isNoise_3 : decode cX10_isNoise 3 = .ok (.getfield 9, 3) := by decide +kernel
theorem dX10_isNoise_6 : decode cX10_isNoise 6 = .ok (.iconst 0, 1) := by decide +kernel
theorem dX10_isNoise_7 : decode cX10_isNoise 7 = .ok (.iaload, 1) := by decide +kernel
theorem dX10_isNoise_8 : decode cX10_isNoise 8 = .ok (.iconst 1, 1) := by decide +kernel
theorem dX10_isNoise_9 : decode cX10_isNoise 9 = .ok (.isub, 1) := by decide +kernel
theorem dX10_isNoise_10 : decode cX10_isNoise 10 = .ok (.invokestatic 44, 3) := by decide +kernel
theorem dX10_isNoise_13 : decode cX10_isNoise 13 = .ok (.ireturn, 1) := by decide +kernel
theorem dX10_isPlace_0 : decode cX10_isPlace 0 = .ok (.iload_n 0, 1) := by decide +kernel
theorem dX10_isPlace_1 : decode cX10_isPlace 1 = .ok (.iconst 0, 1) := by decide +kernel
theorem dX10_isPlace_2 : decode cX10_isPlace 2 = .ok (.bipush 9, 2) := by decide +kernel
theorem dX10_isPlace_4 : decode cX10_isPlace 4 = .ok (.invokestatic 44, 3) := by decide +kernel
theorem dX10_isPlace_7 : decode cX10_isPlace 7 = .ok (.ireturn, 1) := by decide +kernel
theorem dX10_isMinute_0 : decode cX10_isMinute 0 = .ok (.iload_n 0, 1) := by decide +kernel
theorem dX10_isMinute_1 : decode cX10_isMinute 1 = .ok (.iconst 0, 1) := by decide +kernel
theorem dX10_isMinute_2 : decode cX10_isMinute 2 = .ok (.bipush 39, 2) := by decide +kernel
theorem dX10_isMinute_4 : decode cX10_isMinute 4 = .ok (.invokestatic 44, 3) := by decide +kernel
theorem dX10_isMinute_7 : decode cX10_isMinute 7 = .ok (.ireturn, 1) := by decide +kernel
theorem dX10_day_0 : decode cX10_day 0 = .ok (.iload_n 1, 1) := by decide +kernel
theorem dX10_day_1 : decode cX10_day 1 = .ok (.iconst 0, 1) := by decide +kernel
theorem dX10_day_2 : decode cX10_day 2 = .ok (.iconst 2, 1) := by decide +kernel
theorem dX10_day_3 : decode cX10_day 3 = .ok (.invokestatic 44, 3) := by decide +kernel
theorem dX10_day_6 : decode cX10_day 6 = .ok (.ifCond .ne 5, 3) := by decide +kernel
theorem dX10_day_9 : decode cX10_day 9 = .ok (.iconst (-1), 1) := by decide +kernel
theorem dX10_day_10 : decode cX10_day 10 = .ok (.ireturn, 1) := by decide +kernel
theorem dX10_day_11 : decode cX10_day 11 = .ok (.lload_n 2, 1) := by decide +kernel
theorem dX10_day_12 : decode cX10_day 12 = .ok (.lconst 0, 1) := by decide +kernel
theorem dX10_day_13 : decode cX10_day 13 = .ok (.lcmp, 1) := by decide +kernel
theorem dX10_day_14 : decode cX10_day 14 = .ok (.ifCond .lt 11, 3) := by decide +kernel
theorem dX10_day_17 : decode cX10_day 17 = .ok (.lload_n 2, 1) := by decide +kernel
theorem dX10_day_18 : decode cX10_day 18 = .ok (.ldc2_w 48, 3) := by decide +kernel
theorem dX10_day_21 : decode cX10_day 21 = .ok (.lcmp, 1) := by decide +kernel
theorem dX10_day_22 : decode cX10_day 22 = .ok (.ifCond .lt 6, 3) := by decide +kernel
theorem dX10_day_25 : decode cX10_day 25 = .ok (.bipush (-2), 2) := by decide +kernel
theorem dX10_day_27 : decode cX10_day 27 = .ok (.ireturn, 1) := by decide +kernel
theorem dX10_day_28 : decode cX10_day 28 = .ok (.iconst 0, 1) := by decide +kernel
theorem dX10_day_29 : decode cX10_day 29 = .ok (.istore 4, 2) := by decide +kernel
theorem dX10_day_31 : decode cX10_day 31 = .ok (.iconst 0, 1) := by decide +kernel
theorem dX10_day_32 : decode cX10_day 32 = .ok (.istore 5, 2) := by decide +kernel
theorem dX10_day_34 : decode cX10_day 34 = .ok (.iload 5, 2) := by decide +kernel
theorem dX10_day_36 : decode cX10_day 36 = .ok (.bipush 40, 2) := by decide +kernel
theorem dX10_day_38 : decode cX10_day 38 = .ok (.if_icmp .ge 48, 3) := by decide +kernel
theorem dX10_day_41 : decode cX10_day 41 = .ok (.sipush 130, 3) := by decide +kernel
theorem dX10_day_44 : decode cX10_day 44 = .ok (.bipush 40, 2) := by decide +kernel
theorem dX10_day_46 : decode cX10_day 46 = .ok (.iload_n 1, 1) := by decide +kernel
theorem dX10_day_47 : decode cX10_day 47 = .ok (.imul, 1) := by decide +kernel
theorem dX10_day_48 : decode cX10_day 48 = .ok (.iadd, 1) := by decide +kernel
theorem dX10_day_49 : decode cX10_day 49 = .ok (.iload 5, 2) := by decide +kernel
theorem dX10_day_51 : decode cX10_day 51 = .ok (.iadd, 1) := by decide +kernel
theorem dX10_day_52 : decode cX10_day 52 = .ok (.istore 6, 2) := by decide +kernel
theorem dX10_day_54 : decode cX10_day 54 = .ok (.iload 4, 2) := by decide +kernel
theorem dX10_day_56 : decode cX10_day 56 = .ok (.aload_n 0, 1) := by decide +kernel
theorem dX10_day_57 : decode cX10_day 57 = .ok (.getfield 9, 3) := by decide +kernel
theorem dX10_day_60 : decode cX10_day 60 = .ok (.iload 6, 2) := by decide +kernel
theorem dX10_day_62 : decode cX10_day 62 = .ok (.iaload, 1) := by decide +kernel
theorem dX10_day_63 : decode cX10_day 63 = .ok (.iadd, 1) := by decide +kernel
theorem dX10_day_64 : decode cX10_day 64 = .ok (.istore 4, 2) := by decide +kernel
theorem dX10_day_66 : decode cX10_day 66 = .ok (.aload_n 0, 1) := by decide +kernel
theorem dX10_day_67 : decode cX10_day 67 = .ok (.getfield 9, 3) := by decide +kernel
theorem dX10_day_70 : decode cX10_day 70 = .ok (.iload 6, 2) := by decide +kernel
theorem dX10_day_72 : decode cX10_day 72 = .ok (.lload_n 2, 1) := by decide +kernel
theorem dX10_day_73 : decode cX10_day 73 = .ok (.iload 5, 2) := by decide +kernel
theorem dX10_day_75 : decode cX10_day 75 = .ok (.lshr, 1) := by decide +kernel
theorem dX10_day_76 : decode cX10_day 76 = .ok (.lconst 1, 1) := by decide +kernel
theorem dX10_day_77 : decode cX10_day 77 = .ok (.land, 1) := by decide +kernel
theorem dX10_day_78 : decode cX10_day 78 = .ok (.l2i, 1) := by decide +kernel
theorem dX10_day_79 : decode cX10_day 79 = .ok (.iastore, 1) := by decide +kernel
theorem dX10_day_80 : decode cX10_day 80 = .ok (.iinc 5 1, 3) := by decide +kernel
theorem dX10_day_83 : decode cX10_day 83 = .ok (.goto (-49), 3) := by decide +kernel
theorem dX10_day_86 : decode cX10_day 86 = .ok (.iload 4, 2) := by decide +kernel
theorem dX10_day_88 : decode cX10_day 88 = .ok (.ireturn, 1) := by decide +kernel
theorem dX10_feed_0 : decode cX10_feed 0 = .ok (.iload_n 3, 1) := by decide +kernel
theorem dX10_feed_1 : decode cX10_feed 1 = .ok (.iconst 1, 1) := by decide +kernel
theorem dX10_feed_2 : decode cX10_feed 2 = .ok (.bipush 8, 2) := by decide +kernel
theorem dX10_feed_4 : decode cX10_feed 4 = .ok (.invokestatic 44, 3) := by decide +kernel
theorem dX10_feed_7 : decode cX10_feed 7 = .ok (.ifCond .ne 6, 3) := by decide +kernel
theorem dX10_feed_10 : decode cX10_feed 10 = .ok (.bipush (-2), 2) := by decide +kernel
theorem dX10_feed_12 : decode cX10_feed 12 = .ok (.ireturn, 1) := by decide +kernel
theorem dX10_feed_13 : decode cX10_feed 13 = .ok (.aload_n 0, 1) := by decide +kernel
theorem dX10_feed_14 : decode cX10_feed 14 = .ok (.getfield 9, 3) := by decide +kernel
theorem dX10_feed_17 : decode cX10_feed 17 = .ok (.iconst 3, 1) := by decide +kernel
theorem dX10_feed_18 : decode cX10_feed 18 = .ok (.iaload, 1) := by decide +kernel
theorem dX10_feed_19 : decode cX10_feed 19 = .ok (.iload_n 3, 1) := by decide +kernel
theorem dX10_feed_20 : decode cX10_feed 20 = .ok (.iadd, 1) := by decide +kernel
theorem dX10_feed_21 : decode cX10_feed 21 = .ok (.bipush 120, 2) := by decide +kernel
theorem dX10_feed_23 : decode cX10_feed 23 = .ok (.if_icmp .le 6, 3) := by decide +kernel
theorem dX10_feed_26 : decode cX10_feed 26 = .ok (.bipush (-4), 2) := by decide +kernel
theorem dX10_feed_28 : decode cX10_feed 28 = .ok (.ireturn, 1) := by decide +kernel
theorem dX10_feed_29 : decode cX10_feed 29 = .ok (.iload_n 3, 1) := by decide +kernel
theorem dX10_feed_30 : decode cX10_feed 30 = .ok (.iconst 1, 1) := by decide +kernel
theorem dX10_feed_31 : decode cX10_feed 31 = .ok (.isub, 1) := by decide +kernel
theorem dX10_feed_32 : decode cX10_feed 32 = .ok (.istore 4, 2) := by decide +kernel
theorem dX10_feed_34 : decode cX10_feed 34 = .ok (.iload 4, 2) := by decide +kernel
theorem dX10_feed_36 : decode cX10_feed 36 = .ok (.ifCond .lt 45, 3) := by decide +kernel
theorem dX10_feed_39 : decode cX10_feed 39 = .ok (.aload_n 0, 1) := by decide +kernel
theorem dX10_feed_40 : decode cX10_feed 40 = .ok (.getfield 9, 3) := by decide +kernel
theorem dX10_feed_43 : decode cX10_feed 43 = .ok (.bipush 10, 2) := by decide +kernel
theorem dX10_feed_45 : decode cX10_feed 45 = .ok (.aload_n 0, 1) := by decide +kernel
theorem dX10_feed_46 : decode cX10_feed 46 = .ok (.getfield 9, 3) := by decide +kernel
theorem dX10_feed_49 : decode cX10_feed 49 = .ok (.iconst 3, 1) := by decide +kernel
theorem dX10_feed_50 : decode cX10_feed 50 = .ok (.iaload, 1) := by decide +kernel
theorem dX10_feed_51 : decode cX10_feed 51 = .ok (.iadd, 1) := by decide +kernel
theorem dX10_feed_52 : decode cX10_feed 52 = .ok (.lload_n 1, 1) := by decide +kernel
theorem dX10_feed_53 : decode cX10_feed 53 = .ok (.bipush 8, 2) := by decide +kernel
theorem dX10_feed_55 : decode cX10_feed 55 = .ok (.iload 4, 2) := by decide +kernel
theorem dX10_feed_57 : decode cX10_feed 57 = .ok (.imul, 1) := by decide +kernel
theorem dX10_feed_58 : decode cX10_feed 58 = .ok (.lshr, 1) := by decide +kernel
theorem dX10_feed_59 : decode cX10_feed 59 = .ok (.ldc2_w 50, 3) := by decide +kernel
theorem dX10_feed_62 : decode cX10_feed 62 = .ok (.land, 1) := by decide +kernel
theorem dX10_feed_63 : decode cX10_feed 63 = .ok (.l2i, 1) := by decide +kernel
theorem dX10_feed_64 : decode cX10_feed 64 = .ok (.iastore, 1) := by decide +kernel
theorem dX10_feed_65 : decode cX10_feed 65 = .ok (.aload_n 0, 1) := by decide +kernel
theorem dX10_feed_66 : decode cX10_feed 66 = .ok (.getfield 9, 3) := by decide +kernel
theorem dX10_feed_69 : decode cX10_feed 69 = .ok (.iconst 3, 1) := by decide +kernel
theorem dX10_feed_70 : decode cX10_feed 70 = .ok (.dup2, 1) := by decide +kernel
theorem dX10_feed_71 : decode cX10_feed 71 = .ok (.iaload, 1) := by decide +kernel
theorem dX10_feed_72 : decode cX10_feed 72 = .ok (.iconst 1, 1) := by decide +kernel
theorem dX10_feed_73 : decode cX10_feed 73 = .ok (.iadd, 1) := by decide +kernel
theorem dX10_feed_74 : decode cX10_feed 74 = .ok (.iastore, 1) := by decide +kernel
theorem dX10_feed_75 : decode cX10_feed 75 = .ok (.iinc 4 (-1), 3) := by decide +kernel
theorem dX10_feed_78 : decode cX10_feed 78 = .ok (.goto (-44), 3) := by decide +kernel
theorem dX10_feed_81 : decode cX10_feed 81 = .ok (.aload_n 0, 1) := by decide +kernel
theorem dX10_feed_82 : decode cX10_feed 82 = .ok (.getfield 9, 3) := by decide +kernel
theorem dX10_feed_85 : decode cX10_feed 85 = .ok (.iconst 3, 1) := by decide +kernel
theorem dX10_feed_86 : decode cX10_feed 86 = .ok (.iaload, 1) := by decide +kernel
theorem dX10_feed_87 : decode cX10_feed 87 = .ok (.ireturn, 1) := by decide +kernel
theorem dX10_here_0 : decode cX10_here 0 = .ok (.aload_n 0, 1) := by decide +kernel
theorem dX10_here_1 : decode cX10_here 1 = .ok (.getfield 52, 3) := by decide +kernel
theorem dX10_here_4 : decode cX10_here 4 = .ok (.aload_n 0, 1) := by decide +kernel
theorem dX10_here_5 : decode cX10_here 5 = .ok (.getfield 55, 3) := by decide +kernel
theorem dX10_here_8 : decode cX10_here 8 = .ok (.if_icmp .ge 18, 3) := by decide +kernel
theorem dX10_here_11 : decode cX10_here 11 = .ok (.aload_n 0, 1) := by decide +kernel
theorem dX10_here_12 : decode cX10_here 12 = .ok (.getfield 9, 3) := by decide +kernel
theorem dX10_here_15 : decode cX10_here 15 = .ok (.bipush 10, 2) := by decide +kernel
theorem dX10_here_17 : decode cX10_here 17 = .ok (.aload_n 0, 1) := by decide +kernel
theorem dX10_here_18 : decode cX10_here 18 = .ok (.getfield 52, 3) := by decide +kernel
theorem dX10_here_21 : decode cX10_here 21 = .ok (.iadd, 1) := by decide +kernel
theorem dX10_here_22 : decode cX10_here 22 = .ok (.iaload, 1) := by decide +kernel
theorem dX10_here_23 : decode cX10_here 23 = .ok (.goto 4, 3) := by decide +kernel
theorem dX10_here_26 : decode cX10_here 26 = .ok (.iconst (-1), 1) := by decide +kernel
theorem dX10_here_27 : decode cX10_here 27 = .ok (.ireturn, 1) := by decide +kernel
theorem dX10_must_0 : decode cX10_must 0 = .ok (.aload_n 0, 1) := by decide +kernel
theorem dX10_must_1 : decode cX10_must 1 = .ok (.aload_n 0, 1) := by decide +kernel
theorem dX10_must_2 : decode cX10_must 2 = .ok (.getfield 58, 3) := by decide +kernel
theorem dX10_must_5 : decode cX10_must 5 = .ok (.ifCond .ne 11, 3) := by decide +kernel
theorem dX10_must_8 : decode cX10_must 8 = .ok (.aload_n 0, 1) := by decide +kernel
theorem dX10_must_9 : decode cX10_must 9 = .ok (.invokevirtual 62, 3) := by decide +kernel
theorem dX10_must_12 : decode cX10_must 12 = .ok (.iload_n 1, 1) := by decide +kernel
theorem dX10_must_13 : decode cX10_must 13 = .ok (.if_icmp .eq 7, 3) := by decide +kernel
theorem dX10_must_16 : decode cX10_must 16 = .ok (.iconst 1, 1) := by decide +kernel
theorem dX10_must_17 : decode cX10_must 17 = .ok (.goto 4, 3) := by decide +kernel
theorem dX10_must_20 : decode cX10_must 20 = .ok (.iconst 0, 1) := by decide +kernel
theorem dX10_must_21 : decode cX10_must 21 = .ok (.putfield 58, 3) := by decide +kernel
theorem dX10_must_24 : decode cX10_must 24 = .ok (.aload_n 0, 1) := by decide +kernel
theorem dX10_must_25 : decode cX10_must 25 = .ok (.dup, 1) := by decide +kernel
theorem dX10_must_26 : decode cX10_must 26 = .ok (.getfield 52, 3) := by decide +kernel
theorem dX10_must_29 : decode cX10_must 29 = .ok (.aload_n 0, 1) := by decide +kernel
theorem dX10_must_30 : decode cX10_must 30 = .ok (.getfield 58, 3) := by decide +kernel
theorem dX10_must_33 : decode cX10_must 33 = .ok (.ifCond .eq 7, 3) := by decide +kernel
theorem dX10_must_36 : decode cX10_must 36 = .ok (.iconst 0, 1) := by decide +kernel
theorem dX10_must_37 : decode cX10_must 37 = .ok (.goto 4, 3) := by decide +kernel
theorem dX10_must_40 : decode cX10_must 40 = .ok (.iconst 1, 1) := by decide +kernel
theorem dX10_must_41 : decode cX10_must 41 = .ok (.iadd, 1) := by decide +kernel
theorem dX10_must_42 : decode cX10_must 42 = .ok (.putfield 52, 3) := by decide +kernel
theorem dX10_must_45 : decode cX10_must 45 = .ok (.return_, 1) := by decide +kernel
theorem dX10_spells_0 : decode cX10_spells 0 = .ok (.iconst 0, 1) := by decide +kernel
theorem dX10_spells_1 : decode cX10_spells 1 = .ok (.istore_n 2, 1) := by decide +kernel
theorem dX10_spells_2 : decode cX10_spells 2 = .ok (.iload_n 2, 1) := by decide +kernel
theorem dX10_spells_3 : decode cX10_spells 3 = .ok (.aload_n 1, 1) := by decide +kernel
theorem dX10_spells_4 : decode cX10_spells 4 = .ok (.invokevirtual 66, 3) := by decide +kernel
theorem dX10_spells_7 : decode cX10_spells 7 = .ok (.if_icmp .ge 18, 3) := by decide +kernel
theorem dX10_spells_10 : decode cX10_spells 10 = .ok (.aload_n 0, 1) := by decide +kernel
theorem dX10_spells_11 : decode cX10_spells 11 = .ok (.aload_n 1, 1) := by decide +kernel
theorem dX10_spells_12 : decode cX10_spells 12 = .ok (.iload_n 2, 1) := by decide +kernel
theorem dX10_spells_13 : decode cX10_spells 13 = .ok (.invokevirtual 71, 3) := by decide +kernel
theorem dX10_spells_16 : decode cX10_spells 16 = .ok (.invokevirtual 75, 3) := by decide +kernel
theorem dX10_spells_19 : decode cX10_spells 19 = .ok (.iinc 2 1, 3) := by decide +kernel
theorem dX10_spells_22 : decode cX10_spells 22 = .ok (.goto (-20), 3) := by decide +kernel
theorem dX10_spells_25 : decode cX10_spells 25 = .ok (.return_, 1) := by decide +kernel
theorem dX10_figures_0 : decode cX10_figures 0 = .ok (.aload_n 0, 1) := by decide +kernel
theorem dX10_figures_1 : decode cX10_figures 1 = .ok (.aload_n 0, 1) := by decide +kernel
theorem dX10_figures_2 : decode cX10_figures 2 = .ok (.getfield 58, 3) := by decide +kernel
theorem dX10_figures_5 : decode cX10_figures 5 = .ok (.ifCond .ne 17, 3) := by decide +kernel
theorem dX10_figures_8 : decode cX10_figures 8 = .ok (.aload_n 0, 1) := by decide +kernel
theorem dX10_figures_9 : decode cX10_figures 9 = .ok (.invokevirtual 62, 3) := by decide +kernel
theorem dX10_figures_12 : decode cX10_figures 12 = .ok (.bipush 48, 2) := by decide +kernel
theorem dX10_figures_14 : decode cX10_figures 14 = .ok (.bipush 57, 2) := by decide +kernel
theorem dX10_figures_16 : decode cX10_figures 16 = .ok (.invokestatic 44, 3) := by decide +kernel
theorem dX10_figures_19 : decode cX10_figures 19 = .ok (.ifCond .ne 7, 3) := by decide +kernel
theorem dX10_figures_22 : decode cX10_figures 22 = .ok (.iconst 1, 1) := by decide +kernel
theorem dX10_figures_23 : decode cX10_figures 23 = .ok (.goto 4, 3) := by decide +kernel
theorem dX10_figures_26 : decode cX10_figures 26 = .ok (.iconst 0, 1) := by decide +kernel
theorem dX10_figures_27 : decode cX10_figures 27 = .ok (.putfield 58, 3) := by decide +kernel
theorem dX10_figures_30 : decode cX10_figures 30 = .ok (.iconst 0, 1) := by decide +kernel
theorem dX10_figures_31 : decode cX10_figures 31 = .ok (.istore_n 1, 1) := by decide +kernel
theorem dX10_figures_32 : decode cX10_figures 32 = .ok (.iconst 0, 1) := by decide +kernel
theorem dX10_figures_33 : decode cX10_figures 33 = .ok (.istore_n 2, 1) := by decide +kernel
theorem dX10_figures_34 : decode cX10_figures 34 = .ok (.iload_n 2, 1) := by decide +kernel
theorem dX10_figures_35 : decode cX10_figures 35 = .ok (.iconst 2, 1) := by decide +kernel
theorem dX10_figures_36 : decode cX10_figures 36 = .ok (.if_icmp .ge 61, 3) := by decide +kernel
theorem dX10_figures_39 : decode cX10_figures 39 = .ok (.aload_n 0, 1) := by decide +kernel
theorem dX10_figures_40 : decode cX10_figures 40 = .ok (.getfield 58, 3) := by decide +kernel
theorem dX10_figures_43 : decode cX10_figures 43 = .ok (.ifCond .ne 54, 3) := by decide +kernel
theorem dX10_figures_46 : decode cX10_figures 46 = .ok (.aload_n 0, 1) := by decide +kernel
theorem dX10_figures_47 : decode cX10_figures 47 = .ok (.invokevirtual 62, 3) := by decide +kernel
theorem dX10_figures_50 : decode cX10_figures 50 = .ok (.bipush 48, 2) := by decide +kernel
theorem dX10_figures_52 : decode cX10_figures 52 = .ok (.bipush 57, 2) := by decide +kernel
theorem dX10_figures_54 : decode cX10_figures 54 = .ok (.invokestatic 44, 3) := by decide +kernel
theorem dX10_figures_57 : decode cX10_figures 57 = .ok (.ifCond .eq 40, 3) := by decide +kernel
theorem dX10_figures_60 : decode cX10_figures 60 = .ok (.iload_n 2, 1) := by decide +kernel
theorem dX10_figures_61 : decode cX10_figures 61 = .ok (.ifCond .eq 7, 3) := by decide +kernel
theorem dX10_figures_64 : decode cX10_figures 64 = .ok (.iload_n 1, 1) := by decide +kernel
theorem dX10_figures_65 : decode cX10_figures 65 = .ok (.ifCond .le 32, 3) := by decide +kernel
theorem dX10_figures_68 : decode cX10_figures 68 = .ok (.bipush 10, 2) := by decide +kernel
theorem dX10_figures_70 : decode cX10_figures 70 = .ok (.iload_n 1, 1) := by decide +kernel
theorem dX10_figures_71 : decode cX10_figures 71 = .ok (.imul, 1) := by decide +kernel
theorem dX10_figures_72 : decode cX10_figures 72 = .ok (.aload_n 0, 1) := by decide +kernel
theorem dX10_figures_73 : decode cX10_figures 73 = .ok (.invokevirtual 62, 3) := by decide +kernel
theorem dX10_figures_76 : decode cX10_figures 76 = .ok (.iadd, 1) := by decide +kernel
theorem dX10_figures_77 : decode cX10_figures 77 = .ok (.bipush 48, 2) := by decide +kernel
theorem dX10_figures_79 : decode cX10_figures 79 = .ok (.isub, 1) := by decide +kernel
theorem dX10_figures_80 : decode cX10_figures 80 = .ok (.istore_n 1, 1) := by decide +kernel
theorem dX10_figures_81 : decode cX10_figures 81 = .ok (.aload_n 0, 1) := by decide +kernel
theorem dX10_figures_82 : decode cX10_figures 82 = .ok (.dup, 1) := by decide +kernel
theorem dX10_figures_83 : decode cX10_figures 83 = .ok (.getfield 52, 3) := by decide +kernel
theorem dX10_figures_86 : decode cX10_figures 86 = .ok (.iconst 1, 1) := by decide +kernel
theorem dX10_figures_87 : decode cX10_figures 87 = .ok (.iadd, 1) := by decide +kernel
theorem dX10_figures_88 : decode cX10_figures 88 = .ok (.putfield 52, 3) := by decide +kernel
theorem dX10_figures_91 : decode cX10_figures 91 = .ok (.iinc 2 1, 3) := by decide +kernel
theorem dX10_figures_94 : decode cX10_figures 94 = .ok (.goto (-60), 3) := by decide +kernel
theorem dX10_figures_97 : decode cX10_figures 97 = .ok (.iload_n 1, 1) := by decide +kernel
theorem dX10_figures_98 : decode cX10_figures 98 = .ok (.ireturn, 1) := by decide +kernel
theorem dX10_among_0 : decode cX10_among 0 = .ok (.iconst 0, 1) := by decide +kernel
theorem dX10_among_1 : decode cX10_among 1 = .ok (.istore_n 2, 1) := by decide +kernel
theorem dX10_among_2 : decode cX10_among 2 = .ok (.iload_n 2, 1) := by decide +kernel
theorem dX10_among_3 : decode cX10_among 3 = .ok (.aload_n 1, 1) := by decide +kernel
theorem dX10_among_4 : decode cX10_among 4 = .ok (.invokevirtual 66, 3) := by decide +kernel
theorem dX10_among_7 : decode cX10_among 7 = .ok (.if_icmp .ge 33, 3) := by decide +kernel
theorem dX10_among_10 : decode cX10_among 10 = .ok (.aload_n 0, 1) := by decide +kernel
theorem dX10_among_11 : decode cX10_among 11 = .ok (.invokevirtual 62, 3) := by decide +kernel
theorem dX10_among_14 : decode cX10_among 14 = .ok (.aload_n 1, 1) := by decide +kernel
theorem dX10_among_15 : decode cX10_among 15 = .ok (.iload_n 2, 1) := by decide +kernel
theorem dX10_among_16 : decode cX10_among 16 = .ok (.invokevirtual 71, 3) := by decide +kernel
theorem dX10_among_19 : decode cX10_among 19 = .ok (.if_icmp .ne 15, 3) := by decide +kernel
theorem dX10_among_22 : decode cX10_among 22 = .ok (.aload_n 0, 1) := by decide +kernel
theorem dX10_among_23 : decode cX10_among 23 = .ok (.dup, 1) := by decide +kernel
theorem dX10_among_24 : decode cX10_among 24 = .ok (.getfield 52, 3) := by decide +kernel
theorem dX10_among_27 : decode cX10_among 27 = .ok (.iconst 1, 1) := by decide +kernel
theorem dX10_among_28 : decode cX10_among 28 = .ok (.iadd, 1) := by decide +kernel
