theorem dX0_init_0 : decode cX0_init 0 = .ok (.aload_n 0, 1) := by decide +kernel
theorem dX0_init_1 : decode cX0_init 1 = .ok (.invokespecial 1, 3) := by decide +kernel
theorem dX0_init_4 : decode cX0_init 4 = .ok (.aload_n 0, 1) := by decide +kernel
theorem dX0_init_5 : decode cX0_init 5 = .ok (.sipush 512, 3) := by decide +kernel
theorem dX0_init_8 : decode cX0_init 8 = .ok (.newarray .int, 2) := by decide +kernel
theorem dX0_init_10 : decode cX0_init 10 = .ok (.putfield 9, 3) := by decide +kernel
theorem dX0_init_13 : decode cX0_init 13 = .ok (.aload_n 0, 1) := by decide +kernel
theorem dX0_init_14 : decode cX0_init 14 = .ok (.sipush 512, 3) := by decide +kernel
theorem dX0_init_17 : decode cX0_init 17 = .ok (.newarray .int, 2) := by decide +kernel
theorem dX0_init_19 : decode cX0_init 19 = .ok (.putfield 13, 3) := by decide +kernel
theorem dX0_init_22 : decode cX0_init 22 = .ok (.aload_n 0, 1) := by decide +kernel
theorem dX0_init_23 : decode cX0_init 23 = .ok (.sipush 512, 3) := by decide +kernel
theorem dX0_init_26 : decode cX0_init 26 = .ok (.newarray .int, 2) := by decide +kernel
theorem dX0_init_28 : decode cX0_init 28 = .ok (.putfield 16, 3) := by decide +kernel
theorem dX0_init_31 : decode cX0_init 31 = .ok (.aload_n 0, 1) := by decide +kernel
theorem dX0_init_32 : decode cX0_init 32 = .ok (.iconst 4, 1) := by decide +kernel
theorem dX0_init_33 : decode cX0_init 33 = .ok (.sipush 512, 3) := by decide +kernel
theorem dX0_init_36 : decode cX0_init 36 = .ok (.multianewarray 19 2, 4) := by decide +kernel
theorem dX0_init_40 : decode cX0_init 40 = .ok (.putfield 21, 3) := by decide +kernel
theorem dX0_init_43 : decode cX0_init 43 = .ok (.aload_n 0, 1) := by decide +kernel
theorem dX0_init_44 : decode cX0_init 44 = .ok (.iconst 0, 1) := by decide +kernel
theorem dX0_init_45 : decode cX0_init 45 = .ok (.putfield 24, 3) := by decide +kernel
theorem dX0_init_48 : decode cX0_init 48 = .ok (.aload_n 0, 1) := by decide +kernel
theorem dX0_init_49 : decode cX0_init 49 = .ok (.sipush 512, 3) := by decide +kernel
theorem dX0_init_52 : decode cX0_init 52 = .ok (.newarray .int, 2) := by decide +kernel
theorem dX0_init_54 : decode cX0_init 54 = .ok (.putfield 28, 3) := by decide +kernel
theorem dX0_init_57 : decode cX0_init 57 = .ok (.aload_n 0, 1) := by decide +kernel
theorem dX0_init_58 : decode cX0_init 58 = .ok (.sipush 512, 3) := by decide +kernel
theorem dX0_init_61 : decode cX0_init 61 = .ok (.newarray .int, 2) := by decide +kernel
theorem dX0_init_63 : decode cX0_init 63 = .ok (.putfield 31, 3) := by decide +kernel
theorem dX0_init_66 : decode cX0_init 66 = .ok (.aload_n 0, 1) := by decide +kernel
theorem dX0_init_67 : decode cX0_init 67 = .ok (.sipush 512, 3) := by decide +kernel
theorem dX0_init_70 : decode cX0_init 70 = .ok (.newarray .int, 2) := by decide +kernel
theorem dX0_init_72 : decode cX0_init 72 = .ok (.putfield 34, 3) := by decide +kernel
theorem dX0_init_75 : decode cX0_init 75 = .ok (.aload_n 0, 1) := by decide +kernel
theorem dX0_init_76 : decode cX0_init 76 = .ok (.sipush 512, 3) := by decide +kernel
theorem dX0_init_79 : decode cX0_init 79 = .ok (.newarray .int, 2) := by decide +kernel
theorem dX0_init_81 : decode cX0_init 81 = .ok (.putfield 37, 3) := by decide +kernel
theorem dX0_init_84 : decode cX0_init 84 = .ok (.aload_n 0, 1) := by decide +kernel
theorem dX0_init_85 : decode cX0_init 85 = .ok (.iconst 0, 1) := by decide +kernel
theorem dX0_init_86 : decode cX0_init 86 = .ok (.putfield 40, 3) := by decide +kernel
theorem dX0_init_89 : decode cX0_init 89 = .ok (.aload_n 0, 1) := by decide +kernel
theorem dX0_init_90 : decode cX0_init 90 = .ok (.iconst 4, 1) := by decide +kernel
theorem dX0_init_91 : decode cX0_init 91 = .ok (.sipush 400, 3) := by decide +kernel
theorem dX0_init_94 : decode cX0_init 94 = .ok (.multianewarray 19 2, 4) := by decide +kernel
theorem dX0_init_98 : decode cX0_init 98 = .ok (.putfield 43, 3) := by decide +kernel
theorem dX0_init_101 : decode cX0_init 101 = .ok (.aload_n 0, 1) := by decide +kernel
theorem dX0_init_102 : decode cX0_init 102 = .ok (.iconst 4, 1) := by decide +kernel
theorem dX0_init_103 : decode cX0_init 103 = .ok (.iconst 4, 1) := by decide +kernel
theorem dX0_init_104 : decode cX0_init 104 = .ok (.multianewarray 19 2, 4) := by decide +kernel
theorem dX0_init_108 : decode cX0_init 108 = .ok (.putfield 46, 3) := by decide +kernel
theorem dX0_init_111 : decode cX0_init 111 = .ok (.aload_n 0, 1) := by decide +kernel
theorem dX0_init_112 : decode cX0_init 112 = .ok (.iconst 4, 1) := by decide +kernel
theorem dX0_init_113 : decode cX0_init 113 = .ok (.newarray .int, 2) := by decide +kernel
theorem dX0_init_115 : decode cX0_init 115 = .ok (.putfield 49, 3) := by decide +kernel
theorem dX0_init_118 : decode cX0_init 118 = .ok (.aload_n 0, 1) := by decide +kernel
theorem dX0_init_119 : decode cX0_init 119 = .ok (.iconst 4, 1) := by decide +kernel
theorem dX0_init_120 : decode cX0_init 120 = .ok (.newarray .int, 2) := by decide +kernel
theorem dX0_init_122 : decode cX0_init 122 = .ok (.putfield 52, 3) := by decide +kernel
theorem dX0_init_125 : decode cX0_init 125 = .ok (.return_, 1) := by decide +kernel
theorem dX0_insert_0 : decode cX0_insert 0 = .ok (.iload_n 1, 1) := by decide +kernel
theorem dX0_insert_1 : decode cX0_insert 1 = .ok (.invokestatic 55, 3) := by decide +kernel
theorem dX0_insert_4 : decode cX0_insert 4 = .ok (.iload_n 2, 1) := by decide +kernel
theorem dX0_insert_5 : decode cX0_insert 5 = .ok (.aload_n 0, 1) := by decide +kernel
theorem dX0_insert_6 : decode cX0_insert 6 = .ok (.getfield 52, 3) := by decide +kernel
theorem dX0_insert_9 : decode cX0_insert 9 = .ok (.iload_n 1, 1) := by decide +kernel
theorem dX0_insert_10 : decode cX0_insert 10 = .ok (.iaload, 1) := by decide +kernel
theorem dX0_insert_11 : decode cX0_insert 11 = .ok (.invokestatic 59, 3) := by decide +kernel
theorem dX0_insert_14 : decode cX0_insert 14 = .ok (.iload_n 3, 1) := by decide +kernel
theorem dX0_insert_15 : decode cX0_insert 15 = .ok (.sipush 255, 3) := by decide +kernel
theorem dX0_insert_18 : decode cX0_insert 18 = .ok (.invokestatic 59, 3) := by decide +kernel
theorem dX0_insert_21 : decode cX0_insert 21 = .ok (.aload_n 0, 1) := by decide +kernel
theorem dX0_insert_22 : decode cX0_insert 22 = .ok (.iload_n 1, 1) := by decide +kernel
theorem dX0_insert_23 : decode cX0_insert 23 = .ok (.invokevirtual 63, 3) := by decide +kernel
theorem dX0_insert_26 : decode cX0_insert 26 = .ok (.iload_n 2, 1) := by decide +kernel
theorem dX0_insert_27 : decode cX0_insert 27 = .ok (.ifCond .ne 7, 3) := by decide +kernel
theorem dX0_insert_30 : decode cX0_insert 30 = .ok (.iconst (-1), 1) := by decide +kernel
theorem dX0_insert_31 : decode cX0_insert 31 = .ok (.goto 11, 3) := by decide +kernel
theorem dX0_insert_34 : decode cX0_insert 34 = .ok (.aload_n 0, 1) := by decide +kernel
theorem dX0_insert_35 : decode cX0_insert 35 = .ok (.iload_n 1, 1) := by decide +kernel
theorem dX0_insert_36 : decode cX0_insert 36 = .ok (.iload_n 2, 1) := by decide +kernel
theorem dX0_insert_37 : decode cX0_insert 37 = .ok (.iconst 1, 1) := by decide +kernel
theorem dX0_insert_38 : decode cX0_insert 38 = .ok (.isub, 1) := by decide +kernel
theorem dX0_insert_39 : decode cX0_insert 39 = .ok (.invokevirtual 66, 3) := by decide +kernel
theorem dX0_insert_42 : decode cX0_insert 42 = .ok (.istore 4, 2) := by decide +kernel
theorem dX0_insert_44 : decode cX0_insert 44 = .ok (.aload_n 0, 1) := by decide +kernel
theorem dX0_insert_45 : decode cX0_insert 45 = .ok (.iload_n 1, 1) := by decide +kernel
theorem dX0_insert_46 : decode cX0_insert 46 = .ok (.iconst (-1), 1) := by decide +kernel
theorem dX0_insert_47 : decode cX0_insert 47 = .ok (.invokevirtual 70, 3) := by decide +kernel
theorem dX0_insert_50 : decode cX0_insert 50 = .ok (.istore 5, 2) := by decide +kernel
theorem dX0_insert_52 : decode cX0_insert 52 = .ok (.aload_n 0, 1) := by decide +kernel
theorem dX0_insert_53 : decode cX0_insert 53 = .ok (.getfield 28, 3) := by decide +kernel
theorem dX0_insert_56 : decode cX0_insert 56 = .ok (.iload 5, 2) := by decide +kernel
theorem dX0_insert_58 : decode cX0_insert 58 = .ok (.iload_n 3, 1) := by decide +kernel
theorem dX0_insert_59 : decode cX0_insert 59 = .ok (.iastore, 1) := by decide +kernel
theorem dX0_insert_60 : decode cX0_insert 60 = .ok (.aload_n 0, 1) := by decide +kernel
theorem dX0_insert_61 : decode cX0_insert 61 = .ok (.getfield 31, 3) := by decide +kernel
theorem dX0_insert_64 : decode cX0_insert 64 = .ok (.iload 5, 2) := by decide +kernel
theorem dX0_insert_66 : decode cX0_insert 66 = .ok (.iconst 4, 1) := by decide +kernel
theorem dX0_insert_67 : decode cX0_insert 67 = .ok (.aload_n 0, 1) := by decide +kernel
theorem dX0_insert_68 : decode cX0_insert 68 = .ok (.getfield 49, 3) := by decide +kernel
theorem dX0_insert_71 : decode cX0_insert 71 = .ok (.iload_n 1, 1) := by decide +kernel
theorem dX0_insert_72 : decode cX0_insert 72 = .ok (.iaload, 1) := by decide +kernel
theorem dX0_insert_73 : decode cX0_insert 73 = .ok (.iconst 1, 1) := by decide +kernel
theorem dX0_insert_74 : decode cX0_insert 74 = .ok (.iadd, 1) := by decide +kernel
theorem dX0_insert_75 : decode cX0_insert 75 = .ok (.imul, 1) := by decide +kernel
theorem dX0_insert_76 : decode cX0_insert 76 = .ok (.iload_n 1, 1) := by decide +kernel
theorem dX0_insert_77 : decode cX0_insert 77 = .ok (.iadd, 1) := by decide +kernel
theorem dX0_insert_78 : decode cX0_insert 78 = .ok (.iastore, 1) := by decide +kernel
theorem dX0_insert_79 : decode cX0_insert 79 = .ok (.aload_n 0, 1) := by decide +kernel
theorem dX0_insert_80 : decode cX0_insert 80 = .ok (.iload 5, 2) := by decide +kernel
theorem dX0_insert_82 : decode cX0_insert 82 = .ok (.iload 4, 2) := by decide +kernel
theorem dX0_insert_84 : decode cX0_insert 84 = .ok (.invokevirtual 73, 3) := by decide +kernel
theorem dX0_insert_87 : decode cX0_insert 87 = .ok (.aload_n 0, 1) := by decide +kernel
theorem dX0_insert_88 : decode cX0_insert 88 = .ok (.iload_n 1, 1) := by decide +kernel
theorem dX0_insert_89 : decode cX0_insert 89 = .ok (.iload 5, 2) := by decide +kernel
theorem dX0_insert_91 : decode cX0_insert 91 = .ok (.invokevirtual 76, 3) := by decide +kernel
theorem dX0_insert_94 : decode cX0_insert 94 = .ok (.aload_n 0, 1) := by decide +kernel
theorem dX0_insert_95 : decode cX0_insert 95 = .ok (.getfield 13, 3) := by decide +kernel
theorem dX0_insert_98 : decode cX0_insert 98 = .ok (.iload 5, 2) := by decide +kernel
theorem dX0_insert_100 : decode cX0_insert 100 = .ok (.iaload, 1) := by decide +kernel
theorem dX0_insert_101 : decode cX0_insert 101 = .ok (.ireturn, 1) := by decide +kernel
theorem dX0_remove_0 : decode cX0_remove 0 = .ok (.iload_n 1, 1) := by decide +kernel
theorem dX0_remove_1 : decode cX0_remove 1 = .ok (.invokestatic 55, 3) := by decide +kernel
theorem dX0_remove_4 : decode cX0_remove 4 = .ok (.aload_n 0, 1) := by decide +kernel
theorem dX0_remove_5 : decode cX0_remove 5 = .ok (.iload_n 1, 1) := by decide +kernel
theorem dX0_remove_6 : decode cX0_remove 6 = .ok (.iload_n 2, 1) := by decide +kernel
theorem dX0_remove_7 : decode cX0_remove 7 = .ok (.invokevirtual 66, 3) := by decide +kernel
theorem dX0_remove_10 : decode cX0_remove 10 = .ok (.istore_n 3, 1) := by decide +kernel
theorem dX0_remove_11 : decode cX0_remove 11 = .ok (.iload_n 3, 1) := by decide +kernel
theorem dX0_remove_12 : decode cX0_remove 12 = .ok (.iconst (-1), 1) := by decide +kernel
theorem dX0_remove_13 : decode cX0_remove 13 = .ok (.if_icmp .ne 13, 3) := by decide +kernel
theorem dX0_remove_16 : decode cX0_remove 16 = .ok (.new 79, 3) := by decide +kernel
theorem dX0_remove_19 : decode cX0_remove 19 = .ok (.dup, 1) := by decide +kernel
theorem dX0_remove_20 : decode cX0_remove 20 = .ok (.ldc 81, 2) := by decide +kernel
theorem dX0_remove_22 : decode cX0_remove 22 = .ok (.invokespecial 83, 3) := by decide +kernel
theorem dX0_remove_25 : decode cX0_remove 25 = .ok (.athrow, 1) := by decide +kernel
theorem dX0_remove_26 : decode cX0_remove 26 = .ok (.aload_n 0, 1) := by decide +kernel
theorem dX0_remove_27 : decode cX0_remove 27 = .ok (.iload_n 1, 1) := by decide +kernel
theorem dX0_remove_28 : decode cX0_remove 28 = .ok (.invokevirtual 63, 3) := by decide +kernel
theorem dX0_remove_31 : decode cX0_remove 31 = .ok (.aload_n 0, 1) := by decide +kernel
theorem dX0_remove_32 : decode cX0_remove 32 = .ok (.iload_n 1, 1) := by decide +kernel
theorem dX0_remove_33 : decode cX0_remove 33 = .ok (.aload_n 0, 1) := by decide +kernel
theorem dX0_remove_34 : decode cX0_remove 34 = .ok (.getfield 37, 3) := by decide +kernel
theorem dX0_remove_37 : decode cX0_remove 37 = .ok (.iload_n 3, 1) := by decide +kernel
theorem dX0_remove_38 : decode cX0_remove 38 = .ok (.iaload, 1) := by decide +kernel
theorem dX0_remove_39 : decode cX0_remove 39 = .ok (.invokevirtual 70, 3) := by decide +kernel
theorem dX0_remove_42 : decode cX0_remove 42 = .ok (.istore 4, 2) := by decide +kernel
theorem dX0_remove_44 : decode cX0_remove 44 = .ok (.aload_n 0, 1) := by decide +kernel
theorem dX0_remove_45 : decode cX0_remove 45 = .ok (.iload_n 1, 1) := by decide +kernel
theorem dX0_remove_46 : decode cX0_remove 46 = .ok (.iload 4, 2) := by decide +kernel
theorem dX0_remove_48 : decode cX0_remove 48 = .ok (.invokevirtual 76, 3) := by decide +kernel
theorem dX0_remove_51 : decode cX0_remove 51 = .ok (.aload_n 0, 1) := by decide +kernel
theorem dX0_remove_52 : decode cX0_remove 52 = .ok (.getfield 13, 3) := by decide +kernel
theorem dX0_remove_55 : decode cX0_remove 55 = .ok (.iload 4, 2) := by decide +kernel
theorem dX0_remove_57 : decode cX0_remove 57 = .ok (.iaload, 1) := by decide +kernel
theorem dX0_remove_58 : decode cX0_remove 58 = .ok (.ireturn, 1) := by decide +kernel
theorem dX0_bring_0 : decode cX0_bring 0 = .ok (.iload_n 1, 1) := by decide +kernel
theorem dX0_bring_1 : decode cX0_bring 1 = .ok (.invokestatic 55, 3) := by decide +kernel
theorem dX0_bring_4 : decode cX0_bring 4 = .ok (.iload_n 3, 1) := by decide +kernel
theorem dX0_bring_5 : decode cX0_bring 5 = .ok (.invokestatic 55, 3) := by decide +kernel
theorem dX0_bring_8 : decode cX0_bring 8 = .ok (.iload_n 1, 1) := by decide +kernel
theorem dX0_bring_9 : decode cX0_bring 9 = .ok (.iload_n 3, 1) := by decide +kernel
theorem dX0_bring_10 : decode cX0_bring 10 = .ok (.if_icmp .ne 13, 3) := by decide +kernel
theorem dX0_bring_13 : decode cX0_bring 13 = .ok (.new 79, 3) := by decide +kernel
theorem dX0_bring_16 : decode cX0_bring 16 = .ok (.dup, 1) := by decide +kernel
theorem dX0_bring_17 : decode cX0_bring 17 = .ok (.ldc 86, 2) := by decide +kernel
theorem dX0_bring_19 : decode cX0_bring 19 = .ok (.invokespecial 83, 3) := by decide +kernel
theorem dX0_bring_22 : decode cX0_bring 22 = .ok (.athrow, 1) := by decide +kernel
theorem dX0_bring_23 : decode cX0_bring 23 = .ok (.iload_n 2, 1) := by decide +kernel
theorem dX0_bring_24 : decode cX0_bring 24 = .ok (.aload_n 0, 1) := by decide +kernel
theorem dX0_bring_25 : decode cX0_bring 25 = .ok (.getfield 46, 3) := by decide +kernel
theorem dX0_bring_28 : decode cX0_bring 28 = .ok (.iload_n 1, 1) := by decide +kernel
theorem dX0_bring_29 : decode cX0_bring 29 = .ok (.aaload, 1) := by decide +kernel
theorem dX0_bring_30 : decode cX0_bring 30 = .ok (.iload_n 1, 1) := by decide +kernel
theorem dX0_bring_31 : decode cX0_bring 31 = .ok (.iaload, 1) := by decide +kernel
theorem dX0_bring_32 : decode cX0_bring 32 = .ok (.iconst 1, 1) := by decide +kernel
theorem dX0_bring_33 : decode cX0_bring 33 = .ok (.isub, 1) := by decide +kernel
theorem dX0_bring_34 : decode cX0_bring 34 = .ok (.invokestatic 59, 3) := by decide +kernel
theorem dX0_bring_37 : decode cX0_bring 37 = .ok (.aload_n 0, 1) := by decide +kernel
theorem dX0_bring_38 : decode cX0_bring 38 = .ok (.getfield 43, 3) := by decide +kernel
theorem dX0_bring_41 : decode cX0_bring 41 = .ok (.iload_n 1, 1) := by decide +kernel
theorem dX0_bring_42 : decode cX0_bring 42 = .ok (.aaload, 1) := by decide +kernel
theorem dX0_bring_43 : decode cX0_bring 43 = .ok (.iload_n 2, 1) := by decide +kernel
theorem dX0_bring_44 : decode cX0_bring 44 = .ok (.iaload, 1) := by decide +kernel
theorem dX0_bring_45 : decode cX0_bring 45 = .ok (.istore 4, 2) := by decide +kernel
theorem dX0_bring_47 : decode cX0_bring 47 = .ok (.aload_n 0, 1) := by decide +kernel
theorem dX0_bring_48 : decode cX0_bring 48 = .ok (.iload_n 3, 1) := by decide +kernel
theorem dX0_bring_49 : decode cX0_bring 49 = .ok (.iload 4, 2) := by decide +kernel
theorem dX0_bring_51 : decode cX0_bring 51 = .ok (.invokevirtual 88, 3) := by decide +kernel
theorem dX0_bring_54 : decode cX0_bring 54 = .ok (.ifCond .eq 4, 3) := by decide +kernel
theorem dX0_bring_57 : decode cX0_bring 57 = .ok (.return_, 1) := by decide +kernel
theorem dX0_bring_58 : decode cX0_bring 58 = .ok (.aload_n 0, 1) := by decide +kernel
theorem dX0_bring_59 : decode cX0_bring 59 = .ok (.iload_n 3, 1) := by decide +kernel
theorem dX0_bring_60 : decode cX0_bring 60 = .ok (.iload 4, 2) := by decide +kernel
theorem dX0_bring_62 : decode cX0_bring 62 = .ok (.invokevirtual 92, 3) := by decide +kernel
theorem dX0_bring_65 : decode cX0_bring 65 = .ok (.ifCond .ne 13, 3) := by decide +kernel
theorem dX0_bring_68 : decode cX0_bring 68 = .ok (.new 95, 3) := by decide +kernel
theorem dX0_bring_71 : decode cX0_bring 71 = .ok (.dup, 1) := by decide +kernel
theorem dX0_bring_72 : decode cX0_bring 72 = .ok (.ldc 97, 2) := by decide +kernel
theorem dX0_bring_74 : decode cX0_bring 74 = .ok (.invokespecial 99, 3) := by decide +kernel
theorem dX0_bring_77 : decode cX0_bring 77 = .ok (.athrow, 1) := by decide +kernel
theorem dX0_bring_78 : decode cX0_bring 78 = .ok (.aload_n 0, 1) := by decide +kernel
theorem dX0_bring_79 : decode cX0_bring 79 = .ok (.iload_n 3, 1) := by decide +kernel
theorem dX0_bring_80 : decode cX0_bring 80 = .ok (.iload 4, 2) := by decide +kernel
theorem dX0_bring_82 : decode cX0_bring 82 = .ok (.invokevirtual 76, 3) := by decide +kernel
theorem dX0_bring_85 : decode cX0_bring 85 = .ok (.return_, 1) := by decide +kernel
theorem dX0_merge_0 : decode cX0_merge 0 = .ok (.iload_n 1, 1) := by decide +kernel
theorem dX0_merge_1 : decode cX0_merge 1 = .ok (.invokestatic 55, 3) := by decide +kernel
theorem dX0_merge_4 : decode cX0_merge 4 = .ok (.iload_n 2, 1) := by decide +kernel
theorem dX0_merge_5 : decode cX0_merge 5 = .ok (.invokestatic 55, 3) := by decide +kernel
theorem dX0_merge_8 : decode cX0_merge 8 = .ok (.iconst 0, 1) := by decide +kernel
theorem dX0_merge_9 : decode cX0_merge 9 = .ok (.istore_n 3, 1) := by decide +kernel
theorem dX0_merge_10 : decode cX0_merge 10 = .ok (.iconst 0, 1) := by decide +kernel
theorem dX0_merge_11 : decode cX0_merge 11 = .ok (.istore 4, 2) := by decide +kernel
theorem dX0_merge_13 : decode cX0_merge 13 = .ok (.iload 4, 2) := by decide +kernel
theorem dX0_merge_15 : decode cX0_merge 15 = .ok (.aload_n 0, 1) := by decide +kernel
theorem dX0_merge_16 : decode cX0_merge 16 = .ok (.getfield 24, 3) := by decide +kernel
theorem dX0_merge_19 : decode cX0_merge 19 = .ok (.if_icmp .ge 39, 3) := by decide +kernel
theorem dX0_merge_22 : decode cX0_merge 22 = .ok (.aload_n 0, 1) := by decide +kernel
theorem dX0_merge_23 : decode cX0_merge 23 = .ok (.iload_n 1, 1) := by decide +kernel
theorem dX0_merge_24 : decode cX0_merge 24 = .ok (.iload 4, 2) := by decide +kernel
theorem dX0_merge_26 : decode cX0_merge 26 = .ok (.invokevirtual 88, 3) := by decide +kernel
theorem dX0_merge_29 : decode cX0_merge 29 = .ok (.ifCond .eq 23, 3) := by decide +kernel
theorem dX0_merge_32 : decode cX0_merge 32 = .ok (.aload_n 0, 1) := by decide +kernel
theorem dX0_merge_33 : decode cX0_merge 33 = .ok (.iload_n 2, 1) := by decide +kernel
theorem dX0_merge_34 : decode cX0_merge 34 = .ok (.iload 4, 2) := by decide +kernel
theorem dX0_merge_36 : decode cX0_merge 36 = .ok (.invokevirtual 88, 3) := by decide +kernel
theorem dX0_merge_39 : decode cX0_merge 39 = .ok (.ifCond .ne 13, 3) := by decide +kernel
theorem dX0_merge_42 : decode cX0_merge 42 = .ok (.aload_n 0, 1) := by decide +kernel
theorem dX0_merge_43 : decode cX0_merge 43 = .ok (.iload_n 2, 1) := by decide +kernel
theorem dX0_merge_44 : decode cX0_merge 44 = .ok (.iload 4, 2) := by decide +kernel
theorem dX0_merge_46 : decode cX0_merge 46 = .ok (.invokevirtual 76, 3) := by decide +kernel
theorem dX0_merge_49 : decode cX0_merge 49 = .ok (.iinc 3 1, 3) := by decide +kernel
theorem dX0_merge_52 : decode cX0_merge 52 = .ok (.iinc 4 1, 3) := by decide +kernel
theorem dX0_merge_55 : decode cX0_merge 55 = .ok (.goto (-42), 3) := by decide +kernel
theorem dX0_merge_58 : decode cX0_merge 58 = .ok (.iload_n 3, 1) := by decide +kernel
theorem dX0_merge_59 : decode cX0_merge 59 = .ok (.ireturn, 1) := by decide +kernel
theorem dX0_length_0 : decode cX0_length 0 = .ok (.iload_n 1, 1) := by decide +kernel
theorem dX0_length_1 : decode cX0_length 1 = .ok (.invokestatic 55, 3) := by decide +kernel
theorem dX0_length_4 : decode cX0_length 4 = .ok (.aload_n 0, 1) := by decide +kernel
theorem dX0_length_5 : decode cX0_length 5 = .ok (.getfield 52, 3) := by decide +kernel
theorem dX0_length_8 : decode cX0_length 8 = .ok (.iload_n 1, 1) := by decide +kernel
theorem dX0_length_9 : decode cX0_length 9 = .ok (.iaload, 1) := by decide +kernel
theorem dX0_length_10 : decode cX0_length 10 = .ok (.ireturn, 1) := by decide +kernel
theorem dX0_letter_0 : decode cX0_letter 0 = .ok (.aload_n 0, 1) := by decide +kernel
theorem dX0_letter_1 : decode cX0_letter 1 = .ok (.iload_n 1, 1) := by decide +kernel
theorem dX0_letter_2 : decode cX0_letter 2 = .ok (.iload_n 2, 1) := by decide +kernel
theorem dX0_letter_3 : decode cX0_letter 3 = .ok (.invokevirtual 100, 3) := by decide +kernel
theorem dX0_letter_6 : decode cX0_letter 6 = .ok (.istore_n 3, 1) := by decide +kernel
theorem dX0_letter_7 : decode cX0_letter 7 = .ok (.iload_n 3, 1) := by decide +kernel
theorem dX0_letter_8 : decode cX0_letter 8 = .ok (.iconst (-1), 1) := by decide +kernel
theorem dX0_letter_9 : decode cX0_letter 9 = .ok (.if_icmp .ne 7, 3) := by decide +kernel
theorem dX0_letter_12 : decode cX0_letter 12 = .ok (.iconst (-1), 1) := by decide +kernel
theorem dX0_letter_13 : decode cX0_letter 13 = .ok (.goto 14, 3) := by decide +kernel
theorem dX0_letter_16 : decode cX0_letter 16 = .ok (.aload_n 0, 1) := by decide +kernel
theorem dX0_letter_17 : decode cX0_letter 17 = .ok (.getfield 28, 3) := by decide +kernel
theorem dX0_letter_20 : decode cX0_letter 20 = .ok (.aload_n 0, 1) := by decide +kernel
theorem dX0_letter_21 : decode cX0_letter 21 = .ok (.getfield 37, 3) := by decide +kernel
theorem dX0_letter_24 : decode cX0_letter 24 = .ok (.iload_n 3, 1) := by decide +kernel
theorem dX0_letter_25 : decode cX0_letter 25 = .ok (.iaload, 1) := by decide +kernel
theorem dX0_letter_26 : decode cX0_letter 26 = .ok (.iaload, 1) := by decide +kernel
theorem dX0_letter_27 : decode cX0_letter 27 = .ok (.ireturn, 1) := by decide +kernel
theorem dX0_name_0 : decode cX0_name 0 = .ok (.aload_n 0, 1) := by decide +kernel
theorem dX0_name_1 : decode cX0_name 1 = .ok (.iload_n 1, 1) := by decide +kernel
theorem dX0_name_2 : decode cX0_name 2 = .ok (.iload_n 2, 1) := by decide +kernel
theorem dX0_name_3 : decode cX0_name 3 = .ok (.invokevirtual 100, 3) := by decide +kernel
theorem dX0_name_6 : decode cX0_name 6 = .ok (.istore_n 3, 1) := by decide +kernel
theorem dX0_name_7 : decode cX0_name 7 = .ok (.iload_n 3, 1) := by decide +kernel
theorem dX0_name_8 : decode cX0_name 8 = .ok (.iconst (-1), 1) := by decide +kernel
theorem dX0_name_9 : decode cX0_name 9 = .ok (.if_icmp .ne 7, 3) := by decide +kernel
theorem dX0_name_12 : decode cX0_name 12 = .ok (.iconst (-1), 1) := by decide +kernel
theorem dX0_name_13 : decode cX0_name 13 = .ok (.goto 14, 3) := by decide +kernel
theorem dX0_name_16 : decode cX0_name 16 = .ok (.aload_n 0, 1) := by decide +kernel
theorem dX0_name_17 : decode cX0_name 17 = .ok (.getfield 31, 3) := by decide +kernel
theorem dX0_name_20 : decode cX0_name 20 = .ok (.aload_n 0, 1) := by decide +kernel
theorem dX0_name_21 : decode cX0_name 21 = .ok (.getfield 37, 3) := by decide +kernel
theorem dX0_name_24 : decode cX0_name 24 = .ok (.iload_n 3, 1) := by decide +kernel
theorem dX0_name_25 : decode cX0_name 25 = .ok (.iaload, 1) := by decide +kernel
theorem dX0_name_26 : decode cX0_name 26 = .ok (.iaload, 1) := by decide +kernel
theorem dX0_name_27 : decode cX0_name 27 = .ok (.ireturn, 1) := by decide +kernel
theorem dX0_has_0 : decode cX0_has 0 = .ok (.iload_n 1, 1) := by decide +kernel
theorem dX0_has_1 : decode cX0_has 1 = .ok (.invokestatic 55, 3) := by decide +kernel
theorem dX0_has_4 : decode cX0_has 4 = .ok (.iload_n 2, 1) := by decide +kernel
theorem dX0_has_5 : decode cX0_has 5 = .ok (.invokestatic 55, 3) := by decide +kernel
theorem dX0_has_8 : decode cX0_has 8 = .ok (.aload_n 0, 1) := by decide +kernel
theorem dX0_has_9 : decode cX0_has 9 = .ok (.getfield 46, 3) := by decide +kernel
theorem dX0_has_12 : decode cX0_has 12 = .ok (.iload_n 1, 1) := by decide +kernel
theorem dX0_has_13 : decode cX0_has 13 = .ok (.aaload, 1) := by decide +kernel
theorem dX0_has_14 : decode cX0_has 14 = .ok (.iload_n 2, 1) := by decide +kernel
theorem dX0_has_15 : decode cX0_has 15 = .ok (.iaload, 1) := by decide +kernel
theorem dX0_has_16 : decode cX0_has 16 = .ok (.ireturn, 1) := by decide +kernel
theorem dX0_checkCopy_0 : decode cX0_checkCopy 0 = .ok (.iload_n 0, 1) := by decide +kernel
theorem dX0_checkCopy_1 : decode cX0_checkCopy 1 = .ok (.iconst 3, 1) := by decide +kernel
theorem dX0_checkCopy_2 : decode cX0_checkCopy 2 = .ok (.invokestatic 59, 3) := by decide +kernel
theorem dX0_checkCopy_5 : decode cX0_checkCopy 5 = .ok (.return_, 1) := by decide +kernel
theorem dX0_checkUpTo_0 : decode cX0_checkUpTo 0 = .ok (.iload_n 0, 1) := by decide +kernel
theorem dX0_checkUpTo_1 : decode cX0_checkUpTo 1 = .ok (.ifCond .lt 8, 3) := by decide +kernel
theorem dX0_checkUpTo_4 : decode cX0_checkUpTo 4 = .ok (.iload_n 0, 1) := by decide +kernel
theorem dX0_checkUpTo_5 : decode cX0_checkUpTo 5 = .ok (.iload_n 1, 1) := by decide +kernel
theorem dX0_checkUpTo_6 : decode cX0_checkUpTo 6 = .ok (.if_icmp .le 13, 3) := by decide +kernel
theorem dX0_checkUpTo_9 : decode cX0_checkUpTo 9 = .ok (.new 79, 3) := by decide +kernel
theorem dX0_checkUpTo_12 : decode cX0_checkUpTo 12 = .ok (.dup, 1) := by decide +kernel
theorem dX0_checkUpTo_13 : decode cX0_checkUpTo 13 = .ok (.ldc 103, 2) := by decide +kernel
theorem dX0_checkUpTo_15 : decode cX0_checkUpTo 15 = .ok (.invokespecial 83, 3) := by decide +kernel
theorem dX0_checkUpTo_18 : decode cX0_checkUpTo 18 = .ok (.athrow, 1) := by decide +kernel
theorem dX0_checkUpTo_19 : decode cX0_checkUpTo 19 = .ok (.return_, 1) := by decide +kernel
theorem dX0_checkRoom_0 : decode cX0_checkRoom 0 = .ok (.aload_n 0, 1) := by decide +kernel
theorem dX0_checkRoom_1 : decode cX0_checkRoom 1 = .ok (.getfield 46, 3) := by decide +kernel
theorem dX0_checkRoom_4 : decode cX0_checkRoom 4 = .ok (.iload_n 1, 1) := by decide +kernel
theorem dX0_checkRoom_5 : decode cX0_checkRoom 5 = .ok (.aaload, 1) := by decide +kernel
theorem dX0_checkRoom_6 : decode cX0_checkRoom 6 = .ok (.iload_n 1, 1) := by decide +kernel
theorem dX0_checkRoom_7 : decode cX0_checkRoom 7 = .ok (.iaload, 1) := by decide +kernel
theorem dX0_checkRoom_8 : decode cX0_checkRoom 8 = .ok (.sipush 400, 3) := by decide +kernel
theorem dX0_checkRoom_11 : decode cX0_checkRoom 11 = .ok (.if_icmp .ge 13, 3) := by decide +kernel
theorem dX0_checkRoom_14 : decode cX0_checkRoom 14 = .ok (.aload_n 0, 1) := by decide +kernel
theorem dX0_checkRoom_15 : decode cX0_checkRoom 15 = .ok (.getfield 24, 3) := by decide +kernel
theorem dX0_checkRoom_18 : decode cX0_checkRoom 18 = .ok (.sipush 512, 3) := by decide +kernel
theorem dX0_checkRoom_21 : decode cX0_checkRoom 21 = .ok (.if_icmp .lt 13, 3) := by decide +kernel
theorem dX0_checkRoom_24 : decode cX0_checkRoom 24 = .ok (.new 95, 3) := by decide +kernel
theorem dX0_checkRoom_27 : decode cX0_checkRoom 27 = .ok (.dup, 1) := by decide +kernel
theorem dX0_checkRoom_28 : decode cX0_checkRoom 28 = .ok (.ldc 105, 2) := by decide +kernel
theorem dX0_checkRoom_30 : decode cX0_checkRoom 30 = .ok (.invokespecial 99, 3) := by decide +kernel
theorem dX0_checkRoom_33 : decode cX0_checkRoom 33 = .ok (.athrow, 1) := by decide +kernel
theorem dX0_checkRoom_34 : decode cX0_checkRoom 34 = .ok (.return_, 1) := by decide +kernel
theorem dX0_placeToRead_0 : decode cX0_placeToRead 0 = .ok (.iload_n 1, 1) := by decide +kernel
theorem dX0_placeToRead_1 : decode cX0_placeToRead 1 = .ok (.invokestatic 55, 3) := by decide +kernel
theorem dX0_placeToRead_4 : decode cX0_placeToRead 4 = .ok (.iload_n 2, 1) := by decide +kernel
theorem dX0_placeToRead_5 : decode cX0_placeToRead 5 = .ok (.ldc 109, 2) := by decide +kernel
theorem dX0_placeToRead_7 : decode cX0_placeToRead 7 = .ok (.invokestatic 59, 3) := by decide +kernel
theorem dX0_placeToRead_10 : decode cX0_placeToRead 10 = .ok (.aload_n 0, 1) := by decide +kernel
theorem dX0_placeToRead_11 : decode cX0_placeToRead 11 = .ok (.iload_n 1, 1) := by decide +kernel
theorem dX0_placeToRead_12 : decode cX0_placeToRead 12 = .ok (.iload_n 2, 1) := by decide +kernel
theorem dX0_placeToRead_13 : decode cX0_placeToRead 13 = .ok (.invokevirtual 66, 3) := by decide +kernel
theorem dX0_placeToRead_16 : decode cX0_placeToRead 16 = .ok (.ireturn, 1) := by decide +kernel
theorem dX0_placeOf_0 : decode cX0_placeOf 0 = .ok (.iconst 0, 1) := by decide +kernel
theorem dX0_placeOf_1 : decode cX0_placeOf 1 = .ok (.istore_n 3, 1) := by decide +kernel
theorem dX0_placeOf_2 : decode cX0_placeOf 2 = .ok (.iconst 0, 1) := by decide +kernel
theorem dX0_placeOf_3 : decode cX0_placeOf 3 = .ok (.istore 4, 2) := by decide +kernel
theorem dX0_placeOf_5 : decode cX0_placeOf 5 = .ok (.iload 4, 2) := by decide +kernel
theorem dX0_placeOf_7 : decode cX0_placeOf 7 = .ok (.aload_n 0, 1) := by decide +kernel
theorem dX0_placeOf_8 : decode cX0_placeOf 8 = .ok (.getfield 40, 3) := by decide +kernel
theorem dX0_placeOf_11 : decode cX0_placeOf 11 = .ok (.if_icmp .ge 35, 3) := by decide +kernel
theorem dX0_placeOf_14 : decode cX0_placeOf 14 = .ok (.aload_n 0, 1) := by decide +kernel
theorem dX0_placeOf_15 : decode cX0_placeOf 15 = .ok (.iload_n 1, 1) := by decide +kernel
theorem dX0_placeOf_16 : decode cX0_placeOf 16 = .ok (.aload_n 0, 1) := by decide +kernel
theorem dX0_placeOf_17 : decode cX0_placeOf 17 = .ok (.getfield 37, 3) := by decide +kernel
theorem dX0_placeOf_20 : decode cX0_placeOf 20 = .ok (.iload 4, 2) := by decide +kernel
theorem dX0_placeOf_22 : decode cX0_placeOf 22 = .ok (.iaload, 1) := by decide +kernel
theorem dX0_placeOf_23 : decode cX0_placeOf 23 = .ok (.invokevirtual 110, 3) := by decide +kernel
theorem dX0_placeOf_26 : decode cX0_placeOf 26 = .ok (.ifCond .eq 14, 3) := by decide +kernel
theorem dX0_placeOf_29 : decode cX0_placeOf 29 = .ok (.iload_n 3, 1) := by decide +kernel
theorem dX0_placeOf_30 : decode cX0_placeOf 30 = .ok (.iload_n 2, 1) := by decide +kernel
theorem dX0_placeOf_31 : decode cX0_placeOf 31 = .ok (.if_icmp .ne 6, 3) := by decide +kernel
theorem dX0_placeOf_34 : decode cX0_placeOf 34 = .ok (.iload 4, 2) := by decide +kernel
theorem dX0_placeOf_36 : decode cX0_placeOf 36 = .ok (.ireturn, 1) := by decide +kernel
theorem dX0_placeOf_37 : decode cX0_placeOf 37 = .ok (.iinc 3 1, 3) := by decide +kernel
theorem dX0_placeOf_40 : decode cX0_placeOf 40 = .ok (.iinc 4 1, 3) := by decide +kernel
theorem dX0_placeOf_43 : decode cX0_placeOf 43 = .ok (.goto (-38), 3) := by decide +kernel
theorem dX0_placeOf_46 : decode cX0_placeOf 46 = .ok (.iconst (-1), 1) := by decide +kernel
theorem dX0_placeOf_47 : decode cX0_placeOf 47 = .ok (.ireturn, 1) := by decide +kernel
theorem dX0_isShown_0 : decode cX0_isShown 0 = .ok (.aload_n 0, 1) := by decide +kernel
theorem dX0_isShown_1 : decode cX0_isShown 1 = .ok (.getfield 34, 3) := by decide +kernel
theorem dX0_isShown_4 : decode cX0_isShown 4 = .ok (.iload_n 2, 1) := by decide +kernel
theorem dX0_isShown_5 : decode cX0_isShown 5 = .ok (.iaload, 1) := by decide +kernel
theorem dX0_isShown_6 : decode cX0_isShown 6 = .ok (.iconst 1, 1) := by decide +kernel
theorem dX0_isShown_7 : decode cX0_isShown 7 = .ok (.iload_n 1, 1) := by decide +kernel
theorem dX0_isShown_8 : decode cX0_isShown 8 = .ok (.ishl, 1) := by decide +kernel
theorem dX0_isShown_9 : decode cX0_isShown 9 = .ok (.iand, 1) := by decide +kernel
theorem dX0_isShown_10 : decode cX0_isShown 10 = .ok (.ifCond .eq 7, 3) := by decide +kernel
theorem dX0_isShown_13 : decode cX0_isShown 13 = .ok (.iconst 1, 1) := by decide +kernel
theorem dX0_isShown_14 : decode cX0_isShown 14 = .ok (.goto 4, 3) := by decide +kernel
theorem dX0_isShown_17 : decode cX0_isShown 17 = .ok (.iconst 0, 1) := by decide +kernel
theorem dX0_isShown_18 : decode cX0_isShown 18 = .ok (.ireturn, 1) := by decide +kernel
theorem dX0_isIn_0 : decode cX0_isIn 0 = .ok (.aload_n 0, 1) := by decide +kernel
theorem dX0_isIn_1 : decode cX0_isIn 1 = .ok (.getfield 13, 3) := by decide +kernel
theorem dX0_isIn_4 : decode cX0_isIn 4 = .ok (.iload_n 2, 1) := by decide +kernel
theorem dX0_isIn_5 : decode cX0_isIn 5 = .ok (.iaload, 1) := by decide +kernel
theorem dX0_isIn_6 : decode cX0_isIn 6 = .ok (.aload_n 0, 1) := by decide +kernel
theorem dX0_isIn_7 : decode cX0_isIn 7 = .ok (.getfield 46, 3) := by decide +kernel
theorem dX0_isIn_10 : decode cX0_isIn 10 = .ok (.iload_n 1, 1) := by decide +kernel
theorem dX0_isIn_11 : decode cX0_isIn 11 = .ok (.aaload, 1) := by decide +kernel
theorem dX0_isIn_12 : decode cX0_isIn 12 = .ok (.aload_n 0, 1) := by decide +kernel
theorem dX0_isIn_13 : decode cX0_isIn 13 = .ok (.getfield 9, 3) := by decide +kernel
theorem dX0_isIn_16 : decode cX0_isIn 16 = .ok (.iload_n 2, 1) := by decide +kernel
theorem dX0_isIn_17 : decode cX0_isIn 17 = .ok (.iaload, 1) := by decide +kernel
theorem dX0_isIn_18 : decode cX0_isIn 18 = .ok (.iaload, 1) := by decide +kernel
theorem dX0_isIn_19 : decode cX0_isIn 19 = .ok (.if_icmp .ge 7, 3) := by decide +kernel
theorem dX0_isIn_22 : decode cX0_isIn 22 = .ok (.iconst 1, 1) := by decide +kernel
theorem dX0_isIn_23 : decode cX0_isIn 23 = .ok (.goto 4, 3) := by decide +kernel
theorem dX0_isIn_26 : decode cX0_isIn 26 = .ok (.iconst 0, 1) := by decide +kernel
theorem dX0_isIn_27 : decode cX0_isIn 27 = .ok (.ireturn, 1) := by decide +kernel
theorem dX0_canCome_0 : decode cX0_canCome 0 = .ok (.iconst 0, 1) := by decide +kernel
theorem dX0_canCome_1 : decode cX0_canCome 1 = .ok (.istore_n 3, 1) := by decide +kernel
theorem dX0_canCome_2 : decode cX0_canCome 2 = .ok (.iload_n 3, 1) := by decide +kernel
theorem dX0_canCome_3 : decode cX0_canCome 3 = .ok (.iconst 4, 1) := by decide +kernel
theorem dX0_canCome_4 : decode cX0_canCome 4 = .ok (.if_icmp .ge 30, 3) := by decide +kernel
theorem dX0_canCome_7 : decode cX0_canCome 7 = .ok (.aload_n 0, 1) := by decide +kernel
theorem dX0_canCome_8 : decode cX0_canCome 8 = .ok (.getfield 46, 3) := by decide +kernel
theorem dX0_canCome_11 : decode cX0_canCome 11 = .ok (.iload_n 1, 1) := by decide +kernel
theorem dX0_canCome_12 : decode cX0_canCome 12 = .ok (.aaload, 1) := by decide +kernel
theorem dX0_canCome_13 : decode cX0_canCome 13 = .ok (.iload_n 3, 1) := by decide +kernel
theorem dX0_canCome_14 : decode cX0_canCome 14 = .ok (.iaload, 1) := by decide +kernel
theorem dX0_canCome_15 : decode cX0_canCome 15 = .ok (.aload_n 0, 1) := by decide +kernel
theorem dX0_canCome_16 : decode cX0_canCome 16 = .ok (.getfield 21, 3) := by decide +kernel
theorem dX0_canCome_19 : decode cX0_canCome 19 = .ok (.iload_n 3, 1) := by decide +kernel
theorem dX0_canCome_20 : decode cX0_canCome 20 = .ok (.aaload, 1) := by decide +kernel
theorem dX0_canCome_21 : decode cX0_canCome 21 = .ok (.iload_n 2, 1) := by decide +kernel
theorem dX0_canCome_22 : decode cX0_canCome 22 = .ok (.iaload, 1) := by decide +kernel
theorem dX0_canCome_23 : decode cX0_canCome 23 = .ok (.if_icmp .ge 5, 3) := by decide +kernel
theorem dX0_canCome_26 : decode cX0_canCome 26 = .ok (.iconst 0, 1) := by decide +kernel
theorem dX0_canCome_27 : decode cX0_canCome 27 = .ok (.ireturn, 1) := by decide +kernel
theorem dX0_canCome_28 : decode cX0_canCome 28 = .ok (.iinc 3 1, 3) := by decide +kernel
theorem dX0_canCome_31 : decode cX0_canCome 31 = .ok (.goto (-29), 3) := by decide +kernel
theorem dX0_canCome_34 : decode cX0_canCome 34 = .ok (.iconst 1, 1) := by decide +kernel
theorem dX0_canCome_35 : decode cX0_canCome 35 = .ok (.ireturn, 1) := by decide +kernel
theorem dX0_addChange_0 : decode cX0_addChange 0 = .ok (.aload_n 0, 1) := by decide +kernel
theorem dX0_addChange_1 : decode cX0_addChange 1 = .ok (.getfield 24, 3) := by decide +kernel
theorem dX0_addChange_4 : decode cX0_addChange 4 = .ok (.istore_n 3, 1) := by decide +kernel
theorem dX0_addChange_5 : decode cX0_addChange 5 = .ok (.aload_n 0, 1) := by decide +kernel
theorem dX0_addChange_6 : decode cX0_addChange 6 = .ok (.getfield 9, 3) := by decide +kernel
theorem dX0_addChange_9 : decode cX0_addChange 9 = .ok (.iload_n 3, 1) := by decide +kernel
theorem dX0_addChange_10 : decode cX0_addChange 10 = .ok (.iload_n 1, 1) := by decide +kernel
theorem dX0_addChange_11 : decode cX0_addChange 11 = .ok (.iastore, 1) := by decide +kernel
theorem dX0_addChange_12 : decode cX0_addChange 12 = .ok (.aload_n 0, 1) := by decide +kernel
theorem dX0_addChange_13 : decode cX0_addChange 13 = .ok (.getfield 13, 3) := by decide +kernel
theorem dX0_addChange_16 : decode cX0_addChange 16 = .ok (.iload_n 3, 1) := by decide +kernel
theorem dX0_addChange_17 : decode cX0_addChange 17 = .ok (.aload_n 0, 1) := by decide +kernel
theorem dX0_addChange_18 : decode cX0_addChange 18 = .ok (.getfield 46, 3) := by decide +kernel
theorem dX0_addChange_21 : decode cX0_addChange 21 = .ok (.iload_n 1, 1) := by decide +kernel
theorem dX0_addChange_22 : decode cX0_addChange 22 = .ok (.aaload, 1) := by decide +kernel
theorem dX0_addChange_23 : decode cX0_addChange 23 = .ok (.iload_n 1, 1) := by decide +kernel
theorem dX0_addChange_24 : decode cX0_addChange 24 = .ok (.iaload, 1) := by decide +kernel
theorem dX0_addChange_25 : decode cX0_addChange 25 = .ok (.iastore, 1) := by decide +kernel
theorem dX0_addChange_26 : decode cX0_addChange 26 = .ok (.aload_n 0, 1) := by decide +kernel
theorem dX0_addChange_27 : decode cX0_addChange 27 = .ok (.getfield 16, 3) := by decide +kernel
theorem dX0_addChange_30 : decode cX0_addChange 30 = .ok (.iload_n 3, 1) := by decide +kernel
theorem dX0_addChange_31 : decode cX0_addChange 31 = .ok (.iload_n 2, 1) := by decide +kernel
theorem dX0_addChange_32 : decode cX0_addChange 32 = .ok (.iastore, 1) := by decide +kernel
theorem dX0_addChange_33 : decode cX0_addChange 33 = .ok (.iconst 0, 1) := by decide +kernel
theorem dX0_addChange_34 : decode cX0_addChange 34 = .ok (.istore 4, 2) := by decide +kernel
theorem dX0_addChange_36 : decode cX0_addChange 36 = .ok (.iload 4, 2) := by decide +kernel
theorem dX0_addChange_38 : decode cX0_addChange 38 = .ok (.iconst 4, 1) := by decide +kernel
theorem dX0_addChange_39 : decode cX0_addChange 39 = .ok (.if_icmp .ge 27, 3) := by decide +kernel
theorem dX0_addChange_42 : decode cX0_addChange 42 = .ok (.aload_n 0, 1) := by decide +kernel
theorem dX0_addChange_43 : decode cX0_addChange 43 = .ok (.getfield 21, 3) := by decide +kernel
theorem dX0_addChange_46 : decode cX0_addChange 46 = .ok (.iload 4, 2) := by decide +kernel
theorem dX0_addChange_48 : decode cX0_addChange 48 = .ok (.aaload, 1) := by decide +kernel
theorem dX0_addChange_49 : decode cX0_addChange 49 = .ok (.iload_n 3, 1) := by decide +kernel
theorem dX0_addChange_50 : decode cX0_addChange 50 = .ok (.aload_n 0, 1) := by decide +kernel
theorem dX0_addChange_51 : decode cX0_addChange 51 = .ok (.getfield 46, 3) := by decide +kernel
theorem dX0_addChange_54 : decode cX0_addChange 54 = .ok (.iload_n 1, 1) := by decide +kernel
theorem dX0_addChange_55 : decode cX0_addChange 55 = .ok (.aaload, 1) := by decide +kernel
theorem dX0_addChange_56 : decode cX0_addChange 56 = .ok (.iload 4, 2) := by decide +kernel
theorem dX0_addChange_58 : decode cX0_addChange 58 = .ok (.iaload, 1) := by decide +kernel
theorem dX0_addChange_59 : decode cX0_addChange 59 = .ok (.iastore, 1) := by decide +kernel
theorem dX0_addChange_60 : decode cX0_addChange 60 = .ok (.iinc 4 1, 3) := by decide +kernel
theorem dX0_addChange_63 : decode cX0_addChange 63 = .ok (.goto (-27), 3) := by decide +kernel
theorem dX0_addChange_66 : decode cX0_addChange 66 = .ok (.aload_n 0, 1) := by decide +kernel
theorem dX0_addChange_67 : decode cX0_addChange 67 = .ok (.getfield 43, 3) := by decide +kernel
theorem dX0_addChange_70 : decode cX0_addChange 70 = .ok (.iload_n 1, 1) := by decide +kernel
theorem dX0_addChange_71 : decode cX0_addChange 71 = .ok (.aaload, 1) := by decide +kernel
theorem dX0_addChange_72 : decode cX0_addChange 72 = .ok (.aload_n 0, 1) := by decide +kernel
theorem dX0_addChange_73 : decode cX0_addChange 73 = .ok (.getfield 13, 3) := by decide +kernel
theorem dX0_addChange_76 : decode cX0_addChange 76 = .ok (.iload_n 3, 1) := by decide +kernel
theorem dX0_addChange_77 : decode cX0_addChange 77 = .ok (.iaload, 1) := by decide +kernel
theorem dX0_addChange_78 : decode cX0_addChange 78 = .ok (.iload_n 3, 1) := by decide +kernel
theorem dX0_addChange_79 : decode cX0_addChange 79 = .ok (.iastore, 1) := by decide +kernel
theorem dX0_addChange_80 : decode cX0_addChange 80 = .ok (.aload_n 0, 1) := by decide +kernel
theorem dX0_addChange_81 : decode cX0_addChange 81 = .ok (.dup, 1) := by decide +kernel
theorem dX0_addChange_82 : decode cX0_addChange 82 = .ok (.getfield 24, 3) := by decide +kernel
theorem dX0_addChange_85 : decode cX0_addChange 85 = .ok (.iconst 1, 1) := by decide +kernel
theorem dX0_addChange_86 : decode cX0_addChange 86 = .ok (.iadd, 1) := by decide +kernel
theorem dX0_addChange_87 : decode cX0_addChange 87 = .ok (.putfield 24, 3) := by decide +kernel
theorem dX0_addChange_90 : decode cX0_addChange 90 = .ok (.iload_n 3, 1) := by decide +kernel
theorem dX0_addChange_91 : decode cX0_addChange 91 = .ok (.ireturn, 1) := by decide +kernel
theorem dX0_weave_0 : decode cX0_weave 0 = .ok (.iload_n 2, 1) := by decide +kernel
theorem dX0_weave_1 : decode cX0_weave 1 = .ok (.iconst 1, 1) := by decide +kernel
theorem dX0_weave_2 : decode cX0_weave 2 = .ok (.iadd, 1) := by decide +kernel
theorem dX0_weave_3 : decode cX0_weave 3 = .ok (.istore_n 3, 1) := by decide +kernel
theorem dX0_weave_4 : decode cX0_weave 4 = .ok (.iload_n 3, 1) := by decide +kernel
theorem dX0_weave_5 : decode cX0_weave 5 = .ok (.aload_n 0, 1) := by decide +kernel
theorem dX0_weave_6 : decode cX0_weave 6 = .ok (.getfield 40, 3) := by decide +kernel
theorem dX0_weave_9 : decode cX0_weave 9 = .ok (.if_icmp .ge 29, 3) := by decide +kernel
theorem dX0_weave_12 : decode cX0_weave 12 = .ok (.aload_n 0, 1) := by decide +kernel
theorem dX0_weave_13 : decode cX0_weave 13 = .ok (.getfield 31, 3) := by decide +kernel
theorem dX0_weave_16 : decode cX0_weave 16 = .ok (.aload_n 0, 1) := by decide +kernel
theorem dX0_weave_17 : decode cX0_weave 17 = .ok (.getfield 37, 3) := by decide +kernel
theorem dX0_weave_20 : decode cX0_weave 20 = .ok (.iload_n 3, 1) := by decide +kernel
theorem dX0_weave_21 : decode cX0_weave 21 = .ok (.iaload, 1) := by decide +kernel
theorem dX0_weave_22 : decode cX0_weave 22 = .ok (.iaload, 1) := by decide +kernel
theorem dX0_weave_23 : decode cX0_weave 23 = .ok (.aload_n 0, 1) := by decide +kernel
theorem dX0_weave_24 : decode cX0_weave 24 = .ok (.getfield 31, 3) := by decide +kernel
theorem dX0_weave_27 : decode cX0_weave 27 = .ok (.iload_n 1, 1) := by decide +kernel
theorem dX0_weave_28 : decode cX0_weave 28 = .ok (.iaload, 1) := by decide +kernel
theorem dX0_weave_29 : decode cX0_weave 29 = .ok (.if_icmp .le 9, 3) := by decide +kernel
theorem dX0_weave_32 : decode cX0_weave 32 = .ok (.iinc 3 1, 3) := by decide +kernel
theorem dX0_weave_35 : decode cX0_weave 35 = .ok (.goto (-31), 3) := by decide +kernel
theorem dX0_weave_38 : decode cX0_weave 38 = .ok (.aload_n 0, 1) := by decide +kernel
theorem dX0_weave_39 : decode cX0_weave 39 = .ok (.getfield 37, 3) := by decide +kernel
theorem dX0_weave_42 : decode cX0_weave 42 = .ok (.iload_n 3, 1) := by decide +kernel
theorem dX0_weave_43 : decode cX0_weave 43 = .ok (.aload_n 0, 1) := by decide +kernel
theorem dX0_weave_44 : decode cX0_weave 44 = .ok (.getfield 37, 3) := by decide +kernel
theorem dX0_weave_47 : decode cX0_weave 47 = .ok (.iload_n 3, 1) := by decide +kernel
theorem dX0_weave_48 : decode cX0_weave 48 = .ok (.iconst 1, 1) := by decide +kernel
theorem dX0_weave_49 : decode cX0_weave 49 = .ok (.iadd, 1) := by decide +kernel
theorem dX0_weave_50 : decode cX0_weave 50 = .ok (.aload_n 0, 1) := by decide +kernel
theorem dX0_weave_51 : decode cX0_weave 51 = .ok (.getfield 40, 3) := by decide +kernel
theorem dX0_weave_54 : decode cX0_weave 54 = .ok (.iload_n 3, 1) := by decide +kernel
theorem dX0_weave_55 : decode cX0_weave 55 = .ok (.isub, 1) := by decide +kernel
theorem dX0_weave_56 : decode cX0_weave 56 = .ok (.invokestatic 113, 3) := by decide +kernel
theorem dX0_weave_59 : decode cX0_weave 59 = .ok (.aload_n 0, 1) := by decide +kernel
theorem dX0_weave_60 : decode cX0_weave 60 = .ok (.getfield 37, 3) := by decide +kernel
theorem dX0_weave_63 : decode cX0_weave 63 = .ok (.iload_n 3, 1) := by decide +kernel
theorem dX0_weave_64 : decode cX0_weave 64 = .ok (.iload_n 1, 1) := by decide +kernel
theorem dX0_weave_65 : decode cX0_weave 65 = .ok (.iastore, 1) := by decide +kernel
theorem dX0_weave_66 : decode cX0_weave 66 = .ok (.aload_n 0, 1) := by decide +kernel
theorem dX0_weave_67 : decode cX0_weave 67 = .ok (.dup, 1) := by decide +kernel
theorem dX0_weave_68 : decode cX0_weave 68 = .ok (.getfield 40, 3) := by decide +kernel
theorem dX0_weave_71 : decode cX0_weave 71 = .ok (.iconst 1, 1) := by decide +kernel
theorem dX0_weave_72 : decode cX0_weave 72 = .ok (.iadd, 1) := by decide +kernel
theorem dX0_weave_73 : decode cX0_weave 73 = .ok (.putfield 40, 3) := by decide +kernel
theorem dX0_weave_76 : decode cX0_weave 76 = .ok (.return_, 1) := by decide +kernel
theorem dX0_receive_0 : decode cX0_receive 0 = .ok (.aload_n 0, 1) := by decide +kernel
theorem dX0_receive_1 : decode cX0_receive 1 = .ok (.getfield 46, 3) := by decide +kernel
theorem dX0_receive_4 : decode cX0_receive 4 = .ok (.iload_n 1, 1) := by decide +kernel
theorem dX0_receive_5 : decode cX0_receive 5 = .ok (.aaload, 1) := by decide +kernel
theorem dX0_receive_6 : decode cX0_receive 6 = .ok (.aload_n 0, 1) := by decide +kernel
theorem dX0_receive_7 : decode cX0_receive 7 = .ok (.getfield 9, 3) := by decide +kernel
theorem dX0_receive_10 : decode cX0_receive 10 = .ok (.iload_n 2, 1) := by decide +kernel
theorem dX0_receive_11 : decode cX0_receive 11 = .ok (.iaload, 1) := by decide +kernel
theorem dX0_receive_12 : decode cX0_receive 12 = .ok (.aload_n 0, 1) := by decide +kernel
theorem dX0_receive_13 : decode cX0_receive 13 = .ok (.getfield 13, 3) := by decide +kernel
theorem dX0_receive_16 : decode cX0_receive 16 = .ok (.iload_n 2, 1) := by decide +kernel
theorem dX0_receive_17 : decode cX0_receive 17 = .ok (.iaload, 1) := by decide +kernel
theorem dX0_receive_18 : decode cX0_receive 18 = .ok (.iconst 1, 1) := by decide +kernel
theorem dX0_receive_19 : decode cX0_receive 19 = .ok (.iadd, 1) := by decide +kernel
theorem dX0_receive_20 : decode cX0_receive 20 = .ok (.iastore, 1) := by decide +kernel
theorem dX0_receive_21 : decode cX0_receive 21 = .ok (.aload_n 0, 1) := by decide +kernel
theorem dX0_receive_22 : decode cX0_receive 22 = .ok (.getfield 16, 3) := by decide +kernel
theorem dX0_receive_25 : decode cX0_receive 25 = .ok (.iload_n 2, 1) := by decide +kernel
theorem dX0_receive_26 : decode cX0_receive 26 = .ok (.iaload, 1) := by decide +kernel
theorem dX0_receive_27 : decode cX0_receive 27 = .ok (.iconst (-1), 1) := by decide +kernel
theorem dX0_receive_28 : decode cX0_receive 28 = .ok (.if_icmp .ne 12, 3) := by decide +kernel
theorem dX0_receive_31 : decode cX0_receive 31 = .ok (.aload_n 0, 1) := by decide +kernel
theorem dX0_receive_32 : decode cX0_receive 32 = .ok (.iload_n 1, 1) := by decide +kernel
theorem dX0_receive_33 : decode cX0_receive 33 = .ok (.iload_n 2, 1) := by decide +kernel
theorem dX0_receive_34 : decode cX0_receive 34 = .ok (.invokevirtual 119, 3) := by decide +kernel
theorem dX0_receive_37 : decode cX0_receive 37 = .ok (.goto 14, 3) := by decide +kernel
theorem dX0_receive_40 : decode cX0_receive 40 = .ok (.aload_n 0, 1) := by decide +kernel
theorem dX0_receive_41 : decode cX0_receive 41 = .ok (.iload_n 1, 1) := by decide +kernel
theorem dX0_receive_42 : decode cX0_receive 42 = .ok (.aload_n 0, 1) := by decide +kernel
theorem dX0_receive_43 : decode cX0_receive 43 = .ok (.getfield 16, 3) := by decide +kernel
theorem dX0_receive_46 : decode cX0_receive 46 = .ok (.iload_n 2, 1) := by decide +kernel
theorem dX0_receive_47 : decode cX0_receive 47 = .ok (.iaload, 1) := by decide +kernel
theorem dX0_receive_48 : decode cX0_receive 48 = .ok (.invokevirtual 122, 3) := by decide +kernel
theorem dX0_receive_51 : decode cX0_receive 51 = .ok (.return_, 1) := by decide +kernel
theorem dX0_showLetter_0 : decode cX0_showLetter 0 = .ok (.aload_n 0, 1) := by decide +kernel
theorem dX0_showLetter_1 : decode cX0_showLetter 1 = .ok (.getfield 34, 3) := by decide +kernel
theorem dX0_showLetter_4 : decode cX0_showLetter 4 = .ok (.iload_n 2, 1) := by decide +kernel
theorem dX0_showLetter_5 : decode cX0_showLetter 5 = .ok (.dup2, 1) := by decide +kernel
theorem dX0_showLetter_6 : decode cX0_showLetter 6 = .ok (.iaload, 1) := by decide +kernel
theorem dX0_showLetter_7 : decode cX0_showLetter 7 = .ok (.iconst 1, 1) := by decide +kernel
theorem dX0_showLetter_8 : decode cX0_showLetter 8 = .ok (.iload_n 1, 1) := by decide +kernel
theorem dX0_showLetter_9 : decode cX0_showLetter 9 = .ok (.ishl, 1) := by decide +kernel
theorem dX0_showLetter_10 : decode cX0_showLetter 10 = .ok (.ior, 1) := by decide +kernel
theorem dX0_showLetter_11 : decode cX0_showLetter 11 = .ok (.iastore, 1) := by decide +kernel
theorem dX0_showLetter_12 : decode cX0_showLetter 12 = .ok (.aload_n 0, 1) := by decide +kernel
theorem dX0_showLetter_13 : decode cX0_showLetter 13 = .ok (.getfield 52, 3) := by decide +kernel
theorem dX0_showLetter_16 : decode cX0_showLetter 16 = .ok (.iload_n 1, 1) := by decide +kernel
theorem dX0_showLetter_17 : decode cX0_showLetter 17 = .ok (.dup2, 1) := by decide +kernel
theorem dX0_showLetter_18 : decode cX0_showLetter 18 = .ok (.iaload, 1) := by decide +kernel
theorem dX0_showLetter_19 : decode cX0_showLetter 19 = .ok (.iconst 1, 1) := by decide +kernel
theorem dX0_showLetter_20 : decode cX0_showLetter 20 = .ok (.iadd, 1) := by decide +kernel
theorem dX0_showLetter_21 : decode cX0_showLetter 21 = .ok (.iastore, 1) := by decide +kernel
theorem dX0_showLetter_22 : decode cX0_showLetter 22 = .ok (.aload_n 0, 1) := by decide +kernel
theorem dX0_showLetter_23 : decode cX0_showLetter 23 = .ok (.getfield 49, 3) := by decide +kernel
theorem dX0_showLetter_26 : decode cX0_showLetter 26 = .ok (.iload_n 1, 1) := by decide +kernel
theorem dX0_showLetter_27 : decode cX0_showLetter 27 = .ok (.aload_n 0, 1) := by decide +kernel
theorem dX0_showLetter_28 : decode cX0_showLetter 28 = .ok (.getfield 49, 3) := by decide +kernel
theorem dX0_showLetter_31 : decode cX0_showLetter 31 = .ok (.iload_n 1, 1) := by decide +kernel
theorem dX0_showLetter_32 : decode cX0_showLetter 32 = .ok (.iaload, 1) := by decide +kernel
theorem dX0_showLetter_33 : decode cX0_showLetter 33 = .ok (.aload_n 0, 1) := by decide +kernel
theorem dX0_showLetter_34 : decode cX0_showLetter 34 = .ok (.getfield 31, 3) := by decide +kernel
theorem dX0_showLetter_37 : decode cX0_showLetter 37 = .ok (.iload_n 2, 1) := by decide +kernel
theorem dX0_showLetter_38 : decode cX0_showLetter 38 = .ok (.iaload, 1) := by decide +kernel
theorem dX0_showLetter_39 : decode cX0_showLetter 39 = .ok (.iconst 4, 1) := by decide +kernel
theorem dX0_showLetter_40 : decode cX0_showLetter 40 = .ok (.idiv, 1) := by decide +kernel
theorem dX0_showLetter_41 : decode cX0_showLetter 41 = .ok (.invokestatic 125, 3) := by decide +kernel
theorem dX0_showLetter_44 : decode cX0_showLetter 44 = .ok (.iastore, 1) := by decide +kernel
theorem dX0_showLetter_45 : decode cX0_showLetter 45 = .ok (.return_, 1) := by decide +kernel
theorem dX0_hideLetter_0 : decode cX0_hideLetter 0 = .ok (.aload_n 0, 1) := by decide +kernel
theorem dX0_hideLetter_1 : decode cX0_hideLetter 1 = .ok (.iload_n 1, 1) := by decide +kernel
theorem dX0_hideLetter_2 : decode cX0_hideLetter 2 = .ok (.iload_n 2, 1) := by decide +kernel
theorem dX0_hideLetter_3 : decode cX0_hideLetter 3 = .ok (.invokevirtual 110, 3) := by decide +kernel
theorem dX0_hideLetter_6 : decode cX0_hideLetter 6 = .ok (.ifCond .eq 27, 3) := by decide +kernel
theorem dX0_hideLetter_9 : decode cX0_hideLetter 9 = .ok (.aload_n 0, 1) := by decide +kernel
theorem dX0_hideLetter_10 : decode cX0_hideLetter 10 = .ok (.getfield 34, 3) := by decide +kernel
theorem dX0_hideLetter_13 : decode cX0_hideLetter 13 = .ok (.iload_n 2, 1) := by decide +kernel
theorem dX0_hideLetter_14 : decode cX0_hideLetter 14 = .ok (.dup2, 1) := by decide +kernel
theorem dX0_hideLetter_15 : decode cX0_hideLetter 15 = .ok (.iaload, 1) := by decide +kernel
theorem dX0_hideLetter_16 : decode cX0_hideLetter 16 = .ok (.iconst 1, 1) := by decide +kernel
theorem dX0_hideLetter_17 : decode cX0_hideLetter 17 = .ok (.iload_n 1, 1) := by decide +kernel
theorem dX0_hideLetter_18 : decode cX0_hideLetter 18 = .ok (.ishl, 1) := by decide +kernel
theorem dX0_hideLetter_19 : decode cX0_hideLetter 19 = .ok (.iconst (-1), 1) := by decide +kernel
theorem dX0_hideLetter_20 : decode cX0_hideLetter 20 = .ok (.ixor, 1) := by decide +kernel
theorem dX0_hideLetter_21 : decode cX0_hideLetter 21 = .ok (.iand, 1) := by decide +kernel
theorem dX0_hideLetter_22 : decode cX0_hideLetter 22 = .ok (.iastore, 1) := by decide +kernel
theorem dX0_hideLetter_23 : decode cX0_hideLetter 23 = .ok (.aload_n 0, 1) := by decide +kernel
theorem dX0_hideLetter_24 : decode cX0_hideLetter 24 = .ok (.getfield 52, 3) := by decide +kernel
theorem dX0_hideLetter_27 : decode cX0_hideLetter 27 = .ok (.iload_n 1, 1) := by decide +kernel
theorem dX0_hideLetter_28 : decode cX0_hideLetter 28 = .ok (.dup2, 1) := by decide +kernel
theorem dX0_hideLetter_29 : decode cX0_hideLetter 29 = .ok (.iaload, 1) := by decide +kernel
theorem dX0_hideLetter_30 : decode cX0_hideLetter 30 = .ok (.iconst 1, 1) := by decide +kernel
theorem dX0_hideLetter_31 : decode cX0_hideLetter 31 = .ok (.isub, 1) := by decide +kernel
theorem dX0_hideLetter_32 : decode cX0_hideLetter 32 = .ok (.iastore, 1) := by decide +kernel
theorem dX0_hideLetter_33 : decode cX0_hideLetter 33 = .ok (.return_, 1) := by decide +kernel
