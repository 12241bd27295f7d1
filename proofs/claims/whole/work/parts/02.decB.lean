theorem dX6_init_0 : decode cX6_init 0 = .ok (.aload_n 0, 1) := by decide +kernel
theorem dX6_init_1 : decode cX6_init 1 = .ok (.invokespecial 1, 3) := by decide +kernel
theorem dX6_init_4 : decode cX6_init 4 = .ok (.aload_n 0, 1) := by decide +kernel
theorem dX6_init_5 : decode cX6_init 5 = .ok (.iconst 4, 1) := by decide +kernel
theorem dX6_init_6 : decode cX6_init 6 = .ok (.newarray .int, 2) := by decide +kernel
theorem dX6_init_8 : decode cX6_init 8 = .ok (.putfield 7, 3) := by decide +kernel
theorem dX6_init_11 : decode cX6_init 11 = .ok (.aload_n 0, 1) := by decide +kernel
theorem dX6_init_12 : decode cX6_init 12 = .ok (.iconst 4, 1) := by decide +kernel
theorem dX6_init_13 : decode cX6_init 13 = .ok (.newarray .int, 2) := by decide +kernel
theorem dX6_init_15 : decode cX6_init 15 = .ok (.putfield 13, 3) := by decide +kernel
theorem dX6_init_18 : decode cX6_init 18 = .ok (.aload_n 0, 1) := by decide +kernel
theorem dX6_init_19 : decode cX6_init 19 = .ok (.iconst 4, 1) := by decide +kernel
theorem dX6_init_20 : decode cX6_init 20 = .ok (.newarray .int, 2) := by decide +kernel
theorem dX6_init_22 : decode cX6_init 22 = .ok (.putfield 16, 3) := by decide +kernel
theorem dX6_init_25 : decode cX6_init 25 = .ok (.aload_n 0, 1) := by decide +kernel
theorem dX6_init_26 : decode cX6_init 26 = .ok (.bipush 20, 2) := by decide +kernel
theorem dX6_init_28 : decode cX6_init 28 = .ok (.newarray .int, 2) := by decide +kernel
theorem dX6_init_30 : decode cX6_init 30 = .ok (.putfield 19, 3) := by decide +kernel
theorem dX6_init_33 : decode cX6_init 33 = .ok (.aload_n 0, 1) := by decide +kernel
theorem dX6_init_34 : decode cX6_init 34 = .ok (.bipush 8, 2) := by decide +kernel
theorem dX6_init_36 : decode cX6_init 36 = .ok (.newarray .int, 2) := by decide +kernel
theorem dX6_init_38 : decode cX6_init 38 = .ok (.putfield 22, 3) := by decide +kernel
theorem dX6_init_41 : decode cX6_init 41 = .ok (.aload_n 0, 1) := by decide +kernel
theorem dX6_init_42 : decode cX6_init 42 = .ok (.bipush 8, 2) := by decide +kernel
theorem dX6_init_44 : decode cX6_init 44 = .ok (.newarray .int, 2) := by decide +kernel
theorem dX6_init_46 : decode cX6_init 46 = .ok (.putfield 25, 3) := by decide +kernel
theorem dX6_init_49 : decode cX6_init 49 = .ok (.aload_n 0, 1) := by decide +kernel
theorem dX6_init_50 : decode cX6_init 50 = .ok (.bipush 36, 2) := by decide +kernel
theorem dX6_init_52 : decode cX6_init 52 = .ok (.newarray .int, 2) := by decide +kernel
theorem dX6_init_54 : decode cX6_init 54 = .ok (.putfield 28, 3) := by decide +kernel
theorem dX6_init_57 : decode cX6_init 57 = .ok (.aload_n 0, 1) := by decide +kernel
theorem dX6_init_58 : decode cX6_init 58 = .ok (.sipush 140, 3) := by decide +kernel
theorem dX6_init_61 : decode cX6_init 61 = .ok (.newarray .int, 2) := by decide +kernel
theorem dX6_init_63 : decode cX6_init 63 = .ok (.putfield 31, 3) := by decide +kernel
theorem dX6_init_66 : decode cX6_init 66 = .ok (.aload_n 0, 1) := by decide +kernel
theorem dX6_init_67 : decode cX6_init 67 = .ok (.bipush 6, 2) := by decide +kernel
theorem dX6_init_69 : decode cX6_init 69 = .ok (.newarray .int, 2) := by decide +kernel
theorem dX6_init_71 : decode cX6_init 71 = .ok (.putfield 34, 3) := by decide +kernel
theorem dX6_init_74 : decode cX6_init 74 = .ok (.aload_n 0, 1) := by decide +kernel
theorem dX6_init_75 : decode cX6_init 75 = .ok (.bipush 6, 2) := by decide +kernel
theorem dX6_init_77 : decode cX6_init 77 = .ok (.newarray .int, 2) := by decide +kernel
theorem dX6_init_79 : decode cX6_init 79 = .ok (.putfield 37, 3) := by decide +kernel
theorem dX6_init_82 : decode cX6_init 82 = .ok (.aload_n 0, 1) := by decide +kernel
theorem dX6_init_83 : decode cX6_init 83 = .ok (.bipush 6, 2) := by decide +kernel
theorem dX6_init_85 : decode cX6_init 85 = .ok (.newarray .int, 2) := by decide +kernel
theorem dX6_init_87 : decode cX6_init 87 = .ok (.putfield 40, 3) := by decide +kernel
theorem dX6_init_90 : decode cX6_init 90 = .ok (.aload_n 0, 1) := by decide +kernel
theorem dX6_init_91 : decode cX6_init 91 = .ok (.iconst 2, 1) := by decide +kernel
theorem dX6_init_92 : decode cX6_init 92 = .ok (.newarray .boolean, 2) := by decide +kernel
theorem dX6_init_94 : decode cX6_init 94 = .ok (.putfield 43, 3) := by decide +kernel
theorem dX6_init_97 : decode cX6_init 97 = .ok (.aload_n 0, 1) := by decide +kernel
theorem dX6_init_98 : decode cX6_init 98 = .ok (.bipush 20, 2) := by decide +kernel
theorem dX6_init_100 : decode cX6_init 100 = .ok (.newarray .int, 2) := by decide +kernel
theorem dX6_init_102 : decode cX6_init 102 = .ok (.putfield 47, 3) := by decide +kernel
theorem dX6_init_105 : decode cX6_init 105 = .ok (.aload_n 0, 1) := by decide +kernel
theorem dX6_init_106 : decode cX6_init 106 = .ok (.getfield 19, 3) := by decide +kernel
theorem dX6_init_109 : decode cX6_init 109 = .ok (.bipush 6, 2) := by decide +kernel
theorem dX6_init_111 : decode cX6_init 111 = .ok (.bipush (-9), 2) := by decide +kernel
theorem dX6_init_113 : decode cX6_init 113 = .ok (.iastore, 1) := by decide +kernel
theorem dX6_init_114 : decode cX6_init 114 = .ok (.return_, 1) := by decide +kernel
theorem dX6_in_0 : decode cX6_in 0 = .ok (.lload_n 0, 1) := by decide +kernel
theorem dX6_in_1 : decode cX6_in 1 = .ok (.lload_n 2, 1) := by decide +kernel
theorem dX6_in_2 : decode cX6_in 2 = .ok (.lcmp, 1) := by decide +kernel
theorem dX6_in_3 : decode cX6_in 3 = .ok (.ifCond .lt 14, 3) := by decide +kernel
theorem dX6_in_6 : decode cX6_in 6 = .ok (.lload_n 0, 1) := by decide +kernel
theorem dX6_in_7 : decode cX6_in 7 = .ok (.lload 4, 2) := by decide +kernel
theorem dX6_in_9 : decode cX6_in 9 = .ok (.lcmp, 1) := by decide +kernel
theorem dX6_in_10 : decode cX6_in 10 = .ok (.ifCond .gt 7, 3) := by decide +kernel
theorem dX6_in_13 : decode cX6_in 13 = .ok (.iconst 1, 1) := by decide +kernel
theorem dX6_in_14 : decode cX6_in 14 = .ok (.goto 4, 3) := by decide +kernel
theorem dX6_in_17 : decode cX6_in 17 = .ok (.iconst 0, 1) := by decide +kernel
theorem dX6_in_18 : decode cX6_in 18 = .ok (.ireturn, 1) := by decide +kernel
theorem dX6_has_0 : decode cX6_has 0 = .ok (.iload_n 0, 1) := by decide +kernel
theorem dX6_has_1 : decode cX6_has 1 = .ok (.iload_n 1, 1) := by decide +kernel
theorem dX6_has_2 : decode cX6_has 2 = .ok (.ishr, 1) := by decide +kernel
theorem dX6_has_3 : decode cX6_has 3 = .ok (.iconst 1, 1) := by decide +kernel
theorem dX6_has_4 : decode cX6_has 4 = .ok (.iand, 1) := by decide +kernel
theorem dX6_has_5 : decode cX6_has 5 = .ok (.iconst 1, 1) := by decide +kernel
theorem dX6_has_6 : decode cX6_has 6 = .ok (.if_icmp .ne 7, 3) := by decide +kernel
theorem dX6_has_9 : decode cX6_has 9 = .ok (.iconst 1, 1) := by decide +kernel
theorem dX6_has_10 : decode cX6_has 10 = .ok (.goto 4, 3) := by decide +kernel
theorem dX6_has_13 : decode cX6_has 13 = .ok (.iconst 0, 1) := by decide +kernel
theorem dX6_has_14 : decode cX6_has 14 = .ok (.ireturn, 1) := by decide +kernel
theorem dX6_ones_0 : decode cX6_ones 0 = .ok (.iconst 0, 1) := by decide +kernel
theorem dX6_ones_1 : decode cX6_ones 1 = .ok (.istore_n 1, 1) := by decide +kernel
theorem dX6_ones_2 : decode cX6_ones 2 = .ok (.iconst 0, 1) := by decide +kernel
theorem dX6_ones_3 : decode cX6_ones 3 = .ok (.istore_n 2, 1) := by decide +kernel
theorem dX6_ones_4 : decode cX6_ones 4 = .ok (.iload_n 2, 1) := by decide +kernel
theorem dX6_ones_5 : decode cX6_ones 5 = .ok (.iconst 4, 1) := by decide +kernel
theorem dX6_ones_6 : decode cX6_ones 6 = .ok (.if_icmp .ge 17, 3) := by decide +kernel
theorem dX6_ones_9 : decode cX6_ones 9 = .ok (.iload_n 1, 1) := by decide +kernel
theorem dX6_ones_10 : decode cX6_ones 10 = .ok (.iload_n 0, 1) := by decide +kernel
theorem dX6_ones_11 : decode cX6_ones 11 = .ok (.iload_n 2, 1) := by decide +kernel
theorem dX6_ones_12 : decode cX6_ones 12 = .ok (.ishr, 1) := by decide +kernel
theorem dX6_ones_13 : decode cX6_ones 13 = .ok (.iconst 1, 1) := by decide +kernel
theorem dX6_ones_14 : decode cX6_ones 14 = .ok (.iand, 1) := by decide +kernel
theorem dX6_ones_15 : decode cX6_ones 15 = .ok (.iadd, 1) := by decide +kernel
theorem dX6_ones_16 : decode cX6_ones 16 = .ok (.istore_n 1, 1) := by decide +kernel
theorem dX6_ones_17 : decode cX6_ones 17 = .ok (.iinc 2 1, 3) := by decide +kernel
theorem dX6_ones_20 : decode cX6_ones 20 = .ok (.goto (-16), 3) := by decide +kernel
theorem dX6_ones_23 : decode cX6_ones 23 = .ok (.iload_n 1, 1) := by decide +kernel
theorem dX6_ones_24 : decode cX6_ones 24 = .ok (.ireturn, 1) := by decide +kernel
theorem dX6_write_0 : decode cX6_write 0 = .ok (.iload_n 1, 1) := by decide +kernel
theorem dX6_write_1 : decode cX6_write 1 = .ok (.i2l, 1) := by decide +kernel
theorem dX6_write_2 : decode cX6_write 2 = .ok (.lconst 0, 1) := by decide +kernel
theorem dX6_write_3 : decode cX6_write 3 = .ok (.ldc2_w 50, 3) := by decide +kernel
theorem dX6_write_6 : decode cX6_write 6 = .ok (.invokestatic 52, 3) := by decide +kernel
theorem dX6_write_9 : decode cX6_write 9 = .ok (.ifCond .ne 6, 3) := by decide +kernel
theorem dX6_write_12 : decode cX6_write 12 = .ok (.bipush (-2), 2) := by decide +kernel
theorem dX6_write_14 : decode cX6_write 14 = .ok (.ireturn, 1) := by decide +kernel
theorem dX6_write_15 : decode cX6_write 15 = .ok (.aload_n 0, 1) := by decide +kernel
theorem dX6_write_16 : decode cX6_write 16 = .ok (.getfield 56, 3) := by decide +kernel
theorem dX6_write_19 : decode cX6_write 19 = .ok (.bipush 36, 2) := by decide +kernel
theorem dX6_write_21 : decode cX6_write 21 = .ok (.if_icmp .ne 6, 3) := by decide +kernel
theorem dX6_write_24 : decode cX6_write 24 = .ok (.bipush (-4), 2) := by decide +kernel
theorem dX6_write_26 : decode cX6_write 26 = .ok (.ireturn, 1) := by decide +kernel
theorem dX6_write_27 : decode cX6_write 27 = .ok (.aload_n 0, 1) := by decide +kernel
theorem dX6_write_28 : decode cX6_write 28 = .ok (.getfield 28, 3) := by decide +kernel
theorem dX6_write_31 : decode cX6_write 31 = .ok (.aload_n 0, 1) := by decide +kernel
theorem dX6_write_32 : decode cX6_write 32 = .ok (.getfield 56, 3) := by decide +kernel
theorem dX6_write_35 : decode cX6_write 35 = .ok (.iload_n 1, 1) := by decide +kernel
theorem dX6_write_36 : decode cX6_write 36 = .ok (.iastore, 1) := by decide +kernel
theorem dX6_write_37 : decode cX6_write 37 = .ok (.aload_n 0, 1) := by decide +kernel
theorem dX6_write_38 : decode cX6_write 38 = .ok (.dup, 1) := by decide +kernel
theorem dX6_write_39 : decode cX6_write 39 = .ok (.getfield 56, 3) := by decide +kernel
theorem dX6_write_42 : decode cX6_write 42 = .ok (.iconst 1, 1) := by decide +kernel
theorem dX6_write_43 : decode cX6_write 43 = .ok (.iadd, 1) := by decide +kernel
theorem dX6_write_44 : decode cX6_write 44 = .ok (.putfield 56, 3) := by decide +kernel
theorem dX6_write_47 : decode cX6_write 47 = .ok (.aload_n 0, 1) := by decide +kernel
theorem dX6_write_48 : decode cX6_write 48 = .ok (.getfield 56, 3) := by decide +kernel
theorem dX6_write_51 : decode cX6_write 51 = .ok (.ireturn, 1) := by decide +kernel
theorem dX6_wipe_0 : decode cX6_wipe 0 = .ok (.aload_n 0, 1) := by decide +kernel
theorem dX6_wipe_1 : decode cX6_wipe 1 = .ok (.getfield 56, 3) := by decide +kernel
theorem dX6_wipe_4 : decode cX6_wipe 4 = .ok (.istore_n 1, 1) := by decide +kernel
theorem dX6_wipe_5 : decode cX6_wipe 5 = .ok (.aload_n 0, 1) := by decide +kernel
theorem dX6_wipe_6 : decode cX6_wipe 6 = .ok (.iconst 0, 1) := by decide +kernel
theorem dX6_wipe_7 : decode cX6_wipe 7 = .ok (.putfield 56, 3) := by decide +kernel
theorem dX6_wipe_10 : decode cX6_wipe 10 = .ok (.iload_n 1, 1) := by decide +kernel
theorem dX6_wipe_11 : decode cX6_wipe 11 = .ok (.ireturn, 1) := by decide +kernel
theorem dX6_figure_0 : decode cX6_figure 0 = .ok (.aload_n 0, 1) := by decide +kernel
theorem dX6_figure_1 : decode cX6_figure 1 = .ok (.getfield 60, 3) := by decide +kernel
theorem dX6_figure_4 : decode cX6_figure 4 = .ok (.bipush (-9), 2) := by decide +kernel
theorem dX6_figure_6 : decode cX6_figure 6 = .ok (.if_icmp .ne 29, 3) := by decide +kernel
theorem dX6_figure_9 : decode cX6_figure 9 = .ok (.aload_n 0, 1) := by decide +kernel
theorem dX6_figure_10 : decode cX6_figure 10 = .ok (.getfield 63, 3) := by decide +kernel
theorem dX6_figure_13 : decode cX6_figure 13 = .ok (.aload_n 0, 1) := by decide +kernel
theorem dX6_figure_14 : decode cX6_figure 14 = .ok (.getfield 56, 3) := by decide +kernel
theorem dX6_figure_17 : decode cX6_figure 17 = .ok (.if_icmp .ge 18, 3) := by decide +kernel
theorem dX6_figure_20 : decode cX6_figure 20 = .ok (.aload_n 0, 1) := by decide +kernel
theorem dX6_figure_21 : decode cX6_figure 21 = .ok (.getfield 28, 3) := by decide +kernel
theorem dX6_figure_24 : decode cX6_figure 24 = .ok (.aload_n 0, 1) := by decide +kernel
theorem dX6_figure_25 : decode cX6_figure 25 = .ok (.getfield 63, 3) := by decide +kernel
theorem dX6_figure_28 : decode cX6_figure 28 = .ok (.iaload, 1) := by decide +kernel
theorem dX6_figure_29 : decode cX6_figure 29 = .ok (.bipush 48, 2) := by decide +kernel
theorem dX6_figure_31 : decode cX6_figure 31 = .ok (.isub, 1) := by decide +kernel
theorem dX6_figure_32 : decode cX6_figure 32 = .ok (.goto 5, 3) := by decide +kernel
theorem dX6_figure_35 : decode cX6_figure 35 = .ok (.bipush (-9), 2) := by decide +kernel
theorem dX6_figure_37 : decode cX6_figure 37 = .ok (.istore_n 3, 1) := by decide +kernel
theorem dX6_figure_38 : decode cX6_figure 38 = .ok (.iload_n 3, 1) := by decide +kernel
theorem dX6_figure_39 : decode cX6_figure 39 = .ok (.i2l, 1) := by decide +kernel
theorem dX6_figure_40 : decode cX6_figure 40 = .ok (.iload_n 1, 1) := by decide +kernel
theorem dX6_figure_41 : decode cX6_figure 41 = .ok (.i2l, 1) := by decide +kernel
theorem dX6_figure_42 : decode cX6_figure 42 = .ok (.iload_n 2, 1) := by decide +kernel
theorem dX6_figure_43 : decode cX6_figure 43 = .ok (.i2l, 1) := by decide +kernel
theorem dX6_figure_44 : decode cX6_figure 44 = .ok (.invokestatic 52, 3) := by decide +kernel
theorem dX6_figure_47 : decode cX6_figure 47 = .ok (.ifCond .ne 29, 3) := by decide +kernel
theorem dX6_figure_50 : decode cX6_figure 50 = .ok (.aload_n 0, 1) := by decide +kernel
theorem dX6_figure_51 : decode cX6_figure 51 = .ok (.aload_n 0, 1) := by decide +kernel
theorem dX6_figure_52 : decode cX6_figure 52 = .ok (.getfield 60, 3) := by decide +kernel
theorem dX6_figure_55 : decode cX6_figure 55 = .ok (.bipush (-9), 2) := by decide +kernel
theorem dX6_figure_57 : decode cX6_figure 57 = .ok (.if_icmp .ne 10, 3) := by decide +kernel
theorem dX6_figure_60 : decode cX6_figure 60 = .ok (.aload_n 0, 1) := by decide +kernel
theorem dX6_figure_61 : decode cX6_figure 61 = .ok (.getfield 63, 3) := by decide +kernel
theorem dX6_figure_64 : decode cX6_figure 64 = .ok (.goto 7, 3) := by decide +kernel
theorem dX6_figure_67 : decode cX6_figure 67 = .ok (.aload_n 0, 1) := by decide +kernel
theorem dX6_figure_68 : decode cX6_figure 68 = .ok (.getfield 60, 3) := by decide +kernel
theorem dX6_figure_71 : decode cX6_figure 71 = .ok (.putfield 60, 3) := by decide +kernel
theorem dX6_figure_74 : decode cX6_figure 74 = .ok (.iload_n 1, 1) := by decide +kernel
theorem dX6_figure_75 : decode cX6_figure 75 = .ok (.ireturn, 1) := by decide +kernel
theorem dX6_figure_76 : decode cX6_figure 76 = .ok (.aload_n 0, 1) := by decide +kernel
theorem dX6_figure_77 : decode cX6_figure 77 = .ok (.dup, 1) := by decide +kernel
theorem dX6_figure_78 : decode cX6_figure 78 = .ok (.getfield 63, 3) := by decide +kernel
theorem dX6_figure_81 : decode cX6_figure 81 = .ok (.iconst 1, 1) := by decide +kernel
theorem dX6_figure_82 : decode cX6_figure 82 = .ok (.iadd, 1) := by decide +kernel
theorem dX6_figure_83 : decode cX6_figure 83 = .ok (.putfield 63, 3) := by decide +kernel
theorem dX6_figure_86 : decode cX6_figure 86 = .ok (.iload_n 3, 1) := by decide +kernel
theorem dX6_figure_87 : decode cX6_figure 87 = .ok (.ireturn, 1) := by decide +kernel
theorem dX6_readText_0 : decode cX6_readText 0 = .ok (.aload_n 0, 1) := by decide +kernel
theorem dX6_readText_1 : decode cX6_readText 1 = .ok (.iconst 0, 1) := by decide +kernel
theorem dX6_readText_2 : decode cX6_readText 2 = .ok (.putfield 63, 3) := by decide +kernel
theorem dX6_readText_5 : decode cX6_readText 5 = .ok (.aload_n 0, 1) := by decide +kernel
theorem dX6_readText_6 : decode cX6_readText 6 = .ok (.bipush (-9), 2) := by decide +kernel
theorem dX6_readText_8 : decode cX6_readText 8 = .ok (.putfield 60, 3) := by decide +kernel
theorem dX6_readText_11 : decode cX6_readText 11 = .ok (.aload_n 0, 1) := by decide +kernel
theorem dX6_readText_12 : decode cX6_readText 12 = .ok (.iconst 0, 1) := by decide +kernel
theorem dX6_readText_13 : decode cX6_readText 13 = .ok (.putfield 66, 3) := by decide +kernel
theorem dX6_readText_16 : decode cX6_readText 16 = .ok (.aload_n 0, 1) := by decide +kernel
theorem dX6_readText_17 : decode cX6_readText 17 = .ok (.iconst 0, 1) := by decide +kernel
theorem dX6_readText_18 : decode cX6_readText 18 = .ok (.putfield 69, 3) := by decide +kernel
theorem dX6_readText_21 : decode cX6_readText 21 = .ok (.aload_n 0, 1) := by decide +kernel
theorem dX6_readText_22 : decode cX6_readText 22 = .ok (.getfield 56, 3) := by decide +kernel
theorem dX6_readText_25 : decode cX6_readText 25 = .ok (.ifCond .eq 14, 3) := by decide +kernel
theorem dX6_readText_28 : decode cX6_readText 28 = .ok (.aload_n 0, 1) := by decide +kernel
theorem dX6_readText_29 : decode cX6_readText 29 = .ok (.getfield 28, 3) := by decide +kernel
theorem dX6_readText_32 : decode cX6_readText 32 = .ok (.iconst 0, 1) := by decide +kernel
theorem dX6_readText_33 : decode cX6_readText 33 = .ok (.iaload, 1) := by decide +kernel
theorem dX6_readText_34 : decode cX6_readText 34 = .ok (.bipush 68, 2) := by decide +kernel
theorem dX6_readText_36 : decode cX6_readText 36 = .ok (.if_icmp .eq 5, 3) := by decide +kernel
theorem dX6_readText_39 : decode cX6_readText 39 = .ok (.iconst 0, 1) := by decide +kernel
theorem dX6_readText_40 : decode cX6_readText 40 = .ok (.ireturn, 1) := by decide +kernel
theorem dX6_readText_41 : decode cX6_readText 41 = .ok (.aload_n 0, 1) := by decide +kernel
theorem dX6_readText_42 : decode cX6_readText 42 = .ok (.iconst 1, 1) := by decide +kernel
theorem dX6_readText_43 : decode cX6_readText 43 = .ok (.putfield 63, 3) := by decide +kernel
theorem dX6_readText_46 : decode cX6_readText 46 = .ok (.aload_n 0, 1) := by decide +kernel
theorem dX6_readText_47 : decode cX6_readText 47 = .ok (.iconst 0, 1) := by decide +kernel
theorem dX6_readText_48 : decode cX6_readText 48 = .ok (.bipush 9, 2) := by decide +kernel
theorem dX6_readText_50 : decode cX6_readText 50 = .ok (.invokevirtual 72, 3) := by decide +kernel
theorem dX6_readText_53 : decode cX6_readText 53 = .ok (.pop, 1) := by decide +kernel
theorem dX6_readText_54 : decode cX6_readText 54 = .ok (.aload_n 0, 1) := by decide +kernel
theorem dX6_readText_55 : decode cX6_readText 55 = .ok (.iconst 0, 1) := by decide +kernel
theorem dX6_readText_56 : decode cX6_readText 56 = .ok (.bipush 9, 2) := by decide +kernel
theorem dX6_readText_58 : decode cX6_readText 58 = .ok (.invokevirtual 72, 3) := by decide +kernel
theorem dX6_readText_61 : decode cX6_readText 61 = .ok (.pop, 1) := by decide +kernel
theorem dX6_readText_62 : decode cX6_readText 62 = .ok (.aload_n 0, 1) := by decide +kernel
theorem dX6_readText_63 : decode cX6_readText 63 = .ok (.getfield 60, 3) := by decide +kernel
theorem dX6_readText_66 : decode cX6_readText 66 = .ok (.bipush (-9), 2) := by decide +kernel
theorem dX6_readText_68 : decode cX6_readText 68 = .ok (.if_icmp .ne 190, 3) := by decide +kernel
theorem dX6_readText_71 : decode cX6_readText 71 = .ok (.aload_n 0, 1) := by decide +kernel
theorem dX6_readText_72 : decode cX6_readText 72 = .ok (.getfield 63, 3) := by decide +kernel
theorem dX6_readText_75 : decode cX6_readText 75 = .ok (.aload_n 0, 1) := by decide +kernel
theorem dX6_readText_76 : decode cX6_readText 76 = .ok (.getfield 56, 3) := by decide +kernel
theorem dX6_readText_79 : decode cX6_readText 79 = .ok (.if_icmp .ge 179, 3) := by decide +kernel
theorem dX6_readText_82 : decode cX6_readText 82 = .ok (.aload_n 0, 1) := by decide +kernel
theorem dX6_readText_83 : decode cX6_readText 83 = .ok (.getfield 28, 3) := by decide +kernel
theorem dX6_readText_86 : decode cX6_readText 86 = .ok (.aload_n 0, 1) := by decide +kernel
theorem dX6_readText_87 : decode cX6_readText 87 = .ok (.getfield 63, 3) := by decide +kernel
theorem dX6_readText_90 : decode cX6_readText 90 = .ok (.iaload, 1) := by decide +kernel
theorem dX6_readText_91 : decode cX6_readText 91 = .ok (.bipush 87, 2) := by decide +kernel
theorem dX6_readText_93 : decode cX6_readText 93 = .ok (.if_icmp .ne 71, 3) := by decide +kernel
theorem dX6_readText_96 : decode cX6_readText 96 = .ok (.aload_n 0, 1) := by decide +kernel
theorem dX6_readText_97 : decode cX6_readText 97 = .ok (.getfield 66, 3) := by decide +kernel
theorem dX6_readText_100 : decode cX6_readText 100 = .ok (.iconst 4, 1) := by decide +kernel
theorem dX6_readText_101 : decode cX6_readText 101 = .ok (.if_icmp .ge 63, 3) := by decide +kernel
theorem dX6_readText_104 : decode cX6_readText 104 = .ok (.aload_n 0, 1) := by decide +kernel
theorem dX6_readText_105 : decode cX6_readText 105 = .ok (.dup, 1) := by decide +kernel
theorem dX6_readText_106 : decode cX6_readText 106 = .ok (.getfield 63, 3) := by decide +kernel
theorem dX6_readText_109 : decode cX6_readText 109 = .ok (.iconst 1, 1) := by decide +kernel
theorem dX6_readText_110 : decode cX6_readText 110 = .ok (.iadd, 1) := by decide +kernel
theorem dX6_readText_111 : decode cX6_readText 111 = .ok (.putfield 63, 3) := by decide +kernel
theorem dX6_readText_114 : decode cX6_readText 114 = .ok (.aload_n 0, 1) := by decide +kernel
theorem dX6_readText_115 : decode cX6_readText 115 = .ok (.getfield 22, 3) := by decide +kernel
theorem dX6_readText_118 : decode cX6_readText 118 = .ok (.iconst 2, 1) := by decide +kernel
theorem dX6_readText_119 : decode cX6_readText 119 = .ok (.aload_n 0, 1) := by decide +kernel
theorem dX6_readText_120 : decode cX6_readText 120 = .ok (.getfield 66, 3) := by decide +kernel
theorem dX6_readText_123 : decode cX6_readText 123 = .ok (.imul, 1) := by decide +kernel
theorem dX6_readText_124 : decode cX6_readText 124 = .ok (.aload_n 0, 1) := by decide +kernel
theorem dX6_readText_125 : decode cX6_readText 125 = .ok (.iconst 0, 1) := by decide +kernel
theorem dX6_readText_126 : decode cX6_readText 126 = .ok (.bipush 9, 2) := by decide +kernel
theorem dX6_readText_128 : decode cX6_readText 128 = .ok (.invokevirtual 72, 3) := by decide +kernel
theorem dX6_readText_131 : decode cX6_readText 131 = .ok (.iastore, 1) := by decide +kernel
theorem dX6_readText_132 : decode cX6_readText 132 = .ok (.aload_n 0, 1) := by decide +kernel
theorem dX6_readText_133 : decode cX6_readText 133 = .ok (.getfield 22, 3) := by decide +kernel
theorem dX6_readText_136 : decode cX6_readText 136 = .ok (.iconst 2, 1) := by decide +kernel
theorem dX6_readText_137 : decode cX6_readText 137 = .ok (.aload_n 0, 1) := by decide +kernel
theorem dX6_readText_138 : decode cX6_readText 138 = .ok (.getfield 66, 3) := by decide +kernel
theorem dX6_readText_141 : decode cX6_readText 141 = .ok (.imul, 1) := by decide +kernel
theorem dX6_readText_142 : decode cX6_readText 142 = .ok (.iconst 1, 1) := by decide +kernel
theorem dX6_readText_143 : decode cX6_readText 143 = .ok (.iadd, 1) := by decide +kernel
theorem dX6_readText_144 : decode cX6_readText 144 = .ok (.aload_n 0, 1) := by decide +kernel
theorem dX6_readText_145 : decode cX6_readText 145 = .ok (.iconst 0, 1) := by decide +kernel
theorem dX6_readText_146 : decode cX6_readText 146 = .ok (.iconst 3, 1) := by decide +kernel
theorem dX6_readText_147 : decode cX6_readText 147 = .ok (.invokevirtual 72, 3) := by decide +kernel
theorem dX6_readText_150 : decode cX6_readText 150 = .ok (.iastore, 1) := by decide +kernel
theorem dX6_readText_151 : decode cX6_readText 151 = .ok (.aload_n 0, 1) := by decide +kernel
theorem dX6_readText_152 : decode cX6_readText 152 = .ok (.dup, 1) := by decide +kernel
theorem dX6_readText_153 : decode cX6_readText 153 = .ok (.getfield 66, 3) := by decide +kernel
theorem dX6_readText_156 : decode cX6_readText 156 = .ok (.iconst 1, 1) := by decide +kernel
theorem dX6_readText_157 : decode cX6_readText 157 = .ok (.iadd, 1) := by decide +kernel
theorem dX6_readText_158 : decode cX6_readText 158 = .ok (.putfield 66, 3) := by decide +kernel
theorem dX6_readText_161 : decode cX6_readText 161 = .ok (.goto (-99), 3) := by decide +kernel
theorem dX6_readText_164 : decode cX6_readText 164 = .ok (.aload_n 0, 1) := by decide +kernel
theorem dX6_readText_165 : decode cX6_readText 165 = .ok (.getfield 28, 3) := by decide +kernel
theorem dX6_readText_168 : decode cX6_readText 168 = .ok (.aload_n 0, 1) := by decide +kernel
theorem dX6_readText_169 : decode cX6_readText 169 = .ok (.getfield 63, 3) := by decide +kernel
theorem dX6_readText_172 : decode cX6_readText 172 = .ok (.iaload, 1) := by decide +kernel
theorem dX6_readText_173 : decode cX6_readText 173 = .ok (.bipush 84, 2) := by decide +kernel
theorem dX6_readText_175 : decode cX6_readText 175 = .ok (.if_icmp .ne 72, 3) := by decide +kernel
theorem dX6_readText_178 : decode cX6_readText 178 = .ok (.aload_n 0, 1) := by decide +kernel
theorem dX6_readText_179 : decode cX6_readText 179 = .ok (.getfield 69, 3) := by decide +kernel
theorem dX6_readText_182 : decode cX6_readText 182 = .ok (.iconst 4, 1) := by decide +kernel
theorem dX6_readText_183 : decode cX6_readText 183 = .ok (.if_icmp .ge 64, 3) := by decide +kernel
theorem dX6_readText_186 : decode cX6_readText 186 = .ok (.aload_n 0, 1) := by decide +kernel
theorem dX6_readText_187 : decode cX6_readText 187 = .ok (.dup, 1) := by decide +kernel
theorem dX6_readText_188 : decode cX6_readText 188 = .ok (.getfield 63, 3) := by decide +kernel
theorem dX6_readText_191 : decode cX6_readText 191 = .ok (.iconst 1, 1) := by decide +kernel
theorem dX6_readText_192 : decode cX6_readText 192 = .ok (.iadd, 1) := by decide +kernel
theorem dX6_readText_193 : decode cX6_readText 193 = .ok (.putfield 63, 3) := by decide +kernel
theorem dX6_readText_196 : decode cX6_readText 196 = .ok (.aload_n 0, 1) := by decide +kernel
theorem dX6_readText_197 : decode cX6_readText 197 = .ok (.getfield 25, 3) := by decide +kernel
theorem dX6_readText_200 : decode cX6_readText 200 = .ok (.iconst 2, 1) := by decide +kernel
theorem dX6_readText_201 : decode cX6_readText 201 = .ok (.aload_n 0, 1) := by decide +kernel
theorem dX6_readText_202 : decode cX6_readText 202 = .ok (.getfield 69, 3) := by decide +kernel
theorem dX6_readText_205 : decode cX6_readText 205 = .ok (.imul, 1) := by decide +kernel
theorem dX6_readText_206 : decode cX6_readText 206 = .ok (.aload_n 0, 1) := by decide +kernel
theorem dX6_readText_207 : decode cX6_readText 207 = .ok (.iconst 0, 1) := by decide +kernel
theorem dX6_readText_208 : decode cX6_readText 208 = .ok (.bipush 9, 2) := by decide +kernel
theorem dX6_readText_210 : decode cX6_readText 210 = .ok (.invokevirtual 72, 3) := by decide +kernel
theorem dX6_readText_213 : decode cX6_readText 213 = .ok (.iastore, 1) := by decide +kernel
theorem dX6_readText_214 : decode cX6_readText 214 = .ok (.aload_n 0, 1) := by decide +kernel
theorem dX6_readText_215 : decode cX6_readText 215 = .ok (.getfield 25, 3) := by decide +kernel
theorem dX6_readText_218 : decode cX6_readText 218 = .ok (.iconst 2, 1) := by decide +kernel
theorem dX6_readText_219 : decode cX6_readText 219 = .ok (.aload_n 0, 1) := by decide +kernel
theorem dX6_readText_220 : decode cX6_readText 220 = .ok (.getfield 69, 3) := by decide +kernel
theorem dX6_readText_223 : decode cX6_readText 223 = .ok (.imul, 1) := by decide +kernel
theorem dX6_readText_224 : decode cX6_readText 224 = .ok (.iconst 1, 1) := by decide +kernel
theorem dX6_readText_225 : decode cX6_readText 225 = .ok (.iadd, 1) := by decide +kernel
theorem dX6_readText_226 : decode cX6_readText 226 = .ok (.aload_n 0, 1) := by decide +kernel
theorem dX6_readText_227 : decode cX6_readText 227 = .ok (.iconst 1, 1) := by decide +kernel
theorem dX6_readText_228 : decode cX6_readText 228 = .ok (.bipush 9, 2) := by decide +kernel
theorem dX6_readText_230 : decode cX6_readText 230 = .ok (.invokevirtual 72, 3) := by decide +kernel
theorem dX6_readText_233 : decode cX6_readText 233 = .ok (.iastore, 1) := by decide +kernel
theorem dX6_readText_234 : decode cX6_readText 234 = .ok (.aload_n 0, 1) := by decide +kernel
theorem dX6_readText_235 : decode cX6_readText 235 = .ok (.dup, 1) := by decide +kernel
theorem dX6_readText_236 : decode cX6_readText 236 = .ok (.getfield 69, 3) := by decide +kernel
theorem dX6_readText_239 : decode cX6_readText 239 = .ok (.iconst 1, 1) := by decide +kernel
theorem dX6_readText_240 : decode cX6_readText 240 = .ok (.iadd, 1) := by decide +kernel
theorem dX6_readText_241 : decode cX6_readText 241 = .ok (.putfield 69, 3) := by decide +kernel
theorem dX6_readText_244 : decode cX6_readText 244 = .ok (.goto (-182), 3) := by decide +kernel
theorem dX6_readText_247 : decode cX6_readText 247 = .ok (.aload_n 0, 1) := by decide +kernel
theorem dX6_readText_248 : decode cX6_readText 248 = .ok (.aload_n 0, 1) := by decide +kernel
theorem dX6_readText_249 : decode cX6_readText 249 = .ok (.getfield 63, 3) := by decide +kernel
theorem dX6_readText_252 : decode cX6_readText 252 = .ok (.putfield 60, 3) := by decide +kernel
theorem dX6_readText_255 : decode cX6_readText 255 = .ok (.goto (-193), 3) := by decide +kernel
theorem dX6_readText_258 : decode cX6_readText 258 = .ok (.aload_n 0, 1) := by decide +kernel
theorem dX6_readText_259 : decode cX6_readText 259 = .ok (.getfield 60, 3) := by decide +kernel
theorem dX6_readText_262 : decode cX6_readText 262 = .ok (.ireturn, 1) := by decide +kernel
theorem dX6_fault_0 : decode cX6_fault 0 = .ok (.aload_n 0, 1) := by decide +kernel
theorem dX6_fault_1 : decode cX6_fault 1 = .ok (.invokevirtual 76, 3) := by decide +kernel
theorem dX6_fault_4 : decode cX6_fault 4 = .ok (.ireturn, 1) := by decide +kernel
theorem dX6_walk_0 : decode cX6_walk 0 = .ok (.aload_n 0, 1) := by decide +kernel
theorem dX6_walk_1 : decode cX6_walk 1 = .ok (.invokevirtual 76, 3) := by decide +kernel
theorem dX6_walk_4 : decode cX6_walk 4 = .ok (.bipush (-9), 2) := by decide +kernel
theorem dX6_walk_6 : decode cX6_walk 6 = .ok (.if_icmp .eq 6, 3) := by decide +kernel
theorem dX6_walk_9 : decode cX6_walk 9 = .ok (.bipush (-3), 2) := by decide +kernel
theorem dX6_walk_11 : decode cX6_walk 11 = .ok (.ireturn, 1) := by decide +kernel
theorem dX6_walk_12 : decode cX6_walk 12 = .ok (.aload_n 0, 1) := by decide +kernel
theorem dX6_walk_13 : decode cX6_walk 13 = .ok (.aload_n 0, 1) := by decide +kernel
theorem dX6_walk_14 : decode cX6_walk 14 = .ok (.getfield 66, 3) := by decide +kernel
theorem dX6_walk_17 : decode cX6_walk 17 = .ok (.putfield 80, 3) := by decide +kernel
theorem dX6_walk_20 : decode cX6_walk 20 = .ok (.aload_n 0, 1) := by decide +kernel
theorem dX6_walk_21 : decode cX6_walk 21 = .ok (.aload_n 0, 1) := by decide +kernel
theorem dX6_walk_22 : decode cX6_walk 22 = .ok (.getfield 69, 3) := by decide +kernel
theorem dX6_walk_25 : decode cX6_walk 25 = .ok (.putfield 83, 3) := by decide +kernel
theorem dX6_walk_28 : decode cX6_walk 28 = .ok (.iconst 0, 1) := by decide +kernel
theorem dX6_walk_29 : decode cX6_walk 29 = .ok (.istore_n 1, 1) := by decide +kernel
theorem dX6_walk_30 : decode cX6_walk 30 = .ok (.iload_n 1, 1) := by decide +kernel
theorem dX6_walk_31 : decode cX6_walk 31 = .ok (.bipush 10, 2) := by decide +kernel
theorem dX6_walk_33 : decode cX6_walk 33 = .ok (.if_icmp .ge 16, 3) := by decide +kernel
theorem dX6_walk_36 : decode cX6_walk 36 = .ok (.aload_n 0, 1) := by decide +kernel
theorem dX6_walk_37 : decode cX6_walk 37 = .ok (.getfield 19, 3) := by decide +kernel
theorem dX6_walk_40 : decode cX6_walk 40 = .ok (.iload_n 1, 1) := by decide +kernel
theorem dX6_walk_41 : decode cX6_walk 41 = .ok (.iconst 0, 1) := by decide +kernel
theorem dX6_walk_42 : decode cX6_walk 42 = .ok (.iastore, 1) := by decide +kernel
theorem dX6_walk_43 : decode cX6_walk 43 = .ok (.iinc 1 1, 3) := by decide +kernel
theorem dX6_walk_46 : decode cX6_walk 46 = .ok (.goto (-16), 3) := by decide +kernel
theorem dX6_walk_49 : decode cX6_walk 49 = .ok (.iconst 0, 1) := by decide +kernel
theorem dX6_walk_50 : decode cX6_walk 50 = .ok (.istore_n 1, 1) := by decide +kernel
theorem dX6_walk_51 : decode cX6_walk 51 = .ok (.iload_n 1, 1) := by decide +kernel
theorem dX6_walk_52 : decode cX6_walk 52 = .ok (.aload_n 0, 1) := by decide +kernel
theorem dX6_walk_53 : decode cX6_walk 53 = .ok (.getfield 80, 3) := by decide +kernel
theorem dX6_walk_56 : decode cX6_walk 56 = .ok (.if_icmp .ge 39, 3) := by decide +kernel
theorem dX6_walk_59 : decode cX6_walk 59 = .ok (.aload_n 0, 1) := by decide +kernel
theorem dX6_walk_60 : decode cX6_walk 60 = .ok (.getfield 19, 3) := by decide +kernel
theorem dX6_walk_63 : decode cX6_walk 63 = .ok (.iload_n 1, 1) := by decide +kernel
theorem dX6_walk_64 : decode cX6_walk 64 = .ok (.aload_n 0, 1) := by decide +kernel
theorem dX6_walk_65 : decode cX6_walk 65 = .ok (.getfield 22, 3) := by decide +kernel
theorem dX6_walk_68 : decode cX6_walk 68 = .ok (.iconst 2, 1) := by decide +kernel
theorem dX6_walk_69 : decode cX6_walk 69 = .ok (.iload_n 1, 1) := by decide +kernel
theorem dX6_walk_70 : decode cX6_walk 70 = .ok (.imul, 1) := by decide +kernel
theorem dX6_walk_71 : decode cX6_walk 71 = .ok (.iaload, 1) := by decide +kernel
theorem dX6_walk_72 : decode cX6_walk 72 = .ok (.iastore, 1) := by decide +kernel
theorem dX6_walk_73 : decode cX6_walk 73 = .ok (.aload_n 0, 1) := by decide +kernel
theorem dX6_walk_74 : decode cX6_walk 74 = .ok (.getfield 7, 3) := by decide +kernel
theorem dX6_walk_77 : decode cX6_walk 77 = .ok (.iload_n 1, 1) := by decide +kernel
theorem dX6_walk_78 : decode cX6_walk 78 = .ok (.aload_n 0, 1) := by decide +kernel
theorem dX6_walk_79 : decode cX6_walk 79 = .ok (.getfield 22, 3) := by decide +kernel
theorem dX6_walk_82 : decode cX6_walk 82 = .ok (.iconst 2, 1) := by decide +kernel
theorem dX6_walk_83 : decode cX6_walk 83 = .ok (.iload_n 1, 1) := by decide +kernel
theorem dX6_walk_84 : decode cX6_walk 84 = .ok (.imul, 1) := by decide +kernel
theorem dX6_walk_85 : decode cX6_walk 85 = .ok (.iconst 1, 1) := by decide +kernel
theorem dX6_walk_86 : decode cX6_walk 86 = .ok (.iadd, 1) := by decide +kernel
theorem dX6_walk_87 : decode cX6_walk 87 = .ok (.iaload, 1) := by decide +kernel
theorem dX6_walk_88 : decode cX6_walk 88 = .ok (.iastore, 1) := by decide +kernel
theorem dX6_walk_89 : decode cX6_walk 89 = .ok (.iinc 1 1, 3) := by decide +kernel
theorem dX6_walk_92 : decode cX6_walk 92 = .ok (.goto (-41), 3) := by decide +kernel
theorem dX6_walk_95 : decode cX6_walk 95 = .ok (.iconst 0, 1) := by decide +kernel
theorem dX6_walk_96 : decode cX6_walk 96 = .ok (.istore_n 1, 1) := by decide +kernel
theorem dX6_walk_97 : decode cX6_walk 97 = .ok (.iload_n 1, 1) := by decide +kernel
theorem dX6_walk_98 : decode cX6_walk 98 = .ok (.aload_n 0, 1) := by decide +kernel
theorem dX6_walk_99 : decode cX6_walk 99 = .ok (.getfield 83, 3) := by decide +kernel
theorem dX6_walk_102 : decode cX6_walk 102 = .ok (.if_icmp .ge 39, 3) := by decide +kernel
theorem dX6_walk_105 : decode cX6_walk 105 = .ok (.aload_n 0, 1) := by decide +kernel
theorem dX6_walk_106 : decode cX6_walk 106 = .ok (.getfield 13, 3) := by decide +kernel
theorem dX6_walk_109 : decode cX6_walk 109 = .ok (.iload_n 1, 1) := by decide +kernel
theorem dX6_walk_110 : decode cX6_walk 110 = .ok (.aload_n 0, 1) := by decide +kernel
theorem dX6_walk_111 : decode cX6_walk 111 = .ok (.getfield 25, 3) := by decide +kernel
theorem dX6_walk_114 : decode cX6_walk 114 = .ok (.iconst 2, 1) := by decide +kernel
theorem dX6_walk_115 : decode cX6_walk 115 = .ok (.iload_n 1, 1) := by decide +kernel
theorem dX6_walk_116 : decode cX6_walk 116 = .ok (.imul, 1) := by decide +kernel
theorem dX6_walk_117 : decode cX6_walk 117 = .ok (.iaload, 1) := by decide +kernel
theorem dX6_walk_118 : decode cX6_walk 118 = .ok (.iastore, 1) := by decide +kernel
theorem dX6_walk_119 : decode cX6_walk 119 = .ok (.aload_n 0, 1) := by decide +kernel
theorem dX6_walk_120 : decode cX6_walk 120 = .ok (.getfield 16, 3) := by decide +kernel
theorem dX6_walk_123 : decode cX6_walk 123 = .ok (.iload_n 1, 1) := by decide +kernel
theorem dX6_walk_124 : decode cX6_walk 124 = .ok (.aload_n 0, 1) := by decide +kernel
theorem dX6_walk_125 : decode cX6_walk 125 = .ok (.getfield 25, 3) := by decide +kernel
theorem dX6_walk_128 : decode cX6_walk 128 = .ok (.iconst 2, 1) := by decide +kernel
theorem dX6_walk_129 : decode cX6_walk 129 = .ok (.iload_n 1, 1) := by decide +kernel
theorem dX6_walk_130 : decode cX6_walk 130 = .ok (.imul, 1) := by decide +kernel
theorem dX6_walk_131 : decode cX6_walk 131 = .ok (.iconst 1, 1) := by decide +kernel
theorem dX6_walk_132 : decode cX6_walk 132 = .ok (.iadd, 1) := by decide +kernel
theorem dX6_walk_133 : decode cX6_walk 133 = .ok (.iaload, 1) := by decide +kernel
theorem dX6_walk_134 : decode cX6_walk 134 = .ok (.iastore, 1) := by decide +kernel
theorem dX6_walk_135 : decode cX6_walk 135 = .ok (.iinc 1 1, 3) := by decide +kernel
theorem dX6_walk_138 : decode cX6_walk 138 = .ok (.goto (-41), 3) := by decide +kernel
theorem dX6_walk_141 : decode cX6_walk 141 = .ok (.aload_n 0, 1) := by decide +kernel
theorem dX6_walk_142 : decode cX6_walk 142 = .ok (.getfield 19, 3) := by decide +kernel
theorem dX6_walk_145 : decode cX6_walk 145 = .ok (.iconst 4, 1) := by decide +kernel
theorem dX6_walk_146 : decode cX6_walk 146 = .ok (.aload_n 0, 1) := by decide +kernel
theorem dX6_walk_147 : decode cX6_walk 147 = .ok (.getfield 28, 3) := by decide +kernel
theorem dX6_walk_150 : decode cX6_walk 150 = .ok (.iconst 1, 1) := by decide +kernel
theorem dX6_walk_151 : decode cX6_walk 151 = .ok (.iaload, 1) := by decide +kernel
theorem dX6_walk_152 : decode cX6_walk 152 = .ok (.bipush 48, 2) := by decide +kernel
theorem dX6_walk_154 : decode cX6_walk 154 = .ok (.isub, 1) := by decide +kernel
theorem dX6_walk_155 : decode cX6_walk 155 = .ok (.iastore, 1) := by decide +kernel
theorem dX6_walk_156 : decode cX6_walk 156 = .ok (.aload_n 0, 1) := by decide +kernel
theorem dX6_walk_157 : decode cX6_walk 157 = .ok (.getfield 19, 3) := by decide +kernel
theorem dX6_walk_160 : decode cX6_walk 160 = .ok (.iconst 5, 1) := by decide +kernel
theorem dX6_walk_161 : decode cX6_walk 161 = .ok (.aload_n 0, 1) := by decide +kernel
theorem dX6_walk_162 : decode cX6_walk 162 = .ok (.getfield 28, 3) := by decide +kernel
theorem dX6_walk_165 : decode cX6_walk 165 = .ok (.iconst 2, 1) := by decide +kernel
theorem dX6_walk_166 : decode cX6_walk 166 = .ok (.iaload, 1) := by decide +kernel
theorem dX6_walk_167 : decode cX6_walk 167 = .ok (.bipush 48, 2) := by decide +kernel
theorem dX6_walk_169 : decode cX6_walk 169 = .ok (.isub, 1) := by decide +kernel
theorem dX6_walk_170 : decode cX6_walk 170 = .ok (.iastore, 1) := by decide +kernel
theorem dX6_walk_171 : decode cX6_walk 171 = .ok (.aload_n 0, 1) := by decide +kernel
theorem dX6_walk_172 : decode cX6_walk 172 = .ok (.getfield 19, 3) := by decide +kernel
theorem dX6_walk_175 : decode cX6_walk 175 = .ok (.bipush 6, 2) := by decide +kernel
theorem dX6_walk_177 : decode cX6_walk 177 = .ok (.bipush (-9), 2) := by decide +kernel
theorem dX6_walk_179 : decode cX6_walk 179 = .ok (.iastore, 1) := by decide +kernel
theorem dX6_walk_180 : decode cX6_walk 180 = .ok (.aload_n 0, 1) := by decide +kernel
theorem dX6_walk_181 : decode cX6_walk 181 = .ok (.iconst 0, 1) := by decide +kernel
theorem dX6_walk_182 : decode cX6_walk 182 = .ok (.putfield 86, 3) := by decide +kernel
theorem dX6_walk_185 : decode cX6_walk 185 = .ok (.aload_n 0, 1) := by decide +kernel
theorem dX6_walk_186 : decode cX6_walk 186 = .ok (.getfield 43, 3) := by decide +kernel
theorem dX6_walk_189 : decode cX6_walk 189 = .ok (.iconst 0, 1) := by decide +kernel
theorem dX6_walk_190 : decode cX6_walk 190 = .ok (.iconst 0, 1) := by decide +kernel
theorem dX6_walk_191 : decode cX6_walk 191 = .ok (.bastore, 1) := by decide +kernel
theorem dX6_walk_192 : decode cX6_walk 192 = .ok (.aload_n 0, 1) := by decide +kernel
theorem dX6_walk_193 : decode cX6_walk 193 = .ok (.getfield 43, 3) := by decide +kernel
theorem dX6_walk_196 : decode cX6_walk 196 = .ok (.iconst 1, 1) := by decide +kernel
theorem dX6_walk_197 : decode cX6_walk 197 = .ok (.iconst 0, 1) := by decide +kernel
theorem dX6_walk_198 : decode cX6_walk 198 = .ok (.bastore, 1) := by decide +kernel
theorem dX6_walk_199 : decode cX6_walk 199 = .ok (.bipush 10, 2) := by decide +kernel
theorem dX6_walk_201 : decode cX6_walk 201 = .ok (.aload_n 0, 1) := by decide +kernel
theorem dX6_walk_202 : decode cX6_walk 202 = .ok (.getfield 80, 3) := by decide +kernel
theorem dX6_walk_205 : decode cX6_walk 205 = .ok (.imul, 1) := by decide +kernel
theorem dX6_walk_206 : decode cX6_walk 206 = .ok (.aload_n 0, 1) := by decide +kernel
theorem dX6_walk_207 : decode cX6_walk 207 = .ok (.getfield 83, 3) := by decide +kernel
theorem dX6_walk_210 : decode cX6_walk 210 = .ok (.iadd, 1) := by decide +kernel
theorem dX6_walk_211 : decode cX6_walk 211 = .ok (.ireturn, 1) := by decide +kernel
theorem dX6_isWord_0 : decode cX6_isWord 0 = .ok (.iload_n 1, 1) := by decide +kernel
theorem dX6_isWord_1 : decode cX6_isWord 1 = .ok (.i2l, 1) := by decide +kernel
theorem dX6_isWord_2 : decode cX6_isWord 2 = .ok (.lconst 0, 1) := by decide +kernel
theorem dX6_isWord_3 : decode cX6_isWord 3 = .ok (.aload_n 0, 1) := by decide +kernel
theorem dX6_isWord_4 : decode cX6_isWord 4 = .ok (.getfield 80, 3) := by decide +kernel
theorem dX6_isWord_7 : decode cX6_isWord 7 = .ok (.iconst 1, 1) := by decide +kernel
theorem dX6_isWord_8 : decode cX6_isWord 8 = .ok (.isub, 1) := by decide +kernel
theorem dX6_isWord_9 : decode cX6_isWord 9 = .ok (.i2l, 1) := by decide +kernel
theorem dX6_isWord_10 : decode cX6_isWord 10 = .ok (.invokestatic 52, 3) := by decide +kernel
theorem dX6_isWord_13 : decode cX6_isWord 13 = .ok (.ireturn, 1) := by decide +kernel
theorem dX6_pullAt_0 : decode cX6_pullAt 0 = .ok (.iconst 0, 1) := by decide +kernel
theorem dX6_pullAt_1 : decode cX6_pullAt 1 = .ok (.istore_n 3, 1) := by decide +kernel
theorem dX6_pullAt_2 : decode cX6_pullAt 2 = .ok (.iconst 0, 1) := by decide +kernel
theorem dX6_pullAt_3 : decode cX6_pullAt 3 = .ok (.istore 4, 2) := by decide +kernel
theorem dX6_pullAt_5 : decode cX6_pullAt 5 = .ok (.iload 4, 2) := by decide +kernel
theorem dX6_pullAt_7 : decode cX6_pullAt 7 = .ok (.aload_n 0, 1) := by decide +kernel
theorem dX6_pullAt_8 : decode cX6_pullAt 8 = .ok (.getfield 83, 3) := by decide +kernel
theorem dX6_pullAt_11 : decode cX6_pullAt 11 = .ok (.if_icmp .ge 73, 3) := by decide +kernel
theorem dX6_pullAt_14 : decode cX6_pullAt 14 = .ok (.aload_n 0, 1) := by decide +kernel
theorem dX6_pullAt_15 : decode cX6_pullAt 15 = .ok (.getfield 16, 3) := by decide +kernel
theorem dX6_pullAt_18 : decode cX6_pullAt 18 = .ok (.iload 4, 2) := by decide +kernel
theorem dX6_pullAt_20 : decode cX6_pullAt 20 = .ok (.iaload, 1) := by decide +kernel
theorem dX6_pullAt_21 : decode cX6_pullAt 21 = .ok (.iload_n 1, 1) := by decide +kernel
theorem dX6_pullAt_22 : decode cX6_pullAt 22 = .ok (.aload_n 0, 1) := by decide +kernel
theorem dX6_pullAt_23 : decode cX6_pullAt 23 = .ok (.getfield 13, 3) := by decide +kernel
theorem dX6_pullAt_26 : decode cX6_pullAt 26 = .ok (.iload 4, 2) := by decide +kernel
theorem dX6_pullAt_28 : decode cX6_pullAt 28 = .ok (.iaload, 1) := by decide +kernel
theorem dX6_pullAt_29 : decode cX6_pullAt 29 = .ok (.if_icmp .le 15, 3) := by decide +kernel
theorem dX6_pullAt_32 : decode cX6_pullAt 32 = .ok (.iload_n 1, 1) := by decide +kernel
theorem dX6_pullAt_33 : decode cX6_pullAt 33 = .ok (.aload_n 0, 1) := by decide +kernel
theorem dX6_pullAt_34 : decode cX6_pullAt 34 = .ok (.getfield 13, 3) := by decide +kernel
theorem dX6_pullAt_37 : decode cX6_pullAt 37 = .ok (.iload 4, 2) := by decide +kernel
theorem dX6_pullAt_39 : decode cX6_pullAt 39 = .ok (.iaload, 1) := by decide +kernel
theorem dX6_pullAt_40 : decode cX6_pullAt 40 = .ok (.isub, 1) := by decide +kernel
theorem dX6_pullAt_41 : decode cX6_pullAt 41 = .ok (.goto 12, 3) := by decide +kernel
theorem dX6_pullAt_44 : decode cX6_pullAt 44 = .ok (.aload_n 0, 1) := by decide +kernel
theorem dX6_pullAt_45 : decode cX6_pullAt 45 = .ok (.getfield 13, 3) := by decide +kernel
theorem dX6_pullAt_48 : decode cX6_pullAt 48 = .ok (.iload 4, 2) := by decide +kernel
theorem dX6_pullAt_50 : decode cX6_pullAt 50 = .ok (.iaload, 1) := by decide +kernel
theorem dX6_pullAt_51 : decode cX6_pullAt 51 = .ok (.iload_n 1, 1) := by decide +kernel
theorem dX6_pullAt_52 : decode cX6_pullAt 52 = .ok (.isub, 1) := by decide +kernel
theorem dX6_pullAt_53 : decode cX6_pullAt 53 = .ok (.isub, 1) := by decide +kernel
theorem dX6_pullAt_54 : decode cX6_pullAt 54 = .ok (.istore 5, 2) := by decide +kernel
theorem dX6_pullAt_56 : decode cX6_pullAt 56 = .ok (.iload_n 2, 1) := by decide +kernel
theorem dX6_pullAt_57 : decode cX6_pullAt 57 = .ok (.iload 4, 2) := by decide +kernel
theorem dX6_pullAt_59 : decode cX6_pullAt 59 = .ok (.invokestatic 89, 3) := by decide +kernel
theorem dX6_pullAt_62 : decode cX6_pullAt 62 = .ok (.ifCond .eq 14, 3) := by decide +kernel
theorem dX6_pullAt_65 : decode cX6_pullAt 65 = .ok (.iload 5, 2) := by decide +kernel
theorem dX6_pullAt_67 : decode cX6_pullAt 67 = .ok (.iload_n 3, 1) := by decide +kernel
theorem dX6_pullAt_68 : decode cX6_pullAt 68 = .ok (.if_icmp .le 8, 3) := by decide +kernel
theorem dX6_pullAt_71 : decode cX6_pullAt 71 = .ok (.iload 5, 2) := by decide +kernel
theorem dX6_pullAt_73 : decode cX6_pullAt 73 = .ok (.goto 4, 3) := by decide +kernel
theorem dX6_pullAt_76 : decode cX6_pullAt 76 = .ok (.iload_n 3, 1) := by decide +kernel
theorem dX6_pullAt_77 : decode cX6_pullAt 77 = .ok (.istore_n 3, 1) := by decide +kernel
theorem dX6_pullAt_78 : decode cX6_pullAt 78 = .ok (.iinc 4 1, 3) := by decide +kernel
theorem dX6_pullAt_81 : decode cX6_pullAt 81 = .ok (.goto (-76), 3) := by decide +kernel
theorem dX6_pullAt_84 : decode cX6_pullAt 84 = .ok (.iload_n 3, 1) := by decide +kernel
theorem dX6_pullAt_85 : decode cX6_pullAt 85 = .ok (.ireturn, 1) := by decide +kernel
theorem dX6_power_0 : decode cX6_power 0 = .ok (.iload_n 1, 1) := by decide +kernel
theorem dX6_power_1 : decode cX6_power 1 = .ok (.aload_n 0, 1) := by decide +kernel
theorem dX6_power_2 : decode cX6_power 2 = .ok (.getfield 19, 3) := by decide +kernel
theorem dX6_power_5 : decode cX6_power 5 = .ok (.bipush 7, 2) := by decide +kernel
theorem dX6_power_7 : decode cX6_power 7 = .ok (.iaload, 1) := by decide +kernel
theorem dX6_power_8 : decode cX6_power 8 = .ok (.iadd, 1) := by decide +kernel
theorem dX6_power_9 : decode cX6_power 9 = .ok (.iload_n 3, 1) := by decide +kernel
theorem dX6_power_10 : decode cX6_power 10 = .ok (.aload_n 0, 1) := by decide +kernel
theorem dX6_power_11 : decode cX6_power 11 = .ok (.getfield 7, 3) := by decide +kernel
theorem dX6_power_14 : decode cX6_power 14 = .ok (.iload_n 2, 1) := by decide +kernel
theorem dX6_power_15 : decode cX6_power 15 = .ok (.iaload, 1) := by decide +kernel
theorem dX6_power_16 : decode cX6_power 16 = .ok (.iconst 1, 1) := by decide +kernel
theorem dX6_power_17 : decode cX6_power 17 = .ok (.if_icmp .ne 7, 3) := by decide +kernel
theorem dX6_power_20 : decode cX6_power 20 = .ok (.iconst 4, 1) := by decide +kernel
theorem dX6_power_21 : decode cX6_power 21 = .ok (.goto 4, 3) := by decide +kernel
theorem dX6_power_24 : decode cX6_power 24 = .ok (.iconst 2, 1) := by decide +kernel
theorem dX6_power_25 : decode cX6_power 25 = .ok (.idiv, 1) := by decide +kernel
theorem dX6_power_26 : decode cX6_power 26 = .ok (.isub, 1) := by decide +kernel
theorem dX6_power_27 : decode cX6_power 27 = .ok (.ireturn, 1) := by decide +kernel
theorem dX6_comesBy_0 : decode cX6_comesBy 0 = .ok (.aload_n 0, 1) := by decide +kernel
theorem dX6_comesBy_1 : decode cX6_comesBy 1 = .ok (.iload_n 1, 1) := by decide +kernel
theorem dX6_comesBy_2 : decode cX6_comesBy 2 = .ok (.iload_n 2, 1) := by decide +kernel
theorem dX6_comesBy_3 : decode cX6_comesBy 3 = .ok (.iload_n 3, 1) := by decide +kernel
theorem dX6_comesBy_4 : decode cX6_comesBy 4 = .ok (.invokevirtual 93, 3) := by decide +kernel
theorem dX6_comesBy_7 : decode cX6_comesBy 7 = .ok (.istore 5, 2) := by decide +kernel
theorem dX6_comesBy_9 : decode cX6_comesBy 9 = .ok (.iload 5, 2) := by decide +kernel
theorem dX6_comesBy_11 : decode cX6_comesBy 11 = .ok (.ifCond .le 19, 3) := by decide +kernel
theorem dX6_comesBy_14 : decode cX6_comesBy 14 = .ok (.iload 5, 2) := by decide +kernel
theorem dX6_comesBy_16 : decode cX6_comesBy 16 = .ok (.aload_n 0, 1) := by decide +kernel
theorem dX6_comesBy_17 : decode cX6_comesBy 17 = .ok (.iload_n 3, 1) := by decide +kernel
theorem dX6_comesBy_18 : decode cX6_comesBy 18 = .ok (.iload 4, 2) := by decide +kernel
theorem dX6_comesBy_20 : decode cX6_comesBy 20 = .ok (.invokevirtual 97, 3) := by decide +kernel
theorem dX6_comesBy_23 : decode cX6_comesBy 23 = .ok (.if_icmp .lt 7, 3) := by decide +kernel
theorem dX6_comesBy_26 : decode cX6_comesBy 26 = .ok (.iconst 1, 1) := by decide +kernel
theorem dX6_comesBy_27 : decode cX6_comesBy 27 = .ok (.goto 4, 3) := by decide +kernel
theorem dX6_comesBy_30 : decode cX6_comesBy 30 = .ok (.iconst 0, 1) := by decide +kernel
theorem dX6_comesBy_31 : decode cX6_comesBy 31 = .ok (.ireturn, 1) := by decide +kernel
theorem dX6_comesNow_0 : decode cX6_comesNow 0 = .ok (.aload_n 0, 1) := by decide +kernel
theorem dX6_comesNow_1 : decode cX6_comesNow 1 = .ok (.aload_n 0, 1) := by decide +kernel
theorem dX6_comesNow_2 : decode cX6_comesNow 2 = .ok (.getfield 19, 3) := by decide +kernel
theorem dX6_comesNow_5 : decode cX6_comesNow 5 = .ok (.iload_n 1, 1) := by decide +kernel
theorem dX6_comesNow_6 : decode cX6_comesNow 6 = .ok (.iaload, 1) := by decide +kernel
theorem dX6_comesNow_7 : decode cX6_comesNow 7 = .ok (.iload_n 1, 1) := by decide +kernel
theorem dX6_comesNow_8 : decode cX6_comesNow 8 = .ok (.iload_n 2, 1) := by decide +kernel
theorem dX6_comesNow_9 : decode cX6_comesNow 9 = .ok (.bipush 15, 2) := by decide +kernel
theorem dX6_comesNow_11 : decode cX6_comesNow 11 = .ok (.invokevirtual 100, 3) := by decide +kernel
theorem dX6_comesNow_14 : decode cX6_comesNow 14 = .ok (.ireturn, 1) := by decide +kernel
theorem dX6_farOf_0 : decode cX6_farOf 0 = .ok (.bipush (-9), 2) := by decide +kernel
theorem dX6_farOf_2 : decode cX6_farOf 2 = .ok (.istore_n 2, 1) := by decide +kernel
theorem dX6_farOf_3 : decode cX6_farOf 3 = .ok (.iconst 0, 1) := by decide +kernel
theorem dX6_farOf_4 : decode cX6_farOf 4 = .ok (.istore_n 3, 1) := by decide +kernel
theorem dX6_farOf_5 : decode cX6_farOf 5 = .ok (.iload_n 3, 1) := by decide +kernel
theorem dX6_farOf_6 : decode cX6_farOf 6 = .ok (.bipush 10, 2) := by decide +kernel
theorem dX6_farOf_8 : decode cX6_farOf 8 = .ok (.if_icmp .ge 24, 3) := by decide +kernel
theorem dX6_farOf_11 : decode cX6_farOf 11 = .ok (.aload_n 0, 1) := by decide +kernel
theorem dX6_farOf_12 : decode cX6_farOf 12 = .ok (.iload_n 1, 1) := by decide +kernel
theorem dX6_farOf_13 : decode cX6_farOf 13 = .ok (.iload_n 3, 1) := by decide +kernel
theorem dX6_farOf_14 : decode cX6_farOf 14 = .ok (.invokevirtual 104, 3) := by decide +kernel
theorem dX6_farOf_17 : decode cX6_farOf 17 = .ok (.ifCond .eq 7, 3) := by decide +kernel
theorem dX6_farOf_20 : decode cX6_farOf 20 = .ok (.iload_n 3, 1) := by decide +kernel
theorem dX6_farOf_21 : decode cX6_farOf 21 = .ok (.goto 4, 3) := by decide +kernel
theorem dX6_farOf_24 : decode cX6_farOf 24 = .ok (.iload_n 2, 1) := by decide +kernel
theorem dX6_farOf_25 : decode cX6_farOf 25 = .ok (.istore_n 2, 1) := by decide +kernel
theorem dX6_farOf_26 : decode cX6_farOf 26 = .ok (.iinc 3 1, 3) := by decide +kernel
theorem dX6_farOf_29 : decode cX6_farOf 29 = .ok (.goto (-24), 3) := by decide +kernel
theorem dX6_farOf_32 : decode cX6_farOf 32 = .ok (.iload_n 2, 1) := by decide +kernel
theorem dX6_farOf_33 : decode cX6_farOf 33 = .ok (.ireturn, 1) := by decide +kernel
theorem dX6_wears_0 : decode cX6_wears 0 = .ok (.aload_n 0, 1) := by decide +kernel
theorem dX6_wears_1 : decode cX6_wears 1 = .ok (.getfield 7, 3) := by decide +kernel
theorem dX6_wears_4 : decode cX6_wears 4 = .ok (.iload_n 1, 1) := by decide +kernel
theorem dX6_wears_5 : decode cX6_wears 5 = .ok (.iaload, 1) := by decide +kernel
theorem dX6_wears_6 : decode cX6_wears 6 = .ok (.iconst 2, 1) := by decide +kernel
theorem dX6_wears_7 : decode cX6_wears 7 = .ok (.if_icmp .ne 7, 3) := by decide +kernel
theorem dX6_wears_10 : decode cX6_wears 10 = .ok (.iconst 2, 1) := by decide +kernel
theorem dX6_wears_11 : decode cX6_wears 11 = .ok (.goto 4, 3) := by decide +kernel
theorem dX6_wears_14 : decode cX6_wears 14 = .ok (.iconst 1, 1) := by decide +kernel
theorem dX6_wears_15 : decode cX6_wears 15 = .ok (.ireturn, 1) := by decide +kernel
theorem dX6_word_0 : decode cX6_word 0 = .ok (.aload_n 0, 1) := by decide +kernel
theorem dX6_word_1 : decode cX6_word 1 = .ok (.iload_n 1, 1) := by decide +kernel
theorem dX6_word_2 : decode cX6_word 2 = .ok (.invokevirtual 107, 3) := by decide +kernel
theorem dX6_word_5 : decode cX6_word 5 = .ok (.ifCond .ne 5, 3) := by decide +kernel
theorem dX6_word_8 : decode cX6_word 8 = .ok (.iconst (-1), 1) := by decide +kernel
theorem dX6_word_9 : decode cX6_word 9 = .ok (.ireturn, 1) := by decide +kernel
theorem dX6_word_10 : decode cX6_word 10 = .ok (.iload_n 2, 1) := by decide +kernel
theorem dX6_word_11 : decode cX6_word 11 = .ok (.tableswitch 116 0 5 #[37, 44, 51, 69, 89, 95], 37) := by decide +kernel
theorem dX6_word_48 : decode cX6_word 48 = .ok (.aload_n 0, 1) := by decide +kernel
theorem dX6_word_49 : decode cX6_word 49 = .ok (.getfield 19, 3) := by decide +kernel
theorem dX6_word_52 : decode cX6_word 52 = .ok (.iload_n 1, 1) := by decide +kernel
theorem dX6_word_53 : decode cX6_word 53 = .ok (.iaload, 1) := by decide +kernel
theorem dX6_word_54 : decode cX6_word 54 = .ok (.ireturn, 1) := by decide +kernel
theorem dX6_word_55 : decode cX6_word 55 = .ok (.aload_n 0, 1) := by decide +kernel
theorem dX6_word_56 : decode cX6_word 56 = .ok (.getfield 7, 3) := by decide +kernel
theorem dX6_word_59 : decode cX6_word 59 = .ok (.iload_n 1, 1) := by decide +kernel
theorem dX6_word_60 : decode cX6_word 60 = .ok (.iaload, 1) := by decide +kernel
theorem dX6_word_61 : decode cX6_word 61 = .ok (.ireturn, 1) := by decide +kernel
theorem dX6_word_62 : decode cX6_word 62 = .ok (.aload_n 0, 1) := by decide +kernel
theorem dX6_word_63 : decode cX6_word 63 = .ok (.aload_n 0, 1) := by decide +kernel
theorem dX6_word_64 : decode cX6_word 64 = .ok (.getfield 19, 3) := by decide +kernel
theorem dX6_word_67 : decode cX6_word 67 = .ok (.iload_n 1, 1) := by decide +kernel
theorem dX6_word_68 : decode cX6_word 68 = .ok (.iaload, 1) := by decide +kernel
theorem dX6_word_69 : decode cX6_word 69 = .ok (.iload_n 1, 1) := by decide +kernel
theorem dX6_word_70 : decode cX6_word 70 = .ok (.aload_n 0, 1) := by decide +kernel
theorem dX6_word_71 : decode cX6_word 71 = .ok (.getfield 19, 3) := by decide +kernel
theorem dX6_word_74 : decode cX6_word 74 = .ok (.iconst 5, 1) := by decide +kernel
theorem dX6_word_75 : decode cX6_word 75 = .ok (.iaload, 1) := by decide +kernel
theorem dX6_word_76 : decode cX6_word 76 = .ok (.invokevirtual 93, 3) := by decide +kernel
theorem dX6_word_79 : decode cX6_word 79 = .ok (.ireturn, 1) := by decide +kernel
theorem dX6_word_80 : decode cX6_word 80 = .ok (.aload_n 0, 1) := by decide +kernel
theorem dX6_word_81 : decode cX6_word 81 = .ok (.iload_n 1, 1) := by decide +kernel
theorem dX6_word_82 : decode cX6_word 82 = .ok (.aload_n 0, 1) := by decide +kernel
theorem dX6_word_83 : decode cX6_word 83 = .ok (.getfield 19, 3) := by decide +kernel
theorem dX6_word_86 : decode cX6_word 86 = .ok (.iconst 5, 1) := by decide +kernel
theorem dX6_word_87 : decode cX6_word 87 = .ok (.iaload, 1) := by decide +kernel
theorem dX6_word_88 : decode cX6_word 88 = .ok (.invokevirtual 104, 3) := by decide +kernel
theorem dX6_word_91 : decode cX6_word 91 = .ok (.ifCond .eq 7, 3) := by decide +kernel
theorem dX6_word_94 : decode cX6_word 94 = .ok (.iconst 1, 1) := by decide +kernel
theorem dX6_word_95 : decode cX6_word 95 = .ok (.goto 4, 3) := by decide +kernel
theorem dX6_word_98 : decode cX6_word 98 = .ok (.iconst 0, 1) := by decide +kernel
theorem dX6_word_99 : decode cX6_word 99 = .ok (.ireturn, 1) := by decide +kernel
theorem dX6_word_100 : decode cX6_word 100 = .ok (.aload_n 0, 1) := by decide +kernel
theorem dX6_word_101 : decode cX6_word 101 = .ok (.iload_n 1, 1) := by decide +kernel
theorem dX6_word_102 : decode cX6_word 102 = .ok (.invokevirtual 111, 3) := by decide +kernel
theorem dX6_word_105 : decode cX6_word 105 = .ok (.ireturn, 1) := by decide +kernel
theorem dX6_word_106 : decode cX6_word 106 = .ok (.aload_n 0, 1) := by decide +kernel
theorem dX6_word_107 : decode cX6_word 107 = .ok (.getfield 19, 3) := by decide +kernel
theorem dX6_word_110 : decode cX6_word 110 = .ok (.iload_n 1, 1) := by decide +kernel
theorem dX6_word_111 : decode cX6_word 111 = .ok (.iaload, 1) := by decide +kernel
theorem dX6_word_112 : decode cX6_word 112 = .ok (.aload_n 0, 1) := by decide +kernel
theorem dX6_word_113 : decode cX6_word 113 = .ok (.iload_n 1, 1) := by decide +kernel
theorem dX6_word_114 : decode cX6_word 114 = .ok (.invokevirtual 115, 3) := by decide +kernel
theorem dX6_word_117 : decode cX6_word 117 = .ok (.iadd, 1) := by decide +kernel
theorem dX6_word_118 : decode cX6_word 118 = .ok (.iconst 1, 1) := by decide +kernel
theorem dX6_word_119 : decode cX6_word 119 = .ok (.isub, 1) := by decide +kernel
theorem dX6_word_120 : decode cX6_word 120 = .ok (.aload_n 0, 1) := by decide +kernel
theorem dX6_word_121 : decode cX6_word 121 = .ok (.iload_n 1, 1) := by decide +kernel
theorem dX6_word_122 : decode cX6_word 122 = .ok (.invokevirtual 115, 3) := by decide +kernel
theorem dX6_word_125 : decode cX6_word 125 = .ok (.idiv, 1) := by decide +kernel
theorem dX6_word_126 : decode cX6_word 126 = .ok (.ireturn, 1) := by decide +kernel
theorem dX6_word_127 : decode cX6_word 127 = .ok (.bipush (-2), 2) := by decide +kernel
theorem dX6_word_129 : decode cX6_word 129 = .ok (.ireturn, 1) := by decide +kernel
theorem dX6_thing_0 : decode cX6_thing 0 = .ok (.iload_n 1, 1) := by decide +kernel
theorem dX6_thing_1 : decode cX6_thing 1 = .ok (.i2l, 1) := by decide +kernel
theorem dX6_thing_2 : decode cX6_thing 2 = .ok (.lconst 0, 1) := by decide +kernel
theorem dX6_thing_3 : decode cX6_thing 3 = .ok (.aload_n 0, 1) := by decide +kernel
theorem dX6_thing_4 : decode cX6_thing 4 = .ok (.getfield 83, 3) := by decide +kernel
theorem dX6_thing_7 : decode cX6_thing 7 = .ok (.iconst 1, 1) := by decide +kernel
theorem dX6_thing_8 : decode cX6_thing 8 = .ok (.isub, 1) := by decide +kernel
theorem dX6_thing_9 : decode cX6_thing 9 = .ok (.i2l, 1) := by decide +kernel
theorem dX6_thing_10 : decode cX6_thing 10 = .ok (.invokestatic 52, 3) := by decide +kernel
theorem dX6_thing_13 : decode cX6_thing 13 = .ok (.ifCond .ne 5, 3) := by decide +kernel
theorem dX6_thing_16 : decode cX6_thing 16 = .ok (.iconst (-1), 1) := by decide +kernel
theorem dX6_thing_17 : decode cX6_thing 17 = .ok (.ireturn, 1) := by decide +kernel
theorem dX6_thing_18 : decode cX6_thing 18 = .ok (.iload_n 2, 1) := by decide +kernel
theorem dX6_thing_19 : decode cX6_thing 19 = .ok (.ifCond .ne 12, 3) := by decide +kernel
theorem dX6_thing_22 : decode cX6_thing 22 = .ok (.aload_n 0, 1) := by decide +kernel
theorem dX6_thing_23 : decode cX6_thing 23 = .ok (.getfield 13, 3) := by decide +kernel
theorem dX6_thing_26 : decode cX6_thing 26 = .ok (.iload_n 1, 1) := by decide +kernel
theorem dX6_thing_27 : decode cX6_thing 27 = .ok (.iaload, 1) := by decide +kernel
theorem dX6_thing_28 : decode cX6_thing 28 = .ok (.goto 19, 3) := by decide +kernel
theorem dX6_thing_31 : decode cX6_thing 31 = .ok (.iload_n 2, 1) := by decide +kernel
theorem dX6_thing_32 : decode cX6_thing 32 = .ok (.iconst 1, 1) := by decide +kernel
theorem dX6_thing_33 : decode cX6_thing 33 = .ok (.if_icmp .ne 12, 3) := by decide +kernel
theorem dX6_thing_36 : decode cX6_thing 36 = .ok (.aload_n 0, 1) := by decide +kernel
theorem dX6_thing_37 : decode cX6_thing 37 = .ok (.getfield 16, 3) := by decide +kernel
theorem dX6_thing_40 : decode cX6_thing 40 = .ok (.iload_n 1, 1) := by decide +kernel
theorem dX6_thing_41 : decode cX6_thing 41 = .ok (.iaload, 1) := by decide +kernel
theorem dX6_thing_42 : decode cX6_thing 42 = .ok (.goto 5, 3) := by decide +kernel
theorem dX6_thing_45 : decode cX6_thing 45 = .ok (.bipush (-2), 2) := by decide +kernel
theorem dX6_thing_47 : decode cX6_thing 47 = .ok (.ireturn, 1) := by decide +kernel
theorem dX6_pull_0 : decode cX6_pull 0 = .ok (.iload_n 1, 1) := by decide +kernel
theorem dX6_pull_1 : decode cX6_pull 1 = .ok (.i2l, 1) := by decide +kernel
theorem dX6_pull_2 : decode cX6_pull 2 = .ok (.lconst 0, 1) := by decide +kernel
theorem dX6_pull_3 : decode cX6_pull 3 = .ok (.ldc2_w 118, 3) := by decide +kernel
theorem dX6_pull_6 : decode cX6_pull 6 = .ok (.invokestatic 52, 3) := by decide +kernel
theorem dX6_pull_9 : decode cX6_pull 9 = .ok (.ifCond .eq 13, 3) := by decide +kernel
theorem dX6_pull_12 : decode cX6_pull 12 = .ok (.aload_n 0, 1) := by decide +kernel
theorem dX6_pull_13 : decode cX6_pull 13 = .ok (.iload_n 1, 1) := by decide +kernel
theorem dX6_pull_14 : decode cX6_pull 14 = .ok (.bipush 15, 2) := by decide +kernel
theorem dX6_pull_16 : decode cX6_pull 16 = .ok (.invokevirtual 97, 3) := by decide +kernel
theorem dX6_pull_19 : decode cX6_pull 19 = .ok (.goto 5, 3) := by decide +kernel
theorem dX6_pull_22 : decode cX6_pull 22 = .ok (.bipush (-2), 2) := by decide +kernel
theorem dX6_pull_24 : decode cX6_pull 24 = .ok (.ireturn, 1) := by decide +kernel
theorem dX6_callOn_0 : decode cX6_callOn 0 = .ok (.bipush 10, 2) := by decide +kernel
theorem dX6_callOn_2 : decode cX6_callOn 2 = .ok (.iload_n 1, 1) := by decide +kernel
theorem dX6_callOn_3 : decode cX6_callOn 3 = .ok (.imul, 1) := by decide +kernel
theorem dX6_callOn_4 : decode cX6_callOn 4 = .ok (.istore_n 3, 1) := by decide +kernel
theorem dX6_callOn_5 : decode cX6_callOn 5 = .ok (.aload_n 0, 1) := by decide +kernel
theorem dX6_callOn_6 : decode cX6_callOn 6 = .ok (.getfield 19, 3) := by decide +kernel
theorem dX6_callOn_9 : decode cX6_callOn 9 = .ok (.iload_n 3, 1) := by decide +kernel
theorem dX6_callOn_10 : decode cX6_callOn 10 = .ok (.iconst 5, 1) := by decide +kernel
theorem dX6_callOn_11 : decode cX6_callOn 11 = .ok (.iadd, 1) := by decide +kernel
theorem dX6_callOn_12 : decode cX6_callOn 12 = .ok (.iaload, 1) := by decide +kernel
theorem dX6_callOn_13 : decode cX6_callOn 13 = .ok (.istore 4, 2) := by decide +kernel
theorem dX6_callOn_15 : decode cX6_callOn 15 = .ok (.aload_n 0, 1) := by decide +kernel
theorem dX6_callOn_16 : decode cX6_callOn 16 = .ok (.getfield 19, 3) := by decide +kernel
theorem dX6_callOn_19 : decode cX6_callOn 19 = .ok (.iload_n 3, 1) := by decide +kernel
theorem dX6_callOn_20 : decode cX6_callOn 20 = .ok (.bipush 7, 2) := by decide +kernel
theorem dX6_callOn_22 : decode cX6_callOn 22 = .ok (.iadd, 1) := by decide +kernel
theorem dX6_callOn_23 : decode cX6_callOn 23 = .ok (.iaload, 1) := by decide +kernel
theorem dX6_callOn_24 : decode cX6_callOn 24 = .ok (.aload_n 0, 1) := by decide +kernel
theorem dX6_callOn_25 : decode cX6_callOn 25 = .ok (.getfield 19, 3) := by decide +kernel
theorem dX6_callOn_28 : decode cX6_callOn 28 = .ok (.bipush 7, 2) := by decide +kernel
theorem dX6_callOn_30 : decode cX6_callOn 30 = .ok (.iaload, 1) := by decide +kernel
theorem dX6_callOn_31 : decode cX6_callOn 31 = .ok (.isub, 1) := by decide +kernel
theorem dX6_callOn_32 : decode cX6_callOn 32 = .ok (.istore 5, 2) := by decide +kernel
theorem dX6_callOn_34 : decode cX6_callOn 34 = .ok (.aload_n 0, 1) := by decide +kernel
theorem dX6_callOn_35 : decode cX6_callOn 35 = .ok (.aload_n 0, 1) := by decide +kernel
theorem dX6_callOn_36 : decode cX6_callOn 36 = .ok (.getfield 19, 3) := by decide +kernel
theorem dX6_callOn_39 : decode cX6_callOn 39 = .ok (.iload_n 3, 1) := by decide +kernel
theorem dX6_callOn_40 : decode cX6_callOn 40 = .ok (.iload_n 2, 1) := by decide +kernel
theorem dX6_callOn_41 : decode cX6_callOn 41 = .ok (.iadd, 1) := by decide +kernel
theorem dX6_callOn_42 : decode cX6_callOn 42 = .ok (.iaload, 1) := by decide +kernel
theorem dX6_callOn_43 : decode cX6_callOn 43 = .ok (.iload 5, 2) := by decide +kernel
theorem dX6_callOn_45 : decode cX6_callOn 45 = .ok (.iadd, 1) := by decide +kernel
theorem dX6_callOn_46 : decode cX6_callOn 46 = .ok (.iload_n 2, 1) := by decide +kernel
theorem dX6_callOn_47 : decode cX6_callOn 47 = .ok (.iload 4, 2) := by decide +kernel
theorem dX6_callOn_49 : decode cX6_callOn 49 = .ok (.bipush 15, 2) := by decide +kernel
theorem dX6_callOn_51 : decode cX6_callOn 51 = .ok (.invokevirtual 100, 3) := by decide +kernel
theorem dX6_callOn_54 : decode cX6_callOn 54 = .ok (.istore 6, 2) := by decide +kernel
theorem dX6_callOn_56 : decode cX6_callOn 56 = .ok (.aload_n 0, 1) := by decide +kernel
theorem dX6_callOn_57 : decode cX6_callOn 57 = .ok (.getfield 19, 3) := by decide +kernel
theorem dX6_callOn_60 : decode cX6_callOn 60 = .ok (.iload_n 3, 1) := by decide +kernel
theorem dX6_callOn_61 : decode cX6_callOn 61 = .ok (.bipush 9, 2) := by decide +kernel
theorem dX6_callOn_63 : decode cX6_callOn 63 = .ok (.iadd, 1) := by decide +kernel
theorem dX6_callOn_64 : decode cX6_callOn 64 = .ok (.dup2, 1) := by decide +kernel
theorem dX6_callOn_65 : decode cX6_callOn 65 = .ok (.iaload, 1) := by decide +kernel
theorem dX6_callOn_66 : decode cX6_callOn 66 = .ok (.iconst 1, 1) := by decide +kernel
theorem dX6_callOn_67 : decode cX6_callOn 67 = .ok (.iadd, 1) := by decide +kernel
theorem dX6_callOn_68 : decode cX6_callOn 68 = .ok (.iastore, 1) := by decide +kernel
theorem dX6_callOn_69 : decode cX6_callOn 69 = .ok (.iload 6, 2) := by decide +kernel
theorem dX6_callOn_71 : decode cX6_callOn 71 = .ok (.ifCond .eq 24, 3) := by decide +kernel
theorem dX6_callOn_74 : decode cX6_callOn 74 = .ok (.aload_n 0, 1) := by decide +kernel
theorem dX6_callOn_75 : decode cX6_callOn 75 = .ok (.getfield 19, 3) := by decide +kernel
theorem dX6_callOn_78 : decode cX6_callOn 78 = .ok (.iload_n 3, 1) := by decide +kernel
theorem dX6_callOn_79 : decode cX6_callOn 79 = .ok (.iconst 5, 1) := by decide +kernel
theorem dX6_callOn_80 : decode cX6_callOn 80 = .ok (.iadd, 1) := by decide +kernel
theorem dX6_callOn_81 : decode cX6_callOn 81 = .ok (.iconst 0, 1) := by decide +kernel
theorem dX6_callOn_82 : decode cX6_callOn 82 = .ok (.iastore, 1) := by decide +kernel
theorem dX6_callOn_83 : decode cX6_callOn 83 = .ok (.aload_n 0, 1) := by decide +kernel
theorem dX6_callOn_84 : decode cX6_callOn 84 = .ok (.getfield 19, 3) := by decide +kernel
theorem dX6_callOn_87 : decode cX6_callOn 87 = .ok (.iload_n 3, 1) := by decide +kernel
theorem dX6_callOn_88 : decode cX6_callOn 88 = .ok (.bipush 6, 2) := by decide +kernel
theorem dX6_callOn_90 : decode cX6_callOn 90 = .ok (.iadd, 1) := by decide +kernel
theorem dX6_callOn_91 : decode cX6_callOn 91 = .ok (.iload_n 2, 1) := by decide +kernel
theorem dX6_callOn_92 : decode cX6_callOn 92 = .ok (.iastore, 1) := by decide +kernel
theorem dX6_callOn_93 : decode cX6_callOn 93 = .ok (.iconst 1, 1) := by decide +kernel
theorem dX6_callOn_94 : decode cX6_callOn 94 = .ok (.ireturn, 1) := by decide +kernel
theorem dX6_callOn_95 : decode cX6_callOn 95 = .ok (.aload_n 0, 1) := by decide +kernel
theorem dX6_callOn_96 : decode cX6_callOn 96 = .ok (.getfield 19, 3) := by decide +kernel
theorem dX6_callOn_99 : decode cX6_callOn 99 = .ok (.iload_n 3, 1) := by decide +kernel
theorem dX6_callOn_100 : decode cX6_callOn 100 = .ok (.iload_n 2, 1) := by decide +kernel
theorem dX6_callOn_101 : decode cX6_callOn 101 = .ok (.iadd, 1) := by decide +kernel
theorem dX6_callOn_102 : decode cX6_callOn 102 = .ok (.iaload, 1) := by decide +kernel
theorem dX6_callOn_103 : decode cX6_callOn 103 = .ok (.aload_n 0, 1) := by decide +kernel
theorem dX6_callOn_104 : decode cX6_callOn 104 = .ok (.iload_n 2, 1) := by decide +kernel
theorem dX6_callOn_105 : decode cX6_callOn 105 = .ok (.invokevirtual 115, 3) := by decide +kernel
theorem dX6_callOn_108 : decode cX6_callOn 108 = .ok (.isub, 1) := by decide +kernel
theorem dX6_callOn_109 : decode cX6_callOn 109 = .ok (.istore 7, 2) := by decide +kernel
theorem dX6_callOn_111 : decode cX6_callOn 111 = .ok (.aload_n 0, 1) := by decide +kernel
theorem dX6_callOn_112 : decode cX6_callOn 112 = .ok (.getfield 19, 3) := by decide +kernel
theorem dX6_callOn_115 : decode cX6_callOn 115 = .ok (.iload_n 3, 1) := by decide +kernel
theorem dX6_callOn_116 : decode cX6_callOn 116 = .ok (.iload_n 2, 1) := by decide +kernel
theorem dX6_callOn_117 : decode cX6_callOn 117 = .ok (.iadd, 1) := by decide +kernel
theorem dX6_callOn_118 : decode cX6_callOn 118 = .ok (.iload 7, 2) := by decide +kernel
theorem dX6_callOn_120 : decode cX6_callOn 120 = .ok (.ifCond .ge 7, 3) := by decide +kernel
theorem dX6_callOn_123 : decode cX6_callOn 123 = .ok (.iconst 0, 1) := by decide +kernel
theorem dX6_callOn_124 : decode cX6_callOn 124 = .ok (.goto 5, 3) := by decide +kernel
theorem dX6_callOn_127 : decode cX6_callOn 127 = .ok (.iload 7, 2) := by decide +kernel
theorem dX6_callOn_129 : decode cX6_callOn 129 = .ok (.iastore, 1) := by decide +kernel
theorem dX6_callOn_130 : decode cX6_callOn 130 = .ok (.aload_n 0, 1) := by decide +kernel
theorem dX6_callOn_131 : decode cX6_callOn 131 = .ok (.getfield 19, 3) := by decide +kernel
theorem dX6_callOn_134 : decode cX6_callOn 134 = .ok (.iload_n 3, 1) := by decide +kernel
theorem dX6_callOn_135 : decode cX6_callOn 135 = .ok (.bipush 6, 2) := by decide +kernel
theorem dX6_callOn_137 : decode cX6_callOn 137 = .ok (.iadd, 1) := by decide +kernel
theorem dX6_callOn_138 : decode cX6_callOn 138 = .ok (.bipush (-9), 2) := by decide +kernel
theorem dX6_callOn_140 : decode cX6_callOn 140 = .ok (.iastore, 1) := by decide +kernel
theorem dX6_callOn_141 : decode cX6_callOn 141 = .ok (.aload_n 0, 1) := by decide +kernel
theorem dX6_callOn_142 : decode cX6_callOn 142 = .ok (.getfield 19, 3) := by decide +kernel
theorem dX6_callOn_145 : decode cX6_callOn 145 = .ok (.iload_n 3, 1) := by decide +kernel
theorem dX6_callOn_146 : decode cX6_callOn 146 = .ok (.iconst 5, 1) := by decide +kernel
theorem dX6_callOn_147 : decode cX6_callOn 147 = .ok (.iadd, 1) := by decide +kernel
theorem dX6_callOn_148 : decode cX6_callOn 148 = .ok (.iload 4, 2) := by decide +kernel
theorem dX6_callOn_150 : decode cX6_callOn 150 = .ok (.bipush 9, 2) := by decide +kernel
theorem dX6_callOn_152 : decode cX6_callOn 152 = .ok (.if_icmp .ge 10, 3) := by decide +kernel
theorem dX6_callOn_155 : decode cX6_callOn 155 = .ok (.iload 4, 2) := by decide +kernel
theorem dX6_callOn_157 : decode cX6_callOn 157 = .ok (.iconst 1, 1) := by decide +kernel
theorem dX6_callOn_158 : decode cX6_callOn 158 = .ok (.iadd, 1) := by decide +kernel
theorem dX6_callOn_159 : decode cX6_callOn 159 = .ok (.goto 5, 3) := by decide +kernel
theorem dX6_callOn_162 : decode cX6_callOn 162 = .ok (.bipush 9, 2) := by decide +kernel
theorem dX6_callOn_164 : decode cX6_callOn 164 = .ok (.iastore, 1) := by decide +kernel
theorem dX6_callOn_165 : decode cX6_callOn 165 = .ok (.iconst 0, 1) := by decide +kernel
theorem dX6_callOn_166 : decode cX6_callOn 166 = .ok (.ireturn, 1) := by decide +kernel
theorem dX6_canPay_0 : decode cX6_canPay 0 = .ok (.aload_n 0, 1) := by decide +kernel
theorem dX6_canPay_1 : decode cX6_canPay 1 = .ok (.getfield 19, 3) := by decide +kernel
theorem dX6_canPay_4 : decode cX6_canPay 4 = .ok (.bipush 10, 2) := by decide +kernel
theorem dX6_canPay_6 : decode cX6_canPay 6 = .ok (.iload_n 1, 1) := by decide +kernel
theorem dX6_canPay_7 : decode cX6_canPay 7 = .ok (.imul, 1) := by decide +kernel
theorem dX6_canPay_8 : decode cX6_canPay 8 = .ok (.bipush 6, 2) := by decide +kernel
theorem dX6_canPay_10 : decode cX6_canPay 10 = .ok (.iadd, 1) := by decide +kernel
theorem dX6_canPay_11 : decode cX6_canPay 11 = .ok (.iaload, 1) := by decide +kernel
theorem dX6_canPay_12 : decode cX6_canPay 12 = .ok (.bipush (-9), 2) := by decide +kernel
theorem dX6_canPay_14 : decode cX6_canPay 14 = .ok (.if_icmp .eq 21, 3) := by decide +kernel
theorem dX6_canPay_17 : decode cX6_canPay 17 = .ok (.aload_n 0, 1) := by decide +kernel
theorem dX6_canPay_18 : decode cX6_canPay 18 = .ok (.getfield 19, 3) := by decide +kernel
theorem dX6_canPay_21 : decode cX6_canPay 21 = .ok (.bipush 10, 2) := by decide +kernel
theorem dX6_canPay_23 : decode cX6_canPay 23 = .ok (.iload_n 1, 1) := by decide +kernel
theorem dX6_canPay_24 : decode cX6_canPay 24 = .ok (.imul, 1) := by decide +kernel
theorem dX6_canPay_25 : decode cX6_canPay 25 = .ok (.iconst 4, 1) := by decide +kernel
theorem dX6_canPay_26 : decode cX6_canPay 26 = .ok (.iadd, 1) := by decide +kernel
theorem dX6_canPay_27 : decode cX6_canPay 27 = .ok (.iaload, 1) := by decide +kernel
theorem dX6_canPay_28 : decode cX6_canPay 28 = .ok (.ifCond .le 7, 3) := by decide +kernel
theorem dX6_canPay_31 : decode cX6_canPay 31 = .ok (.iconst 1, 1) := by decide +kernel
theorem dX6_canPay_32 : decode cX6_canPay 32 = .ok (.goto 4, 3) := by decide +kernel
theorem dX6_canPay_35 : decode cX6_canPay 35 = .ok (.iconst 0, 1) := by decide +kernel
theorem dX6_canPay_36 : decode cX6_canPay 36 = .ok (.ireturn, 1) := by decide +kernel
theorem dX6_payOn_0 : decode cX6_payOn 0 = .ok (.bipush 10, 2) := by decide +kernel
theorem dX6_payOn_2 : decode cX6_payOn 2 = .ok (.iload_n 1, 1) := by decide +kernel
theorem dX6_payOn_3 : decode cX6_payOn 3 = .ok (.imul, 1) := by decide +kernel
theorem dX6_payOn_4 : decode cX6_payOn 4 = .ok (.istore_n 2, 1) := by decide +kernel
theorem dX6_payOn_5 : decode cX6_payOn 5 = .ok (.aload_n 0, 1) := by decide +kernel
theorem dX6_payOn_6 : decode cX6_payOn 6 = .ok (.getfield 19, 3) := by decide +kernel
theorem dX6_payOn_9 : decode cX6_payOn 9 = .ok (.iload_n 2, 1) := by decide +kernel
theorem dX6_payOn_10 : decode cX6_payOn 10 = .ok (.bipush 6, 2) := by decide +kernel
theorem dX6_payOn_12 : decode cX6_payOn 12 = .ok (.iadd, 1) := by decide +kernel
theorem dX6_payOn_13 : decode cX6_payOn 13 = .ok (.iaload, 1) := by decide +kernel
theorem dX6_payOn_14 : decode cX6_payOn 14 = .ok (.istore_n 3, 1) := by decide +kernel
theorem dX6_payOn_15 : decode cX6_payOn 15 = .ok (.aload_n 0, 1) := by decide +kernel
theorem dX6_payOn_16 : decode cX6_payOn 16 = .ok (.getfield 19, 3) := by decide +kernel
theorem dX6_payOn_19 : decode cX6_payOn 19 = .ok (.iload_n 2, 1) := by decide +kernel
theorem dX6_payOn_20 : decode cX6_payOn 20 = .ok (.iconst 4, 1) := by decide +kernel
theorem dX6_payOn_21 : decode cX6_payOn 21 = .ok (.iadd, 1) := by decide +kernel
theorem dX6_payOn_22 : decode cX6_payOn 22 = .ok (.dup2, 1) := by decide +kernel
theorem dX6_payOn_23 : decode cX6_payOn 23 = .ok (.iaload, 1) := by decide +kernel
theorem dX6_payOn_24 : decode cX6_payOn 24 = .ok (.iconst 1, 1) := by decide +kernel
theorem dX6_payOn_25 : decode cX6_payOn 25 = .ok (.isub, 1) := by decide +kernel
theorem dX6_payOn_26 : decode cX6_payOn 26 = .ok (.iastore, 1) := by decide +kernel
theorem dX6_payOn_27 : decode cX6_payOn 27 = .ok (.aload_n 0, 1) := by decide +kernel
theorem dX6_payOn_28 : decode cX6_payOn 28 = .ok (.getfield 19, 3) := by decide +kernel
theorem dX6_payOn_31 : decode cX6_payOn 31 = .ok (.iload_n 2, 1) := by decide +kernel
theorem dX6_payOn_32 : decode cX6_payOn 32 = .ok (.iload_n 3, 1) := by decide +kernel
theorem dX6_payOn_33 : decode cX6_payOn 33 = .ok (.iadd, 1) := by decide +kernel
theorem dX6_payOn_34 : decode cX6_payOn 34 = .ok (.dup2, 1) := by decide +kernel
theorem dX6_payOn_35 : decode cX6_payOn 35 = .ok (.iaload, 1) := by decide +kernel
theorem dX6_payOn_36 : decode cX6_payOn 36 = .ok (.aload_n 0, 1) := by decide +kernel
theorem dX6_payOn_37 : decode cX6_payOn 37 = .ok (.getfield 19, 3) := by decide +kernel
theorem dX6_payOn_40 : decode cX6_payOn 40 = .ok (.iload_n 2, 1) := by decide +kernel
theorem dX6_payOn_41 : decode cX6_payOn 41 = .ok (.iload_n 3, 1) := by decide +kernel
theorem dX6_payOn_42 : decode cX6_payOn 42 = .ok (.iadd, 1) := by decide +kernel
theorem dX6_payOn_43 : decode cX6_payOn 43 = .ok (.iaload, 1) := by decide +kernel
theorem dX6_payOn_44 : decode cX6_payOn 44 = .ok (.bipush 9, 2) := by decide +kernel
theorem dX6_payOn_46 : decode cX6_payOn 46 = .ok (.if_icmp .ge 7, 3) := by decide +kernel
theorem dX6_payOn_49 : decode cX6_payOn 49 = .ok (.iconst 1, 1) := by decide +kernel
theorem dX6_payOn_50 : decode cX6_payOn 50 = .ok (.goto 4, 3) := by decide +kernel
theorem dX6_payOn_53 : decode cX6_payOn 53 = .ok (.iconst 0, 1) := by decide +kernel
theorem dX6_payOn_54 : decode cX6_payOn 54 = .ok (.iadd, 1) := by decide +kernel
theorem dX6_payOn_55 : decode cX6_payOn 55 = .ok (.iastore, 1) := by decide +kernel
theorem dX6_payOn_56 : decode cX6_payOn 56 = .ok (.aload_n 0, 1) := by decide +kernel
theorem dX6_payOn_57 : decode cX6_payOn 57 = .ok (.getfield 19, 3) := by decide +kernel
theorem dX6_payOn_60 : decode cX6_payOn 60 = .ok (.iload_n 2, 1) := by decide +kernel
theorem dX6_payOn_61 : decode cX6_payOn 61 = .ok (.bipush 6, 2) := by decide +kernel
theorem dX6_payOn_63 : decode cX6_payOn 63 = .ok (.iadd, 1) := by decide +kernel
theorem dX6_payOn_64 : decode cX6_payOn 64 = .ok (.bipush (-9), 2) := by decide +kernel
theorem dX6_payOn_66 : decode cX6_payOn 66 = .ok (.iastore, 1) := by decide +kernel
theorem dX6_payOn_67 : decode cX6_payOn 67 = .ok (.aload_n 0, 1) := by decide +kernel
theorem dX6_payOn_68 : decode cX6_payOn 68 = .ok (.getfield 19, 3) := by decide +kernel
theorem dX6_payOn_71 : decode cX6_payOn 71 = .ok (.iload_n 2, 1) := by decide +kernel
theorem dX6_payOn_72 : decode cX6_payOn 72 = .ok (.iload_n 3, 1) := by decide +kernel
theorem dX6_payOn_73 : decode cX6_payOn 73 = .ok (.iadd, 1) := by decide +kernel
theorem dX6_payOn_74 : decode cX6_payOn 74 = .ok (.iaload, 1) := by decide +kernel
theorem dX6_payOn_75 : decode cX6_payOn 75 = .ok (.ireturn, 1) := by decide +kernel
theorem dX6_runOn_0 : decode cX6_runOn 0 = .ok (.bipush 10, 2) := by decide +kernel
theorem dX6_runOn_2 : decode cX6_runOn 2 = .ok (.iload_n 1, 1) := by decide +kernel
theorem dX6_runOn_3 : decode cX6_runOn 3 = .ok (.imul, 1) := by decide +kernel
theorem dX6_runOn_4 : decode cX6_runOn 4 = .ok (.istore_n 3, 1) := by decide +kernel
theorem dX6_runOn_5 : decode cX6_runOn 5 = .ok (.aload_n 0, 1) := by decide +kernel
theorem dX6_runOn_6 : decode cX6_runOn 6 = .ok (.getfield 19, 3) := by decide +kernel
theorem dX6_runOn_9 : decode cX6_runOn 9 = .ok (.iload_n 3, 1) := by decide +kernel
theorem dX6_runOn_10 : decode cX6_runOn 10 = .ok (.iconst 5, 1) := by decide +kernel
theorem dX6_runOn_11 : decode cX6_runOn 11 = .ok (.iadd, 1) := by decide +kernel
theorem dX6_runOn_12 : decode cX6_runOn 12 = .ok (.iaload, 1) := by decide +kernel
theorem dX6_runOn_13 : decode cX6_runOn 13 = .ok (.iload_n 2, 1) := by decide +kernel
theorem dX6_runOn_14 : decode cX6_runOn 14 = .ok (.iadd, 1) := by decide +kernel
theorem dX6_runOn_15 : decode cX6_runOn 15 = .ok (.istore 4, 2) := by decide +kernel
theorem dX6_runOn_17 : decode cX6_runOn 17 = .ok (.aload_n 0, 1) := by decide +kernel
theorem dX6_runOn_18 : decode cX6_runOn 18 = .ok (.getfield 19, 3) := by decide +kernel
theorem dX6_runOn_21 : decode cX6_runOn 21 = .ok (.iload_n 3, 1) := by decide +kernel
theorem dX6_runOn_22 : decode cX6_runOn 22 = .ok (.iconst 5, 1) := by decide +kernel
theorem dX6_runOn_23 : decode cX6_runOn 23 = .ok (.iadd, 1) := by decide +kernel
theorem dX6_runOn_24 : decode cX6_runOn 24 = .ok (.iload 4, 2) := by decide +kernel
theorem dX6_runOn_26 : decode cX6_runOn 26 = .ok (.bipush 9, 2) := by decide +kernel
theorem dX6_runOn_28 : decode cX6_runOn 28 = .ok (.if_icmp .le 8, 3) := by decide +kernel
theorem dX6_runOn_31 : decode cX6_runOn 31 = .ok (.bipush 9, 2) := by decide +kernel
theorem dX6_runOn_33 : decode cX6_runOn 33 = .ok (.goto 5, 3) := by decide +kernel
theorem dX6_runOn_36 : decode cX6_runOn 36 = .ok (.iload 4, 2) := by decide +kernel
theorem dX6_runOn_38 : decode cX6_runOn 38 = .ok (.iastore, 1) := by decide +kernel
theorem dX6_runOn_39 : decode cX6_runOn 39 = .ok (.aload_n 0, 1) := by decide +kernel
theorem dX6_runOn_40 : decode cX6_runOn 40 = .ok (.getfield 19, 3) := by decide +kernel
theorem dX6_runOn_43 : decode cX6_runOn 43 = .ok (.iload_n 3, 1) := by decide +kernel
theorem dX6_runOn_44 : decode cX6_runOn 44 = .ok (.bipush 6, 2) := by decide +kernel
theorem dX6_runOn_46 : decode cX6_runOn 46 = .ok (.iadd, 1) := by decide +kernel
theorem dX6_runOn_47 : decode cX6_runOn 47 = .ok (.bipush (-9), 2) := by decide +kernel
theorem dX6_runOn_49 : decode cX6_runOn 49 = .ok (.iastore, 1) := by decide +kernel
theorem dX6_runOn_50 : decode cX6_runOn 50 = .ok (.return_, 1) := by decide +kernel
theorem dX6_canLead_0 : decode cX6_canLead 0 = .ok (.aload_n 0, 1) := by decide +kernel
theorem dX6_canLead_1 : decode cX6_canLead 1 = .ok (.getfield 19, 3) := by decide +kernel
theorem dX6_canLead_4 : decode cX6_canLead 4 = .ok (.bipush 10, 2) := by decide +kernel
theorem dX6_canLead_6 : decode cX6_canLead 6 = .ok (.iload_n 1, 1) := by decide +kernel
theorem dX6_canLead_7 : decode cX6_canLead 7 = .ok (.imul, 1) := by decide +kernel
theorem dX6_canLead_8 : decode cX6_canLead 8 = .ok (.bipush 8, 2) := by decide +kernel
theorem dX6_canLead_10 : decode cX6_canLead 10 = .ok (.iadd, 1) := by decide +kernel
theorem dX6_canLead_11 : decode cX6_canLead 11 = .ok (.iaload, 1) := by decide +kernel
theorem dX6_canLead_12 : decode cX6_canLead 12 = .ok (.iconst 1, 1) := by decide +kernel
theorem dX6_canLead_13 : decode cX6_canLead 13 = .ok (.if_icmp .eq 17, 3) := by decide +kernel
theorem dX6_canLead_16 : decode cX6_canLead 16 = .ok (.aload_n 0, 1) := by decide +kernel
theorem dX6_canLead_17 : decode cX6_canLead 17 = .ok (.getfield 19, 3) := by decide +kernel
theorem dX6_canLead_20 : decode cX6_canLead 20 = .ok (.bipush 10, 2) := by decide +kernel
theorem dX6_canLead_22 : decode cX6_canLead 22 = .ok (.iload_n 1, 1) := by decide +kernel
theorem dX6_canLead_23 : decode cX6_canLead 23 = .ok (.imul, 1) := by decide +kernel
theorem dX6_canLead_24 : decode cX6_canLead 24 = .ok (.iconst 5, 1) := by decide +kernel
theorem dX6_canLead_25 : decode cX6_canLead 25 = .ok (.iadd, 1) := by decide +kernel
theorem dX6_canLead_26 : decode cX6_canLead 26 = .ok (.iaload, 1) := by decide +kernel
theorem dX6_canLead_27 : decode cX6_canLead 27 = .ok (.ifCond .ne 7, 3) := by decide +kernel
theorem dX6_canLead_30 : decode cX6_canLead 30 = .ok (.iconst 1, 1) := by decide +kernel
theorem dX6_canLead_31 : decode cX6_canLead 31 = .ok (.goto 4, 3) := by decide +kernel
theorem dX6_canLead_34 : decode cX6_canLead 34 = .ok (.iconst 0, 1) := by decide +kernel
theorem dX6_canLead_35 : decode cX6_canLead 35 = .ok (.ireturn, 1) := by decide +kernel
theorem dX6_leadOn_0 : decode cX6_leadOn 0 = .ok (.bipush 10, 2) := by decide +kernel
theorem dX6_leadOn_2 : decode cX6_leadOn 2 = .ok (.iload_n 1, 1) := by decide +kernel
theorem dX6_leadOn_3 : decode cX6_leadOn 3 = .ok (.imul, 1) := by decide +kernel
theorem dX6_leadOn_4 : decode cX6_leadOn 4 = .ok (.istore_n 2, 1) := by decide +kernel
theorem dX6_leadOn_5 : decode cX6_leadOn 5 = .ok (.aload_n 0, 1) := by decide +kernel
theorem dX6_leadOn_6 : decode cX6_leadOn 6 = .ok (.getfield 19, 3) := by decide +kernel
theorem dX6_leadOn_9 : decode cX6_leadOn 9 = .ok (.iload_n 2, 1) := by decide +kernel
theorem dX6_leadOn_10 : decode cX6_leadOn 10 = .ok (.bipush 6, 2) := by decide +kernel
theorem dX6_leadOn_12 : decode cX6_leadOn 12 = .ok (.iadd, 1) := by decide +kernel
theorem dX6_leadOn_13 : decode cX6_leadOn 13 = .ok (.iaload, 1) := by decide +kernel
theorem dX6_leadOn_14 : decode cX6_leadOn 14 = .ok (.istore_n 3, 1) := by decide +kernel
theorem dX6_leadOn_15 : decode cX6_leadOn 15 = .ok (.aload_n 0, 1) := by decide +kernel
theorem dX6_leadOn_16 : decode cX6_leadOn 16 = .ok (.getfield 19, 3) := by decide +kernel
theorem dX6_leadOn_19 : decode cX6_leadOn 19 = .ok (.iload_n 2, 1) := by decide +kernel
theorem dX6_leadOn_20 : decode cX6_leadOn 20 = .ok (.bipush 8, 2) := by decide +kernel
theorem dX6_leadOn_22 : decode cX6_leadOn 22 = .ok (.iadd, 1) := by decide +kernel
theorem dX6_leadOn_23 : decode cX6_leadOn 23 = .ok (.iaload, 1) := by decide +kernel
theorem dX6_leadOn_24 : decode cX6_leadOn 24 = .ok (.ifCond .ne 65, 3) := by decide +kernel
theorem dX6_leadOn_27 : decode cX6_leadOn 27 = .ok (.iload_n 3, 1) := by decide +kernel
theorem dX6_leadOn_28 : decode cX6_leadOn 28 = .ok (.bipush (-9), 2) := by decide +kernel
theorem dX6_leadOn_30 : decode cX6_leadOn 30 = .ok (.if_icmp .eq 59, 3) := by decide +kernel
theorem dX6_leadOn_33 : decode cX6_leadOn 33 = .ok (.aload_n 0, 1) := by decide +kernel
theorem dX6_leadOn_34 : decode cX6_leadOn 34 = .ok (.getfield 19, 3) := by decide +kernel
theorem dX6_leadOn_37 : decode cX6_leadOn 37 = .ok (.iload_n 2, 1) := by decide +kernel
theorem dX6_leadOn_38 : decode cX6_leadOn 38 = .ok (.iload_n 3, 1) := by decide +kernel
theorem dX6_leadOn_39 : decode cX6_leadOn 39 = .ok (.iadd, 1) := by decide +kernel
theorem dX6_leadOn_40 : decode cX6_leadOn 40 = .ok (.iaload, 1) := by decide +kernel
theorem dX6_leadOn_41 : decode cX6_leadOn 41 = .ok (.aload_n 0, 1) := by decide +kernel
theorem dX6_leadOn_42 : decode cX6_leadOn 42 = .ok (.getfield 7, 3) := by decide +kernel
theorem dX6_leadOn_45 : decode cX6_leadOn 45 = .ok (.iload_n 3, 1) := by decide +kernel
theorem dX6_leadOn_46 : decode cX6_leadOn 46 = .ok (.iaload, 1) := by decide +kernel
theorem dX6_leadOn_47 : decode cX6_leadOn 47 = .ok (.iconst 3, 1) := by decide +kernel
theorem dX6_leadOn_48 : decode cX6_leadOn 48 = .ok (.if_icmp .ne 7, 3) := by decide +kernel
theorem dX6_leadOn_51 : decode cX6_leadOn 51 = .ok (.iconst 1, 1) := by decide +kernel
theorem dX6_leadOn_52 : decode cX6_leadOn 52 = .ok (.goto 4, 3) := by decide +kernel
theorem dX6_leadOn_55 : decode cX6_leadOn 55 = .ok (.iconst 2, 1) := by decide +kernel
theorem dX6_leadOn_56 : decode cX6_leadOn 56 = .ok (.isub, 1) := by decide +kernel
theorem dX6_leadOn_57 : decode cX6_leadOn 57 = .ok (.istore 4, 2) := by decide +kernel
theorem dX6_leadOn_59 : decode cX6_leadOn 59 = .ok (.aload_n 0, 1) := by decide +kernel
theorem dX6_leadOn_60 : decode cX6_leadOn 60 = .ok (.getfield 19, 3) := by decide +kernel
theorem dX6_leadOn_63 : decode cX6_leadOn 63 = .ok (.iload_n 2, 1) := by decide +kernel
theorem dX6_leadOn_64 : decode cX6_leadOn 64 = .ok (.iload_n 3, 1) := by decide +kernel
theorem dX6_leadOn_65 : decode cX6_leadOn 65 = .ok (.iadd, 1) := by decide +kernel
theorem dX6_leadOn_66 : decode cX6_leadOn 66 = .ok (.iload 4, 2) := by decide +kernel
theorem dX6_leadOn_68 : decode cX6_leadOn 68 = .ok (.ifCond .ge 7, 3) := by decide +kernel
theorem dX6_leadOn_71 : decode cX6_leadOn 71 = .ok (.iconst 0, 1) := by decide +kernel
theorem dX6_leadOn_72 : decode cX6_leadOn 72 = .ok (.goto 5, 3) := by decide +kernel
theorem dX6_leadOn_75 : decode cX6_leadOn 75 = .ok (.iload 4, 2) := by decide +kernel
theorem dX6_leadOn_77 : decode cX6_leadOn 77 = .ok (.iastore, 1) := by decide +kernel
theorem dX6_leadOn_78 : decode cX6_leadOn 78 = .ok (.aload_n 0, 1) := by decide +kernel
theorem dX6_leadOn_79 : decode cX6_leadOn 79 = .ok (.getfield 19, 3) := by decide +kernel
theorem dX6_leadOn_82 : decode cX6_leadOn 82 = .ok (.iload_n 2, 1) := by decide +kernel
theorem dX6_leadOn_83 : decode cX6_leadOn 83 = .ok (.bipush 6, 2) := by decide +kernel
theorem dX6_leadOn_85 : decode cX6_leadOn 85 = .ok (.iadd, 1) := by decide +kernel
theorem dX6_leadOn_86 : decode cX6_leadOn 86 = .ok (.bipush (-9), 2) := by decide +kernel
theorem dX6_leadOn_88 : decode cX6_leadOn 88 = .ok (.iastore, 1) := by decide +kernel
theorem dX6_leadOn_89 : decode cX6_leadOn 89 = .ok (.aload_n 0, 1) := by decide +kernel
theorem dX6_leadOn_90 : decode cX6_leadOn 90 = .ok (.getfield 19, 3) := by decide +kernel
theorem dX6_leadOn_93 : decode cX6_leadOn 93 = .ok (.iload_n 2, 1) := by decide +kernel
theorem dX6_leadOn_94 : decode cX6_leadOn 94 = .ok (.bipush 8, 2) := by decide +kernel
theorem dX6_leadOn_96 : decode cX6_leadOn 96 = .ok (.iadd, 1) := by decide +kernel
theorem dX6_leadOn_97 : decode cX6_leadOn 97 = .ok (.iconst 1, 1) := by decide +kernel
theorem dX6_leadOn_98 : decode cX6_leadOn 98 = .ok (.aload_n 0, 1) := by decide +kernel
theorem dX6_leadOn_99 : decode cX6_leadOn 99 = .ok (.getfield 19, 3) := by decide +kernel
theorem dX6_leadOn_102 : decode cX6_leadOn 102 = .ok (.iload_n 2, 1) := by decide +kernel
theorem dX6_leadOn_103 : decode cX6_leadOn 103 = .ok (.bipush 8, 2) := by decide +kernel
theorem dX6_leadOn_105 : decode cX6_leadOn 105 = .ok (.iadd, 1) := by decide +kernel
theorem dX6_leadOn_106 : decode cX6_leadOn 106 = .ok (.iaload, 1) := by decide +kernel
theorem dX6_leadOn_107 : decode cX6_leadOn 107 = .ok (.isub, 1) := by decide +kernel
theorem dX6_leadOn_108 : decode cX6_leadOn 108 = .ok (.iastore, 1) := by decide +kernel
theorem dX6_leadOn_109 : decode cX6_leadOn 109 = .ok (.return_, 1) := by decide +kernel
theorem dX6_keepAct_0 : decode cX6_keepAct 0 = .ok (.iconst 0, 1) := by decide +kernel
theorem dX6_keepAct_1 : decode cX6_keepAct 1 = .ok (.istore_n 1, 1) := by decide +kernel
theorem dX6_keepAct_2 : decode cX6_keepAct 2 = .ok (.iload_n 1, 1) := by decide +kernel
theorem dX6_keepAct_3 : decode cX6_keepAct 3 = .ok (.bipush 10, 2) := by decide +kernel
theorem dX6_keepAct_5 : decode cX6_keepAct 5 = .ok (.if_icmp .ge 29, 3) := by decide +kernel
theorem dX6_keepAct_8 : decode cX6_keepAct 8 = .ok (.aload_n 0, 1) := by decide +kernel
theorem dX6_keepAct_9 : decode cX6_keepAct 9 = .ok (.getfield 31, 3) := by decide +kernel
theorem dX6_keepAct_12 : decode cX6_keepAct 12 = .ok (.bipush 10, 2) := by decide +kernel
theorem dX6_keepAct_14 : decode cX6_keepAct 14 = .ok (.aload_n 0, 1) := by decide +kernel
theorem dX6_keepAct_15 : decode cX6_keepAct 15 = .ok (.getfield 120, 3) := by decide +kernel
theorem dX6_keepAct_18 : decode cX6_keepAct 18 = .ok (.imul, 1) := by decide +kernel
theorem dX6_keepAct_19 : decode cX6_keepAct 19 = .ok (.iload_n 1, 1) := by decide +kernel
theorem dX6_keepAct_20 : decode cX6_keepAct 20 = .ok (.iadd, 1) := by decide +kernel
theorem dX6_keepAct_21 : decode cX6_keepAct 21 = .ok (.aload_n 0, 1) := by decide +kernel
theorem dX6_keepAct_22 : decode cX6_keepAct 22 = .ok (.getfield 19, 3) := by decide +kernel
theorem dX6_keepAct_25 : decode cX6_keepAct 25 = .ok (.iload_n 1, 1) := by decide +kernel
theorem dX6_keepAct_26 : decode cX6_keepAct 26 = .ok (.iaload, 1) := by decide +kernel
theorem dX6_keepAct_27 : decode cX6_keepAct 27 = .ok (.iastore, 1) := by decide +kernel
theorem dX6_keepAct_28 : decode cX6_keepAct 28 = .ok (.iinc 1 1, 3) := by decide +kernel
theorem dX6_keepAct_31 : decode cX6_keepAct 31 = .ok (.goto (-29), 3) := by decide +kernel
theorem dX6_keepAct_34 : decode cX6_keepAct 34 = .ok (.aload_n 0, 1) := by decide +kernel
theorem dX6_keepAct_35 : decode cX6_keepAct 35 = .ok (.aload_n 0, 1) := by decide +kernel
theorem dX6_keepAct_36 : decode cX6_keepAct 36 = .ok (.getfield 120, 3) := by decide +kernel
theorem dX6_keepAct_39 : decode cX6_keepAct 39 = .ok (.iconst 1, 1) := by decide +kernel
theorem dX6_keepAct_40 : decode cX6_keepAct 40 = .ok (.iadd, 1) := by decide +kernel
theorem dX6_keepAct_41 : decode cX6_keepAct 41 = .ok (.bipush 14, 2) := by decide +kernel
theorem dX6_keepAct_43 : decode cX6_keepAct 43 = .ok (.irem, 1) := by decide +kernel
theorem dX6_keepAct_44 : decode cX6_keepAct 44 = .ok (.putfield 120, 3) := by decide +kernel
theorem dX6_keepAct_47 : decode cX6_keepAct 47 = .ok (.aload_n 0, 1) := by decide +kernel
theorem dX6_keepAct_48 : decode cX6_keepAct 48 = .ok (.aload_n 0, 1) := by decide +kernel
theorem dX6_keepAct_49 : decode cX6_keepAct 49 = .ok (.getfield 86, 3) := by decide +kernel
theorem dX6_keepAct_52 : decode cX6_keepAct 52 = .ok (.bipush 14, 2) := by decide +kernel
theorem dX6_keepAct_54 : decode cX6_keepAct 54 = .ok (.if_icmp .ge 12, 3) := by decide +kernel
theorem dX6_keepAct_57 : decode cX6_keepAct 57 = .ok (.aload_n 0, 1) := by decide +kernel
theorem dX6_keepAct_58 : decode cX6_keepAct 58 = .ok (.getfield 86, 3) := by decide +kernel
theorem dX6_keepAct_61 : decode cX6_keepAct 61 = .ok (.iconst 1, 1) := by decide +kernel
theorem dX6_keepAct_62 : decode cX6_keepAct 62 = .ok (.iadd, 1) := by decide +kernel
theorem dX6_keepAct_63 : decode cX6_keepAct 63 = .ok (.goto 5, 3) := by decide +kernel
theorem dX6_keepAct_66 : decode cX6_keepAct 66 = .ok (.bipush 14, 2) := by decide +kernel
theorem dX6_keepAct_68 : decode cX6_keepAct 68 = .ok (.putfield 86, 3) := by decide +kernel
theorem dX6_keepAct_71 : decode cX6_keepAct 71 = .ok (.return_, 1) := by decide +kernel
theorem dX6_call_0 : decode cX6_call 0 = .ok (.aload_n 0, 1) := by decide +kernel
theorem dX6_call_1 : decode cX6_call 1 = .ok (.iload_n 1, 1) := by decide +kernel
theorem dX6_call_2 : decode cX6_call 2 = .ok (.invokevirtual 107, 3) := by decide +kernel
theorem dX6_call_5 : decode cX6_call 5 = .ok (.ifCond .ne 5, 3) := by decide +kernel
theorem dX6_call_8 : decode cX6_call 8 = .ok (.iconst (-1), 1) := by decide +kernel
theorem dX6_call_9 : decode cX6_call 9 = .ok (.ireturn, 1) := by decide +kernel
theorem dX6_call_10 : decode cX6_call 10 = .ok (.aload_n 0, 1) := by decide +kernel
theorem dX6_call_11 : decode cX6_call 11 = .ok (.getfield 19, 3) := by decide +kernel
theorem dX6_call_14 : decode cX6_call 14 = .ok (.bipush 8, 2) := by decide +kernel
theorem dX6_call_16 : decode cX6_call 16 = .ok (.iaload, 1) := by decide +kernel
theorem dX6_call_17 : decode cX6_call 17 = .ok (.iconst 1, 1) := by decide +kernel
theorem dX6_call_18 : decode cX6_call 18 = .ok (.if_icmp .ne 6, 3) := by decide +kernel
theorem dX6_call_21 : decode cX6_call 21 = .ok (.bipush (-3), 2) := by decide +kernel
theorem dX6_call_23 : decode cX6_call 23 = .ok (.ireturn, 1) := by decide +kernel
theorem dX6_call_24 : decode cX6_call 24 = .ok (.aload_n 0, 1) := by decide +kernel
theorem dX6_call_25 : decode cX6_call 25 = .ok (.invokevirtual 123, 3) := by decide +kernel
theorem dX6_call_28 : decode cX6_call 28 = .ok (.aload_n 0, 1) := by decide +kernel
theorem dX6_call_29 : decode cX6_call 29 = .ok (.iconst 0, 1) := by decide +kernel
theorem dX6_call_30 : decode cX6_call 30 = .ok (.iload_n 1, 1) := by decide +kernel
theorem dX6_call_31 : decode cX6_call 31 = .ok (.invokevirtual 126, 3) := by decide +kernel
theorem dX6_call_34 : decode cX6_call 34 = .ok (.ifCond .eq 7, 3) := by decide +kernel
theorem dX6_call_37 : decode cX6_call 37 = .ok (.iconst 1, 1) := by decide +kernel
theorem dX6_call_38 : decode cX6_call 38 = .ok (.goto 4, 3) := by decide +kernel
theorem dX6_call_41 : decode cX6_call 41 = .ok (.iconst 0, 1) := by decide +kernel
theorem dX6_call_42 : decode cX6_call 42 = .ok (.ireturn, 1) := by decide +kernel
theorem dX6_pay_0 : decode cX6_pay 0 = .ok (.aload_n 0, 1) := by decide +kernel
theorem dX6_pay_1 : decode cX6_pay 1 = .ok (.iconst 0, 1) := by decide +kernel
theorem dX6_pay_2 : decode cX6_pay 2 = .ok (.invokevirtual 129, 3) := by decide +kernel
theorem dX6_pay_5 : decode cX6_pay 5 = .ok (.ifCond .ne 6, 3) := by decide +kernel
theorem dX6_pay_8 : decode cX6_pay 8 = .ok (.bipush (-3), 2) := by decide +kernel
theorem dX6_pay_10 : decode cX6_pay 10 = .ok (.ireturn, 1) := by decide +kernel
theorem dX6_pay_11 : decode cX6_pay 11 = .ok (.aload_n 0, 1) := by decide +kernel
theorem dX6_pay_12 : decode cX6_pay 12 = .ok (.invokevirtual 123, 3) := by decide +kernel
theorem dX6_pay_15 : decode cX6_pay 15 = .ok (.aload_n 0, 1) := by decide +kernel
theorem dX6_pay_16 : decode cX6_pay 16 = .ok (.iconst 0, 1) := by decide +kernel
theorem dX6_pay_17 : decode cX6_pay 17 = .ok (.invokevirtual 132, 3) := by decide +kernel
theorem dX6_pay_20 : decode cX6_pay 20 = .ok (.ireturn, 1) := by decide +kernel
theorem dX6_run_0 : decode cX6_run 0 = .ok (.iload_n 1, 1) := by decide +kernel
theorem dX6_run_1 : decode cX6_run 1 = .ok (.i2l, 1) := by decide +kernel
theorem dX6_run_2 : decode cX6_run 2 = .ok (.lconst 1, 1) := by decide +kernel
theorem dX6_run_3 : decode cX6_run 3 = .ok (.ldc2_w 118, 3) := by decide +kernel
theorem dX6_run_6 : decode cX6_run 6 = .ok (.invokestatic 52, 3) := by decide +kernel
theorem dX6_run_9 : decode cX6_run 9 = .ok (.ifCond .ne 6, 3) := by decide +kernel
theorem dX6_run_12 : decode cX6_run 12 = .ok (.bipush (-2), 2) := by decide +kernel
theorem dX6_run_14 : decode cX6_run 14 = .ok (.ireturn, 1) := by decide +kernel
theorem dX6_run_15 : decode cX6_run 15 = .ok (.aload_n 0, 1) := by decide +kernel
theorem dX6_run_16 : decode cX6_run 16 = .ok (.getfield 19, 3) := by decide +kernel
theorem dX6_run_19 : decode cX6_run 19 = .ok (.bipush 8, 2) := by decide +kernel
theorem dX6_run_21 : decode cX6_run 21 = .ok (.iaload, 1) := by decide +kernel
theorem dX6_run_22 : decode cX6_run 22 = .ok (.iconst 1, 1) := by decide +kernel
theorem dX6_run_23 : decode cX6_run 23 = .ok (.if_icmp .ne 6, 3) := by decide +kernel
theorem dX6_run_26 : decode cX6_run 26 = .ok (.bipush (-3), 2) := by decide +kernel
theorem dX6_run_28 : decode cX6_run 28 = .ok (.ireturn, 1) := by decide +kernel
theorem dX6_run_29 : decode cX6_run 29 = .ok (.aload_n 0, 1) := by decide +kernel
theorem dX6_run_30 : decode cX6_run 30 = .ok (.invokevirtual 123, 3) := by decide +kernel
theorem dX6_run_33 : decode cX6_run 33 = .ok (.aload_n 0, 1) := by decide +kernel
theorem dX6_run_34 : decode cX6_run 34 = .ok (.iconst 0, 1) := by decide +kernel
theorem dX6_run_35 : decode cX6_run 35 = .ok (.iload_n 1, 1) := by decide +kernel
theorem dX6_run_36 : decode cX6_run 36 = .ok (.invokevirtual 135, 3) := by decide +kernel
theorem dX6_run_39 : decode cX6_run 39 = .ok (.aload_n 0, 1) := by decide +kernel
theorem dX6_run_40 : decode cX6_run 40 = .ok (.getfield 19, 3) := by decide +kernel
theorem dX6_run_43 : decode cX6_run 43 = .ok (.iconst 5, 1) := by decide +kernel
theorem dX6_run_44 : decode cX6_run 44 = .ok (.iaload, 1) := by decide +kernel
theorem dX6_run_45 : decode cX6_run 45 = .ok (.ireturn, 1) := by decide +kernel
theorem dX6_lead_0 : decode cX6_lead 0 = .ok (.aload_n 0, 1) := by decide +kernel
theorem dX6_lead_1 : decode cX6_lead 1 = .ok (.iconst 0, 1) := by decide +kernel
theorem dX6_lead_2 : decode cX6_lead 2 = .ok (.invokevirtual 139, 3) := by decide +kernel
theorem dX6_lead_5 : decode cX6_lead 5 = .ok (.ifCond .ne 6, 3) := by decide +kernel
theorem dX6_lead_8 : decode cX6_lead 8 = .ok (.bipush (-3), 2) := by decide +kernel
theorem dX6_lead_10 : decode cX6_lead 10 = .ok (.ireturn, 1) := by decide +kernel
theorem dX6_lead_11 : decode cX6_lead 11 = .ok (.aload_n 0, 1) := by decide +kernel
theorem dX6_lead_12 : decode cX6_lead 12 = .ok (.invokevirtual 123, 3) := by decide +kernel
theorem dX6_lead_15 : decode cX6_lead 15 = .ok (.aload_n 0, 1) := by decide +kernel
theorem dX6_lead_16 : decode cX6_lead 16 = .ok (.iconst 0, 1) := by decide +kernel
theorem dX6_lead_17 : decode cX6_lead 17 = .ok (.invokevirtual 142, 3) := by decide +kernel
theorem dX6_lead_20 : decode cX6_lead 20 = .ok (.aload_n 0, 1) := by decide +kernel
theorem dX6_lead_21 : decode cX6_lead 21 = .ok (.getfield 19, 3) := by decide +kernel
theorem dX6_lead_24 : decode cX6_lead 24 = .ok (.bipush 8, 2) := by decide +kernel
theorem dX6_lead_26 : decode cX6_lead 26 = .ok (.iaload, 1) := by decide +kernel
theorem dX6_lead_27 : decode cX6_lead 27 = .ok (.ireturn, 1) := by decide +kernel
theorem dX6_hunger_0 : decode cX6_hunger 0 = .ok (.aload_n 0, 1) := by decide +kernel
theorem dX6_hunger_1 : decode cX6_hunger 1 = .ok (.invokevirtual 123, 3) := by decide +kernel
theorem dX6_hunger_4 : decode cX6_hunger 4 = .ok (.aload_n 0, 1) := by decide +kernel
theorem dX6_hunger_5 : decode cX6_hunger 5 = .ok (.getfield 19, 3) := by decide +kernel
theorem dX6_hunger_8 : decode cX6_hunger 8 = .ok (.bipush 7, 2) := by decide +kernel
theorem dX6_hunger_10 : decode cX6_hunger 10 = .ok (.iconst 1, 1) := by decide +kernel
theorem dX6_hunger_11 : decode cX6_hunger 11 = .ok (.aload_n 0, 1) := by decide +kernel
theorem dX6_hunger_12 : decode cX6_hunger 12 = .ok (.getfield 19, 3) := by decide +kernel
theorem dX6_hunger_15 : decode cX6_hunger 15 = .ok (.bipush 7, 2) := by decide +kernel
theorem dX6_hunger_17 : decode cX6_hunger 17 = .ok (.iaload, 1) := by decide +kernel
theorem dX6_hunger_18 : decode cX6_hunger 18 = .ok (.isub, 1) := by decide +kernel
theorem dX6_hunger_19 : decode cX6_hunger 19 = .ok (.iastore, 1) := by decide +kernel
theorem dX6_hunger_20 : decode cX6_hunger 20 = .ok (.aload_n 0, 1) := by decide +kernel
theorem dX6_hunger_21 : decode cX6_hunger 21 = .ok (.getfield 19, 3) := by decide +kernel
theorem dX6_hunger_24 : decode cX6_hunger 24 = .ok (.bipush 7, 2) := by decide +kernel
theorem dX6_hunger_26 : decode cX6_hunger 26 = .ok (.iaload, 1) := by decide +kernel
theorem dX6_hunger_27 : decode cX6_hunger 27 = .ok (.ireturn, 1) := by decide +kernel
theorem dX6_undo_0 : decode cX6_undo 0 = .ok (.aload_n 0, 1) := by decide +kernel
theorem dX6_undo_1 : decode cX6_undo 1 = .ok (.getfield 86, 3) := by decide +kernel
theorem dX6_undo_4 : decode cX6_undo 4 = .ok (.ifCond .ne 6, 3) := by decide +kernel
theorem dX6_undo_7 : decode cX6_undo 7 = .ok (.bipush (-3), 2) := by decide +kernel
theorem dX6_undo_9 : decode cX6_undo 9 = .ok (.ireturn, 1) := by decide +kernel
theorem dX6_undo_10 : decode cX6_undo 10 = .ok (.aload_n 0, 1) := by decide +kernel
theorem dX6_undo_11 : decode cX6_undo 11 = .ok (.dup, 1) := by decide +kernel
theorem dX6_undo_12 : decode cX6_undo 12 = .ok (.getfield 86, 3) := by decide +kernel
theorem dX6_undo_15 : decode cX6_undo 15 = .ok (.iconst 1, 1) := by decide +kernel
theorem dX6_undo_16 : decode cX6_undo 16 = .ok (.isub, 1) := by decide +kernel
theorem dX6_undo_17 : decode cX6_undo 17 = .ok (.putfield 86, 3) := by decide +kernel
theorem dX6_undo_20 : decode cX6_undo 20 = .ok (.aload_n 0, 1) := by decide +kernel
theorem dX6_undo_21 : decode cX6_undo 21 = .ok (.aload_n 0, 1) := by decide +kernel
theorem dX6_undo_22 : decode cX6_undo 22 = .ok (.getfield 120, 3) := by decide +kernel
theorem dX6_undo_25 : decode cX6_undo 25 = .ok (.bipush 13, 2) := by decide +kernel
theorem dX6_undo_27 : decode cX6_undo 27 = .ok (.iadd, 1) := by decide +kernel
theorem dX6_undo_28 : decode cX6_undo 28 = .ok (.bipush 14, 2) := by decide +kernel
theorem dX6_undo_30 : decode cX6_undo 30 = .ok (.irem, 1) := by decide +kernel
theorem dX6_undo_31 : decode cX6_undo 31 = .ok (.putfield 120, 3) := by decide +kernel
theorem dX6_undo_34 : decode cX6_undo 34 = .ok (.iconst 0, 1) := by decide +kernel
theorem dX6_undo_35 : decode cX6_undo 35 = .ok (.istore_n 1, 1) := by decide +kernel
theorem dX6_undo_36 : decode cX6_undo 36 = .ok (.iload_n 1, 1) := by decide +kernel
theorem dX6_undo_37 : decode cX6_undo 37 = .ok (.bipush 10, 2) := by decide +kernel
theorem dX6_undo_39 : decode cX6_undo 39 = .ok (.if_icmp .ge 29, 3) := by decide +kernel
theorem dX6_undo_42 : decode cX6_undo 42 = .ok (.aload_n 0, 1) := by decide +kernel
theorem dX6_undo_43 : decode cX6_undo 43 = .ok (.getfield 19, 3) := by decide +kernel
theorem dX6_undo_46 : decode cX6_undo 46 = .ok (.iload_n 1, 1) := by decide +kernel
theorem dX6_undo_47 : decode cX6_undo 47 = .ok (.aload_n 0, 1) := by decide +kernel
theorem dX6_undo_48 : decode cX6_undo 48 = .ok (.getfield 31, 3) := by decide +kernel
theorem dX6_undo_51 : decode cX6_undo 51 = .ok (.bipush 10, 2) := by decide +kernel
theorem dX6_undo_53 : decode cX6_undo 53 = .ok (.aload_n 0, 1) := by decide +kernel
theorem dX6_undo_54 : decode cX6_undo 54 = .ok (.getfield 120, 3) := by decide +kernel
theorem dX6_undo_57 : decode cX6_undo 57 = .ok (.imul, 1) := by decide +kernel
theorem dX6_undo_58 : decode cX6_undo 58 = .ok (.iload_n 1, 1) := by decide +kernel
theorem dX6_undo_59 : decode cX6_undo 59 = .ok (.iadd, 1) := by decide +kernel
theorem dX6_undo_60 : decode cX6_undo 60 = .ok (.iaload, 1) := by decide +kernel
theorem dX6_undo_61 : decode cX6_undo 61 = .ok (.iastore, 1) := by decide +kernel
theorem dX6_undo_62 : decode cX6_undo 62 = .ok (.iinc 1 1, 3) := by decide +kernel
theorem dX6_undo_65 : decode cX6_undo 65 = .ok (.goto (-29), 3) := by decide +kernel
theorem dX6_undo_68 : decode cX6_undo 68 = .ok (.aload_n 0, 1) := by decide +kernel
theorem dX6_undo_69 : decode cX6_undo 69 = .ok (.getfield 86, 3) := by decide +kernel
theorem dX6_undo_72 : decode cX6_undo 72 = .ok (.ireturn, 1) := by decide +kernel
theorem dX6_comes_0 : decode cX6_comes 0 = .ok (.aload_n 0, 1) := by decide +kernel
theorem dX6_comes_1 : decode cX6_comes 1 = .ok (.iload_n 1, 1) := by decide +kernel
theorem dX6_comes_2 : decode cX6_comes 2 = .ok (.invokevirtual 107, 3) := by decide +kernel
theorem dX6_comes_5 : decode cX6_comes 5 = .ok (.ifCond .ne 5, 3) := by decide +kernel
theorem dX6_comes_8 : decode cX6_comes 8 = .ok (.iconst (-1), 1) := by decide +kernel
theorem dX6_comes_9 : decode cX6_comes 9 = .ok (.ireturn, 1) := by decide +kernel
theorem dX6_comes_10 : decode cX6_comes 10 = .ok (.iload_n 2, 1) := by decide +kernel
theorem dX6_comes_11 : decode cX6_comes 11 = .ok (.i2l, 1) := by decide +kernel
theorem dX6_comes_12 : decode cX6_comes 12 = .ok (.lconst 0, 1) := by decide +kernel
theorem dX6_comes_13 : decode cX6_comes 13 = .ok (.ldc2_w 118, 3) := by decide +kernel
theorem dX6_comes_16 : decode cX6_comes 16 = .ok (.invokestatic 52, 3) := by decide +kernel
theorem dX6_comes_19 : decode cX6_comes 19 = .ok (.ifCond .ne 8, 3) := by decide +kernel
theorem dX6_comes_22 : decode cX6_comes 22 = .ok (.bipush (-2), 2) := by decide +kernel
theorem dX6_comes_24 : decode cX6_comes 24 = .ok (.goto 17, 3) := by decide +kernel
theorem dX6_comes_27 : decode cX6_comes 27 = .ok (.aload_n 0, 1) := by decide +kernel
theorem dX6_comes_28 : decode cX6_comes 28 = .ok (.iload_n 1, 1) := by decide +kernel
theorem dX6_comes_29 : decode cX6_comes 29 = .ok (.iload_n 2, 1) := by decide +kernel
theorem dX6_comes_30 : decode cX6_comes 30 = .ok (.invokevirtual 104, 3) := by decide +kernel
theorem dX6_comes_33 : decode cX6_comes 33 = .ok (.ifCond .eq 7, 3) := by decide +kernel
theorem dX6_comes_36 : decode cX6_comes 36 = .ok (.iconst 1, 1) := by decide +kernel
theorem dX6_comes_37 : decode cX6_comes 37 = .ok (.goto 4, 3) := by decide +kernel
theorem dX6_comes_40 : decode cX6_comes 40 = .ok (.iconst 0, 1) := by decide +kernel
theorem dX6_comes_41 : decode cX6_comes 41 = .ok (.ireturn, 1) := by decide +kernel
theorem dX6_best_0 : decode cX6_best 0 = .ok (.iload_n 1, 1) := by decide +kernel
theorem dX6_best_1 : decode cX6_best 1 = .ok (.i2l, 1) := by decide +kernel
theorem dX6_best_2 : decode cX6_best 2 = .ok (.lconst 0, 1) := by decide +kernel
theorem dX6_best_3 : decode cX6_best 3 = .ok (.ldc2_w 118, 3) := by decide +kernel
theorem dX6_best_6 : decode cX6_best 6 = .ok (.invokestatic 52, 3) := by decide +kernel
theorem dX6_best_9 : decode cX6_best 9 = .ok (.ifCond .ne 6, 3) := by decide +kernel
theorem dX6_best_12 : decode cX6_best 12 = .ok (.bipush (-2), 2) := by decide +kernel
theorem dX6_best_14 : decode cX6_best 14 = .ok (.ireturn, 1) := by decide +kernel
theorem dX6_best_15 : decode cX6_best 15 = .ok (.bipush (-9), 2) := by decide +kernel
theorem dX6_best_17 : decode cX6_best 17 = .ok (.istore_n 2, 1) := by decide +kernel
theorem dX6_best_18 : decode cX6_best 18 = .ok (.iconst 0, 1) := by decide +kernel
theorem dX6_best_19 : decode cX6_best 19 = .ok (.istore_n 3, 1) := by decide +kernel
theorem dX6_best_20 : decode cX6_best 20 = .ok (.iload_n 3, 1) := by decide +kernel
theorem dX6_best_21 : decode cX6_best 21 = .ok (.aload_n 0, 1) := by decide +kernel
theorem dX6_best_22 : decode cX6_best 22 = .ok (.getfield 80, 3) := by decide +kernel
theorem dX6_best_25 : decode cX6_best 25 = .ok (.if_icmp .ge 69, 3) := by decide +kernel
theorem dX6_best_28 : decode cX6_best 28 = .ok (.iload_n 2, 1) := by decide +kernel
theorem dX6_best_29 : decode cX6_best 29 = .ok (.bipush (-9), 2) := by decide +kernel
theorem dX6_best_31 : decode cX6_best 31 = .ok (.if_icmp .eq 30, 3) := by decide +kernel
theorem dX6_best_34 : decode cX6_best 34 = .ok (.aload_n 0, 1) := by decide +kernel
theorem dX6_best_35 : decode cX6_best 35 = .ok (.aload_n 0, 1) := by decide +kernel
theorem dX6_best_36 : decode cX6_best 36 = .ok (.getfield 19, 3) := by decide +kernel
theorem dX6_best_39 : decode cX6_best 39 = .ok (.iload_n 3, 1) := by decide +kernel
theorem dX6_best_40 : decode cX6_best 40 = .ok (.iaload, 1) := by decide +kernel
theorem dX6_best_41 : decode cX6_best 41 = .ok (.iload_n 3, 1) := by decide +kernel
theorem dX6_best_42 : decode cX6_best 42 = .ok (.iload_n 1, 1) := by decide +kernel
theorem dX6_best_43 : decode cX6_best 43 = .ok (.invokevirtual 93, 3) := by decide +kernel
theorem dX6_best_46 : decode cX6_best 46 = .ok (.aload_n 0, 1) := by decide +kernel
theorem dX6_best_47 : decode cX6_best 47 = .ok (.aload_n 0, 1) := by decide +kernel
theorem dX6_best_48 : decode cX6_best 48 = .ok (.getfield 19, 3) := by decide +kernel
theorem dX6_best_51 : decode cX6_best 51 = .ok (.iload_n 2, 1) := by decide +kernel
theorem dX6_best_52 : decode cX6_best 52 = .ok (.iaload, 1) := by decide +kernel
theorem dX6_best_53 : decode cX6_best 53 = .ok (.iload_n 2, 1) := by decide +kernel
theorem dX6_best_54 : decode cX6_best 54 = .ok (.iload_n 1, 1) := by decide +kernel
theorem dX6_best_55 : decode cX6_best 55 = .ok (.invokevirtual 93, 3) := by decide +kernel
theorem dX6_best_58 : decode cX6_best 58 = .ok (.if_icmp .le 7, 3) := by decide +kernel
theorem dX6_best_61 : decode cX6_best 61 = .ok (.iconst 1, 1) := by decide +kernel
theorem dX6_best_62 : decode cX6_best 62 = .ok (.goto 4, 3) := by decide +kernel
theorem dX6_best_65 : decode cX6_best 65 = .ok (.iconst 0, 1) := by decide +kernel
theorem dX6_best_66 : decode cX6_best 66 = .ok (.istore 4, 2) := by decide +kernel
theorem dX6_best_68 : decode cX6_best 68 = .ok (.aload_n 0, 1) := by decide +kernel
theorem dX6_best_69 : decode cX6_best 69 = .ok (.iload_n 3, 1) := by decide +kernel
theorem dX6_best_70 : decode cX6_best 70 = .ok (.iload_n 1, 1) := by decide +kernel
theorem dX6_best_71 : decode cX6_best 71 = .ok (.invokevirtual 104, 3) := by decide +kernel
theorem dX6_best_74 : decode cX6_best 74 = .ok (.ifCond .eq 12, 3) := by decide +kernel
theorem dX6_best_77 : decode cX6_best 77 = .ok (.iload 4, 2) := by decide +kernel
theorem dX6_best_79 : decode cX6_best 79 = .ok (.ifCond .eq 7, 3) := by decide +kernel
theorem dX6_best_82 : decode cX6_best 82 = .ok (.iload_n 3, 1) := by decide +kernel
theorem dX6_best_83 : decode cX6_best 83 = .ok (.goto 4, 3) := by decide +kernel
theorem dX6_best_86 : decode cX6_best 86 = .ok (.iload_n 2, 1) := by decide +kernel
theorem dX6_best_87 : decode cX6_best 87 = .ok (.istore_n 2, 1) := by decide +kernel
theorem dX6_best_88 : decode cX6_best 88 = .ok (.iinc 3 1, 3) := by decide +kernel
theorem dX6_best_91 : decode cX6_best 91 = .ok (.goto (-71), 3) := by decide +kernel
theorem dX6_best_94 : decode cX6_best 94 = .ok (.iload_n 2, 1) := by decide +kernel
theorem dX6_best_95 : decode cX6_best 95 = .ok (.ireturn, 1) := by decide +kernel
theorem dX6_layTrial_0 : decode cX6_layTrial 0 = .ok (.iconst 0, 1) := by decide +kernel
theorem dX6_layTrial_1 : decode cX6_layTrial 1 = .ok (.istore_n 1, 1) := by decide +kernel
theorem dX6_layTrial_2 : decode cX6_layTrial 2 = .ok (.iload_n 1, 1) := by decide +kernel
theorem dX6_layTrial_3 : decode cX6_layTrial 3 = .ok (.bipush 10, 2) := by decide +kernel
theorem dX6_layTrial_5 : decode cX6_layTrial 5 = .ok (.if_icmp .ge 24, 3) := by decide +kernel
theorem dX6_layTrial_8 : decode cX6_layTrial 8 = .ok (.aload_n 0, 1) := by decide +kernel
theorem dX6_layTrial_9 : decode cX6_layTrial 9 = .ok (.getfield 19, 3) := by decide +kernel
theorem dX6_layTrial_12 : decode cX6_layTrial 12 = .ok (.bipush 10, 2) := by decide +kernel
theorem dX6_layTrial_14 : decode cX6_layTrial 14 = .ok (.iload_n 1, 1) := by decide +kernel
theorem dX6_layTrial_15 : decode cX6_layTrial 15 = .ok (.iadd, 1) := by decide +kernel
theorem dX6_layTrial_16 : decode cX6_layTrial 16 = .ok (.aload_n 0, 1) := by decide +kernel
theorem dX6_layTrial_17 : decode cX6_layTrial 17 = .ok (.getfield 19, 3) := by decide +kernel
theorem dX6_layTrial_20 : decode cX6_layTrial 20 = .ok (.iload_n 1, 1) := by decide +kernel
theorem dX6_layTrial_21 : decode cX6_layTrial 21 = .ok (.iaload, 1) := by decide +kernel
theorem dX6_layTrial_22 : decode cX6_layTrial 22 = .ok (.iastore, 1) := by decide +kernel
theorem dX6_layTrial_23 : decode cX6_layTrial 23 = .ok (.iinc 1 1, 3) := by decide +kernel
theorem dX6_layTrial_26 : decode cX6_layTrial 26 = .ok (.goto (-24), 3) := by decide +kernel
theorem dX6_layTrial_29 : decode cX6_layTrial 29 = .ok (.return_, 1) := by decide +kernel
theorem dX6_tenTo_0 : decode cX6_tenTo 0 = .ok (.iconst 1, 1) := by decide +kernel
theorem dX6_tenTo_1 : decode cX6_tenTo 1 = .ok (.istore_n 1, 1) := by decide +kernel
theorem dX6_tenTo_2 : decode cX6_tenTo 2 = .ok (.iconst 0, 1) := by decide +kernel
theorem dX6_tenTo_3 : decode cX6_tenTo 3 = .ok (.istore_n 2, 1) := by decide +kernel
theorem dX6_tenTo_4 : decode cX6_tenTo 4 = .ok (.iload_n 2, 1) := by decide +kernel
theorem dX6_tenTo_5 : decode cX6_tenTo 5 = .ok (.iload_n 0, 1) := by decide +kernel
theorem dX6_tenTo_6 : decode cX6_tenTo 6 = .ok (.if_icmp .ge 14, 3) := by decide +kernel
theorem dX6_tenTo_9 : decode cX6_tenTo 9 = .ok (.iload_n 1, 1) := by decide +kernel
theorem dX6_tenTo_10 : decode cX6_tenTo 10 = .ok (.bipush 10, 2) := by decide +kernel
theorem dX6_tenTo_12 : decode cX6_tenTo 12 = .ok (.imul, 1) := by decide +kernel
theorem dX6_tenTo_13 : decode cX6_tenTo 13 = .ok (.istore_n 1, 1) := by decide +kernel
theorem dX6_tenTo_14 : decode cX6_tenTo 14 = .ok (.iinc 2 1, 3) := by decide +kernel
theorem dX6_tenTo_17 : decode cX6_tenTo 17 = .ok (.goto (-13), 3) := by decide +kernel
theorem dX6_tenTo_20 : decode cX6_tenTo 20 = .ok (.iload_n 1, 1) := by decide +kernel
theorem dX6_tenTo_21 : decode cX6_tenTo 21 = .ok (.ireturn, 1) := by decide +kernel
theorem dX6_isRow_0 : decode cX6_isRow 0 = .ok (.aload_n 0, 1) := by decide +kernel
theorem dX6_isRow_1 : decode cX6_isRow 1 = .ok (.invokevirtual 146, 3) := by decide +kernel
theorem dX6_isRow_4 : decode cX6_isRow 4 = .ok (.iconst 0, 1) := by decide +kernel
theorem dX6_isRow_5 : decode cX6_isRow 5 = .ok (.istore_n 3, 1) := by decide +kernel
theorem dX6_isRow_6 : decode cX6_isRow 6 = .ok (.iload_n 3, 1) := by decide +kernel
theorem dX6_isRow_7 : decode cX6_isRow 7 = .ok (.iload_n 1, 1) := by decide +kernel
theorem dX6_isRow_8 : decode cX6_isRow 8 = .ok (.if_icmp .ge 59, 3) := by decide +kernel
theorem dX6_isRow_11 : decode cX6_isRow 11 = .ok (.iload_n 2, 1) := by decide +kernel
theorem dX6_isRow_12 : decode cX6_isRow 12 = .ok (.iload_n 1, 1) := by decide +kernel
theorem dX6_isRow_13 : decode cX6_isRow 13 = .ok (.iconst 1, 1) := by decide +kernel
theorem dX6_isRow_14 : decode cX6_isRow 14 = .ok (.isub, 1) := by decide +kernel
theorem dX6_isRow_15 : decode cX6_isRow 15 = .ok (.iload_n 3, 1) := by decide +kernel
theorem dX6_isRow_16 : decode cX6_isRow 16 = .ok (.isub, 1) := by decide +kernel
theorem dX6_isRow_17 : decode cX6_isRow 17 = .ok (.invokestatic 149, 3) := by decide +kernel
theorem dX6_isRow_20 : decode cX6_isRow 20 = .ok (.idiv, 1) := by decide +kernel
theorem dX6_isRow_21 : decode cX6_isRow 21 = .ok (.bipush 10, 2) := by decide +kernel
theorem dX6_isRow_23 : decode cX6_isRow 23 = .ok (.irem, 1) := by decide +kernel
theorem dX6_isRow_24 : decode cX6_isRow 24 = .ok (.iconst 1, 1) := by decide +kernel
theorem dX6_isRow_25 : decode cX6_isRow 25 = .ok (.isub, 1) := by decide +kernel
theorem dX6_isRow_26 : decode cX6_isRow 26 = .ok (.istore 4, 2) := by decide +kernel
theorem dX6_isRow_28 : decode cX6_isRow 28 = .ok (.aload_n 0, 1) := by decide +kernel
theorem dX6_isRow_29 : decode cX6_isRow 29 = .ok (.iload 4, 2) := by decide +kernel
theorem dX6_isRow_31 : decode cX6_isRow 31 = .ok (.invokevirtual 107, 3) := by decide +kernel
theorem dX6_isRow_34 : decode cX6_isRow 34 = .ok (.ifCond .eq 25, 3) := by decide +kernel
theorem dX6_isRow_37 : decode cX6_isRow 37 = .ok (.aload_n 0, 1) := by decide +kernel
theorem dX6_isRow_38 : decode cX6_isRow 38 = .ok (.iconst 1, 1) := by decide +kernel
theorem dX6_isRow_39 : decode cX6_isRow 39 = .ok (.iload 4, 2) := by decide +kernel
theorem dX6_isRow_41 : decode cX6_isRow 41 = .ok (.invokevirtual 126, 3) := by decide +kernel
theorem dX6_isRow_44 : decode cX6_isRow 44 = .ok (.iload_n 3, 1) := by decide +kernel
theorem dX6_isRow_45 : decode cX6_isRow 45 = .ok (.iload_n 1, 1) := by decide +kernel
theorem dX6_isRow_46 : decode cX6_isRow 46 = .ok (.iconst 1, 1) := by decide +kernel
theorem dX6_isRow_47 : decode cX6_isRow 47 = .ok (.isub, 1) := by decide +kernel
theorem dX6_isRow_48 : decode cX6_isRow 48 = .ok (.if_icmp .ne 7, 3) := by decide +kernel
theorem dX6_isRow_51 : decode cX6_isRow 51 = .ok (.iconst 1, 1) := by decide +kernel
theorem dX6_isRow_52 : decode cX6_isRow 52 = .ok (.goto 4, 3) := by decide +kernel
theorem dX6_isRow_55 : decode cX6_isRow 55 = .ok (.iconst 0, 1) := by decide +kernel
theorem dX6_isRow_56 : decode cX6_isRow 56 = .ok (.if_icmp .eq 5, 3) := by decide +kernel
theorem dX6_isRow_59 : decode cX6_isRow 59 = .ok (.iconst 0, 1) := by decide +kernel
theorem dX6_isRow_60 : decode cX6_isRow 60 = .ok (.ireturn, 1) := by decide +kernel
theorem dX6_isRow_61 : decode cX6_isRow 61 = .ok (.iinc 3 1, 3) := by decide +kernel
theorem dX6_isRow_64 : decode cX6_isRow 64 = .ok (.goto (-58), 3) := by decide +kernel
theorem dX6_isRow_67 : decode cX6_isRow 67 = .ok (.iconst 1, 1) := by decide +kernel
theorem dX6_isRow_68 : decode cX6_isRow 68 = .ok (.ireturn, 1) := by decide +kernel
theorem dX6_fewest_0 : decode cX6_fewest 0 = .ok (.iconst 1, 1) := by decide +kernel
theorem dX6_fewest_1 : decode cX6_fewest 1 = .ok (.istore_n 2, 1) := by decide +kernel
theorem dX6_fewest_2 : decode cX6_fewest 2 = .ok (.iload_n 2, 1) := by decide +kernel
theorem dX6_fewest_3 : decode cX6_fewest 3 = .ok (.iconst 5, 1) := by decide +kernel
theorem dX6_fewest_4 : decode cX6_fewest 4 = .ok (.if_icmp .ge 54, 3) := by decide +kernel
theorem dX6_fewest_7 : decode cX6_fewest 7 = .ok (.aload_n 0, 1) := by decide +kernel
theorem dX6_fewest_8 : decode cX6_fewest 8 = .ok (.getfield 19, 3) := by decide +kernel
theorem dX6_fewest_11 : decode cX6_fewest 11 = .ok (.bipush 8, 2) := by decide +kernel
theorem dX6_fewest_13 : decode cX6_fewest 13 = .ok (.iaload, 1) := by decide +kernel
theorem dX6_fewest_14 : decode cX6_fewest 14 = .ok (.ifCond .ne 44, 3) := by decide +kernel
theorem dX6_fewest_17 : decode cX6_fewest 17 = .ok (.iconst 0, 1) := by decide +kernel
theorem dX6_fewest_18 : decode cX6_fewest 18 = .ok (.istore_n 3, 1) := by decide +kernel
theorem dX6_fewest_19 : decode cX6_fewest 19 = .ok (.iload_n 3, 1) := by decide +kernel
theorem dX6_fewest_20 : decode cX6_fewest 20 = .ok (.iload_n 2, 1) := by decide +kernel
theorem dX6_fewest_21 : decode cX6_fewest 21 = .ok (.invokestatic 149, 3) := by decide +kernel
theorem dX6_fewest_24 : decode cX6_fewest 24 = .ok (.if_icmp .ge 28, 3) := by decide +kernel
theorem dX6_fewest_27 : decode cX6_fewest 27 = .ok (.aload_n 0, 1) := by decide +kernel
theorem dX6_fewest_28 : decode cX6_fewest 28 = .ok (.iload_n 2, 1) := by decide +kernel
theorem dX6_fewest_29 : decode cX6_fewest 29 = .ok (.iload_n 3, 1) := by decide +kernel
theorem dX6_fewest_30 : decode cX6_fewest 30 = .ok (.invokevirtual 152, 3) := by decide +kernel
theorem dX6_fewest_33 : decode cX6_fewest 33 = .ok (.ifCond .eq 13, 3) := by decide +kernel
theorem dX6_fewest_36 : decode cX6_fewest 36 = .ok (.iload_n 1, 1) := by decide +kernel
theorem dX6_fewest_37 : decode cX6_fewest 37 = .ok (.ifCond .eq 7, 3) := by decide +kernel
theorem dX6_fewest_40 : decode cX6_fewest 40 = .ok (.iload_n 3, 1) := by decide +kernel
theorem dX6_fewest_41 : decode cX6_fewest 41 = .ok (.goto 4, 3) := by decide +kernel
theorem dX6_fewest_44 : decode cX6_fewest 44 = .ok (.iload_n 2, 1) := by decide +kernel
theorem dX6_fewest_45 : decode cX6_fewest 45 = .ok (.ireturn, 1) := by decide +kernel
theorem dX6_fewest_46 : decode cX6_fewest 46 = .ok (.iinc 3 1, 3) := by decide +kernel
theorem dX6_fewest_49 : decode cX6_fewest 49 = .ok (.goto (-30), 3) := by decide +kernel
theorem dX6_fewest_52 : decode cX6_fewest 52 = .ok (.iinc 2 1, 3) := by decide +kernel
theorem dX6_fewest_55 : decode cX6_fewest 55 = .ok (.goto (-53), 3) := by decide +kernel
theorem dX6_fewest_58 : decode cX6_fewest 58 = .ok (.bipush (-9), 2) := by decide +kernel
theorem dX6_fewest_60 : decode cX6_fewest 60 = .ok (.ireturn, 1) := by decide +kernel
theorem dX6_good_0 : decode cX6_good 0 = .ok (.aload_n 0, 1) := by decide +kernel
theorem dX6_good_1 : decode cX6_good 1 = .ok (.iload_n 1, 1) := by decide +kernel
theorem dX6_good_2 : decode cX6_good 2 = .ok (.invokevirtual 107, 3) := by decide +kernel
theorem dX6_good_5 : decode cX6_good 5 = .ok (.ifCond .ne 5, 3) := by decide +kernel
theorem dX6_good_8 : decode cX6_good 8 = .ok (.iconst (-1), 1) := by decide +kernel
theorem dX6_good_9 : decode cX6_good 9 = .ok (.ireturn, 1) := by decide +kernel
theorem dX6_good_10 : decode cX6_good 10 = .ok (.iload_n 2, 1) := by decide +kernel
theorem dX6_good_11 : decode cX6_good 11 = .ok (.i2l, 1) := by decide +kernel
theorem dX6_good_12 : decode cX6_good 12 = .ok (.lconst 0, 1) := by decide +kernel
theorem dX6_good_13 : decode cX6_good 13 = .ok (.ldc2_w 118, 3) := by decide +kernel
theorem dX6_good_16 : decode cX6_good 16 = .ok (.invokestatic 52, 3) := by decide +kernel
theorem dX6_good_19 : decode cX6_good 19 = .ok (.ifCond .ne 6, 3) := by decide +kernel
theorem dX6_good_22 : decode cX6_good 22 = .ok (.bipush (-2), 2) := by decide +kernel
theorem dX6_good_24 : decode cX6_good 24 = .ok (.ireturn, 1) := by decide +kernel
theorem dX6_good_25 : decode cX6_good 25 = .ok (.iconst 0, 1) := by decide +kernel
theorem dX6_good_26 : decode cX6_good 26 = .ok (.istore_n 3, 1) := by decide +kernel
theorem dX6_good_27 : decode cX6_good 27 = .ok (.aload_n 0, 1) := by decide +kernel
theorem dX6_good_28 : decode cX6_good 28 = .ok (.getfield 19, 3) := by decide +kernel
theorem dX6_good_31 : decode cX6_good 31 = .ok (.iload_n 1, 1) := by decide +kernel
theorem dX6_good_32 : decode cX6_good 32 = .ok (.iaload, 1) := by decide +kernel
theorem dX6_good_33 : decode cX6_good 33 = .ok (.iload_n 3, 1) := by decide +kernel
theorem dX6_good_34 : decode cX6_good 34 = .ok (.iadd, 1) := by decide +kernel
theorem dX6_good_35 : decode cX6_good 35 = .ok (.bipush 9, 2) := by decide +kernel
theorem dX6_good_37 : decode cX6_good 37 = .ok (.if_icmp .gt 30, 3) := by decide +kernel
theorem dX6_good_40 : decode cX6_good 40 = .ok (.aload_n 0, 1) := by decide +kernel
theorem dX6_good_41 : decode cX6_good 41 = .ok (.aload_n 0, 1) := by decide +kernel
theorem dX6_good_42 : decode cX6_good 42 = .ok (.getfield 19, 3) := by decide +kernel
theorem dX6_good_45 : decode cX6_good 45 = .ok (.iload_n 1, 1) := by decide +kernel
theorem dX6_good_46 : decode cX6_good 46 = .ok (.iaload, 1) := by decide +kernel
theorem dX6_good_47 : decode cX6_good 47 = .ok (.iload_n 3, 1) := by decide +kernel
theorem dX6_good_48 : decode cX6_good 48 = .ok (.iadd, 1) := by decide +kernel
theorem dX6_good_49 : decode cX6_good 49 = .ok (.iload_n 1, 1) := by decide +kernel
theorem dX6_good_50 : decode cX6_good 50 = .ok (.iload_n 2, 1) := by decide +kernel
theorem dX6_good_51 : decode cX6_good 51 = .ok (.bipush 15, 2) := by decide +kernel
theorem dX6_good_53 : decode cX6_good 53 = .ok (.invokevirtual 100, 3) := by decide +kernel
theorem dX6_good_56 : decode cX6_good 56 = .ok (.ifCond .eq 5, 3) := by decide +kernel
theorem dX6_good_59 : decode cX6_good 59 = .ok (.iload_n 3, 1) := by decide +kernel
theorem dX6_good_60 : decode cX6_good 60 = .ok (.ireturn, 1) := by decide +kernel
theorem dX6_good_61 : decode cX6_good 61 = .ok (.iinc 3 1, 3) := by decide +kernel
theorem dX6_good_64 : decode cX6_good 64 = .ok (.goto (-37), 3) := by decide +kernel
theorem dX6_good_67 : decode cX6_good 67 = .ok (.bipush (-9), 2) := by decide +kernel
theorem dX6_good_69 : decode cX6_good 69 = .ok (.ireturn, 1) := by decide +kernel
theorem dX6_tryThing_0 : decode cX6_tryThing 0 = .ok (.aload_n 0, 1) := by decide +kernel
theorem dX6_tryThing_1 : decode cX6_tryThing 1 = .ok (.getfield 19, 3) := by decide +kernel
theorem dX6_tryThing_4 : decode cX6_tryThing 4 = .ok (.bipush 18, 2) := by decide +kernel
theorem dX6_tryThing_6 : decode cX6_tryThing 6 = .ok (.iaload, 1) := by decide +kernel
theorem dX6_tryThing_7 : decode cX6_tryThing 7 = .ok (.ifCond .ne 7, 3) := by decide +kernel
theorem dX6_tryThing_10 : decode cX6_tryThing 10 = .ok (.iconst 1, 1) := by decide +kernel
theorem dX6_tryThing_11 : decode cX6_tryThing 11 = .ok (.goto 4, 3) := by decide +kernel
theorem dX6_tryThing_14 : decode cX6_tryThing 14 = .ok (.iconst 0, 1) := by decide +kernel
theorem dX6_tryThing_15 : decode cX6_tryThing 15 = .ok (.istore_n 2, 1) := by decide +kernel
theorem dX6_tryThing_16 : decode cX6_tryThing 16 = .ok (.iload_n 1, 1) := by decide +kernel
theorem dX6_tryThing_17 : decode cX6_tryThing 17 = .ok (.tableswitch 125 0 8 #[51, 125, 125, 125, 125, 53, 71, 87, 107], 51) := by decide +kernel
theorem dX6_tryThing_68 : decode cX6_tryThing 68 = .ok (.iconst 1, 1) := by decide +kernel
theorem dX6_tryThing_69 : decode cX6_tryThing 69 = .ok (.ireturn, 1) := by decide +kernel
theorem dX6_tryThing_70 : decode cX6_tryThing 70 = .ok (.aload_n 0, 1) := by decide +kernel
theorem dX6_tryThing_71 : decode cX6_tryThing 71 = .ok (.iconst 1, 1) := by decide +kernel
theorem dX6_tryThing_72 : decode cX6_tryThing 72 = .ok (.invokevirtual 129, 3) := by decide +kernel
theorem dX6_tryThing_75 : decode cX6_tryThing 75 = .ok (.istore_n 3, 1) := by decide +kernel
theorem dX6_tryThing_76 : decode cX6_tryThing 76 = .ok (.iload_n 3, 1) := by decide +kernel
theorem dX6_tryThing_77 : decode cX6_tryThing 77 = .ok (.ifCond .eq 9, 3) := by decide +kernel
theorem dX6_tryThing_80 : decode cX6_tryThing 80 = .ok (.aload_n 0, 1) := by decide +kernel
theorem dX6_tryThing_81 : decode cX6_tryThing 81 = .ok (.iconst 1, 1) := by decide +kernel
theorem dX6_tryThing_82 : decode cX6_tryThing 82 = .ok (.invokevirtual 132, 3) := by decide +kernel
theorem dX6_tryThing_85 : decode cX6_tryThing 85 = .ok (.pop, 1) := by decide +kernel
theorem dX6_tryThing_86 : decode cX6_tryThing 86 = .ok (.iload_n 3, 1) := by decide +kernel
theorem dX6_tryThing_87 : decode cX6_tryThing 87 = .ok (.ireturn, 1) := by decide +kernel
theorem dX6_tryThing_88 : decode cX6_tryThing 88 = .ok (.aload_n 0, 1) := by decide +kernel
theorem dX6_tryThing_89 : decode cX6_tryThing 89 = .ok (.iconst 1, 1) := by decide +kernel
theorem dX6_tryThing_90 : decode cX6_tryThing 90 = .ok (.iload_n 2, 1) := by decide +kernel
theorem dX6_tryThing_91 : decode cX6_tryThing 91 = .ok (.ifCond .eq 7, 3) := by decide +kernel
theorem dX6_tryThing_94 : decode cX6_tryThing 94 = .ok (.iconst 1, 1) := by decide +kernel
theorem dX6_tryThing_95 : decode cX6_tryThing 95 = .ok (.goto 4, 3) := by decide +kernel
theorem dX6_tryThing_98 : decode cX6_tryThing 98 = .ok (.iconst 0, 1) := by decide +kernel
theorem dX6_tryThing_99 : decode cX6_tryThing 99 = .ok (.invokevirtual 135, 3) := by decide +kernel
theorem dX6_tryThing_102 : decode cX6_tryThing 102 = .ok (.iload_n 2, 1) := by decide +kernel
theorem dX6_tryThing_103 : decode cX6_tryThing 103 = .ok (.ireturn, 1) := by decide +kernel
theorem dX6_tryThing_104 : decode cX6_tryThing 104 = .ok (.aload_n 0, 1) := by decide +kernel
theorem dX6_tryThing_105 : decode cX6_tryThing 105 = .ok (.iconst 1, 1) := by decide +kernel
theorem dX6_tryThing_106 : decode cX6_tryThing 106 = .ok (.invokevirtual 139, 3) := by decide +kernel
theorem dX6_tryThing_109 : decode cX6_tryThing 109 = .ok (.istore 4, 2) := by decide +kernel
theorem dX6_tryThing_111 : decode cX6_tryThing 111 = .ok (.iload 4, 2) := by decide +kernel
theorem dX6_tryThing_113 : decode cX6_tryThing 113 = .ok (.ifCond .eq 8, 3) := by decide +kernel
theorem dX6_tryThing_116 : decode cX6_tryThing 116 = .ok (.aload_n 0, 1) := by decide +kernel
theorem dX6_tryThing_117 : decode cX6_tryThing 117 = .ok (.iconst 1, 1) := by decide +kernel
theorem dX6_tryThing_118 : decode cX6_tryThing 118 = .ok (.invokevirtual 142, 3) := by decide +kernel
theorem dX6_tryThing_121 : decode cX6_tryThing 121 = .ok (.iload 4, 2) := by decide +kernel
theorem dX6_tryThing_123 : decode cX6_tryThing 123 = .ok (.ireturn, 1) := by decide +kernel
theorem dX6_tryThing_124 : decode cX6_tryThing 124 = .ok (.aload_n 0, 1) := by decide +kernel
theorem dX6_tryThing_125 : decode cX6_tryThing 125 = .ok (.getfield 19, 3) := by decide +kernel
theorem dX6_tryThing_128 : decode cX6_tryThing 128 = .ok (.bipush 17, 2) := by decide +kernel
theorem dX6_tryThing_130 : decode cX6_tryThing 130 = .ok (.iconst 1, 1) := by decide +kernel
theorem dX6_tryThing_131 : decode cX6_tryThing 131 = .ok (.aload_n 0, 1) := by decide +kernel
theorem dX6_tryThing_132 : decode cX6_tryThing 132 = .ok (.getfield 19, 3) := by decide +kernel
theorem dX6_tryThing_135 : decode cX6_tryThing 135 = .ok (.bipush 17, 2) := by decide +kernel
theorem dX6_tryThing_137 : decode cX6_tryThing 137 = .ok (.iaload, 1) := by decide +kernel
theorem dX6_tryThing_138 : decode cX6_tryThing 138 = .ok (.isub, 1) := by decide +kernel
theorem dX6_tryThing_139 : decode cX6_tryThing 139 = .ok (.iastore, 1) := by decide +kernel
theorem dX6_tryThing_140 : decode cX6_tryThing 140 = .ok (.iconst 1, 1) := by decide +kernel
theorem dX6_tryThing_141 : decode cX6_tryThing 141 = .ok (.ireturn, 1) := by decide +kernel
theorem dX6_tryThing_142 : decode cX6_tryThing 142 = .ok (.iload_n 1, 1) := by decide +kernel
theorem dX6_tryThing_143 : decode cX6_tryThing 143 = .ok (.iconst 5, 1) := by decide +kernel
theorem dX6_tryThing_144 : decode cX6_tryThing 144 = .ok (.if_icmp .ge 32, 3) := by decide +kernel
theorem dX6_tryThing_147 : decode cX6_tryThing 147 = .ok (.aload_n 0, 1) := by decide +kernel
theorem dX6_tryThing_148 : decode cX6_tryThing 148 = .ok (.iload_n 1, 1) := by decide +kernel
theorem dX6_tryThing_149 : decode cX6_tryThing 149 = .ok (.iconst 1, 1) := by decide +kernel
theorem dX6_tryThing_150 : decode cX6_tryThing 150 = .ok (.isub, 1) := by decide +kernel
theorem dX6_tryThing_151 : decode cX6_tryThing 151 = .ok (.invokevirtual 107, 3) := by decide +kernel
theorem dX6_tryThing_154 : decode cX6_tryThing 154 = .ok (.ifCond .eq 22, 3) := by decide +kernel
theorem dX6_tryThing_157 : decode cX6_tryThing 157 = .ok (.iload_n 2, 1) := by decide +kernel
theorem dX6_tryThing_158 : decode cX6_tryThing 158 = .ok (.ifCond .eq 18, 3) := by decide +kernel
theorem dX6_tryThing_161 : decode cX6_tryThing 161 = .ok (.aload_n 0, 1) := by decide +kernel
theorem dX6_tryThing_162 : decode cX6_tryThing 162 = .ok (.iconst 1, 1) := by decide +kernel
theorem dX6_tryThing_163 : decode cX6_tryThing 163 = .ok (.iload_n 1, 1) := by decide +kernel
theorem dX6_tryThing_164 : decode cX6_tryThing 164 = .ok (.iconst 1, 1) := by decide +kernel
theorem dX6_tryThing_165 : decode cX6_tryThing 165 = .ok (.isub, 1) := by decide +kernel
theorem dX6_tryThing_166 : decode cX6_tryThing 166 = .ok (.invokevirtual 126, 3) := by decide +kernel
theorem dX6_tryThing_169 : decode cX6_tryThing 169 = .ok (.ifCond .eq 7, 3) := by decide +kernel
theorem dX6_tryThing_172 : decode cX6_tryThing 172 = .ok (.iconst 1, 1) := by decide +kernel
theorem dX6_tryThing_173 : decode cX6_tryThing 173 = .ok (.goto 4, 3) := by decide +kernel
theorem dX6_tryThing_176 : decode cX6_tryThing 176 = .ok (.iconst 0, 1) := by decide +kernel
theorem dX6_tryThing_177 : decode cX6_tryThing 177 = .ok (.ireturn, 1) := by decide +kernel
theorem dX6_judge_0 : decode cX6_judge 0 = .ok (.iload_n 1, 1) := by decide +kernel
theorem dX6_judge_1 : decode cX6_judge 1 = .ok (.i2l, 1) := by decide +kernel
theorem dX6_judge_2 : decode cX6_judge 2 = .ok (.lconst 1, 1) := by decide +kernel
theorem dX6_judge_3 : decode cX6_judge 3 = .ok (.ldc2_w 155, 3) := by decide +kernel
theorem dX6_judge_6 : decode cX6_judge 6 = .ok (.invokestatic 52, 3) := by decide +kernel
theorem dX6_judge_9 : decode cX6_judge 9 = .ok (.ifCond .eq 19, 3) := by decide +kernel
theorem dX6_judge_12 : decode cX6_judge 12 = .ok (.iload_n 2, 1) := by decide +kernel
theorem dX6_judge_13 : decode cX6_judge 13 = .ok (.i2l, 1) := by decide +kernel
theorem dX6_judge_14 : decode cX6_judge 14 = .ok (.lconst 0, 1) := by decide +kernel
theorem dX6_judge_15 : decode cX6_judge 15 = .ok (.iload_n 1, 1) := by decide +kernel
theorem dX6_judge_16 : decode cX6_judge 16 = .ok (.invokestatic 149, 3) := by decide +kernel
theorem dX6_judge_19 : decode cX6_judge 19 = .ok (.iconst 1, 1) := by decide +kernel
theorem dX6_judge_20 : decode cX6_judge 20 = .ok (.isub, 1) := by decide +kernel
theorem dX6_judge_21 : decode cX6_judge 21 = .ok (.i2l, 1) := by decide +kernel
theorem dX6_judge_22 : decode cX6_judge 22 = .ok (.invokestatic 52, 3) := by decide +kernel
theorem dX6_judge_25 : decode cX6_judge 25 = .ok (.ifCond .ne 6, 3) := by decide +kernel
theorem dX6_judge_28 : decode cX6_judge 28 = .ok (.bipush (-2), 2) := by decide +kernel
theorem dX6_judge_30 : decode cX6_judge 30 = .ok (.ireturn, 1) := by decide +kernel
theorem dX6_judge_31 : decode cX6_judge 31 = .ok (.aload_n 0, 1) := by decide +kernel
theorem dX6_judge_32 : decode cX6_judge 32 = .ok (.invokevirtual 146, 3) := by decide +kernel
theorem dX6_judge_35 : decode cX6_judge 35 = .ok (.iconst 0, 1) := by decide +kernel
theorem dX6_judge_36 : decode cX6_judge 36 = .ok (.istore_n 3, 1) := by decide +kernel
theorem dX6_judge_37 : decode cX6_judge 37 = .ok (.iload_n 3, 1) := by decide +kernel
theorem dX6_judge_38 : decode cX6_judge 38 = .ok (.iload_n 1, 1) := by decide +kernel
theorem dX6_judge_39 : decode cX6_judge 39 = .ok (.if_icmp .ge 31, 3) := by decide +kernel
theorem dX6_judge_42 : decode cX6_judge 42 = .ok (.aload_n 0, 1) := by decide +kernel
theorem dX6_judge_43 : decode cX6_judge 43 = .ok (.iload_n 2, 1) := by decide +kernel
theorem dX6_judge_44 : decode cX6_judge 44 = .ok (.iload_n 1, 1) := by decide +kernel
theorem dX6_judge_45 : decode cX6_judge 45 = .ok (.iconst 1, 1) := by decide +kernel
theorem dX6_judge_46 : decode cX6_judge 46 = .ok (.isub, 1) := by decide +kernel
theorem dX6_judge_47 : decode cX6_judge 47 = .ok (.iload_n 3, 1) := by decide +kernel
theorem dX6_judge_48 : decode cX6_judge 48 = .ok (.isub, 1) := by decide +kernel
theorem dX6_judge_49 : decode cX6_judge 49 = .ok (.invokestatic 149, 3) := by decide +kernel
theorem dX6_judge_52 : decode cX6_judge 52 = .ok (.idiv, 1) := by decide +kernel
theorem dX6_judge_53 : decode cX6_judge 53 = .ok (.bipush 10, 2) := by decide +kernel
theorem dX6_judge_55 : decode cX6_judge 55 = .ok (.irem, 1) := by decide +kernel
theorem dX6_judge_56 : decode cX6_judge 56 = .ok (.invokevirtual 157, 3) := by decide +kernel
theorem dX6_judge_59 : decode cX6_judge 59 = .ok (.ifCond .ne 5, 3) := by decide +kernel
theorem dX6_judge_62 : decode cX6_judge 62 = .ok (.iload_n 3, 1) := by decide +kernel
theorem dX6_judge_63 : decode cX6_judge 63 = .ok (.ireturn, 1) := by decide +kernel
theorem dX6_judge_64 : decode cX6_judge 64 = .ok (.iinc 3 1, 3) := by decide +kernel
theorem dX6_judge_67 : decode cX6_judge 67 = .ok (.goto (-30), 3) := by decide +kernel
theorem dX6_judge_70 : decode cX6_judge 70 = .ok (.bipush (-9), 2) := by decide +kernel
theorem dX6_judge_72 : decode cX6_judge 72 = .ok (.ireturn, 1) := by decide +kernel
theorem dX6_see_0 : decode cX6_see 0 = .ok (.aload_n 0, 1) := by decide +kernel
theorem dX6_see_1 : decode cX6_see 1 = .ok (.iload_n 1, 1) := by decide +kernel
theorem dX6_see_2 : decode cX6_see 2 = .ok (.invokevirtual 107, 3) := by decide +kernel
theorem dX6_see_5 : decode cX6_see 5 = .ok (.ifCond .ne 5, 3) := by decide +kernel
theorem dX6_see_8 : decode cX6_see 8 = .ok (.iconst (-1), 1) := by decide +kernel
theorem dX6_see_9 : decode cX6_see 9 = .ok (.ireturn, 1) := by decide +kernel
theorem dX6_see_10 : decode cX6_see 10 = .ok (.iload_n 2, 1) := by decide +kernel
theorem dX6_see_11 : decode cX6_see 11 = .ok (.i2l, 1) := by decide +kernel
theorem dX6_see_12 : decode cX6_see 12 = .ok (.lconst 0, 1) := by decide +kernel
theorem dX6_see_13 : decode cX6_see 13 = .ok (.ldc2_w 118, 3) := by decide +kernel
theorem dX6_see_16 : decode cX6_see 16 = .ok (.invokestatic 52, 3) := by decide +kernel
theorem dX6_see_19 : decode cX6_see 19 = .ok (.ifCond .eq 13, 3) := by decide +kernel
theorem dX6_see_22 : decode cX6_see 22 = .ok (.iload_n 3, 1) := by decide +kernel
theorem dX6_see_23 : decode cX6_see 23 = .ok (.i2l, 1) := by decide +kernel
theorem dX6_see_24 : decode cX6_see 24 = .ok (.lconst 0, 1) := by decide +kernel
theorem dX6_see_25 : decode cX6_see 25 = .ok (.lconst 1, 1) := by decide +kernel
theorem dX6_see_26 : decode cX6_see 26 = .ok (.invokestatic 52, 3) := by decide +kernel
theorem dX6_see_29 : decode cX6_see 29 = .ok (.ifCond .ne 6, 3) := by decide +kernel
theorem dX6_see_32 : decode cX6_see 32 = .ok (.bipush (-2), 2) := by decide +kernel
theorem dX6_see_34 : decode cX6_see 34 = .ok (.ireturn, 1) := by decide +kernel
theorem dX6_see_35 : decode cX6_see 35 = .ok (.aload_n 0, 1) := by decide +kernel
theorem dX6_see_36 : decode cX6_see 36 = .ok (.getfield 160, 3) := by decide +kernel
theorem dX6_see_39 : decode cX6_see 39 = .ok (.bipush 6, 2) := by decide +kernel
theorem dX6_see_41 : decode cX6_see 41 = .ok (.if_icmp .ne 6, 3) := by decide +kernel
theorem dX6_see_44 : decode cX6_see 44 = .ok (.bipush (-4), 2) := by decide +kernel
theorem dX6_see_46 : decode cX6_see 46 = .ok (.ireturn, 1) := by decide +kernel
theorem dX6_see_47 : decode cX6_see 47 = .ok (.aload_n 0, 1) := by decide +kernel
theorem dX6_see_48 : decode cX6_see 48 = .ok (.getfield 34, 3) := by decide +kernel
theorem dX6_see_51 : decode cX6_see 51 = .ok (.aload_n 0, 1) := by decide +kernel
theorem dX6_see_52 : decode cX6_see 52 = .ok (.getfield 160, 3) := by decide +kernel
theorem dX6_see_55 : decode cX6_see 55 = .ok (.iload_n 1, 1) := by decide +kernel
theorem dX6_see_56 : decode cX6_see 56 = .ok (.iastore, 1) := by decide +kernel
theorem dX6_see_57 : decode cX6_see 57 = .ok (.aload_n 0, 1) := by decide +kernel
theorem dX6_see_58 : decode cX6_see 58 = .ok (.getfield 37, 3) := by decide +kernel
theorem dX6_see_61 : decode cX6_see 61 = .ok (.aload_n 0, 1) := by decide +kernel
theorem dX6_see_62 : decode cX6_see 62 = .ok (.getfield 160, 3) := by decide +kernel
theorem dX6_see_65 : decode cX6_see 65 = .ok (.iload_n 2, 1) := by decide +kernel
theorem dX6_see_66 : decode cX6_see 66 = .ok (.iastore, 1) := by decide +kernel
theorem dX6_see_67 : decode cX6_see 67 = .ok (.aload_n 0, 1) := by decide +kernel
theorem dX6_see_68 : decode cX6_see 68 = .ok (.getfield 40, 3) := by decide +kernel
theorem dX6_see_71 : decode cX6_see 71 = .ok (.aload_n 0, 1) := by decide +kernel
theorem dX6_see_72 : decode cX6_see 72 = .ok (.getfield 160, 3) := by decide +kernel
theorem dX6_see_75 : decode cX6_see 75 = .ok (.iload_n 3, 1) := by decide +kernel
theorem dX6_see_76 : decode cX6_see 76 = .ok (.iastore, 1) := by decide +kernel
theorem dX6_see_77 : decode cX6_see 77 = .ok (.aload_n 0, 1) := by decide +kernel
theorem dX6_see_78 : decode cX6_see 78 = .ok (.dup, 1) := by decide +kernel
theorem dX6_see_79 : decode cX6_see 79 = .ok (.getfield 160, 3) := by decide +kernel
theorem dX6_see_82 : decode cX6_see 82 = .ok (.iconst 1, 1) := by decide +kernel
theorem dX6_see_83 : decode cX6_see 83 = .ok (.iadd, 1) := by decide +kernel
theorem dX6_see_84 : decode cX6_see 84 = .ok (.putfield 160, 3) := by decide +kernel
theorem dX6_see_87 : decode cX6_see 87 = .ok (.aload_n 0, 1) := by decide +kernel
theorem dX6_see_88 : decode cX6_see 88 = .ok (.getfield 160, 3) := by decide +kernel
theorem dX6_see_91 : decode cX6_see 91 = .ok (.ireturn, 1) := by decide +kernel
theorem dX6_unsee_0 : decode cX6_unsee 0 = .ok (.aload_n 0, 1) := by decide +kernel
theorem dX6_unsee_1 : decode cX6_unsee 1 = .ok (.getfield 160, 3) := by decide +kernel
theorem dX6_unsee_4 : decode cX6_unsee 4 = .ok (.istore_n 1, 1) := by decide +kernel
theorem dX6_unsee_5 : decode cX6_unsee 5 = .ok (.aload_n 0, 1) := by decide +kernel
theorem dX6_unsee_6 : decode cX6_unsee 6 = .ok (.iconst 0, 1) := by decide +kernel
theorem dX6_unsee_7 : decode cX6_unsee 7 = .ok (.putfield 160, 3) := by decide +kernel
theorem dX6_unsee_10 : decode cX6_unsee 10 = .ok (.iload_n 1, 1) := by decide +kernel
theorem dX6_unsee_11 : decode cX6_unsee 11 = .ok (.ireturn, 1) := by decide +kernel
theorem dX6_may_0 : decode cX6_may 0 = .ok (.aload_n 0, 1) := by decide +kernel
theorem dX6_may_1 : decode cX6_may 1 = .ok (.iload_n 1, 1) := by decide +kernel
theorem dX6_may_2 : decode cX6_may 2 = .ok (.invokevirtual 107, 3) := by decide +kernel
theorem dX6_may_5 : decode cX6_may 5 = .ok (.ifCond .ne 5, 3) := by decide +kernel
theorem dX6_may_8 : decode cX6_may 8 = .ok (.iconst (-1), 1) := by decide +kernel
theorem dX6_may_9 : decode cX6_may 9 = .ok (.ireturn, 1) := by decide +kernel
theorem dX6_may_10 : decode cX6_may 10 = .ok (.iconst 0, 1) := by decide +kernel
theorem dX6_may_11 : decode cX6_may 11 = .ok (.istore_n 2, 1) := by decide +kernel
theorem dX6_may_12 : decode cX6_may 12 = .ok (.iconst 0, 1) := by decide +kernel
theorem dX6_may_13 : decode cX6_may 13 = .ok (.istore_n 3, 1) := by decide +kernel
theorem dX6_may_14 : decode cX6_may 14 = .ok (.iload_n 3, 1) := by decide +kernel
theorem dX6_may_15 : decode cX6_may 15 = .ok (.bipush 10, 2) := by decide +kernel
theorem dX6_may_17 : decode cX6_may 17 = .ok (.if_icmp .ge 102, 3) := by decide +kernel
theorem dX6_may_20 : decode cX6_may 20 = .ok (.iconst 1, 1) := by decide +kernel
theorem dX6_may_21 : decode cX6_may 21 = .ok (.istore 4, 2) := by decide +kernel
theorem dX6_may_23 : decode cX6_may 23 = .ok (.iconst 0, 1) := by decide +kernel
theorem dX6_may_24 : decode cX6_may 24 = .ok (.istore 5, 2) := by decide +kernel
theorem dX6_may_26 : decode cX6_may 26 = .ok (.iload 5, 2) := by decide +kernel
theorem dX6_may_28 : decode cX6_may 28 = .ok (.aload_n 0, 1) := by decide +kernel
theorem dX6_may_29 : decode cX6_may 29 = .ok (.getfield 160, 3) := by decide +kernel
theorem dX6_may_32 : decode cX6_may 32 = .ok (.if_icmp .ge 66, 3) := by decide +kernel
theorem dX6_may_35 : decode cX6_may 35 = .ok (.iload 4, 2) := by decide +kernel
theorem dX6_may_37 : decode cX6_may 37 = .ok (.ifCond .eq 52, 3) := by decide +kernel
theorem dX6_may_40 : decode cX6_may 40 = .ok (.aload_n 0, 1) := by decide +kernel
theorem dX6_may_41 : decode cX6_may 41 = .ok (.getfield 34, 3) := by decide +kernel
theorem dX6_may_44 : decode cX6_may 44 = .ok (.iload 5, 2) := by decide +kernel
theorem dX6_may_46 : decode cX6_may 46 = .ok (.iaload, 1) := by decide +kernel
theorem dX6_may_47 : decode cX6_may 47 = .ok (.iload_n 1, 1) := by decide +kernel
theorem dX6_may_48 : decode cX6_may 48 = .ok (.if_icmp .ne 37, 3) := by decide +kernel
theorem dX6_may_51 : decode cX6_may 51 = .ok (.aload_n 0, 1) := by decide +kernel
theorem dX6_may_52 : decode cX6_may 52 = .ok (.iload_n 3, 1) := by decide +kernel
theorem dX6_may_53 : decode cX6_may 53 = .ok (.iload_n 1, 1) := by decide +kernel
theorem dX6_may_54 : decode cX6_may 54 = .ok (.aload_n 0, 1) := by decide +kernel
theorem dX6_may_55 : decode cX6_may 55 = .ok (.getfield 37, 3) := by decide +kernel
theorem dX6_may_58 : decode cX6_may 58 = .ok (.iload 5, 2) := by decide +kernel
theorem dX6_may_60 : decode cX6_may 60 = .ok (.iaload, 1) := by decide +kernel
theorem dX6_may_61 : decode cX6_may 61 = .ok (.bipush 15, 2) := by decide +kernel
theorem dX6_may_63 : decode cX6_may 63 = .ok (.invokevirtual 100, 3) := by decide +kernel
theorem dX6_may_66 : decode cX6_may 66 = .ok (.aload_n 0, 1) := by decide +kernel
theorem dX6_may_67 : decode cX6_may 67 = .ok (.getfield 40, 3) := by decide +kernel
theorem dX6_may_70 : decode cX6_may 70 = .ok (.iload 5, 2) := by decide +kernel
theorem dX6_may_72 : decode cX6_may 72 = .ok (.iaload, 1) := by decide +kernel
theorem dX6_may_73 : decode cX6_may 73 = .ok (.iconst 1, 1) := by decide +kernel
theorem dX6_may_74 : decode cX6_may 74 = .ok (.if_icmp .ne 7, 3) := by decide +kernel
theorem dX6_may_77 : decode cX6_may 77 = .ok (.iconst 1, 1) := by decide +kernel
theorem dX6_may_78 : decode cX6_may 78 = .ok (.goto 4, 3) := by decide +kernel
theorem dX6_may_81 : decode cX6_may 81 = .ok (.iconst 0, 1) := by decide +kernel
theorem dX6_may_82 : decode cX6_may 82 = .ok (.if_icmp .ne 7, 3) := by decide +kernel
theorem dX6_may_85 : decode cX6_may 85 = .ok (.iconst 1, 1) := by decide +kernel
theorem dX6_may_86 : decode cX6_may 86 = .ok (.goto 4, 3) := by decide +kernel
theorem dX6_may_89 : decode cX6_may 89 = .ok (.iconst 0, 1) := by decide +kernel
theorem dX6_may_90 : decode cX6_may 90 = .ok (.istore 4, 2) := by decide +kernel
theorem dX6_may_92 : decode cX6_may 92 = .ok (.iinc 5 1, 3) := by decide +kernel
theorem dX6_may_95 : decode cX6_may 95 = .ok (.goto (-69), 3) := by decide +kernel
theorem dX6_may_98 : decode cX6_may 98 = .ok (.iload_n 2, 1) := by decide +kernel
theorem dX6_may_99 : decode cX6_may 99 = .ok (.iload 4, 2) := by decide +kernel
theorem dX6_may_101 : decode cX6_may 101 = .ok (.ifCond .eq 9, 3) := by decide +kernel
theorem dX6_may_104 : decode cX6_may 104 = .ok (.iconst 1, 1) := by decide +kernel
theorem dX6_may_105 : decode cX6_may 105 = .ok (.iload_n 3, 1) := by decide +kernel
theorem dX6_may_106 : decode cX6_may 106 = .ok (.ishl, 1) := by decide +kernel
theorem dX6_may_107 : decode cX6_may 107 = .ok (.goto 4, 3) := by decide +kernel
theorem dX6_may_110 : decode cX6_may 110 = .ok (.iconst 0, 1) := by decide +kernel
theorem dX6_may_111 : decode cX6_may 111 = .ok (.ior, 1) := by decide +kernel
theorem dX6_may_112 : decode cX6_may 112 = .ok (.istore_n 2, 1) := by decide +kernel
theorem dX6_may_113 : decode cX6_may 113 = .ok (.iinc 3 1, 3) := by decide +kernel
theorem dX6_may_116 : decode cX6_may 116 = .ok (.goto (-102), 3) := by decide +kernel
theorem dX6_may_119 : decode cX6_may 119 = .ok (.iload_n 2, 1) := by decide +kernel
theorem dX6_may_120 : decode cX6_may 120 = .ok (.ireturn, 1) := by decide +kernel
theorem dX6_factorial_0 : decode cX6_factorial 0 = .ok (.iconst 1, 1) := by decide +kernel
theorem dX6_factorial_1 : decode cX6_factorial 1 = .ok (.istore_n 1, 1) := by decide +kernel
theorem dX6_factorial_2 : decode cX6_factorial 2 = .ok (.iconst 2, 1) := by decide +kernel
theorem dX6_factorial_3 : decode cX6_factorial 3 = .ok (.istore_n 2, 1) := by decide +kernel
theorem dX6_factorial_4 : decode cX6_factorial 4 = .ok (.iload_n 2, 1) := by decide +kernel
theorem dX6_factorial_5 : decode cX6_factorial 5 = .ok (.iload_n 0, 1) := by decide +kernel
theorem dX6_factorial_6 : decode cX6_factorial 6 = .ok (.if_icmp .gt 13, 3) := by decide +kernel
theorem dX6_factorial_9 : decode cX6_factorial 9 = .ok (.iload_n 1, 1) := by decide +kernel
theorem dX6_factorial_10 : decode cX6_factorial 10 = .ok (.iload_n 2, 1) := by decide +kernel
theorem dX6_factorial_11 : decode cX6_factorial 11 = .ok (.imul, 1) := by decide +kernel
theorem dX6_factorial_12 : decode cX6_factorial 12 = .ok (.istore_n 1, 1) := by decide +kernel
theorem dX6_factorial_13 : decode cX6_factorial 13 = .ok (.iinc 2 1, 3) := by decide +kernel
theorem dX6_factorial_16 : decode cX6_factorial 16 = .ok (.goto (-12), 3) := by decide +kernel
theorem dX6_factorial_19 : decode cX6_factorial 19 = .ok (.iload_n 1, 1) := by decide +kernel
theorem dX6_factorial_20 : decode cX6_factorial 20 = .ok (.ireturn, 1) := by decide +kernel
theorem dX6_common_0 : decode cX6_common 0 = .ok (.iload_n 0, 1) := by decide +kernel
theorem dX6_common_1 : decode cX6_common 1 = .ok (.ifCond .ge 8, 3) := by decide +kernel
theorem dX6_common_4 : decode cX6_common 4 = .ok (.iload_n 0, 1) := by decide +kernel
theorem dX6_common_5 : decode cX6_common 5 = .ok (.ineg, 1) := by decide +kernel
theorem dX6_common_6 : decode cX6_common 6 = .ok (.goto 4, 3) := by decide +kernel
theorem dX6_common_9 : decode cX6_common 9 = .ok (.iload_n 0, 1) := by decide +kernel
theorem dX6_common_10 : decode cX6_common 10 = .ok (.istore_n 2, 1) := by decide +kernel
theorem dX6_common_11 : decode cX6_common 11 = .ok (.iload_n 1, 1) := by decide +kernel
theorem dX6_common_12 : decode cX6_common 12 = .ok (.istore_n 3, 1) := by decide +kernel
theorem dX6_common_13 : decode cX6_common 13 = .ok (.iload_n 3, 1) := by decide +kernel
theorem dX6_common_14 : decode cX6_common 14 = .ok (.ifCond .eq 16, 3) := by decide +kernel
theorem dX6_common_17 : decode cX6_common 17 = .ok (.iload_n 2, 1) := by decide +kernel
theorem dX6_common_18 : decode cX6_common 18 = .ok (.iload_n 3, 1) := by decide +kernel
theorem dX6_common_19 : decode cX6_common 19 = .ok (.irem, 1) := by decide +kernel
theorem dX6_common_20 : decode cX6_common 20 = .ok (.istore 4, 2) := by decide +kernel
theorem dX6_common_22 : decode cX6_common 22 = .ok (.iload_n 3, 1) := by decide +kernel
theorem dX6_common_23 : decode cX6_common 23 = .ok (.istore_n 2, 1) := by decide +kernel
theorem dX6_common_24 : decode cX6_common 24 = .ok (.iload 4, 2) := by decide +kernel
theorem dX6_common_26 : decode cX6_common 26 = .ok (.istore_n 3, 1) := by decide +kernel
theorem dX6_common_27 : decode cX6_common 27 = .ok (.goto (-14), 3) := by decide +kernel
theorem dX6_common_30 : decode cX6_common 30 = .ok (.iload_n 2, 1) := by decide +kernel
theorem dX6_common_31 : decode cX6_common 31 = .ok (.ireturn, 1) := by decide +kernel
theorem dX6_reached_0 : decode cX6_reached 0 = .ok (.iconst 0, 1) := by decide +kernel
theorem dX6_reached_1 : decode cX6_reached 1 = .ok (.istore_n 2, 1) := by decide +kernel
theorem dX6_reached_2 : decode cX6_reached 2 = .ok (.iconst 0, 1) := by decide +kernel
theorem dX6_reached_3 : decode cX6_reached 3 = .ok (.istore_n 3, 1) := by decide +kernel
theorem dX6_reached_4 : decode cX6_reached 4 = .ok (.iload_n 3, 1) := by decide +kernel
theorem dX6_reached_5 : decode cX6_reached 5 = .ok (.bipush 10, 2) := by decide +kernel
theorem dX6_reached_7 : decode cX6_reached 7 = .ok (.if_icmp .ge 74, 3) := by decide +kernel
theorem dX6_reached_10 : decode cX6_reached 10 = .ok (.iconst 0, 1) := by decide +kernel
theorem dX6_reached_11 : decode cX6_reached 11 = .ok (.istore 4, 2) := by decide +kernel
theorem dX6_reached_13 : decode cX6_reached 13 = .ok (.iconst 0, 1) := by decide +kernel
theorem dX6_reached_14 : decode cX6_reached 14 = .ok (.istore 5, 2) := by decide +kernel
theorem dX6_reached_16 : decode cX6_reached 16 = .ok (.iload 5, 2) := by decide +kernel
theorem dX6_reached_18 : decode cX6_reached 18 = .ok (.aload_n 0, 1) := by decide +kernel
theorem dX6_reached_19 : decode cX6_reached 19 = .ok (.getfield 80, 3) := by decide +kernel
theorem dX6_reached_22 : decode cX6_reached 22 = .ok (.if_icmp .ge 40, 3) := by decide +kernel
theorem dX6_reached_25 : decode cX6_reached 25 = .ok (.iload 4, 2) := by decide +kernel
theorem dX6_reached_27 : decode cX6_reached 27 = .ok (.ifCond .ne 22, 3) := by decide +kernel
theorem dX6_reached_30 : decode cX6_reached 30 = .ok (.iload_n 1, 1) := by decide +kernel
theorem dX6_reached_31 : decode cX6_reached 31 = .ok (.iload 5, 2) := by decide +kernel
theorem dX6_reached_33 : decode cX6_reached 33 = .ok (.invokestatic 89, 3) := by decide +kernel
theorem dX6_reached_36 : decode cX6_reached 36 = .ok (.ifCond .eq 17, 3) := by decide +kernel
theorem dX6_reached_39 : decode cX6_reached 39 = .ok (.aload_n 0, 1) := by decide +kernel
theorem dX6_reached_40 : decode cX6_reached 40 = .ok (.iload 5, 2) := by decide +kernel
theorem dX6_reached_42 : decode cX6_reached 42 = .ok (.iload_n 3, 1) := by decide +kernel
theorem dX6_reached_43 : decode cX6_reached 43 = .ok (.invokevirtual 104, 3) := by decide +kernel
theorem dX6_reached_46 : decode cX6_reached 46 = .ok (.ifCond .eq 7, 3) := by decide +kernel
theorem dX6_reached_49 : decode cX6_reached 49 = .ok (.iconst 1, 1) := by decide +kernel
theorem dX6_reached_50 : decode cX6_reached 50 = .ok (.goto 4, 3) := by decide +kernel
theorem dX6_reached_53 : decode cX6_reached 53 = .ok (.iconst 0, 1) := by decide +kernel
theorem dX6_reached_54 : decode cX6_reached 54 = .ok (.istore 4, 2) := by decide +kernel
theorem dX6_reached_56 : decode cX6_reached 56 = .ok (.iinc 5 1, 3) := by decide +kernel
theorem dX6_reached_59 : decode cX6_reached 59 = .ok (.goto (-43), 3) := by decide +kernel
theorem dX6_reached_62 : decode cX6_reached 62 = .ok (.iload_n 2, 1) := by decide +kernel
theorem dX6_reached_63 : decode cX6_reached 63 = .ok (.iload 4, 2) := by decide +kernel
theorem dX6_reached_65 : decode cX6_reached 65 = .ok (.ifCond .eq 7, 3) := by decide +kernel
theorem dX6_reached_68 : decode cX6_reached 68 = .ok (.iconst 1, 1) := by decide +kernel
theorem dX6_reached_69 : decode cX6_reached 69 = .ok (.goto 4, 3) := by decide +kernel
theorem dX6_reached_72 : decode cX6_reached 72 = .ok (.iconst 0, 1) := by decide +kernel
theorem dX6_reached_73 : decode cX6_reached 73 = .ok (.iadd, 1) := by decide +kernel
theorem dX6_reached_74 : decode cX6_reached 74 = .ok (.istore_n 2, 1) := by decide +kernel
theorem dX6_reached_75 : decode cX6_reached 75 = .ok (.iinc 3 1, 3) := by decide +kernel
theorem dX6_reached_78 : decode cX6_reached 78 = .ok (.goto (-74), 3) := by decide +kernel
theorem dX6_reached_81 : decode cX6_reached 81 = .ok (.iload_n 2, 1) := by decide +kernel
theorem dX6_reached_82 : decode cX6_reached 82 = .ok (.ireturn, 1) := by decide +kernel
theorem dX6_share_0 : decode cX6_share 0 = .ok (.aload_n 0, 1) := by decide +kernel
theorem dX6_share_1 : decode cX6_share 1 = .ok (.iload_n 1, 1) := by decide +kernel
theorem dX6_share_2 : decode cX6_share 2 = .ok (.invokevirtual 107, 3) := by decide +kernel
theorem dX6_share_5 : decode cX6_share 5 = .ok (.ifCond .ne 5, 3) := by decide +kernel
theorem dX6_share_8 : decode cX6_share 8 = .ok (.iconst (-1), 1) := by decide +kernel
theorem dX6_share_9 : decode cX6_share 9 = .ok (.ireturn, 1) := by decide +kernel
theorem dX6_share_10 : decode cX6_share 10 = .ok (.iconst 0, 1) := by decide +kernel
theorem dX6_share_11 : decode cX6_share 11 = .ok (.istore_n 3, 1) := by decide +kernel
theorem dX6_share_12 : decode cX6_share 12 = .ok (.iconst 0, 1) := by decide +kernel
theorem dX6_share_13 : decode cX6_share 13 = .ok (.istore 4, 2) := by decide +kernel
theorem dX6_share_15 : decode cX6_share 15 = .ok (.iload 4, 2) := by decide +kernel
theorem dX6_share_17 : decode cX6_share 17 = .ok (.iconst 1, 1) := by decide +kernel
theorem dX6_share_18 : decode cX6_share 18 = .ok (.aload_n 0, 1) := by decide +kernel
theorem dX6_share_19 : decode cX6_share 19 = .ok (.getfield 80, 3) := by decide +kernel
theorem dX6_share_22 : decode cX6_share 22 = .ok (.ishl, 1) := by decide +kernel
theorem dX6_share_23 : decode cX6_share 23 = .ok (.if_icmp .ge 67, 3) := by decide +kernel
theorem dX6_share_26 : decode cX6_share 26 = .ok (.iload 4, 2) := by decide +kernel
theorem dX6_share_28 : decode cX6_share 28 = .ok (.iload_n 1, 1) := by decide +kernel
theorem dX6_share_29 : decode cX6_share 29 = .ok (.invokestatic 89, 3) := by decide +kernel
theorem dX6_share_32 : decode cX6_share 32 = .ok (.ifCond .ne 52, 3) := by decide +kernel
theorem dX6_share_35 : decode cX6_share 35 = .ok (.iload 4, 2) := by decide +kernel
theorem dX6_share_37 : decode cX6_share 37 = .ok (.invokestatic 163, 3) := by decide +kernel
theorem dX6_share_40 : decode cX6_share 40 = .ok (.invokestatic 166, 3) := by decide +kernel
theorem dX6_share_43 : decode cX6_share 43 = .ok (.aload_n 0, 1) := by decide +kernel
theorem dX6_share_44 : decode cX6_share 44 = .ok (.getfield 80, 3) := by decide +kernel
theorem dX6_share_47 : decode cX6_share 47 = .ok (.iconst 1, 1) := by decide +kernel
theorem dX6_share_48 : decode cX6_share 48 = .ok (.isub, 1) := by decide +kernel
theorem dX6_share_49 : decode cX6_share 49 = .ok (.iload 4, 2) := by decide +kernel
theorem dX6_share_51 : decode cX6_share 51 = .ok (.invokestatic 163, 3) := by decide +kernel
theorem dX6_share_54 : decode cX6_share 54 = .ok (.isub, 1) := by decide +kernel
theorem dX6_share_55 : decode cX6_share 55 = .ok (.invokestatic 166, 3) := by decide +kernel
theorem dX6_share_58 : decode cX6_share 58 = .ok (.imul, 1) := by decide +kernel
theorem dX6_share_59 : decode cX6_share 59 = .ok (.istore 5, 2) := by decide +kernel
theorem dX6_share_61 : decode cX6_share 61 = .ok (.iload_n 3, 1) := by decide +kernel
theorem dX6_share_62 : decode cX6_share 62 = .ok (.iload 5, 2) := by decide +kernel
theorem dX6_share_64 : decode cX6_share 64 = .ok (.aload_n 0, 1) := by decide +kernel
theorem dX6_share_65 : decode cX6_share 65 = .ok (.iload 4, 2) := by decide +kernel
theorem dX6_share_67 : decode cX6_share 67 = .ok (.iconst 1, 1) := by decide +kernel
theorem dX6_share_68 : decode cX6_share 68 = .ok (.iload_n 1, 1) := by decide +kernel
theorem dX6_share_69 : decode cX6_share 69 = .ok (.ishl, 1) := by decide +kernel
theorem dX6_share_70 : decode cX6_share 70 = .ok (.ior, 1) := by decide +kernel
theorem dX6_share_71 : decode cX6_share 71 = .ok (.invokevirtual 169, 3) := by decide +kernel
theorem dX6_share_74 : decode cX6_share 74 = .ok (.aload_n 0, 1) := by decide +kernel
theorem dX6_share_75 : decode cX6_share 75 = .ok (.iload 4, 2) := by decide +kernel
theorem dX6_share_77 : decode cX6_share 77 = .ok (.invokevirtual 169, 3) := by decide +kernel
theorem dX6_share_80 : decode cX6_share 80 = .ok (.isub, 1) := by decide +kernel
theorem dX6_share_81 : decode cX6_share 81 = .ok (.imul, 1) := by decide +kernel
theorem dX6_share_82 : decode cX6_share 82 = .ok (.iadd, 1) := by decide +kernel
theorem dX6_share_83 : decode cX6_share 83 = .ok (.istore_n 3, 1) := by decide +kernel
theorem dX6_share_84 : decode cX6_share 84 = .ok (.iinc 4 1, 3) := by decide +kernel
theorem dX6_share_87 : decode cX6_share 87 = .ok (.goto (-72), 3) := by decide +kernel
theorem dX6_share_90 : decode cX6_share 90 = .ok (.iload_n 3, 1) := by decide +kernel
theorem dX6_share_91 : decode cX6_share 91 = .ok (.aload_n 0, 1) := by decide +kernel
theorem dX6_share_92 : decode cX6_share 92 = .ok (.getfield 80, 3) := by decide +kernel
theorem dX6_share_95 : decode cX6_share 95 = .ok (.invokestatic 166, 3) := by decide +kernel
theorem dX6_share_98 : decode cX6_share 98 = .ok (.invokestatic 172, 3) := by decide +kernel
theorem dX6_share_101 : decode cX6_share 101 = .ok (.istore 4, 2) := by decide +kernel
theorem dX6_share_103 : decode cX6_share 103 = .ok (.iload_n 2, 1) := by decide +kernel
theorem dX6_share_104 : decode cX6_share 104 = .ok (.ifCond .eq 10, 3) := by decide +kernel
theorem dX6_share_107 : decode cX6_share 107 = .ok (.iload_n 3, 1) := by decide +kernel
theorem dX6_share_108 : decode cX6_share 108 = .ok (.iload 4, 2) := by decide +kernel
theorem dX6_share_110 : decode cX6_share 110 = .ok (.idiv, 1) := by decide +kernel
theorem dX6_share_111 : decode cX6_share 111 = .ok (.goto 13, 3) := by decide +kernel
theorem dX6_share_114 : decode cX6_share 114 = .ok (.aload_n 0, 1) := by decide +kernel
theorem dX6_share_115 : decode cX6_share 115 = .ok (.getfield 80, 3) := by decide +kernel
theorem dX6_share_118 : decode cX6_share 118 = .ok (.invokestatic 166, 3) := by decide +kernel
theorem dX6_share_121 : decode cX6_share 121 = .ok (.iload 4, 2) := by decide +kernel
theorem dX6_share_123 : decode cX6_share 123 = .ok (.idiv, 1) := by decide +kernel
theorem dX6_share_124 : decode cX6_share 124 = .ok (.ireturn, 1) := by decide +kernel
theorem dX6_gain_0 : decode cX6_gain 0 = .ok (.iload_n 2, 1) := by decide +kernel
theorem dX6_gain_1 : decode cX6_gain 1 = .ok (.ifCond .ne 5, 3) := by decide +kernel
theorem dX6_gain_4 : decode cX6_gain 4 = .ok (.iconst 0, 1) := by decide +kernel
theorem dX6_gain_5 : decode cX6_gain 5 = .ok (.ireturn, 1) := by decide +kernel
theorem dX6_gain_6 : decode cX6_gain 6 = .ok (.aload_n 0, 1) := by decide +kernel
theorem dX6_gain_7 : decode cX6_gain 7 = .ok (.getfield 19, 3) := by decide +kernel
theorem dX6_gain_10 : decode cX6_gain 10 = .ok (.iconst 5, 1) := by decide +kernel
theorem dX6_gain_11 : decode cX6_gain 11 = .ok (.iaload, 1) := by decide +kernel
theorem dX6_gain_12 : decode cX6_gain 12 = .ok (.istore 4, 2) := by decide +kernel
theorem dX6_gain_14 : decode cX6_gain 14 = .ok (.aload_n 0, 1) := by decide +kernel
theorem dX6_gain_15 : decode cX6_gain 15 = .ok (.aload_n 0, 1) := by decide +kernel
theorem dX6_gain_16 : decode cX6_gain 16 = .ok (.getfield 19, 3) := by decide +kernel
theorem dX6_gain_19 : decode cX6_gain 19 = .ok (.iload_n 1, 1) := by decide +kernel
theorem dX6_gain_20 : decode cX6_gain 20 = .ok (.iaload, 1) := by decide +kernel
theorem dX6_gain_21 : decode cX6_gain 21 = .ok (.iconst 2, 1) := by decide +kernel
theorem dX6_gain_22 : decode cX6_gain 22 = .ok (.iload_n 3, 1) := by decide +kernel
theorem dX6_gain_23 : decode cX6_gain 23 = .ok (.imul, 1) := by decide +kernel
theorem dX6_gain_24 : decode cX6_gain 24 = .ok (.isub, 1) := by decide +kernel
theorem dX6_gain_25 : decode cX6_gain 25 = .ok (.iload_n 1, 1) := by decide +kernel
theorem dX6_gain_26 : decode cX6_gain 26 = .ok (.iload 4, 2) := by decide +kernel
theorem dX6_gain_28 : decode cX6_gain 28 = .ok (.bipush 15, 2) := by decide +kernel
theorem dX6_gain_30 : decode cX6_gain 30 = .ok (.invokevirtual 100, 3) := by decide +kernel
theorem dX6_gain_33 : decode cX6_gain 33 = .ok (.istore 5, 2) := by decide +kernel
theorem dX6_gain_35 : decode cX6_gain 35 = .ok (.iload 5, 2) := by decide +kernel
theorem dX6_gain_37 : decode cX6_gain 37 = .ok (.ifCond .ne 7, 3) := by decide +kernel
theorem dX6_gain_40 : decode cX6_gain 40 = .ok (.iconst (-1), 1) := by decide +kernel
theorem dX6_gain_41 : decode cX6_gain 41 = .ok (.goto 6, 3) := by decide +kernel
theorem dX6_gain_44 : decode cX6_gain 44 = .ok (.iconst 3, 1) := by decide +kernel
theorem dX6_gain_45 : decode cX6_gain 45 = .ok (.iload_n 3, 1) := by decide +kernel
theorem dX6_gain_46 : decode cX6_gain 46 = .ok (.isub, 1) := by decide +kernel
theorem dX6_gain_47 : decode cX6_gain 47 = .ok (.ireturn, 1) := by decide +kernel
theorem dX6_isRest_0 : decode cX6_isRest 0 = .ok (.aload_n 0, 1) := by decide +kernel
theorem dX6_isRest_1 : decode cX6_isRest 1 = .ok (.iload_n 1, 1) := by decide +kernel
theorem dX6_isRest_2 : decode cX6_isRest 2 = .ok (.iconst 1, 1) := by decide +kernel
theorem dX6_isRest_3 : decode cX6_isRest 3 = .ok (.iload_n 3, 1) := by decide +kernel
theorem dX6_isRest_4 : decode cX6_isRest 4 = .ok (.isub, 1) := by decide +kernel
theorem dX6_isRest_5 : decode cX6_isRest 5 = .ok (.iload 4, 2) := by decide +kernel
theorem dX6_isRest_7 : decode cX6_isRest 7 = .ok (.invokevirtual 175, 3) := by decide +kernel
theorem dX6_isRest_10 : decode cX6_isRest 10 = .ok (.aload_n 0, 1) := by decide +kernel
theorem dX6_isRest_11 : decode cX6_isRest 11 = .ok (.iload_n 1, 1) := by decide +kernel
theorem dX6_isRest_12 : decode cX6_isRest 12 = .ok (.iload_n 3, 1) := by decide +kernel
theorem dX6_isRest_13 : decode cX6_isRest 13 = .ok (.iload 4, 2) := by decide +kernel
theorem dX6_isRest_15 : decode cX6_isRest 15 = .ok (.invokevirtual 175, 3) := by decide +kernel
theorem dX6_isRest_18 : decode cX6_isRest 18 = .ok (.if_icmp .gt 28, 3) := by decide +kernel
theorem dX6_isRest_21 : decode cX6_isRest 21 = .ok (.aload_n 0, 1) := by decide +kernel
theorem dX6_isRest_22 : decode cX6_isRest 22 = .ok (.iload_n 2, 1) := by decide +kernel
theorem dX6_isRest_23 : decode cX6_isRest 23 = .ok (.iconst 1, 1) := by decide +kernel
theorem dX6_isRest_24 : decode cX6_isRest 24 = .ok (.iload 4, 2) := by decide +kernel
theorem dX6_isRest_26 : decode cX6_isRest 26 = .ok (.isub, 1) := by decide +kernel
theorem dX6_isRest_27 : decode cX6_isRest 27 = .ok (.iload_n 3, 1) := by decide +kernel
theorem dX6_isRest_28 : decode cX6_isRest 28 = .ok (.invokevirtual 175, 3) := by decide +kernel
theorem dX6_isRest_31 : decode cX6_isRest 31 = .ok (.aload_n 0, 1) := by decide +kernel
theorem dX6_isRest_32 : decode cX6_isRest 32 = .ok (.iload_n 2, 1) := by decide +kernel
theorem dX6_isRest_33 : decode cX6_isRest 33 = .ok (.iload 4, 2) := by decide +kernel
theorem dX6_isRest_35 : decode cX6_isRest 35 = .ok (.iload_n 3, 1) := by decide +kernel
theorem dX6_isRest_36 : decode cX6_isRest 36 = .ok (.invokevirtual 175, 3) := by decide +kernel
theorem dX6_isRest_39 : decode cX6_isRest 39 = .ok (.if_icmp .gt 7, 3) := by decide +kernel
theorem dX6_isRest_42 : decode cX6_isRest 42 = .ok (.iconst 1, 1) := by decide +kernel
theorem dX6_isRest_43 : decode cX6_isRest 43 = .ok (.goto 4, 3) := by decide +kernel
theorem dX6_isRest_46 : decode cX6_isRest 46 = .ok (.iconst 0, 1) := by decide +kernel
theorem dX6_isRest_47 : decode cX6_isRest 47 = .ok (.ireturn, 1) := by decide +kernel
theorem dX6_rests_0 : decode cX6_rests 0 = .ok (.aload_n 0, 1) := by decide +kernel
theorem dX6_rests_1 : decode cX6_rests 1 = .ok (.iload_n 1, 1) := by decide +kernel
theorem dX6_rests_2 : decode cX6_rests 2 = .ok (.invokevirtual 107, 3) := by decide +kernel
theorem dX6_rests_5 : decode cX6_rests 5 = .ok (.ifCond .eq 11, 3) := by decide +kernel
theorem dX6_rests_8 : decode cX6_rests 8 = .ok (.aload_n 0, 1) := by decide +kernel
theorem dX6_rests_9 : decode cX6_rests 9 = .ok (.iload_n 2, 1) := by decide +kernel
theorem dX6_rests_10 : decode cX6_rests 10 = .ok (.invokevirtual 107, 3) := by decide +kernel
theorem dX6_rests_13 : decode cX6_rests 13 = .ok (.ifCond .ne 5, 3) := by decide +kernel
theorem dX6_rests_16 : decode cX6_rests 16 = .ok (.iconst (-1), 1) := by decide +kernel
theorem dX6_rests_17 : decode cX6_rests 17 = .ok (.ireturn, 1) := by decide +kernel
theorem dX6_rests_18 : decode cX6_rests 18 = .ok (.iload_n 3, 1) := by decide +kernel
theorem dX6_rests_19 : decode cX6_rests 19 = .ok (.i2l, 1) := by decide +kernel
theorem dX6_rests_20 : decode cX6_rests 20 = .ok (.lconst 0, 1) := by decide +kernel
theorem dX6_rests_21 : decode cX6_rests 21 = .ok (.lconst 1, 1) := by decide +kernel
theorem dX6_rests_22 : decode cX6_rests 22 = .ok (.invokestatic 52, 3) := by decide +kernel
theorem dX6_rests_25 : decode cX6_rests 25 = .ok (.ifCond .ne 6, 3) := by decide +kernel
theorem dX6_rests_28 : decode cX6_rests 28 = .ok (.bipush (-2), 2) := by decide +kernel
theorem dX6_rests_30 : decode cX6_rests 30 = .ok (.ireturn, 1) := by decide +kernel
theorem dX6_rests_31 : decode cX6_rests 31 = .ok (.iconst 0, 1) := by decide +kernel
theorem dX6_rests_32 : decode cX6_rests 32 = .ok (.istore 4, 2) := by decide +kernel
theorem dX6_rests_34 : decode cX6_rests 34 = .ok (.bipush (-9), 2) := by decide +kernel
theorem dX6_rests_36 : decode cX6_rests 36 = .ok (.istore 5, 2) := by decide +kernel
theorem dX6_rests_38 : decode cX6_rests 38 = .ok (.iconst 0, 1) := by decide +kernel
theorem dX6_rests_39 : decode cX6_rests 39 = .ok (.istore 6, 2) := by decide +kernel
theorem dX6_rests_41 : decode cX6_rests 41 = .ok (.iload 6, 2) := by decide +kernel
theorem dX6_rests_43 : decode cX6_rests 43 = .ok (.iconst 4, 1) := by decide +kernel
theorem dX6_rests_44 : decode cX6_rests 44 = .ok (.if_icmp .ge 53, 3) := by decide +kernel
theorem dX6_rests_47 : decode cX6_rests 47 = .ok (.aload_n 0, 1) := by decide +kernel
theorem dX6_rests_48 : decode cX6_rests 48 = .ok (.iload_n 1, 1) := by decide +kernel
theorem dX6_rests_49 : decode cX6_rests 49 = .ok (.iload_n 2, 1) := by decide +kernel
theorem dX6_rests_50 : decode cX6_rests 50 = .ok (.iload 6, 2) := by decide +kernel
theorem dX6_rests_52 : decode cX6_rests 52 = .ok (.iconst 2, 1) := by decide +kernel
theorem dX6_rests_53 : decode cX6_rests 53 = .ok (.idiv, 1) := by decide +kernel
theorem dX6_rests_54 : decode cX6_rests 54 = .ok (.iload 6, 2) := by decide +kernel
theorem dX6_rests_56 : decode cX6_rests 56 = .ok (.iconst 2, 1) := by decide +kernel
theorem dX6_rests_57 : decode cX6_rests 57 = .ok (.irem, 1) := by decide +kernel
theorem dX6_rests_58 : decode cX6_rests 58 = .ok (.invokevirtual 178, 3) := by decide +kernel
theorem dX6_rests_61 : decode cX6_rests 61 = .ok (.ifCond .eq 30, 3) := by decide +kernel
theorem dX6_rests_64 : decode cX6_rests 64 = .ok (.iload 4, 2) := by decide +kernel
theorem dX6_rests_66 : decode cX6_rests 66 = .ok (.ifCond .ne 18, 3) := by decide +kernel
theorem dX6_rests_69 : decode cX6_rests 69 = .ok (.bipush 10, 2) := by decide +kernel
theorem dX6_rests_71 : decode cX6_rests 71 = .ok (.iload 6, 2) := by decide +kernel
theorem dX6_rests_73 : decode cX6_rests 73 = .ok (.iconst 2, 1) := by decide +kernel
theorem dX6_rests_74 : decode cX6_rests 74 = .ok (.idiv, 1) := by decide +kernel
theorem dX6_rests_75 : decode cX6_rests 75 = .ok (.imul, 1) := by decide +kernel
theorem dX6_rests_76 : decode cX6_rests 76 = .ok (.iload 6, 2) := by decide +kernel
theorem dX6_rests_78 : decode cX6_rests 78 = .ok (.iconst 2, 1) := by decide +kernel
theorem dX6_rests_79 : decode cX6_rests 79 = .ok (.irem, 1) := by decide +kernel
theorem dX6_rests_80 : decode cX6_rests 80 = .ok (.iadd, 1) := by decide +kernel
theorem dX6_rests_81 : decode cX6_rests 81 = .ok (.goto 5, 3) := by decide +kernel
theorem dX6_rests_84 : decode cX6_rests 84 = .ok (.iload 5, 2) := by decide +kernel
theorem dX6_rests_86 : decode cX6_rests 86 = .ok (.istore 5, 2) := by decide +kernel
theorem dX6_rests_88 : decode cX6_rests 88 = .ok (.iinc 4 1, 3) := by decide +kernel
theorem dX6_rests_91 : decode cX6_rests 91 = .ok (.iinc 6 1, 3) := by decide +kernel
theorem dX6_rests_94 : decode cX6_rests 94 = .ok (.goto (-53), 3) := by decide +kernel
theorem dX6_rests_97 : decode cX6_rests 97 = .ok (.iload_n 3, 1) := by decide +kernel
theorem dX6_rests_98 : decode cX6_rests 98 = .ok (.ifCond .ne 8, 3) := by decide +kernel
theorem dX6_rests_101 : decode cX6_rests 101 = .ok (.iload 4, 2) := by decide +kernel
theorem dX6_rests_103 : decode cX6_rests 103 = .ok (.goto 5, 3) := by decide +kernel
theorem dX6_rests_106 : decode cX6_rests 106 = .ok (.iload 5, 2) := by decide +kernel
theorem dX6_rests_108 : decode cX6_rests 108 = .ok (.ireturn, 1) := by decide +kernel
theorem dX6_there_0 : decode cX6_there 0 = .ok (.aload_n 0, 1) := by decide +kernel
theorem dX6_there_1 : decode cX6_there 1 = .ok (.iload_n 1, 1) := by decide +kernel
theorem dX6_there_2 : decode cX6_there 2 = .ok (.invokevirtual 107, 3) := by decide +kernel
theorem dX6_there_5 : decode cX6_there 5 = .ok (.ifCond .ne 5, 3) := by decide +kernel
theorem dX6_there_8 : decode cX6_there 8 = .ok (.iconst (-1), 1) := by decide +kernel
theorem dX6_there_9 : decode cX6_there 9 = .ok (.ireturn, 1) := by decide +kernel
theorem dX6_there_10 : decode cX6_there 10 = .ok (.iload_n 2, 1) := by decide +kernel
theorem dX6_there_11 : decode cX6_there 11 = .ok (.i2l, 1) := by decide +kernel
theorem dX6_there_12 : decode cX6_there 12 = .ok (.lconst 0, 1) := by decide +kernel
theorem dX6_there_13 : decode cX6_there 13 = .ok (.ldc2_w 181, 3) := by decide +kernel
theorem dX6_there_16 : decode cX6_there 16 = .ok (.invokestatic 52, 3) := by decide +kernel
theorem dX6_there_19 : decode cX6_there 19 = .ok (.ifCond .ne 6, 3) := by decide +kernel
theorem dX6_there_22 : decode cX6_there 22 = .ok (.bipush (-2), 2) := by decide +kernel
theorem dX6_there_24 : decode cX6_there 24 = .ok (.ireturn, 1) := by decide +kernel
theorem dX6_there_25 : decode cX6_there 25 = .ok (.iconst 0, 1) := by decide +kernel
theorem dX6_there_26 : decode cX6_there 26 = .ok (.istore 4, 2) := by decide +kernel
theorem dX6_there_28 : decode cX6_there 28 = .ok (.iconst 0, 1) := by decide +kernel
theorem dX6_there_29 : decode cX6_there 29 = .ok (.istore 5, 2) := by decide +kernel
theorem dX6_there_31 : decode cX6_there 31 = .ok (.iconst 0, 1) := by decide +kernel
theorem dX6_there_32 : decode cX6_there 32 = .ok (.istore 6, 2) := by decide +kernel
theorem dX6_there_34 : decode cX6_there 34 = .ok (.iload 6, 2) := by decide +kernel
theorem dX6_there_36 : decode cX6_there 36 = .ok (.iconst 1, 1) := by decide +kernel
theorem dX6_there_37 : decode cX6_there 37 = .ok (.aload_n 0, 1) := by decide +kernel
theorem dX6_there_38 : decode cX6_there 38 = .ok (.getfield 83, 3) := by decide +kernel
theorem dX6_there_41 : decode cX6_there 41 = .ok (.ishl, 1) := by decide +kernel
theorem dX6_there_42 : decode cX6_there 42 = .ok (.if_icmp .ge 93, 3) := by decide +kernel
theorem dX6_there_45 : decode cX6_there 45 = .ok (.iconst 1, 1) := by decide +kernel
theorem dX6_there_46 : decode cX6_there 46 = .ok (.istore 7, 2) := by decide +kernel
theorem dX6_there_48 : decode cX6_there 48 = .ok (.iconst 0, 1) := by decide +kernel
theorem dX6_there_49 : decode cX6_there 49 = .ok (.istore 8, 2) := by decide +kernel
theorem dX6_there_51 : decode cX6_there 51 = .ok (.iload 8, 2) := by decide +kernel
theorem dX6_there_53 : decode cX6_there 53 = .ok (.aload_n 0, 1) := by decide +kernel
theorem dX6_there_54 : decode cX6_there 54 = .ok (.getfield 83, 3) := by decide +kernel
theorem dX6_there_57 : decode cX6_there 57 = .ok (.if_icmp .ge 32, 3) := by decide +kernel
theorem dX6_there_60 : decode cX6_there 60 = .ok (.iload 7, 2) := by decide +kernel
theorem dX6_there_62 : decode cX6_there 62 = .ok (.iload 6, 2) := by decide +kernel
theorem dX6_there_64 : decode cX6_there 64 = .ok (.iload 8, 2) := by decide +kernel
theorem dX6_there_66 : decode cX6_there 66 = .ok (.invokestatic 89, 3) := by decide +kernel
theorem dX6_there_69 : decode cX6_there 69 = .ok (.ifCond .eq 7, 3) := by decide +kernel
theorem dX6_there_72 : decode cX6_there 72 = .ok (.iload_n 2, 1) := by decide +kernel
theorem dX6_there_73 : decode cX6_there 73 = .ok (.goto 7, 3) := by decide +kernel
theorem dX6_there_76 : decode cX6_there 76 = .ok (.bipush 10, 2) := by decide +kernel
theorem dX6_there_78 : decode cX6_there 78 = .ok (.iload_n 2, 1) := by decide +kernel
theorem dX6_there_79 : decode cX6_there 79 = .ok (.isub, 1) := by decide +kernel
theorem dX6_there_80 : decode cX6_there 80 = .ok (.imul, 1) := by decide +kernel
theorem dX6_there_81 : decode cX6_there 81 = .ok (.istore 7, 2) := by decide +kernel
theorem dX6_there_83 : decode cX6_there 83 = .ok (.iinc 8 1, 3) := by decide +kernel
theorem dX6_there_86 : decode cX6_there 86 = .ok (.goto (-35), 3) := by decide +kernel
theorem dX6_there_89 : decode cX6_there 89 = .ok (.iload 5, 2) := by decide +kernel
theorem dX6_there_91 : decode cX6_there 91 = .ok (.iload 7, 2) := by decide +kernel
theorem dX6_there_93 : decode cX6_there 93 = .ok (.iadd, 1) := by decide +kernel
theorem dX6_there_94 : decode cX6_there 94 = .ok (.istore 5, 2) := by decide +kernel
theorem dX6_there_96 : decode cX6_there 96 = .ok (.iload 4, 2) := by decide +kernel
theorem dX6_there_98 : decode cX6_there 98 = .ok (.aload_n 0, 1) := by decide +kernel
theorem dX6_there_99 : decode cX6_there 99 = .ok (.aload_n 0, 1) := by decide +kernel
theorem dX6_there_100 : decode cX6_there 100 = .ok (.getfield 19, 3) := by decide +kernel
theorem dX6_there_103 : decode cX6_there 103 = .ok (.iload_n 1, 1) := by decide +kernel
theorem dX6_there_104 : decode cX6_there 104 = .ok (.iaload, 1) := by decide +kernel
theorem dX6_there_105 : decode cX6_there 105 = .ok (.iload_n 1, 1) := by decide +kernel
theorem dX6_there_106 : decode cX6_there 106 = .ok (.aload_n 0, 1) := by decide +kernel
theorem dX6_there_107 : decode cX6_there 107 = .ok (.getfield 19, 3) := by decide +kernel
theorem dX6_there_110 : decode cX6_there 110 = .ok (.iconst 5, 1) := by decide +kernel
theorem dX6_there_111 : decode cX6_there 111 = .ok (.iaload, 1) := by decide +kernel
theorem dX6_there_112 : decode cX6_there 112 = .ok (.iload 6, 2) := by decide +kernel
theorem dX6_there_114 : decode cX6_there 114 = .ok (.invokevirtual 100, 3) := by decide +kernel
theorem dX6_there_117 : decode cX6_there 117 = .ok (.ifCond .eq 8, 3) := by decide +kernel
theorem dX6_there_120 : decode cX6_there 120 = .ok (.iload 7, 2) := by decide +kernel
theorem dX6_there_122 : decode cX6_there 122 = .ok (.goto 4, 3) := by decide +kernel
theorem dX6_there_125 : decode cX6_there 125 = .ok (.iconst 0, 1) := by decide +kernel
theorem dX6_there_126 : decode cX6_there 126 = .ok (.iadd, 1) := by decide +kernel
theorem dX6_there_127 : decode cX6_there 127 = .ok (.istore 4, 2) := by decide +kernel
theorem dX6_there_129 : decode cX6_there 129 = .ok (.iinc 6 1, 3) := by decide +kernel
theorem dX6_there_132 : decode cX6_there 132 = .ok (.goto (-98), 3) := by decide +kernel
theorem dX6_there_135 : decode cX6_there 135 = .ok (.iload 4, 2) := by decide +kernel
theorem dX6_there_137 : decode cX6_there 137 = .ok (.iload 5, 2) := by decide +kernel
theorem dX6_there_139 : decode cX6_there 139 = .ok (.invokestatic 172, 3) := by decide +kernel
theorem dX6_there_142 : decode cX6_there 142 = .ok (.istore 6, 2) := by decide +kernel
theorem dX6_there_144 : decode cX6_there 144 = .ok (.iload_n 3, 1) := by decide +kernel
theorem dX6_there_145 : decode cX6_there 145 = .ok (.ifCond .eq 11, 3) := by decide +kernel
theorem dX6_there_148 : decode cX6_there 148 = .ok (.iload 4, 2) := by decide +kernel
theorem dX6_there_150 : decode cX6_there 150 = .ok (.iload 6, 2) := by decide +kernel
theorem dX6_there_152 : decode cX6_there 152 = .ok (.idiv, 1) := by decide +kernel
theorem dX6_there_153 : decode cX6_there 153 = .ok (.goto 8, 3) := by decide +kernel
theorem dX6_there_156 : decode cX6_there 156 = .ok (.iload 5, 2) := by decide +kernel
theorem dX6_there_158 : decode cX6_there 158 = .ok (.iload 6, 2) := by decide +kernel
theorem dX6_there_160 : decode cX6_there 160 = .ok (.idiv, 1) := by decide +kernel
theorem dX6_there_161 : decode cX6_there 161 = .ok (.ireturn, 1) := by decide +kernel
theorem dX6_seed_0 : decode cX6_seed 0 = .ok (.aload_n 0, 1) := by decide +kernel
theorem dX6_seed_1 : decode cX6_seed 1 = .ok (.getfield 183, 3) := by decide +kernel
theorem dX6_seed_4 : decode cX6_seed 4 = .ok (.lstore_n 3, 1) := by decide +kernel
theorem dX6_seed_5 : decode cX6_seed 5 = .ok (.aload_n 0, 1) := by decide +kernel
theorem dX6_seed_6 : decode cX6_seed 6 = .ok (.lload_n 1, 1) := by decide +kernel
theorem dX6_seed_7 : decode cX6_seed 7 = .ok (.putfield 183, 3) := by decide +kernel
theorem dX6_seed_10 : decode cX6_seed 10 = .ok (.lload_n 3, 1) := by decide +kernel
theorem dX6_seed_11 : decode cX6_seed 11 = .ok (.lreturn, 1) := by decide +kernel
theorem dX6_walks_0 : decode cX6_walks 0 = .ok (.iload_n 1, 1) := by decide +kernel
theorem dX6_walks_1 : decode cX6_walks 1 = .ok (.i2l, 1) := by decide +kernel
theorem dX6_walks_2 : decode cX6_walks 2 = .ok (.lconst 1, 1) := by decide +kernel
theorem dX6_walks_3 : decode cX6_walks 3 = .ok (.ldc2_w 187, 3) := by decide +kernel
theorem dX6_walks_6 : decode cX6_walks 6 = .ok (.invokestatic 52, 3) := by decide +kernel
theorem dX6_walks_9 : decode cX6_walks 9 = .ok (.ifCond .ne 6, 3) := by decide +kernel
theorem dX6_walks_12 : decode cX6_walks 12 = .ok (.bipush (-2), 2) := by decide +kernel
theorem dX6_walks_14 : decode cX6_walks 14 = .ok (.ireturn, 1) := by decide +kernel
theorem dX6_walks_15 : decode cX6_walks 15 = .ok (.aload_n 0, 1) := by decide +kernel
theorem dX6_walks_16 : decode cX6_walks 16 = .ok (.invokevirtual 146, 3) := by decide +kernel
theorem dX6_walks_19 : decode cX6_walks 19 = .ok (.iconst 0, 1) := by decide +kernel
theorem dX6_walks_20 : decode cX6_walks 20 = .ok (.istore_n 2, 1) := by decide +kernel
theorem dX6_walks_21 : decode cX6_walks 21 = .ok (.iconst 0, 1) := by decide +kernel
theorem dX6_walks_22 : decode cX6_walks 22 = .ok (.istore_n 3, 1) := by decide +kernel
theorem dX6_walks_23 : decode cX6_walks 23 = .ok (.iload_n 3, 1) := by decide +kernel
theorem dX6_walks_24 : decode cX6_walks 24 = .ok (.iload_n 1, 1) := by decide +kernel
theorem dX6_walks_25 : decode cX6_walks 25 = .ok (.if_icmp .ge 120, 3) := by decide +kernel
theorem dX6_walks_28 : decode cX6_walks 28 = .ok (.aload_n 0, 1) := by decide +kernel
theorem dX6_walks_29 : decode cX6_walks 29 = .ok (.aload_n 0, 1) := by decide +kernel
theorem dX6_walks_30 : decode cX6_walks 30 = .ok (.getfield 183, 3) := by decide +kernel
theorem dX6_walks_33 : decode cX6_walks 33 = .ok (.ldc2_w 189, 3) := by decide +kernel
theorem dX6_walks_36 : decode cX6_walks 36 = .ok (.lmul, 1) := by decide +kernel
theorem dX6_walks_37 : decode cX6_walks 37 = .ok (.ldc2_w 191, 3) := by decide +kernel
theorem dX6_walks_40 : decode cX6_walks 40 = .ok (.ladd, 1) := by decide +kernel
theorem dX6_walks_41 : decode cX6_walks 41 = .ok (.putfield 183, 3) := by decide +kernel
theorem dX6_walks_44 : decode cX6_walks 44 = .ok (.aload_n 0, 1) := by decide +kernel
theorem dX6_walks_45 : decode cX6_walks 45 = .ok (.getfield 183, 3) := by decide +kernel
theorem dX6_walks_48 : decode cX6_walks 48 = .ok (.bipush 33, 2) := by decide +kernel
theorem dX6_walks_50 : decode cX6_walks 50 = .ok (.lushr, 1) := by decide +kernel
theorem dX6_walks_51 : decode cX6_walks 51 = .ok (.ldc2_w 193, 3) := by decide +kernel
theorem dX6_walks_54 : decode cX6_walks 54 = .ok (.lrem, 1) := by decide +kernel
theorem dX6_walks_55 : decode cX6_walks 55 = .ok (.l2i, 1) := by decide +kernel
theorem dX6_walks_56 : decode cX6_walks 56 = .ok (.istore 4, 2) := by decide +kernel
theorem dX6_walks_58 : decode cX6_walks 58 = .ok (.aload_n 0, 1) := by decide +kernel
theorem dX6_walks_59 : decode cX6_walks 59 = .ok (.getfield 19, 3) := by decide +kernel
theorem dX6_walks_62 : decode cX6_walks 62 = .ok (.bipush 18, 2) := by decide +kernel
theorem dX6_walks_64 : decode cX6_walks 64 = .ok (.iaload, 1) := by decide +kernel
theorem dX6_walks_65 : decode cX6_walks 65 = .ok (.ifCond .ne 74, 3) := by decide +kernel
theorem dX6_walks_68 : decode cX6_walks 68 = .ok (.aload_n 0, 1) := by decide +kernel
theorem dX6_walks_69 : decode cX6_walks 69 = .ok (.iconst 1, 1) := by decide +kernel
theorem dX6_walks_70 : decode cX6_walks 70 = .ok (.iload 4, 2) := by decide +kernel
theorem dX6_walks_72 : decode cX6_walks 72 = .ok (.iconst 5, 1) := by decide +kernel
theorem dX6_walks_73 : decode cX6_walks 73 = .ok (.irem, 1) := by decide +kernel
theorem dX6_walks_74 : decode cX6_walks 74 = .ok (.invokevirtual 135, 3) := by decide +kernel
theorem dX6_walks_77 : decode cX6_walks 77 = .ok (.aload_n 0, 1) := by decide +kernel
theorem dX6_walks_78 : decode cX6_walks 78 = .ok (.iload 4, 2) := by decide +kernel
theorem dX6_walks_80 : decode cX6_walks 80 = .ok (.iconst 5, 1) := by decide +kernel
theorem dX6_walks_81 : decode cX6_walks 81 = .ok (.idiv, 1) := by decide +kernel
theorem dX6_walks_82 : decode cX6_walks 82 = .ok (.invokevirtual 107, 3) := by decide +kernel
theorem dX6_walks_85 : decode cX6_walks 85 = .ok (.ifCond .eq 19, 3) := by decide +kernel
theorem dX6_walks_88 : decode cX6_walks 88 = .ok (.aload_n 0, 1) := by decide +kernel
theorem dX6_walks_89 : decode cX6_walks 89 = .ok (.iconst 1, 1) := by decide +kernel
theorem dX6_walks_90 : decode cX6_walks 90 = .ok (.iload 4, 2) := by decide +kernel
theorem dX6_walks_92 : decode cX6_walks 92 = .ok (.iconst 5, 1) := by decide +kernel
theorem dX6_walks_93 : decode cX6_walks 93 = .ok (.idiv, 1) := by decide +kernel
theorem dX6_walks_94 : decode cX6_walks 94 = .ok (.invokevirtual 126, 3) := by decide +kernel
theorem dX6_walks_97 : decode cX6_walks 97 = .ok (.ifCond .eq 7, 3) := by decide +kernel
theorem dX6_walks_100 : decode cX6_walks 100 = .ok (.iconst 1, 1) := by decide +kernel
theorem dX6_walks_101 : decode cX6_walks 101 = .ok (.goto 4, 3) := by decide +kernel
theorem dX6_walks_104 : decode cX6_walks 104 = .ok (.iconst 0, 1) := by decide +kernel
theorem dX6_walks_105 : decode cX6_walks 105 = .ok (.istore 5, 2) := by decide +kernel
theorem dX6_walks_107 : decode cX6_walks 107 = .ok (.iload_n 2, 1) := by decide +kernel
theorem dX6_walks_108 : decode cX6_walks 108 = .ok (.iload 5, 2) := by decide +kernel
theorem dX6_walks_110 : decode cX6_walks 110 = .ok (.ifCond .eq 7, 3) := by decide +kernel
theorem dX6_walks_113 : decode cX6_walks 113 = .ok (.iconst 1, 1) := by decide +kernel
theorem dX6_walks_114 : decode cX6_walks 114 = .ok (.goto 4, 3) := by decide +kernel
theorem dX6_walks_117 : decode cX6_walks 117 = .ok (.iconst 0, 1) := by decide +kernel
theorem dX6_walks_118 : decode cX6_walks 118 = .ok (.iadd, 1) := by decide +kernel
theorem dX6_walks_119 : decode cX6_walks 119 = .ok (.istore_n 2, 1) := by decide +kernel
theorem dX6_walks_120 : decode cX6_walks 120 = .ok (.iload 5, 2) := by decide +kernel
theorem dX6_walks_122 : decode cX6_walks 122 = .ok (.ifCond .eq 17, 3) := by decide +kernel
theorem dX6_walks_125 : decode cX6_walks 125 = .ok (.aload_n 0, 1) := by decide +kernel
theorem dX6_walks_126 : decode cX6_walks 126 = .ok (.iconst 1, 1) := by decide +kernel
theorem dX6_walks_127 : decode cX6_walks 127 = .ok (.invokevirtual 129, 3) := by decide +kernel
theorem dX6_walks_130 : decode cX6_walks 130 = .ok (.ifCond .eq 9, 3) := by decide +kernel
theorem dX6_walks_133 : decode cX6_walks 133 = .ok (.aload_n 0, 1) := by decide +kernel
theorem dX6_walks_134 : decode cX6_walks 134 = .ok (.iconst 1, 1) := by decide +kernel
theorem dX6_walks_135 : decode cX6_walks 135 = .ok (.invokevirtual 132, 3) := by decide +kernel
theorem dX6_walks_138 : decode cX6_walks 138 = .ok (.pop, 1) := by decide +kernel
theorem dX6_walks_139 : decode cX6_walks 139 = .ok (.iinc 3 1, 3) := by decide +kernel
theorem dX6_walks_142 : decode cX6_walks 142 = .ok (.goto (-119), 3) := by decide +kernel
theorem dX6_walks_145 : decode cX6_walks 145 = .ok (.iload_n 2, 1) := by decide +kernel
theorem dX6_walks_146 : decode cX6_walks 146 = .ok (.ireturn, 1) := by decide +kernel
theorem dX6_keep_0 : decode cX6_keep 0 = .ok (.iload_n 1, 1) := by decide +kernel
theorem dX6_keep_1 : decode cX6_keep 1 = .ok (.i2l, 1) := by decide +kernel
theorem dX6_keep_2 : decode cX6_keep 2 = .ok (.lconst 0, 1) := by decide +kernel
theorem dX6_keep_3 : decode cX6_keep 3 = .ok (.lconst 1, 1) := by decide +kernel
theorem dX6_keep_4 : decode cX6_keep 4 = .ok (.invokestatic 52, 3) := by decide +kernel
theorem dX6_keep_7 : decode cX6_keep 7 = .ok (.ifCond .ne 5, 3) := by decide +kernel
theorem dX6_keep_10 : decode cX6_keep 10 = .ok (.iconst (-1), 1) := by decide +kernel
theorem dX6_keep_11 : decode cX6_keep 11 = .ok (.ireturn, 1) := by decide +kernel
theorem dX6_keep_12 : decode cX6_keep 12 = .ok (.aload_n 0, 1) := by decide +kernel
theorem dX6_keep_13 : decode cX6_keep 13 = .ok (.getfield 43, 3) := by decide +kernel
theorem dX6_keep_16 : decode cX6_keep 16 = .ok (.iload_n 1, 1) := by decide +kernel
theorem dX6_keep_17 : decode cX6_keep 17 = .ok (.iconst 1, 1) := by decide +kernel
theorem dX6_keep_18 : decode cX6_keep 18 = .ok (.bastore, 1) := by decide +kernel
theorem dX6_keep_19 : decode cX6_keep 19 = .ok (.iconst 0, 1) := by decide +kernel
theorem dX6_keep_20 : decode cX6_keep 20 = .ok (.istore_n 2, 1) := by decide +kernel
theorem dX6_keep_21 : decode cX6_keep 21 = .ok (.iload_n 2, 1) := by decide +kernel
theorem dX6_keep_22 : decode cX6_keep 22 = .ok (.bipush 10, 2) := by decide +kernel
theorem dX6_keep_24 : decode cX6_keep 24 = .ok (.if_icmp .ge 26, 3) := by decide +kernel
theorem dX6_keep_27 : decode cX6_keep 27 = .ok (.aload_n 0, 1) := by decide +kernel
theorem dX6_keep_28 : decode cX6_keep 28 = .ok (.getfield 47, 3) := by decide +kernel
theorem dX6_keep_31 : decode cX6_keep 31 = .ok (.bipush 10, 2) := by decide +kernel
theorem dX6_keep_33 : decode cX6_keep 33 = .ok (.iload_n 1, 1) := by decide +kernel
theorem dX6_keep_34 : decode cX6_keep 34 = .ok (.imul, 1) := by decide +kernel
theorem dX6_keep_35 : decode cX6_keep 35 = .ok (.iload_n 2, 1) := by decide +kernel
theorem dX6_keep_36 : decode cX6_keep 36 = .ok (.iadd, 1) := by decide +kernel
theorem dX6_keep_37 : decode cX6_keep 37 = .ok (.aload_n 0, 1) := by decide +kernel
theorem dX6_keep_38 : decode cX6_keep 38 = .ok (.getfield 19, 3) := by decide +kernel
theorem dX6_keep_41 : decode cX6_keep 41 = .ok (.iload_n 2, 1) := by decide +kernel
theorem dX6_keep_42 : decode cX6_keep 42 = .ok (.iaload, 1) := by decide +kernel
theorem dX6_keep_43 : decode cX6_keep 43 = .ok (.iastore, 1) := by decide +kernel
theorem dX6_keep_44 : decode cX6_keep 44 = .ok (.iinc 2 1, 3) := by decide +kernel
theorem dX6_keep_47 : decode cX6_keep 47 = .ok (.goto (-26), 3) := by decide +kernel
theorem dX6_keep_50 : decode cX6_keep 50 = .ok (.aload_n 0, 1) := by decide +kernel
theorem dX6_keep_51 : decode cX6_keep 51 = .ok (.getfield 19, 3) := by decide +kernel
theorem dX6_keep_54 : decode cX6_keep 54 = .ok (.bipush 9, 2) := by decide +kernel
theorem dX6_keep_56 : decode cX6_keep 56 = .ok (.iaload, 1) := by decide +kernel
theorem dX6_keep_57 : decode cX6_keep 57 = .ok (.ireturn, 1) := by decide +kernel
theorem dX6_again_0 : decode cX6_again 0 = .ok (.iload_n 1, 1) := by decide +kernel
theorem dX6_again_1 : decode cX6_again 1 = .ok (.i2l, 1) := by decide +kernel
theorem dX6_again_2 : decode cX6_again 2 = .ok (.lconst 0, 1) := by decide +kernel
theorem dX6_again_3 : decode cX6_again 3 = .ok (.lconst 1, 1) := by decide +kernel
theorem dX6_again_4 : decode cX6_again 4 = .ok (.invokestatic 52, 3) := by decide +kernel
theorem dX6_again_7 : decode cX6_again 7 = .ok (.ifCond .ne 5, 3) := by decide +kernel
theorem dX6_again_10 : decode cX6_again 10 = .ok (.iconst (-1), 1) := by decide +kernel
theorem dX6_again_11 : decode cX6_again 11 = .ok (.ireturn, 1) := by decide +kernel
theorem dX6_again_12 : decode cX6_again 12 = .ok (.aload_n 0, 1) := by decide +kernel
theorem dX6_again_13 : decode cX6_again 13 = .ok (.getfield 43, 3) := by decide +kernel
theorem dX6_again_16 : decode cX6_again 16 = .ok (.iload_n 1, 1) := by decide +kernel
theorem dX6_again_17 : decode cX6_again 17 = .ok (.baload, 1) := by decide +kernel
theorem dX6_again_18 : decode cX6_again 18 = .ok (.ifCond .ne 6, 3) := by decide +kernel
theorem dX6_again_21 : decode cX6_again 21 = .ok (.bipush (-3), 2) := by decide +kernel
theorem dX6_again_23 : decode cX6_again 23 = .ok (.ireturn, 1) := by decide +kernel
theorem dX6_again_24 : decode cX6_again 24 = .ok (.iconst 0, 1) := by decide +kernel
theorem dX6_again_25 : decode cX6_again 25 = .ok (.istore_n 2, 1) := by decide +kernel
theorem dX6_again_26 : decode cX6_again 26 = .ok (.iload_n 2, 1) := by decide +kernel
theorem dX6_again_27 : decode cX6_again 27 = .ok (.bipush 10, 2) := by decide +kernel
theorem dX6_again_29 : decode cX6_again 29 = .ok (.if_icmp .ge 26, 3) := by decide +kernel
theorem dX6_again_32 : decode cX6_again 32 = .ok (.aload_n 0, 1) := by decide +kernel
theorem dX6_again_33 : decode cX6_again 33 = .ok (.getfield 19, 3) := by decide +kernel
theorem dX6_again_36 : decode cX6_again 36 = .ok (.iload_n 2, 1) := by decide +kernel
theorem dX6_again_37 : decode cX6_again 37 = .ok (.aload_n 0, 1) := by decide +kernel
theorem dX6_again_38 : decode cX6_again 38 = .ok (.getfield 47, 3) := by decide +kernel
theorem dX6_again_41 : decode cX6_again 41 = .ok (.bipush 10, 2) := by decide +kernel
theorem dX6_again_43 : decode cX6_again 43 = .ok (.iload_n 1, 1) := by decide +kernel
theorem dX6_again_44 : decode cX6_again 44 = .ok (.imul, 1) := by decide +kernel
theorem dX6_again_45 : decode cX6_again 45 = .ok (.iload_n 2, 1) := by decide +kernel
theorem dX6_again_46 : decode cX6_again 46 = .ok (.iadd, 1) := by decide +kernel
theorem dX6_again_47 : decode cX6_again 47 = .ok (.iaload, 1) := by decide +kernel
theorem dX6_again_48 : decode cX6_again 48 = .ok (.iastore, 1) := by decide +kernel
theorem dX6_again_49 : decode cX6_again 49 = .ok (.iinc 2 1, 3) := by decide +kernel
theorem dX6_again_52 : decode cX6_again 52 = .ok (.goto (-26), 3) := by decide +kernel
theorem dX6_again_55 : decode cX6_again 55 = .ok (.aload_n 0, 1) := by decide +kernel
theorem dX6_again_56 : decode cX6_again 56 = .ok (.iconst 0, 1) := by decide +kernel
theorem dX6_again_57 : decode cX6_again 57 = .ok (.putfield 86, 3) := by decide +kernel
theorem dX6_again_60 : decode cX6_again 60 = .ok (.aload_n 0, 1) := by decide +kernel
theorem dX6_again_61 : decode cX6_again 61 = .ok (.getfield 19, 3) := by decide +kernel
theorem dX6_again_64 : decode cX6_again 64 = .ok (.bipush 9, 2) := by decide +kernel
theorem dX6_again_66 : decode cX6_again 66 = .ok (.iaload, 1) := by decide +kernel
theorem dX6_again_67 : decode cX6_again 67 = .ok (.ireturn, 1) := by decide +kernel
theorem dX6_count_0 : decode cX6_count 0 = .ok (.iload_n 1, 1) := by decide +kernel
theorem dX6_count_1 : decode cX6_count 1 = .ok (.tableswitch 130 0 10 #[59, 64, 69, 74, 81, 88, 96, 104, 112, 120, 125], 59) := by decide +kernel
theorem dX6_count_60 : decode cX6_count 60 = .ok (.aload_n 0, 1) := by decide +kernel
theorem dX6_count_61 : decode cX6_count 61 = .ok (.getfield 56, 3) := by decide +kernel
theorem dX6_count_64 : decode cX6_count 64 = .ok (.ireturn, 1) := by decide +kernel
theorem dX6_count_65 : decode cX6_count 65 = .ok (.aload_n 0, 1) := by decide +kernel
theorem dX6_count_66 : decode cX6_count 66 = .ok (.getfield 80, 3) := by decide +kernel
theorem dX6_count_69 : decode cX6_count 69 = .ok (.ireturn, 1) := by decide +kernel
theorem dX6_count_70 : decode cX6_count 70 = .ok (.aload_n 0, 1) := by decide +kernel
theorem dX6_count_71 : decode cX6_count 71 = .ok (.getfield 83, 3) := by decide +kernel
theorem dX6_count_74 : decode cX6_count 74 = .ok (.ireturn, 1) := by decide +kernel
theorem dX6_count_75 : decode cX6_count 75 = .ok (.aload_n 0, 1) := by decide +kernel
theorem dX6_count_76 : decode cX6_count 76 = .ok (.getfield 19, 3) := by decide +kernel
theorem dX6_count_79 : decode cX6_count 79 = .ok (.iconst 4, 1) := by decide +kernel
theorem dX6_count_80 : decode cX6_count 80 = .ok (.iaload, 1) := by decide +kernel
theorem dX6_count_81 : decode cX6_count 81 = .ok (.ireturn, 1) := by decide +kernel
theorem dX6_count_82 : decode cX6_count 82 = .ok (.aload_n 0, 1) := by decide +kernel
theorem dX6_count_83 : decode cX6_count 83 = .ok (.getfield 19, 3) := by decide +kernel
theorem dX6_count_86 : decode cX6_count 86 = .ok (.iconst 5, 1) := by decide +kernel
theorem dX6_count_87 : decode cX6_count 87 = .ok (.iaload, 1) := by decide +kernel
theorem dX6_count_88 : decode cX6_count 88 = .ok (.ireturn, 1) := by decide +kernel
theorem dX6_count_89 : decode cX6_count 89 = .ok (.aload_n 0, 1) := by decide +kernel
theorem dX6_count_90 : decode cX6_count 90 = .ok (.getfield 19, 3) := by decide +kernel
theorem dX6_count_93 : decode cX6_count 93 = .ok (.bipush 6, 2) := by decide +kernel
theorem dX6_count_95 : decode cX6_count 95 = .ok (.iaload, 1) := by decide +kernel
theorem dX6_count_96 : decode cX6_count 96 = .ok (.ireturn, 1) := by decide +kernel
theorem dX6_count_97 : decode cX6_count 97 = .ok (.aload_n 0, 1) := by decide +kernel
theorem dX6_count_98 : decode cX6_count 98 = .ok (.getfield 19, 3) := by decide +kernel
theorem dX6_count_101 : decode cX6_count 101 = .ok (.bipush 7, 2) := by decide +kernel
theorem dX6_count_103 : decode cX6_count 103 = .ok (.iaload, 1) := by decide +kernel
theorem dX6_count_104 : decode cX6_count 104 = .ok (.ireturn, 1) := by decide +kernel
theorem dX6_count_105 : decode cX6_count 105 = .ok (.aload_n 0, 1) := by decide +kernel
theorem dX6_count_106 : decode cX6_count 106 = .ok (.getfield 19, 3) := by decide +kernel
theorem dX6_count_109 : decode cX6_count 109 = .ok (.bipush 8, 2) := by decide +kernel
theorem dX6_count_111 : decode cX6_count 111 = .ok (.iaload, 1) := by decide +kernel
theorem dX6_count_112 : decode cX6_count 112 = .ok (.ireturn, 1) := by decide +kernel
theorem dX6_count_113 : decode cX6_count 113 = .ok (.aload_n 0, 1) := by decide +kernel
theorem dX6_count_114 : decode cX6_count 114 = .ok (.getfield 19, 3) := by decide +kernel
theorem dX6_count_117 : decode cX6_count 117 = .ok (.bipush 9, 2) := by decide +kernel
theorem dX6_count_119 : decode cX6_count 119 = .ok (.iaload, 1) := by decide +kernel
theorem dX6_count_120 : decode cX6_count 120 = .ok (.ireturn, 1) := by decide +kernel
theorem dX6_count_121 : decode cX6_count 121 = .ok (.aload_n 0, 1) := by decide +kernel
theorem dX6_count_122 : decode cX6_count 122 = .ok (.getfield 86, 3) := by decide +kernel
theorem dX6_count_125 : decode cX6_count 125 = .ok (.ireturn, 1) := by decide +kernel
theorem dX6_count_126 : decode cX6_count 126 = .ok (.aload_n 0, 1) := by decide +kernel
theorem dX6_count_127 : decode cX6_count 127 = .ok (.getfield 160, 3) := by decide +kernel
theorem dX6_count_130 : decode cX6_count 130 = .ok (.ireturn, 1) := by decide +kernel
theorem dX6_count_131 : decode cX6_count 131 = .ok (.bipush (-2), 2) := by decide +kernel
theorem dX6_count_133 : decode cX6_count 133 = .ok (.ireturn, 1) := by decide +kernel
theorem dL_law_0 : decode cL_law 0 = .ok (.new 7, 3) := by decide +kernel
theorem dL_law_3 : decode cL_law 3 = .ok (.dup, 1) := by decide +kernel
theorem dL_law_4 : decode cL_law 4 = .ok (.invokespecial 9, 3) := by decide +kernel
theorem dL_law_7 : decode cL_law 7 = .ok (.astore_n 1, 1) := by decide +kernel
theorem dL_law_8 : decode cL_law 8 = .ok (.new 10, 3) := by decide +kernel
theorem dL_law_11 : decode cL_law 11 = .ok (.dup, 1) := by decide +kernel
theorem dL_law_12 : decode cL_law 12 = .ok (.invokespecial 12, 3) := by decide +kernel
theorem dL_law_15 : decode cL_law 15 = .ok (.astore_n 2, 1) := by decide +kernel
theorem dL_law_16 : decode cL_law 16 = .ok (.iconst 0, 1) := by decide +kernel
theorem dL_law_17 : decode cL_law 17 = .ok (.istore_n 3, 1) := by decide +kernel
theorem dL_law_18 : decode cL_law 18 = .ok (.iload_n 3, 1) := by decide +kernel
theorem dL_law_19 : decode cL_law 19 = .ok (.aload_n 0, 1) := by decide +kernel
theorem dL_law_20 : decode cL_law 20 = .ok (.arraylength, 1) := by decide +kernel
theorem dL_law_21 : decode cL_law 21 = .ok (.iconst 4, 1) := by decide +kernel
theorem dL_law_22 : decode cL_law 22 = .ok (.isub, 1) := by decide +kernel
theorem dL_law_23 : decode cL_law 23 = .ok (.if_icmp .gt 933, 3) := by decide +kernel
theorem dL_law_26 : decode cL_law 26 = .ok (.aload_n 0, 1) := by decide +kernel
theorem dL_law_27 : decode cL_law 27 = .ok (.iload_n 3, 1) := by decide +kernel
theorem dL_law_28 : decode cL_law 28 = .ok (.iaload, 1) := by decide +kernel
theorem dL_law_29 : decode cL_law 29 = .ok (.bipush 31, 2) := by decide +kernel
theorem dL_law_31 : decode cL_law 31 = .ok (.iand, 1) := by decide +kernel
theorem dL_law_32 : decode cL_law 32 = .ok (.tableswitch 918 0 28 #[132, 155, 168, 181, 194, 227, 260, 283, 306, 319, 342, 355, 368, 381, 414, 437, 476, 509, 542, 585, 598, 621, 670, 713, 772, 826, 849, 872, 895], 132) := by decide +kernel
theorem dL_law_164 : decode cL_law 164 = .ok (.aload_n 1, 1) := by decide +kernel
theorem dL_law_165 : decode cL_law 165 = .ok (.aload_n 0, 1) := by decide +kernel
theorem dL_law_166 : decode cL_law 166 = .ok (.iload_n 3, 1) := by decide +kernel
theorem dL_law_167 : decode cL_law 167 = .ok (.iconst 1, 1) := by decide +kernel
theorem dL_law_168 : decode cL_law 168 = .ok (.iadd, 1) := by decide +kernel
theorem dL_law_169 : decode cL_law 169 = .ok (.iaload, 1) := by decide +kernel
theorem dL_law_170 : decode cL_law 170 = .ok (.invokevirtual 13, 3) := by decide +kernel
theorem dL_law_173 : decode cL_law 173 = .ok (.aload_n 2, 1) := by decide +kernel
theorem dL_law_174 : decode cL_law 174 = .ok (.aload_n 0, 1) := by decide +kernel
theorem dL_law_175 : decode cL_law 175 = .ok (.iload_n 3, 1) := by decide +kernel
theorem dL_law_176 : decode cL_law 176 = .ok (.iconst 1, 1) := by decide +kernel
theorem dL_law_177 : decode cL_law 177 = .ok (.iadd, 1) := by decide +kernel
theorem dL_law_178 : decode cL_law 178 = .ok (.iaload, 1) := by decide +kernel
theorem dL_law_179 : decode cL_law 179 = .ok (.invokevirtual 17, 3) := by decide +kernel
theorem dL_law_182 : decode cL_law 182 = .ok (.if_icmp .eq 768, 3) := by decide +kernel
theorem dL_law_185 : decode cL_law 185 = .ok (.iconst 0, 1) := by decide +kernel
theorem dL_law_186 : decode cL_law 186 = .ok (.ireturn, 1) := by decide +kernel
theorem dL_law_187 : decode cL_law 187 = .ok (.aload_n 1, 1) := by decide +kernel
theorem dL_law_188 : decode cL_law 188 = .ok (.invokevirtual 18, 3) := by decide +kernel
theorem dL_law_191 : decode cL_law 191 = .ok (.aload_n 2, 1) := by decide +kernel
theorem dL_law_192 : decode cL_law 192 = .ok (.invokevirtual 22, 3) := by decide +kernel
theorem dL_law_195 : decode cL_law 195 = .ok (.if_icmp .eq 755, 3) := by decide +kernel
theorem dL_law_198 : decode cL_law 198 = .ok (.iconst 0, 1) := by decide +kernel
theorem dL_law_199 : decode cL_law 199 = .ok (.ireturn, 1) := by decide +kernel
theorem dL_law_200 : decode cL_law 200 = .ok (.aload_n 1, 1) := by decide +kernel
theorem dL_law_201 : decode cL_law 201 = .ok (.invokevirtual 23, 3) := by decide +kernel
theorem dL_law_204 : decode cL_law 204 = .ok (.aload_n 2, 1) := by decide +kernel
theorem dL_law_205 : decode cL_law 205 = .ok (.invokevirtual 26, 3) := by decide +kernel
theorem dL_law_208 : decode cL_law 208 = .ok (.if_icmp .eq 742, 3) := by decide +kernel
theorem dL_law_211 : decode cL_law 211 = .ok (.iconst 0, 1) := by decide +kernel
theorem dL_law_212 : decode cL_law 212 = .ok (.ireturn, 1) := by decide +kernel
theorem dL_law_213 : decode cL_law 213 = .ok (.aload_n 1, 1) := by decide +kernel
theorem dL_law_214 : decode cL_law 214 = .ok (.invokevirtual 27, 3) := by decide +kernel
theorem dL_law_217 : decode cL_law 217 = .ok (.aload_n 2, 1) := by decide +kernel
theorem dL_law_218 : decode cL_law 218 = .ok (.invokevirtual 30, 3) := by decide +kernel
theorem dL_law_221 : decode cL_law 221 = .ok (.if_icmp .eq 729, 3) := by decide +kernel
theorem dL_law_224 : decode cL_law 224 = .ok (.iconst 0, 1) := by decide +kernel
theorem dL_law_225 : decode cL_law 225 = .ok (.ireturn, 1) := by decide +kernel
theorem dL_law_226 : decode cL_law 226 = .ok (.aload_n 1, 1) := by decide +kernel
theorem dL_law_227 : decode cL_law 227 = .ok (.aload_n 0, 1) := by decide +kernel
theorem dL_law_228 : decode cL_law 228 = .ok (.iload_n 3, 1) := by decide +kernel
theorem dL_law_229 : decode cL_law 229 = .ok (.iconst 1, 1) := by decide +kernel
theorem dL_law_230 : decode cL_law 230 = .ok (.iadd, 1) := by decide +kernel
theorem dL_law_231 : decode cL_law 231 = .ok (.iaload, 1) := by decide +kernel
theorem dL_law_232 : decode cL_law 232 = .ok (.aload_n 0, 1) := by decide +kernel
theorem dL_law_233 : decode cL_law 233 = .ok (.iload_n 3, 1) := by decide +kernel
theorem dL_law_234 : decode cL_law 234 = .ok (.iconst 2, 1) := by decide +kernel
theorem dL_law_235 : decode cL_law 235 = .ok (.iadd, 1) := by decide +kernel
theorem dL_law_236 : decode cL_law 236 = .ok (.iaload, 1) := by decide +kernel
theorem dL_law_237 : decode cL_law 237 = .ok (.invokevirtual 31, 3) := by decide +kernel
theorem dL_law_240 : decode cL_law 240 = .ok (.aload_n 2, 1) := by decide +kernel
theorem dL_law_241 : decode cL_law 241 = .ok (.aload_n 0, 1) := by decide +kernel
theorem dL_law_242 : decode cL_law 242 = .ok (.iload_n 3, 1) := by decide +kernel
theorem dL_law_243 : decode cL_law 243 = .ok (.iconst 1, 1) := by decide +kernel
theorem dL_law_244 : decode cL_law 244 = .ok (.iadd, 1) := by decide +kernel
theorem dL_law_245 : decode cL_law 245 = .ok (.iaload, 1) := by decide +kernel
theorem dL_law_246 : decode cL_law 246 = .ok (.aload_n 0, 1) := by decide +kernel
theorem dL_law_247 : decode cL_law 247 = .ok (.iload_n 3, 1) := by decide +kernel
theorem dL_law_248 : decode cL_law 248 = .ok (.iconst 2, 1) := by decide +kernel
theorem dL_law_249 : decode cL_law 249 = .ok (.iadd, 1) := by decide +kernel
theorem dL_law_250 : decode cL_law 250 = .ok (.iaload, 1) := by decide +kernel
theorem dL_law_251 : decode cL_law 251 = .ok (.invokevirtual 35, 3) := by decide +kernel
theorem dL_law_254 : decode cL_law 254 = .ok (.if_icmp .eq 696, 3) := by decide +kernel
theorem dL_law_257 : decode cL_law 257 = .ok (.iconst 0, 1) := by decide +kernel
theorem dL_law_258 : decode cL_law 258 = .ok (.ireturn, 1) := by decide +kernel
theorem dL_law_259 : decode cL_law 259 = .ok (.aload_n 1, 1) := by decide +kernel
theorem dL_law_260 : decode cL_law 260 = .ok (.aload_n 0, 1) := by decide +kernel
theorem dL_law_261 : decode cL_law 261 = .ok (.iload_n 3, 1) := by decide +kernel
theorem dL_law_262 : decode cL_law 262 = .ok (.iconst 1, 1) := by decide +kernel
theorem dL_law_263 : decode cL_law 263 = .ok (.iadd, 1) := by decide +kernel
theorem dL_law_264 : decode cL_law 264 = .ok (.iaload, 1) := by decide +kernel
theorem dL_law_265 : decode cL_law 265 = .ok (.aload_n 0, 1) := by decide +kernel
theorem dL_law_266 : decode cL_law 266 = .ok (.iload_n 3, 1) := by decide +kernel
theorem dL_law_267 : decode cL_law 267 = .ok (.iconst 2, 1) := by decide +kernel
theorem dL_law_268 : decode cL_law 268 = .ok (.iadd, 1) := by decide +kernel
theorem dL_law_269 : decode cL_law 269 = .ok (.iaload, 1) := by decide +kernel
theorem dL_law_270 : decode cL_law 270 = .ok (.invokevirtual 36, 3) := by decide +kernel
theorem dL_law_273 : decode cL_law 273 = .ok (.aload_n 2, 1) := by decide +kernel
theorem dL_law_274 : decode cL_law 274 = .ok (.aload_n 0, 1) := by decide +kernel
theorem dL_law_275 : decode cL_law 275 = .ok (.iload_n 3, 1) := by decide +kernel
theorem dL_law_276 : decode cL_law 276 = .ok (.iconst 1, 1) := by decide +kernel
theorem dL_law_277 : decode cL_law 277 = .ok (.iadd, 1) := by decide +kernel
theorem dL_law_278 : decode cL_law 278 = .ok (.iaload, 1) := by decide +kernel
theorem dL_law_279 : decode cL_law 279 = .ok (.aload_n 0, 1) := by decide +kernel
theorem dL_law_280 : decode cL_law 280 = .ok (.iload_n 3, 1) := by decide +kernel
theorem dL_law_281 : decode cL_law 281 = .ok (.iconst 2, 1) := by decide +kernel
theorem dL_law_282 : decode cL_law 282 = .ok (.iadd, 1) := by decide +kernel
theorem dL_law_283 : decode cL_law 283 = .ok (.iaload, 1) := by decide +kernel
theorem dL_law_284 : decode cL_law 284 = .ok (.invokevirtual 39, 3) := by decide +kernel
theorem dL_law_287 : decode cL_law 287 = .ok (.if_icmp .eq 663, 3) := by decide +kernel
theorem dL_law_290 : decode cL_law 290 = .ok (.iconst 0, 1) := by decide +kernel
theorem dL_law_291 : decode cL_law 291 = .ok (.ireturn, 1) := by decide +kernel
theorem dL_law_292 : decode cL_law 292 = .ok (.aload_n 1, 1) := by decide +kernel
theorem dL_law_293 : decode cL_law 293 = .ok (.aload_n 0, 1) := by decide +kernel
theorem dL_law_294 : decode cL_law 294 = .ok (.iload_n 3, 1) := by decide +kernel
theorem dL_law_295 : decode cL_law 295 = .ok (.iconst 1, 1) := by decide +kernel
theorem dL_law_296 : decode cL_law 296 = .ok (.iadd, 1) := by decide +kernel
theorem dL_law_297 : decode cL_law 297 = .ok (.iaload, 1) := by decide +kernel
theorem dL_law_298 : decode cL_law 298 = .ok (.invokevirtual 40, 3) := by decide +kernel
theorem dL_law_301 : decode cL_law 301 = .ok (.aload_n 2, 1) := by decide +kernel
theorem dL_law_302 : decode cL_law 302 = .ok (.aload_n 0, 1) := by decide +kernel
theorem dL_law_303 : decode cL_law 303 = .ok (.iload_n 3, 1) := by decide +kernel
theorem dL_law_304 : decode cL_law 304 = .ok (.iconst 1, 1) := by decide +kernel
theorem dL_law_305 : decode cL_law 305 = .ok (.iadd, 1) := by decide +kernel
theorem dL_law_306 : decode cL_law 306 = .ok (.iaload, 1) := by decide +kernel
theorem dL_law_307 : decode cL_law 307 = .ok (.invokevirtual 43, 3) := by decide +kernel
theorem dL_law_310 : decode cL_law 310 = .ok (.if_icmp .eq 640, 3) := by decide +kernel
theorem dL_law_313 : decode cL_law 313 = .ok (.iconst 0, 1) := by decide +kernel
theorem dL_law_314 : decode cL_law 314 = .ok (.ireturn, 1) := by decide +kernel
theorem dL_law_315 : decode cL_law 315 = .ok (.aload_n 1, 1) := by decide +kernel
theorem dL_law_316 : decode cL_law 316 = .ok (.aload_n 0, 1) := by decide +kernel
theorem dL_law_317 : decode cL_law 317 = .ok (.iload_n 3, 1) := by decide +kernel
theorem dL_law_318 : decode cL_law 318 = .ok (.iconst 1, 1) := by decide +kernel
theorem dL_law_319 : decode cL_law 319 = .ok (.iadd, 1) := by decide +kernel
theorem dL_law_320 : decode cL_law 320 = .ok (.iaload, 1) := by decide +kernel
theorem dL_law_321 : decode cL_law 321 = .ok (.invokevirtual 44, 3) := by decide +kernel
theorem dL_law_324 : decode cL_law 324 = .ok (.aload_n 2, 1) := by decide +kernel
theorem dL_law_325 : decode cL_law 325 = .ok (.aload_n 0, 1) := by decide +kernel
theorem dL_law_326 : decode cL_law 326 = .ok (.iload_n 3, 1) := by decide +kernel
theorem dL_law_327 : decode cL_law 327 = .ok (.iconst 1, 1) := by decide +kernel
theorem dL_law_328 : decode cL_law 328 = .ok (.iadd, 1) := by decide +kernel
theorem dL_law_329 : decode cL_law 329 = .ok (.iaload, 1) := by decide +kernel
theorem dL_law_330 : decode cL_law 330 = .ok (.invokevirtual 47, 3) := by decide +kernel
theorem dL_law_333 : decode cL_law 333 = .ok (.if_icmp .eq 617, 3) := by decide +kernel
theorem dL_law_336 : decode cL_law 336 = .ok (.iconst 0, 1) := by decide +kernel
theorem dL_law_337 : decode cL_law 337 = .ok (.ireturn, 1) := by decide +kernel
theorem dL_law_338 : decode cL_law 338 = .ok (.aload_n 1, 1) := by decide +kernel
theorem dL_law_339 : decode cL_law 339 = .ok (.invokevirtual 48, 3) := by decide +kernel
theorem dL_law_342 : decode cL_law 342 = .ok (.aload_n 2, 1) := by decide +kernel
theorem dL_law_343 : decode cL_law 343 = .ok (.invokevirtual 51, 3) := by decide +kernel
theorem dL_law_346 : decode cL_law 346 = .ok (.if_icmp .eq 604, 3) := by decide +kernel
theorem dL_law_349 : decode cL_law 349 = .ok (.iconst 0, 1) := by decide +kernel
theorem dL_law_350 : decode cL_law 350 = .ok (.ireturn, 1) := by decide +kernel
theorem dL_law_351 : decode cL_law 351 = .ok (.aload_n 1, 1) := by decide +kernel
theorem dL_law_352 : decode cL_law 352 = .ok (.aload_n 0, 1) := by decide +kernel
theorem dL_law_353 : decode cL_law 353 = .ok (.iload_n 3, 1) := by decide +kernel
theorem dL_law_354 : decode cL_law 354 = .ok (.iconst 1, 1) := by decide +kernel
theorem dL_law_355 : decode cL_law 355 = .ok (.iadd, 1) := by decide +kernel
theorem dL_law_356 : decode cL_law 356 = .ok (.iaload, 1) := by decide +kernel
theorem dL_law_357 : decode cL_law 357 = .ok (.invokevirtual 52, 3) := by decide +kernel
theorem dL_law_360 : decode cL_law 360 = .ok (.aload_n 2, 1) := by decide +kernel
theorem dL_law_361 : decode cL_law 361 = .ok (.aload_n 0, 1) := by decide +kernel
theorem dL_law_362 : decode cL_law 362 = .ok (.iload_n 3, 1) := by decide +kernel
theorem dL_law_363 : decode cL_law 363 = .ok (.iconst 1, 1) := by decide +kernel
theorem dL_law_364 : decode cL_law 364 = .ok (.iadd, 1) := by decide +kernel
theorem dL_law_365 : decode cL_law 365 = .ok (.iaload, 1) := by decide +kernel
theorem dL_law_366 : decode cL_law 366 = .ok (.invokevirtual 55, 3) := by decide +kernel
theorem dL_law_369 : decode cL_law 369 = .ok (.if_icmp .eq 581, 3) := by decide +kernel
theorem dL_law_372 : decode cL_law 372 = .ok (.iconst 0, 1) := by decide +kernel
theorem dL_law_373 : decode cL_law 373 = .ok (.ireturn, 1) := by decide +kernel
theorem dL_law_374 : decode cL_law 374 = .ok (.aload_n 1, 1) := by decide +kernel
theorem dL_law_375 : decode cL_law 375 = .ok (.invokevirtual 56, 3) := by decide +kernel
theorem dL_law_378 : decode cL_law 378 = .ok (.aload_n 2, 1) := by decide +kernel
theorem dL_law_379 : decode cL_law 379 = .ok (.invokevirtual 59, 3) := by decide +kernel
theorem dL_law_382 : decode cL_law 382 = .ok (.if_icmp .eq 568, 3) := by decide +kernel
theorem dL_law_385 : decode cL_law 385 = .ok (.iconst 0, 1) := by decide +kernel
theorem dL_law_386 : decode cL_law 386 = .ok (.ireturn, 1) := by decide +kernel
theorem dL_law_387 : decode cL_law 387 = .ok (.aload_n 1, 1) := by decide +kernel
theorem dL_law_388 : decode cL_law 388 = .ok (.invokevirtual 60, 3) := by decide +kernel
theorem dL_law_391 : decode cL_law 391 = .ok (.aload_n 2, 1) := by decide +kernel
theorem dL_law_392 : decode cL_law 392 = .ok (.invokevirtual 63, 3) := by decide +kernel
theorem dL_law_395 : decode cL_law 395 = .ok (.if_icmp .eq 555, 3) := by decide +kernel
theorem dL_law_398 : decode cL_law 398 = .ok (.iconst 0, 1) := by decide +kernel
theorem dL_law_399 : decode cL_law 399 = .ok (.ireturn, 1) := by decide +kernel
theorem dL_law_400 : decode cL_law 400 = .ok (.aload_n 1, 1) := by decide +kernel
theorem dL_law_401 : decode cL_law 401 = .ok (.invokevirtual 64, 3) := by decide +kernel
theorem dL_law_404 : decode cL_law 404 = .ok (.aload_n 2, 1) := by decide +kernel
theorem dL_law_405 : decode cL_law 405 = .ok (.invokevirtual 67, 3) := by decide +kernel
theorem dL_law_408 : decode cL_law 408 = .ok (.if_icmp .eq 542, 3) := by decide +kernel
theorem dL_law_411 : decode cL_law 411 = .ok (.iconst 0, 1) := by decide +kernel
theorem dL_law_412 : decode cL_law 412 = .ok (.ireturn, 1) := by decide +kernel
theorem dL_law_413 : decode cL_law 413 = .ok (.aload_n 1, 1) := by decide +kernel
theorem dL_law_414 : decode cL_law 414 = .ok (.aload_n 0, 1) := by decide +kernel
theorem dL_law_415 : decode cL_law 415 = .ok (.iload_n 3, 1) := by decide +kernel
theorem dL_law_416 : decode cL_law 416 = .ok (.iconst 1, 1) := by decide +kernel
theorem dL_law_417 : decode cL_law 417 = .ok (.iadd, 1) := by decide +kernel
theorem dL_law_418 : decode cL_law 418 = .ok (.iaload, 1) := by decide +kernel
theorem dL_law_419 : decode cL_law 419 = .ok (.aload_n 0, 1) := by decide +kernel
theorem dL_law_420 : decode cL_law 420 = .ok (.iload_n 3, 1) := by decide +kernel
theorem dL_law_421 : decode cL_law 421 = .ok (.iconst 2, 1) := by decide +kernel
theorem dL_law_422 : decode cL_law 422 = .ok (.iadd, 1) := by decide +kernel
theorem dL_law_423 : decode cL_law 423 = .ok (.iaload, 1) := by decide +kernel
theorem dL_law_424 : decode cL_law 424 = .ok (.invokevirtual 68, 3) := by decide +kernel
theorem dL_law_427 : decode cL_law 427 = .ok (.aload_n 2, 1) := by decide +kernel
theorem dL_law_428 : decode cL_law 428 = .ok (.aload_n 0, 1) := by decide +kernel
theorem dL_law_429 : decode cL_law 429 = .ok (.iload_n 3, 1) := by decide +kernel
theorem dL_law_430 : decode cL_law 430 = .ok (.iconst 1, 1) := by decide +kernel
theorem dL_law_431 : decode cL_law 431 = .ok (.iadd, 1) := by decide +kernel
theorem dL_law_432 : decode cL_law 432 = .ok (.iaload, 1) := by decide +kernel
theorem dL_law_433 : decode cL_law 433 = .ok (.aload_n 0, 1) := by decide +kernel
theorem dL_law_434 : decode cL_law 434 = .ok (.iload_n 3, 1) := by decide +kernel
theorem dL_law_435 : decode cL_law 435 = .ok (.iconst 2, 1) := by decide +kernel
theorem dL_law_436 : decode cL_law 436 = .ok (.iadd, 1) := by decide +kernel
theorem dL_law_437 : decode cL_law 437 = .ok (.iaload, 1) := by decide +kernel
theorem dL_law_438 : decode cL_law 438 = .ok (.invokevirtual 71, 3) := by decide +kernel
theorem dL_law_441 : decode cL_law 441 = .ok (.if_icmp .eq 509, 3) := by decide +kernel
theorem dL_law_444 : decode cL_law 444 = .ok (.iconst 0, 1) := by decide +kernel
theorem dL_law_445 : decode cL_law 445 = .ok (.ireturn, 1) := by decide +kernel
theorem dL_law_446 : decode cL_law 446 = .ok (.aload_n 1, 1) := by decide +kernel
theorem dL_law_447 : decode cL_law 447 = .ok (.aload_n 0, 1) := by decide +kernel
theorem dL_law_448 : decode cL_law 448 = .ok (.iload_n 3, 1) := by decide +kernel
theorem dL_law_449 : decode cL_law 449 = .ok (.iconst 1, 1) := by decide +kernel
theorem dL_law_450 : decode cL_law 450 = .ok (.iadd, 1) := by decide +kernel
theorem dL_law_451 : decode cL_law 451 = .ok (.iaload, 1) := by decide +kernel
theorem dL_law_452 : decode cL_law 452 = .ok (.invokevirtual 72, 3) := by decide +kernel
theorem dL_law_455 : decode cL_law 455 = .ok (.aload_n 2, 1) := by decide +kernel
theorem dL_law_456 : decode cL_law 456 = .ok (.aload_n 0, 1) := by decide +kernel
theorem dL_law_457 : decode cL_law 457 = .ok (.iload_n 3, 1) := by decide +kernel
theorem dL_law_458 : decode cL_law 458 = .ok (.iconst 1, 1) := by decide +kernel
theorem dL_law_459 : decode cL_law 459 = .ok (.iadd, 1) := by decide +kernel
theorem dL_law_460 : decode cL_law 460 = .ok (.iaload, 1) := by decide +kernel
theorem dL_law_461 : decode cL_law 461 = .ok (.invokevirtual 75, 3) := by decide +kernel
theorem dL_law_464 : decode cL_law 464 = .ok (.if_icmp .eq 486, 3) := by decide +kernel
theorem dL_law_467 : decode cL_law 467 = .ok (.iconst 0, 1) := by decide +kernel
theorem dL_law_468 : decode cL_law 468 = .ok (.ireturn, 1) := by decide +kernel
theorem dL_law_469 : decode cL_law 469 = .ok (.aload_n 1, 1) := by decide +kernel
theorem dL_law_470 : decode cL_law 470 = .ok (.aload_n 0, 1) := by decide +kernel
theorem dL_law_471 : decode cL_law 471 = .ok (.iload_n 3, 1) := by decide +kernel
theorem dL_law_472 : decode cL_law 472 = .ok (.iconst 1, 1) := by decide +kernel
theorem dL_law_473 : decode cL_law 473 = .ok (.iadd, 1) := by decide +kernel
theorem dL_law_474 : decode cL_law 474 = .ok (.iaload, 1) := by decide +kernel
theorem dL_law_475 : decode cL_law 475 = .ok (.ifCond .eq 7, 3) := by decide +kernel
theorem dL_law_478 : decode cL_law 478 = .ok (.iconst 1, 1) := by decide +kernel
theorem dL_law_479 : decode cL_law 479 = .ok (.goto 4, 3) := by decide +kernel
theorem dL_law_482 : decode cL_law 482 = .ok (.iconst 0, 1) := by decide +kernel
theorem dL_law_483 : decode cL_law 483 = .ok (.invokevirtual 76, 3) := by decide +kernel
theorem dL_law_486 : decode cL_law 486 = .ok (.aload_n 2, 1) := by decide +kernel
theorem dL_law_487 : decode cL_law 487 = .ok (.aload_n 0, 1) := by decide +kernel
theorem dL_law_488 : decode cL_law 488 = .ok (.iload_n 3, 1) := by decide +kernel
theorem dL_law_489 : decode cL_law 489 = .ok (.iconst 1, 1) := by decide +kernel
theorem dL_law_490 : decode cL_law 490 = .ok (.iadd, 1) := by decide +kernel
theorem dL_law_491 : decode cL_law 491 = .ok (.iaload, 1) := by decide +kernel
theorem dL_law_492 : decode cL_law 492 = .ok (.ifCond .eq 7, 3) := by decide +kernel
theorem dL_law_495 : decode cL_law 495 = .ok (.iconst 1, 1) := by decide +kernel
theorem dL_law_496 : decode cL_law 496 = .ok (.goto 4, 3) := by decide +kernel
theorem dL_law_499 : decode cL_law 499 = .ok (.iconst 0, 1) := by decide +kernel
theorem dL_law_500 : decode cL_law 500 = .ok (.invokevirtual 80, 3) := by decide +kernel
theorem dL_law_503 : decode cL_law 503 = .ok (.if_icmp .eq 447, 3) := by decide +kernel
theorem dL_law_506 : decode cL_law 506 = .ok (.iconst 0, 1) := by decide +kernel
theorem dL_law_507 : decode cL_law 507 = .ok (.ireturn, 1) := by decide +kernel
theorem dL_law_508 : decode cL_law 508 = .ok (.aload_n 1, 1) := by decide +kernel
theorem dL_law_509 : decode cL_law 509 = .ok (.aload_n 0, 1) := by decide +kernel
theorem dL_law_510 : decode cL_law 510 = .ok (.iload_n 3, 1) := by decide +kernel
theorem dL_law_511 : decode cL_law 511 = .ok (.iconst 1, 1) := by decide +kernel
theorem dL_law_512 : decode cL_law 512 = .ok (.iadd, 1) := by decide +kernel
theorem dL_law_513 : decode cL_law 513 = .ok (.iaload, 1) := by decide +kernel
theorem dL_law_514 : decode cL_law 514 = .ok (.aload_n 0, 1) := by decide +kernel
theorem dL_law_515 : decode cL_law 515 = .ok (.iload_n 3, 1) := by decide +kernel
theorem dL_law_516 : decode cL_law 516 = .ok (.iconst 2, 1) := by decide +kernel
theorem dL_law_517 : decode cL_law 517 = .ok (.iadd, 1) := by decide +kernel
theorem dL_law_518 : decode cL_law 518 = .ok (.iaload, 1) := by decide +kernel
theorem dL_law_519 : decode cL_law 519 = .ok (.invokevirtual 81, 3) := by decide +kernel
theorem dL_law_522 : decode cL_law 522 = .ok (.aload_n 2, 1) := by decide +kernel
theorem dL_law_523 : decode cL_law 523 = .ok (.aload_n 0, 1) := by decide +kernel
theorem dL_law_524 : decode cL_law 524 = .ok (.iload_n 3, 1) := by decide +kernel
theorem dL_law_525 : decode cL_law 525 = .ok (.iconst 1, 1) := by decide +kernel
theorem dL_law_526 : decode cL_law 526 = .ok (.iadd, 1) := by decide +kernel
theorem dL_law_527 : decode cL_law 527 = .ok (.iaload, 1) := by decide +kernel
theorem dL_law_528 : decode cL_law 528 = .ok (.aload_n 0, 1) := by decide +kernel
theorem dL_law_529 : decode cL_law 529 = .ok (.iload_n 3, 1) := by decide +kernel
theorem dL_law_530 : decode cL_law 530 = .ok (.iconst 2, 1) := by decide +kernel
theorem dL_law_531 : decode cL_law 531 = .ok (.iadd, 1) := by decide +kernel
theorem dL_law_532 : decode cL_law 532 = .ok (.iaload, 1) := by decide +kernel
theorem dL_law_533 : decode cL_law 533 = .ok (.invokevirtual 84, 3) := by decide +kernel
theorem dL_law_536 : decode cL_law 536 = .ok (.if_icmp .eq 414, 3) := by decide +kernel
theorem dL_law_539 : decode cL_law 539 = .ok (.iconst 0, 1) := by decide +kernel
theorem dL_law_540 : decode cL_law 540 = .ok (.ireturn, 1) := by decide +kernel
theorem dL_law_541 : decode cL_law 541 = .ok (.aload_n 1, 1) := by decide +kernel
theorem dL_law_542 : decode cL_law 542 = .ok (.aload_n 0, 1) := by decide +kernel
theorem dL_law_543 : decode cL_law 543 = .ok (.iload_n 3, 1) := by decide +kernel
theorem dL_law_544 : decode cL_law 544 = .ok (.iconst 1, 1) := by decide +kernel
theorem dL_law_545 : decode cL_law 545 = .ok (.iadd, 1) := by decide +kernel
theorem dL_law_546 : decode cL_law 546 = .ok (.iaload, 1) := by decide +kernel
theorem dL_law_547 : decode cL_law 547 = .ok (.aload_n 0, 1) := by decide +kernel
theorem dL_law_548 : decode cL_law 548 = .ok (.iload_n 3, 1) := by decide +kernel
theorem dL_law_549 : decode cL_law 549 = .ok (.iconst 2, 1) := by decide +kernel
theorem dL_law_550 : decode cL_law 550 = .ok (.iadd, 1) := by decide +kernel
theorem dL_law_551 : decode cL_law 551 = .ok (.iaload, 1) := by decide +kernel
theorem dL_law_552 : decode cL_law 552 = .ok (.invokevirtual 85, 3) := by decide +kernel
theorem dL_law_555 : decode cL_law 555 = .ok (.aload_n 2, 1) := by decide +kernel
theorem dL_law_556 : decode cL_law 556 = .ok (.aload_n 0, 1) := by decide +kernel
theorem dL_law_557 : decode cL_law 557 = .ok (.iload_n 3, 1) := by decide +kernel
theorem dL_law_558 : decode cL_law 558 = .ok (.iconst 1, 1) := by decide +kernel
theorem dL_law_559 : decode cL_law 559 = .ok (.iadd, 1) := by decide +kernel
theorem dL_law_560 : decode cL_law 560 = .ok (.iaload, 1) := by decide +kernel
theorem dL_law_561 : decode cL_law 561 = .ok (.aload_n 0, 1) := by decide +kernel
theorem dL_law_562 : decode cL_law 562 = .ok (.iload_n 3, 1) := by decide +kernel
theorem dL_law_563 : decode cL_law 563 = .ok (.iconst 2, 1) := by decide +kernel
theorem dL_law_564 : decode cL_law 564 = .ok (.iadd, 1) := by decide +kernel
theorem dL_law_565 : decode cL_law 565 = .ok (.iaload, 1) := by decide +kernel
theorem dL_law_566 : decode cL_law 566 = .ok (.invokevirtual 88, 3) := by decide +kernel
theorem dL_law_569 : decode cL_law 569 = .ok (.if_icmp .eq 381, 3) := by decide +kernel
theorem dL_law_572 : decode cL_law 572 = .ok (.iconst 0, 1) := by decide +kernel
theorem dL_law_573 : decode cL_law 573 = .ok (.ireturn, 1) := by decide +kernel
theorem dL_law_574 : decode cL_law 574 = .ok (.aload_n 1, 1) := by decide +kernel
theorem dL_law_575 : decode cL_law 575 = .ok (.aload_n 0, 1) := by decide +kernel
theorem dL_law_576 : decode cL_law 576 = .ok (.iload_n 3, 1) := by decide +kernel
theorem dL_law_577 : decode cL_law 577 = .ok (.iconst 1, 1) := by decide +kernel
theorem dL_law_578 : decode cL_law 578 = .ok (.iadd, 1) := by decide +kernel
theorem dL_law_579 : decode cL_law 579 = .ok (.iaload, 1) := by decide +kernel
theorem dL_law_580 : decode cL_law 580 = .ok (.aload_n 0, 1) := by decide +kernel
theorem dL_law_581 : decode cL_law 581 = .ok (.iload_n 3, 1) := by decide +kernel
theorem dL_law_582 : decode cL_law 582 = .ok (.iconst 2, 1) := by decide +kernel
theorem dL_law_583 : decode cL_law 583 = .ok (.iadd, 1) := by decide +kernel
theorem dL_law_584 : decode cL_law 584 = .ok (.iaload, 1) := by decide +kernel
theorem dL_law_585 : decode cL_law 585 = .ok (.aload_n 0, 1) := by decide +kernel
theorem dL_law_586 : decode cL_law 586 = .ok (.iload_n 3, 1) := by decide +kernel
theorem dL_law_587 : decode cL_law 587 = .ok (.iconst 3, 1) := by decide +kernel
theorem dL_law_588 : decode cL_law 588 = .ok (.iadd, 1) := by decide +kernel
theorem dL_law_589 : decode cL_law 589 = .ok (.iaload, 1) := by decide +kernel
theorem dL_law_590 : decode cL_law 590 = .ok (.invokevirtual 89, 3) := by decide +kernel
theorem dL_law_593 : decode cL_law 593 = .ok (.aload_n 2, 1) := by decide +kernel
theorem dL_law_594 : decode cL_law 594 = .ok (.aload_n 0, 1) := by decide +kernel
theorem dL_law_595 : decode cL_law 595 = .ok (.iload_n 3, 1) := by decide +kernel
theorem dL_law_596 : decode cL_law 596 = .ok (.iconst 1, 1) := by decide +kernel
theorem dL_law_597 : decode cL_law 597 = .ok (.iadd, 1) := by decide +kernel
theorem dL_law_598 : decode cL_law 598 = .ok (.iaload, 1) := by decide +kernel
theorem dL_law_599 : decode cL_law 599 = .ok (.aload_n 0, 1) := by decide +kernel
theorem dL_law_600 : decode cL_law 600 = .ok (.iload_n 3, 1) := by decide +kernel
theorem dL_law_601 : decode cL_law 601 = .ok (.iconst 2, 1) := by decide +kernel
theorem dL_law_602 : decode cL_law 602 = .ok (.iadd, 1) := by decide +kernel
theorem dL_law_603 : decode cL_law 603 = .ok (.iaload, 1) := by decide +kernel
theorem dL_law_604 : decode cL_law 604 = .ok (.aload_n 0, 1) := by decide +kernel
theorem dL_law_605 : decode cL_law 605 = .ok (.iload_n 3, 1) := by decide +kernel
theorem dL_law_606 : decode cL_law 606 = .ok (.iconst 3, 1) := by decide +kernel
theorem dL_law_607 : decode cL_law 607 = .ok (.iadd, 1) := by decide +kernel
theorem dL_law_608 : decode cL_law 608 = .ok (.iaload, 1) := by decide +kernel
theorem dL_law_609 : decode cL_law 609 = .ok (.invokevirtual 93, 3) := by decide +kernel
theorem dL_law_612 : decode cL_law 612 = .ok (.if_icmp .eq 338, 3) := by decide +kernel
theorem dL_law_615 : decode cL_law 615 = .ok (.iconst 0, 1) := by decide +kernel
theorem dL_law_616 : decode cL_law 616 = .ok (.ireturn, 1) := by decide +kernel
theorem dL_law_617 : decode cL_law 617 = .ok (.aload_n 1, 1) := by decide +kernel
theorem dL_law_618 : decode cL_law 618 = .ok (.invokevirtual 94, 3) := by decide +kernel
theorem dL_law_621 : decode cL_law 621 = .ok (.aload_n 2, 1) := by decide +kernel
theorem dL_law_622 : decode cL_law 622 = .ok (.invokevirtual 97, 3) := by decide +kernel
theorem dL_law_625 : decode cL_law 625 = .ok (.if_icmp .eq 325, 3) := by decide +kernel
theorem dL_law_628 : decode cL_law 628 = .ok (.iconst 0, 1) := by decide +kernel
theorem dL_law_629 : decode cL_law 629 = .ok (.ireturn, 1) := by decide +kernel
theorem dL_law_630 : decode cL_law 630 = .ok (.aload_n 1, 1) := by decide +kernel
theorem dL_law_631 : decode cL_law 631 = .ok (.aload_n 0, 1) := by decide +kernel
theorem dL_law_632 : decode cL_law 632 = .ok (.iload_n 3, 1) := by decide +kernel
theorem dL_law_633 : decode cL_law 633 = .ok (.iconst 1, 1) := by decide +kernel
theorem dL_law_634 : decode cL_law 634 = .ok (.iadd, 1) := by decide +kernel
theorem dL_law_635 : decode cL_law 635 = .ok (.iaload, 1) := by decide +kernel
theorem dL_law_636 : decode cL_law 636 = .ok (.invokevirtual 98, 3) := by decide +kernel
theorem dL_law_639 : decode cL_law 639 = .ok (.aload_n 2, 1) := by decide +kernel
theorem dL_law_640 : decode cL_law 640 = .ok (.aload_n 0, 1) := by decide +kernel
theorem dL_law_641 : decode cL_law 641 = .ok (.iload_n 3, 1) := by decide +kernel
theorem dL_law_642 : decode cL_law 642 = .ok (.iconst 1, 1) := by decide +kernel
theorem dL_law_643 : decode cL_law 643 = .ok (.iadd, 1) := by decide +kernel
theorem dL_law_644 : decode cL_law 644 = .ok (.iaload, 1) := by decide +kernel
theorem dL_law_645 : decode cL_law 645 = .ok (.invokevirtual 101, 3) := by decide +kernel
theorem dL_law_648 : decode cL_law 648 = .ok (.if_icmp .eq 302, 3) := by decide +kernel
theorem dL_law_651 : decode cL_law 651 = .ok (.iconst 0, 1) := by decide +kernel
theorem dL_law_652 : decode cL_law 652 = .ok (.ireturn, 1) := by decide +kernel
theorem dL_law_653 : decode cL_law 653 = .ok (.aload_n 1, 1) := by decide +kernel
theorem dL_law_654 : decode cL_law 654 = .ok (.aload_n 0, 1) := by decide +kernel
theorem dL_law_655 : decode cL_law 655 = .ok (.iload_n 3, 1) := by decide +kernel
theorem dL_law_656 : decode cL_law 656 = .ok (.iconst 1, 1) := by decide +kernel
theorem dL_law_657 : decode cL_law 657 = .ok (.iadd, 1) := by decide +kernel
theorem dL_law_658 : decode cL_law 658 = .ok (.iaload, 1) := by decide +kernel
theorem dL_law_659 : decode cL_law 659 = .ok (.aload_n 0, 1) := by decide +kernel
theorem dL_law_660 : decode cL_law 660 = .ok (.iload_n 3, 1) := by decide +kernel
theorem dL_law_661 : decode cL_law 661 = .ok (.iconst 2, 1) := by decide +kernel
theorem dL_law_662 : decode cL_law 662 = .ok (.iadd, 1) := by decide +kernel
theorem dL_law_663 : decode cL_law 663 = .ok (.iaload, 1) := by decide +kernel
theorem dL_law_664 : decode cL_law 664 = .ok (.ifCond .eq 7, 3) := by decide +kernel
theorem dL_law_667 : decode cL_law 667 = .ok (.iconst 1, 1) := by decide +kernel
theorem dL_law_668 : decode cL_law 668 = .ok (.goto 4, 3) := by decide +kernel
theorem dL_law_671 : decode cL_law 671 = .ok (.iconst 0, 1) := by decide +kernel
theorem dL_law_672 : decode cL_law 672 = .ok (.invokevirtual 102, 3) := by decide +kernel
theorem dL_law_675 : decode cL_law 675 = .ok (.aload_n 2, 1) := by decide +kernel
theorem dL_law_676 : decode cL_law 676 = .ok (.aload_n 0, 1) := by decide +kernel
theorem dL_law_677 : decode cL_law 677 = .ok (.iload_n 3, 1) := by decide +kernel
theorem dL_law_678 : decode cL_law 678 = .ok (.iconst 1, 1) := by decide +kernel
theorem dL_law_679 : decode cL_law 679 = .ok (.iadd, 1) := by decide +kernel
theorem dL_law_680 : decode cL_law 680 = .ok (.iaload, 1) := by decide +kernel
theorem dL_law_681 : decode cL_law 681 = .ok (.aload_n 0, 1) := by decide +kernel
theorem dL_law_682 : decode cL_law 682 = .ok (.iload_n 3, 1) := by decide +kernel
theorem dL_law_683 : decode cL_law 683 = .ok (.iconst 2, 1) := by decide +kernel
theorem dL_law_684 : decode cL_law 684 = .ok (.iadd, 1) := by decide +kernel
theorem dL_law_685 : decode cL_law 685 = .ok (.iaload, 1) := by decide +kernel
theorem dL_law_686 : decode cL_law 686 = .ok (.ifCond .eq 7, 3) := by decide +kernel
theorem dL_law_689 : decode cL_law 689 = .ok (.iconst 1, 1) := by decide +kernel
theorem dL_law_690 : decode cL_law 690 = .ok (.goto 4, 3) := by decide +kernel
theorem dL_law_693 : decode cL_law 693 = .ok (.iconst 0, 1) := by decide +kernel
theorem dL_law_694 : decode cL_law 694 = .ok (.invokevirtual 106, 3) := by decide +kernel
theorem dL_law_697 : decode cL_law 697 = .ok (.if_icmp .eq 253, 3) := by decide +kernel
theorem dL_law_700 : decode cL_law 700 = .ok (.iconst 0, 1) := by decide +kernel
theorem dL_law_701 : decode cL_law 701 = .ok (.ireturn, 1) := by decide +kernel
theorem dL_law_702 : decode cL_law 702 = .ok (.aload_n 1, 1) := by decide +kernel
theorem dL_law_703 : decode cL_law 703 = .ok (.aload_n 0, 1) := by decide +kernel
theorem dL_law_704 : decode cL_law 704 = .ok (.iload_n 3, 1) := by decide +kernel
theorem dL_law_705 : decode cL_law 705 = .ok (.iconst 1, 1) := by decide +kernel
theorem dL_law_706 : decode cL_law 706 = .ok (.iadd, 1) := by decide +kernel
theorem dL_law_707 : decode cL_law 707 = .ok (.iaload, 1) := by decide +kernel
theorem dL_law_708 : decode cL_law 708 = .ok (.aload_n 0, 1) := by decide +kernel
theorem dL_law_709 : decode cL_law 709 = .ok (.iload_n 3, 1) := by decide +kernel
theorem dL_law_710 : decode cL_law 710 = .ok (.iconst 2, 1) := by decide +kernel
theorem dL_law_711 : decode cL_law 711 = .ok (.iadd, 1) := by decide +kernel
theorem dL_law_712 : decode cL_law 712 = .ok (.iaload, 1) := by decide +kernel
theorem dL_law_713 : decode cL_law 713 = .ok (.aload_n 0, 1) := by decide +kernel
theorem dL_law_714 : decode cL_law 714 = .ok (.iload_n 3, 1) := by decide +kernel
theorem dL_law_715 : decode cL_law 715 = .ok (.iconst 3, 1) := by decide +kernel
theorem dL_law_716 : decode cL_law 716 = .ok (.iadd, 1) := by decide +kernel
theorem dL_law_717 : decode cL_law 717 = .ok (.iaload, 1) := by decide +kernel
theorem dL_law_718 : decode cL_law 718 = .ok (.invokevirtual 107, 3) := by decide +kernel
theorem dL_law_721 : decode cL_law 721 = .ok (.aload_n 2, 1) := by decide +kernel
theorem dL_law_722 : decode cL_law 722 = .ok (.aload_n 0, 1) := by decide +kernel
theorem dL_law_723 : decode cL_law 723 = .ok (.iload_n 3, 1) := by decide +kernel
theorem dL_law_724 : decode cL_law 724 = .ok (.iconst 1, 1) := by decide +kernel
theorem dL_law_725 : decode cL_law 725 = .ok (.iadd, 1) := by decide +kernel
theorem dL_law_726 : decode cL_law 726 = .ok (.iaload, 1) := by decide +kernel
theorem dL_law_727 : decode cL_law 727 = .ok (.aload_n 0, 1) := by decide +kernel
theorem dL_law_728 : decode cL_law 728 = .ok (.iload_n 3, 1) := by decide +kernel
theorem dL_law_729 : decode cL_law 729 = .ok (.iconst 2, 1) := by decide +kernel
theorem dL_law_730 : decode cL_law 730 = .ok (.iadd, 1) := by decide +kernel
theorem dL_law_731 : decode cL_law 731 = .ok (.iaload, 1) := by decide +kernel
theorem dL_law_732 : decode cL_law 732 = .ok (.aload_n 0, 1) := by decide +kernel
theorem dL_law_733 : decode cL_law 733 = .ok (.iload_n 3, 1) := by decide +kernel
theorem dL_law_734 : decode cL_law 734 = .ok (.iconst 3, 1) := by decide +kernel
theorem dL_law_735 : decode cL_law 735 = .ok (.iadd, 1) := by decide +kernel
theorem dL_law_736 : decode cL_law 736 = .ok (.iaload, 1) := by decide +kernel
theorem dL_law_737 : decode cL_law 737 = .ok (.invokevirtual 110, 3) := by decide +kernel
theorem dL_law_740 : decode cL_law 740 = .ok (.if_icmp .eq 210, 3) := by decide +kernel
theorem dL_law_743 : decode cL_law 743 = .ok (.iconst 0, 1) := by decide +kernel
theorem dL_law_744 : decode cL_law 744 = .ok (.ireturn, 1) := by decide +kernel
theorem dL_law_745 : decode cL_law 745 = .ok (.aload_n 1, 1) := by decide +kernel
theorem dL_law_746 : decode cL_law 746 = .ok (.aload_n 0, 1) := by decide +kernel
theorem dL_law_747 : decode cL_law 747 = .ok (.iload_n 3, 1) := by decide +kernel
theorem dL_law_748 : decode cL_law 748 = .ok (.iconst 1, 1) := by decide +kernel
theorem dL_law_749 : decode cL_law 749 = .ok (.iadd, 1) := by decide +kernel
theorem dL_law_750 : decode cL_law 750 = .ok (.iaload, 1) := by decide +kernel
theorem dL_law_751 : decode cL_law 751 = .ok (.aload_n 0, 1) := by decide +kernel
theorem dL_law_752 : decode cL_law 752 = .ok (.iload_n 3, 1) := by decide +kernel
theorem dL_law_753 : decode cL_law 753 = .ok (.iconst 2, 1) := by decide +kernel
theorem dL_law_754 : decode cL_law 754 = .ok (.iadd, 1) := by decide +kernel
theorem dL_law_755 : decode cL_law 755 = .ok (.iaload, 1) := by decide +kernel
theorem dL_law_756 : decode cL_law 756 = .ok (.aload_n 0, 1) := by decide +kernel
theorem dL_law_757 : decode cL_law 757 = .ok (.iload_n 3, 1) := by decide +kernel
theorem dL_law_758 : decode cL_law 758 = .ok (.iconst 3, 1) := by decide +kernel
theorem dL_law_759 : decode cL_law 759 = .ok (.iadd, 1) := by decide +kernel
theorem dL_law_760 : decode cL_law 760 = .ok (.iaload, 1) := by decide +kernel
theorem dL_law_761 : decode cL_law 761 = .ok (.ifCond .eq 7, 3) := by decide +kernel
theorem dL_law_764 : decode cL_law 764 = .ok (.iconst 1, 1) := by decide +kernel
theorem dL_law_765 : decode cL_law 765 = .ok (.goto 4, 3) := by decide +kernel
theorem dL_law_768 : decode cL_law 768 = .ok (.iconst 0, 1) := by decide +kernel
theorem dL_law_769 : decode cL_law 769 = .ok (.invokevirtual 111, 3) := by decide +kernel
theorem dL_law_772 : decode cL_law 772 = .ok (.aload_n 2, 1) := by decide +kernel
theorem dL_law_773 : decode cL_law 773 = .ok (.aload_n 0, 1) := by decide +kernel
theorem dL_law_774 : decode cL_law 774 = .ok (.iload_n 3, 1) := by decide +kernel
theorem dL_law_775 : decode cL_law 775 = .ok (.iconst 1, 1) := by decide +kernel
theorem dL_law_776 : decode cL_law 776 = .ok (.iadd, 1) := by decide +kernel
theorem dL_law_777 : decode cL_law 777 = .ok (.iaload, 1) := by decide +kernel
theorem dL_law_778 : decode cL_law 778 = .ok (.aload_n 0, 1) := by decide +kernel
theorem dL_law_779 : decode cL_law 779 = .ok (.iload_n 3, 1) := by decide +kernel
theorem dL_law_780 : decode cL_law 780 = .ok (.iconst 2, 1) := by decide +kernel
theorem dL_law_781 : decode cL_law 781 = .ok (.iadd, 1) := by decide +kernel
theorem dL_law_782 : decode cL_law 782 = .ok (.iaload, 1) := by decide +kernel
theorem dL_law_783 : decode cL_law 783 = .ok (.aload_n 0, 1) := by decide +kernel
theorem dL_law_784 : decode cL_law 784 = .ok (.iload_n 3, 1) := by decide +kernel
theorem dL_law_785 : decode cL_law 785 = .ok (.iconst 3, 1) := by decide +kernel
theorem dL_law_786 : decode cL_law 786 = .ok (.iadd, 1) := by decide +kernel
theorem dL_law_787 : decode cL_law 787 = .ok (.iaload, 1) := by decide +kernel
theorem dL_law_788 : decode cL_law 788 = .ok (.ifCond .eq 7, 3) := by decide +kernel
theorem dL_law_791 : decode cL_law 791 = .ok (.iconst 1, 1) := by decide +kernel
theorem dL_law_792 : decode cL_law 792 = .ok (.goto 4, 3) := by decide +kernel
theorem dL_law_795 : decode cL_law 795 = .ok (.iconst 0, 1) := by decide +kernel
theorem dL_law_796 : decode cL_law 796 = .ok (.invokevirtual 115, 3) := by decide +kernel
theorem dL_law_799 : decode cL_law 799 = .ok (.if_icmp .eq 151, 3) := by decide +kernel
theorem dL_law_802 : decode cL_law 802 = .ok (.iconst 0, 1) := by decide +kernel
theorem dL_law_803 : decode cL_law 803 = .ok (.ireturn, 1) := by decide +kernel
theorem dL_law_804 : decode cL_law 804 = .ok (.aload_n 1, 1) := by decide +kernel
theorem dL_law_805 : decode cL_law 805 = .ok (.aload_n 0, 1) := by decide +kernel
theorem dL_law_806 : decode cL_law 806 = .ok (.iload_n 3, 1) := by decide +kernel
theorem dL_law_807 : decode cL_law 807 = .ok (.iconst 1, 1) := by decide +kernel
theorem dL_law_808 : decode cL_law 808 = .ok (.iadd, 1) := by decide +kernel
theorem dL_law_809 : decode cL_law 809 = .ok (.iaload, 1) := by decide +kernel
theorem dL_law_810 : decode cL_law 810 = .ok (.i2l, 1) := by decide +kernel
theorem dL_law_811 : decode cL_law 811 = .ok (.bipush 32, 2) := by decide +kernel
theorem dL_law_813 : decode cL_law 813 = .ok (.lshl, 1) := by decide +kernel
theorem dL_law_814 : decode cL_law 814 = .ok (.aload_n 0, 1) := by decide +kernel
theorem dL_law_815 : decode cL_law 815 = .ok (.iload_n 3, 1) := by decide +kernel
theorem dL_law_816 : decode cL_law 816 = .ok (.iconst 2, 1) := by decide +kernel
theorem dL_law_817 : decode cL_law 817 = .ok (.iadd, 1) := by decide +kernel
theorem dL_law_818 : decode cL_law 818 = .ok (.iaload, 1) := by decide +kernel
theorem dL_law_819 : decode cL_law 819 = .ok (.i2l, 1) := by decide +kernel
theorem dL_law_820 : decode cL_law 820 = .ok (.ldc2_w 116, 3) := by decide +kernel
theorem dL_law_823 : decode cL_law 823 = .ok (.land, 1) := by decide +kernel
theorem dL_law_824 : decode cL_law 824 = .ok (.lor, 1) := by decide +kernel
theorem dL_law_825 : decode cL_law 825 = .ok (.invokevirtual 118, 3) := by decide +kernel
theorem dL_law_828 : decode cL_law 828 = .ok (.aload_n 2, 1) := by decide +kernel
theorem dL_law_829 : decode cL_law 829 = .ok (.aload_n 0, 1) := by decide +kernel
theorem dL_law_830 : decode cL_law 830 = .ok (.iload_n 3, 1) := by decide +kernel
theorem dL_law_831 : decode cL_law 831 = .ok (.iconst 1, 1) := by decide +kernel
theorem dL_law_832 : decode cL_law 832 = .ok (.iadd, 1) := by decide +kernel
theorem dL_law_833 : decode cL_law 833 = .ok (.iaload, 1) := by decide +kernel
theorem dL_law_834 : decode cL_law 834 = .ok (.i2l, 1) := by decide +kernel
theorem dL_law_835 : decode cL_law 835 = .ok (.bipush 32, 2) := by decide +kernel
theorem dL_law_837 : decode cL_law 837 = .ok (.lshl, 1) := by decide +kernel
theorem dL_law_838 : decode cL_law 838 = .ok (.aload_n 0, 1) := by decide +kernel
theorem dL_law_839 : decode cL_law 839 = .ok (.iload_n 3, 1) := by decide +kernel
theorem dL_law_840 : decode cL_law 840 = .ok (.iconst 2, 1) := by decide +kernel
theorem dL_law_841 : decode cL_law 841 = .ok (.iadd, 1) := by decide +kernel
theorem dL_law_842 : decode cL_law 842 = .ok (.iaload, 1) := by decide +kernel
theorem dL_law_843 : decode cL_law 843 = .ok (.i2l, 1) := by decide +kernel
theorem dL_law_844 : decode cL_law 844 = .ok (.ldc2_w 116, 3) := by decide +kernel
theorem dL_law_847 : decode cL_law 847 = .ok (.land, 1) := by decide +kernel
theorem dL_law_848 : decode cL_law 848 = .ok (.lor, 1) := by decide +kernel
theorem dL_law_849 : decode cL_law 849 = .ok (.invokevirtual 122, 3) := by decide +kernel
theorem dL_law_852 : decode cL_law 852 = .ok (.lcmp, 1) := by decide +kernel
theorem dL_law_853 : decode cL_law 853 = .ok (.ifCond .eq 97, 3) := by decide +kernel
theorem dL_law_856 : decode cL_law 856 = .ok (.iconst 0, 1) := by decide +kernel
theorem dL_law_857 : decode cL_law 857 = .ok (.ireturn, 1) := by decide +kernel
theorem dL_law_858 : decode cL_law 858 = .ok (.aload_n 1, 1) := by decide +kernel
theorem dL_law_859 : decode cL_law 859 = .ok (.aload_n 0, 1) := by decide +kernel
theorem dL_law_860 : decode cL_law 860 = .ok (.iload_n 3, 1) := by decide +kernel
theorem dL_law_861 : decode cL_law 861 = .ok (.iconst 1, 1) := by decide +kernel
theorem dL_law_862 : decode cL_law 862 = .ok (.iadd, 1) := by decide +kernel
theorem dL_law_863 : decode cL_law 863 = .ok (.iaload, 1) := by decide +kernel
theorem dL_law_864 : decode cL_law 864 = .ok (.invokevirtual 123, 3) := by decide +kernel
theorem dL_law_867 : decode cL_law 867 = .ok (.aload_n 2, 1) := by decide +kernel
theorem dL_law_868 : decode cL_law 868 = .ok (.aload_n 0, 1) := by decide +kernel
theorem dL_law_869 : decode cL_law 869 = .ok (.iload_n 3, 1) := by decide +kernel
theorem dL_law_870 : decode cL_law 870 = .ok (.iconst 1, 1) := by decide +kernel
theorem dL_law_871 : decode cL_law 871 = .ok (.iadd, 1) := by decide +kernel
theorem dL_law_872 : decode cL_law 872 = .ok (.iaload, 1) := by decide +kernel
theorem dL_law_873 : decode cL_law 873 = .ok (.invokevirtual 126, 3) := by decide +kernel
theorem dL_law_876 : decode cL_law 876 = .ok (.if_icmp .eq 74, 3) := by decide +kernel
theorem dL_law_879 : decode cL_law 879 = .ok (.iconst 0, 1) := by decide +kernel
theorem dL_law_880 : decode cL_law 880 = .ok (.ireturn, 1) := by decide +kernel
theorem dL_law_881 : decode cL_law 881 = .ok (.aload_n 1, 1) := by decide +kernel
theorem dL_law_882 : decode cL_law 882 = .ok (.aload_n 0, 1) := by decide +kernel
theorem dL_law_883 : decode cL_law 883 = .ok (.iload_n 3, 1) := by decide +kernel
theorem dL_law_884 : decode cL_law 884 = .ok (.iconst 1, 1) := by decide +kernel
theorem dL_law_885 : decode cL_law 885 = .ok (.iadd, 1) := by decide +kernel
theorem dL_law_886 : decode cL_law 886 = .ok (.iaload, 1) := by decide +kernel
theorem dL_law_887 : decode cL_law 887 = .ok (.invokevirtual 127, 3) := by decide +kernel
theorem dL_law_890 : decode cL_law 890 = .ok (.aload_n 2, 1) := by decide +kernel
theorem dL_law_891 : decode cL_law 891 = .ok (.aload_n 0, 1) := by decide +kernel
theorem dL_law_892 : decode cL_law 892 = .ok (.iload_n 3, 1) := by decide +kernel
theorem dL_law_893 : decode cL_law 893 = .ok (.iconst 1, 1) := by decide +kernel
theorem dL_law_894 : decode cL_law 894 = .ok (.iadd, 1) := by decide +kernel
theorem dL_law_895 : decode cL_law 895 = .ok (.iaload, 1) := by decide +kernel
theorem dL_law_896 : decode cL_law 896 = .ok (.invokevirtual 130, 3) := by decide +kernel
theorem dL_law_899 : decode cL_law 899 = .ok (.if_icmp .eq 51, 3) := by decide +kernel
theorem dL_law_902 : decode cL_law 902 = .ok (.iconst 0, 1) := by decide +kernel
theorem dL_law_903 : decode cL_law 903 = .ok (.ireturn, 1) := by decide +kernel
theorem dL_law_904 : decode cL_law 904 = .ok (.aload_n 1, 1) := by decide +kernel
theorem dL_law_905 : decode cL_law 905 = .ok (.aload_n 0, 1) := by decide +kernel
theorem dL_law_906 : decode cL_law 906 = .ok (.iload_n 3, 1) := by decide +kernel
theorem dL_law_907 : decode cL_law 907 = .ok (.iconst 1, 1) := by decide +kernel
theorem dL_law_908 : decode cL_law 908 = .ok (.iadd, 1) := by decide +kernel
theorem dL_law_909 : decode cL_law 909 = .ok (.iaload, 1) := by decide +kernel
theorem dL_law_910 : decode cL_law 910 = .ok (.invokevirtual 131, 3) := by decide +kernel
theorem dL_law_913 : decode cL_law 913 = .ok (.aload_n 2, 1) := by decide +kernel
theorem dL_law_914 : decode cL_law 914 = .ok (.aload_n 0, 1) := by decide +kernel
theorem dL_law_915 : decode cL_law 915 = .ok (.iload_n 3, 1) := by decide +kernel
theorem dL_law_916 : decode cL_law 916 = .ok (.iconst 1, 1) := by decide +kernel
theorem dL_law_917 : decode cL_law 917 = .ok (.iadd, 1) := by decide +kernel
theorem dL_law_918 : decode cL_law 918 = .ok (.iaload, 1) := by decide +kernel
theorem dL_law_919 : decode cL_law 919 = .ok (.invokevirtual 134, 3) := by decide +kernel
theorem dL_law_922 : decode cL_law 922 = .ok (.if_icmp .eq 28, 3) := by decide +kernel
theorem dL_law_925 : decode cL_law 925 = .ok (.iconst 0, 1) := by decide +kernel
theorem dL_law_926 : decode cL_law 926 = .ok (.ireturn, 1) := by decide +kernel
theorem dL_law_927 : decode cL_law 927 = .ok (.aload_n 1, 1) := by decide +kernel
theorem dL_law_928 : decode cL_law 928 = .ok (.aload_n 0, 1) := by decide +kernel
theorem dL_law_929 : decode cL_law 929 = .ok (.iload_n 3, 1) := by decide +kernel
theorem dL_law_930 : decode cL_law 930 = .ok (.iconst 1, 1) := by decide +kernel
theorem dL_law_931 : decode cL_law 931 = .ok (.iadd, 1) := by decide +kernel
theorem dL_law_932 : decode cL_law 932 = .ok (.iaload, 1) := by decide +kernel
theorem dL_law_933 : decode cL_law 933 = .ok (.invokevirtual 135, 3) := by decide +kernel
theorem dL_law_936 : decode cL_law 936 = .ok (.aload_n 2, 1) := by decide +kernel
theorem dL_law_937 : decode cL_law 937 = .ok (.aload_n 0, 1) := by decide +kernel
theorem dL_law_938 : decode cL_law 938 = .ok (.iload_n 3, 1) := by decide +kernel
theorem dL_law_939 : decode cL_law 939 = .ok (.iconst 1, 1) := by decide +kernel
theorem dL_law_940 : decode cL_law 940 = .ok (.iadd, 1) := by decide +kernel
theorem dL_law_941 : decode cL_law 941 = .ok (.iaload, 1) := by decide +kernel
theorem dL_law_942 : decode cL_law 942 = .ok (.invokevirtual 138, 3) := by decide +kernel
theorem dL_law_945 : decode cL_law 945 = .ok (.if_icmp .eq 5, 3) := by decide +kernel
theorem dL_law_948 : decode cL_law 948 = .ok (.iconst 0, 1) := by decide +kernel
theorem dL_law_949 : decode cL_law 949 = .ok (.ireturn, 1) := by decide +kernel
theorem dL_law_950 : decode cL_law 950 = .ok (.iinc 3 4, 3) := by decide +kernel
theorem dL_law_953 : decode cL_law 953 = .ok (.goto (-935), 3) := by decide +kernel
theorem dL_law_956 : decode cL_law 956 = .ok (.iconst 1, 1) := by decide +kernel
theorem dL_law_957 : decode cL_law 957 = .ok (.ireturn, 1) := by decide +kernel
